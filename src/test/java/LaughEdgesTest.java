import java.util.function.ToIntFunction;

/** The edges that the document names of what was HEARD: promises 37 to 42, and the fourth of its terms. */
public final class LaughEdgesTest {
    private static final Check check = new Check();
    private static final int NONE = HeronBook.NONE;
    private static final int RANGE = HeronBook.RANGE;
    private static final int FULL = HeronBook.FULL;
    private static final int STATE = HeronBook.STATE;
    private static final int MIN = Integer.MIN_VALUE;
    private static final int MAX = Integer.MAX_VALUE;
    /** Numbers that are none for a rich object, whose latest STEP is 7. */
    private static final int[] NO_HEARERS = {-1, 2, 3, 6, 32, -2, MIN, MAX};
    private static final int[] NO_PLACES = {-1, 4, 5, 24, 32, -2, MIN, MAX};
    private static final int[] NO_STEPS = {-1, 1000, 1001, -2, MIN, MAX};
    private static final int[] NO_LAUGHS = {-1, 2, 3, -2, MIN, MAX};
    private static final String ALL = "abcdefghijklmnopqrstuvwx";

    private static void refused(String what, ToIntFunction<HeronBook> call, int want) {
        Twins.refused(check, what, call, want);
    }

    private static HeronBook book(String words, int places) {
        return Check.of("notion n -;" + words + "place n -;".repeat(places) + "hearer h - -;hearer g - -;");
    }

    private static void heardRange() {
        check.sentence("heard: RANGE: no such STEP: 0 .. 999");
        for (int step : NO_STEPS) {
            refused("heard(" + step + ", 0, 0, 1)", x -> x.heard(step, 0, 0, 1), RANGE);
            refused("heard(" + step + ", 0, 3, 1) without CHOICE", x -> x.heard(step, 0, 3, 1), RANGE);
        }
        HeronBook x = book("word w a;", 1);
        x.choose(0, 0, 0, 0, 0);
        check.due("STEP -1, the latest being 0", x.heard(-1, 0, 0, 1), RANGE);
        check.due("STEP 0", x.heard(0, 0, 0, 1), 0);
        check.due("right at STEP -1", x.right(-1, 0, 1), RANGE);
        check.due("STEP 999", x.heard(999, 0, 0, 1), 1);
        check.due("STEP 999 again", x.heard(999, 0, 0, 1), 2);
        check.due("STEP 998", x.heard(998, 0, 0, 1), RANGE);
        check.due("STEP 1000", x.heard(1000, 0, 0, 1), RANGE);
        check.due("HEARD", x.count(3), 3);
        check.sentence("heard: STEPS never falling");
        refused("STEP 6, the latest being 7", y -> y.heard(6, 0, 0, 1), RANGE);
        refused("STEP 5", y -> y.heard(5, 0, 0, 1), RANGE);
        refused("STEP 0", y -> y.heard(0, 1, 1, 0), RANGE);
        check.due("STEP 7", Twins.rich().heard(7, 0, 0, 1), 3);
        check.due("STEP 8", Twins.rich().heard(8, 0, 0, 1), 3);
        check.sentence("heard: RANGE: no such HEARER, PLACE, laugh");
        for (int h : NO_HEARERS) {
            refused("heard(9, " + h + ", 0, 1)", y -> y.heard(9, h, 0, 1), RANGE);
            refused("heard(9, " + h + ", 3, 1) without CHOICE", y -> y.heard(9, h, 3, 1), RANGE);
        }
        for (int p : NO_PLACES) {
            refused("heard(9, 0, " + p + ", 1)", y -> y.heard(9, 0, p, 1), RANGE);
        }
        for (int laugh : NO_LAUGHS) {
            refused("heard(9, 0, 0, " + laugh + ")", y -> y.heard(9, 0, 0, laugh), RANGE);
            refused("heard(9, 0, 3, " + laugh + ") without CHOICE", y -> y.heard(9, 0, 3, laugh), RANGE);
        }
        check.due("the last HEARER, PLACE", Twins.rich().heard(9, 1, 2, 0), 3);
        check.due("laugh 1", Twins.rich().heard(9, 1, 2, 1), 3);
        check.sentence("heard: STATE: the PLACE has no CHOICE");
        refused("heard(9, 0, 3, 1)", y -> y.heard(9, 0, 3, 1), STATE);
        refused("heard(999, 1, 3, 0)", y -> y.heard(999, 1, 3, 0), STATE);
        HeronBook chosen = Twins.rich();
        chosen.choose(3, 3, 0, 0, 0);
        check.due("with BORROWED it has one", chosen.heard(9, 0, 3, 1), 3);
        chosen.leave(3);
        check.due("without", chosen.heard(9, 0, 3, 1), STATE);
    }

    private static HeronBook heardTo(int many) {
        HeronBook x = Twins.rich();
        for (int k = x.count(3); k < many; k++) {
            x.heard(7, k % 2, 0, 0);
        }
        return x;
    }

    private static void heardFull() {
        check.sentence("HEARD, at most 30, numbered from 0; FULL");
        HeronBook x = Twins.rich();
        for (int k = 3; k < 30; k++) {
            check.due("HEARD " + k, x.heard(7 + k, 0, 0, 0), k);
        }
        check.due("the 31st", x.heard(40, 0, 0, 0), FULL);
        check.due("count", x.count(3), 30);
        Twins.refused(check, "the 31st", () -> heardTo(30), y -> y.heard(7, 0, 0, 1), FULL);
        Twins.refused(check, "the 31st at STEP 999", () -> heardTo(30), y -> y.heard(999, 0, 0, 1), FULL);
        check.due("the last one can be put RIGHT", heardTo(30).right(7, 29, 1), 1);
        check.due("there is none behind it", heardTo(30).right(7, 30, 1), RANGE);
    }

    private static void rightRange() {
        check.sentence("right: RANGE: no such STEP, one that was HEARD, laugh");
        for (int step : NO_STEPS) {
            refused("right(" + step + ", 0, 1)", x -> x.right(step, 0, 1), RANGE);
        }
        for (int step : new int[] {0, 3, 5, 6}) {
            refused("right(" + step + ", 0, 1), the latest STEP being 7", x -> x.right(step, 0, 1), RANGE);
        }
        for (int k : new int[] {-1, 3, 4, 30, -2, MIN, MAX}) {
            refused("right(8, " + k + ", 1)", x -> x.right(8, k, 1), RANGE);
        }
        for (int laugh : NO_LAUGHS) {
            refused("right(8, 0, " + laugh + ")", x -> x.right(8, 0, laugh), RANGE);
        }
        check.due("of a new one", new HeronBook().right(0, 0, 0), RANGE);
        check.due("STEP 7", Twins.rich().right(7, 1, 1), 1);
        check.due("STEP 999", Twins.rich().right(999, 2, 0), 1);
        HeronBook x = Twins.rich();
        check.due("the last one", x.right(8, 2, 0), 1);
        check.due("a STEP behind", x.heard(7, 0, 0, 0), RANGE);
        check.due("at that STEP", x.heard(8, 0, 0, 0), 3);
        check.due("the new one", x.right(9, 3, 1), 1);
        check.sentence("right: how often it was");
        HeronBook often = Twins.rich();
        check.due("the second time", often.right(7, 0, 1), 2);
        check.due("the third time", often.right(7, 0, 1), 3);
        check.due("another one", often.right(7, 1, 1), 1);
        check.due("in all", often.count(4), 4);
    }

    private static HeronBook rightTo(int many) {
        HeronBook x = Twins.rich();
        for (int i = x.count(4); i < many; i++) {
            x.right(7, i % 3, i % 2);
        }
        return x;
    }

    private static void rightFull() {
        check.sentence("put RIGHT: 20 times at most in all; FULL");
        HeronBook x = rightTo(19);
        check.due("in all", x.count(4), 19);
        check.due("the 20th", x.right(8, 2, 0), 7);
        check.due("the 21st", x.right(8, 2, 0), FULL);
        check.due("in all", x.count(4), 20);
        check.due("of none", x.right(8, 3, 0), RANGE);
        Twins.refused(check, "the 21st", () -> rightTo(20), y -> y.right(7, 0, 1), FULL);
        Twins.refused(check, "the 21st at STEP 999", () -> rightTo(20), y -> y.right(999, 1, 1), FULL);
        check.due("more can be HEARD", rightTo(20).heard(7, 0, 0, 1), 3);
        HeronBook one = Twins.rich();
        for (int i = 2; i <= 20; i++) {
            check.due("one alone, " + i, one.right(i + 10, 0, i % 2), i);
        }
        check.due("21", one.right(40, 0, 0), FULL);
        check.due("another one", one.right(40, 1, 0), FULL);
    }

    private static void asKnownAt() {
        check.sentence("fit, surely: RANGE");
        for (int h : NO_HEARERS) {
            refused("fit(" + h + ", 0)", x -> x.fit(h, 0), RANGE);
            refused("surely(" + h + ", 0, 0)", x -> x.surely(h, 0, 0), RANGE);
            refused("next(" + h + ")", x -> x.next(h), RANGE);
        }
        for (int known : NO_STEPS) {
            refused("fit(0, " + known + ")", x -> x.fit(0, known), RANGE);
            refused("surely(0, 0, " + known + ")", x -> x.surely(0, 0, known), RANGE);
        }
        for (int t : new int[] {-1, 24, 25, 32, MIN, MAX}) {
            refused("surely(0, " + t + ", 0)", x -> x.surely(0, t, 0), RANGE);
        }
        check.sentence("FIT as known at a STEP: HEARD and put RIGHT at that STEP or ahead of it");
        HeronBook x = book("word w a;", 1);
        x.choose(0, 0, 0, 0, 0);
        x.heard(10, 0, 0, 1);
        x.right(20, 0, 0);
        x.right(999, 0, 1);
        int[][] due = {{0, 300}, {9, 300}, {10, 1}, {11, 1}, {19, 1}, {20, 299}, {21, 299}, {998, 299}, {999, 1}};
        for (int[] d : due) {
            check.due("fit(0, " + d[0] + ")", x.fit(0, d[0]), d[1]);
            check.due("fit(1, " + d[0] + ")", x.fit(1, d[0]), 300);
            check.due("surely(0, 0, " + d[0] + ")", x.surely(0, 0, d[0]), d[1] == 1 ? 1 : 2);
            check.due("surely(0, 23, " + d[0] + ")", x.surely(0, 23, d[0]), d[1] == 1 ? 0 : 2);
        }
        check.sentence("FIT at STEPS 0 and 999");
        HeronBook y = book("word w a;", 1);
        y.choose(0, 0, 0, 0, 0);
        check.due("nothing is known", y.fit(0, 0), 300);
        y.heard(0, 0, 0, 1);
        check.due("at STEP 0", y.fit(0, 0), 1);
        check.due("at STEP 999", y.fit(0, 999), 1);
        y.heard(999, 0, 0, 0);
        check.due("at STEP 998", y.fit(0, 998), 1);
        check.due("at STEP 999: no set", y.fit(0, 999), 0);
        check.sentence("surely: NONE: no set fits");
        check.due("at STEP 999", y.surely(0, 0, 999), NONE);
        check.due("TRAIT 23", y.surely(0, 23, 999), NONE);
        check.due("at STEP 998", y.surely(0, 0, 998), 1);
        check.due("TRAIT 24", y.surely(0, 24, 999), RANGE);
    }

    private static void fitSets() {
        check.sentence("FIT: the sets of one or two TRAITS");
        HeronBook x = book("word a -;word b a;word c ab;word d abc;word e abcd;word f " + ALL + ";word g x;", 7);
        int[] within = {0, 1, 3, 6, 10, 300, 1};
        for (int w = 0; w < 7; w++) {
            x.choose(w, 0, w, 0, 0);
            HeronBook y = book("word a -;word b a;word c ab;word d abc;word e abcd;word f " + ALL + ";word g x;", 7);
            y.choose(w, 0, w, 0, 0);
            y.heard(0, 0, w, 1);
            check.due("they laughed at word " + w, y.fit(0, 0), within[w]);
            HeronBook z = book("word a -;word b a;word c ab;word d abc;word e abcd;word f " + ALL + ";word g x;", 7);
            z.choose(w, 0, w, 0, 0);
            z.heard(0, 0, w, 0);
            check.due("they laughed not at word " + w, z.fit(0, 0), 300 - within[w]);
        }
        check.sentence("HEARD with the TRAITS that its CHOICE has when it is told");
        HeronBook t = book("word w ab;word v c;", 2);
        t.choose(0, 0, 0, 0, 0);
        t.heard(0, 0, 0, 1);
        check.due("a, b, ab", t.fit(0, 0), 3);
        t.choose(0, 0, 1, 0, 0);
        check.due("as it was told", t.fit(0, 0), 3);
        t.leave(0);
        check.due("without CHOICE", t.fit(0, 0), 3);
        t.moves(0, 0, 0);
        check.due("whatever moves", t.fit(0, 0), 3);
        t.choose(0, 0, 1, 0, 0);
        t.right(1, 0, 0);
        check.due("put RIGHT: these TRAITS all the same", t.fit(0, 1), 297);
        check.due("c may be", t.surely(0, 2, 1), 2);
        check.due("a may be, with others", t.surely(0, 0, 1), 2);
        check.sentence("a NOTE isn't of the CHOICE");
        HeronBook note = Check.of("notion n ab;word w a;place n -;hearer h - -;");
        note.choose(0, 0, 0, 0, 0);
        note.note(0, 3);
        note.heard(0, 0, 0, 1);
        check.due("a alone", note.fit(0, 0), 1);
        check.sentence("of words put together: all TRAITS");
        HeronBook made = book("word w a;word v b;word u c;", 2);
        made.choose(0, 1, 0, 1, 0);
        made.choose(1, 2, 0, 1, 2);
        made.heard(0, 0, 0, 1);
        check.due("MADE: a, b, ab", made.fit(0, 0), 3);
        made.heard(1, 1, 1, 1);
        check.due("TOLD: six sets", made.fit(1, 1), 6);
        check.sentence("what is known of a HEARER isn't what THE BOOK says they LAUGH at");
        HeronBook says = Check.of("notion n a;word w a;place n a;hearer h a b;");
        check.due("all sets", says.fit(0, 0), 300);
    }

    private static void surelyBounds() {
        check.sentence("SURELY: 1 in all of FIT, 0 in none, 2 else");
        HeronBook x = book("word w ab;word v ac;word u b;", 3);
        for (int p = 0; p < 3; p++) {
            x.choose(p, 0, p, 0, 0);
        }
        x.heard(0, 0, 0, 1);
        x.heard(1, 0, 1, 1);
        check.due("a alone", x.fit(0, 1), 1);
        check.due("a", x.surely(0, 0, 1), 1);
        check.due("b", x.surely(0, 1, 1), 0);
        check.due("a as known at 0", x.surely(0, 0, 0), 2);
        check.due("b as known at 0", x.surely(0, 1, 0), 2);
        check.due("c as known at 0", x.surely(0, 2, 0), 0);
        x.heard(2, 1, 0, 1);
        x.heard(3, 1, 2, 0);
        check.due("a, ab", x.fit(1, 3), 2);
        check.due("a", x.surely(1, 0, 3), 1);
        check.due("b", x.surely(1, 1, 3), 2);
        check.due("x", x.surely(1, 23, 3), 0);
        check.sentence("SURELY of TRAIT 0 and TRAIT 23");
        HeronBook y = book("word w x;", 1);
        y.choose(0, 0, 0, 0, 0);
        y.heard(0, 0, 0, 1);
        check.due("TRAIT 23", y.surely(0, 23, 0), 1);
        check.due("TRAIT 22", y.surely(0, 22, 0), 0);
        check.due("TRAIT 0", y.surely(0, 0, 0), 0);
    }

    private static void nextBounds() {
        check.sentence("READ next: the greater number is least");
        HeronBook x = book("word e abcd;word a a;word b ab;word c abc;word f -;word g " + ALL + ";", 7);
        x.choose(6, 0, 0, 0, 0);
        x.heard(0, 0, 6, 1);
        x.leave(6);
        check.due("ten sets are left", x.fit(0, 0), 10);
        check.due("no CHOICE", x.next(0), NONE);
        x.choose(5, 0, 1, 0, 0);
        check.due("1 of 10", x.next(0), 5);
        x.choose(4, 0, 2, 0, 0);
        check.due("3 of 10", x.next(0), 4);
        x.choose(3, 0, 3, 0, 0);
        check.due("6 of 10", x.next(0), 3);
        check.sentence("READ next: then the least PLACE");
        x.choose(2, 0, 3, 0, 0);
        check.due("6 of 10 twice", x.next(0), 2);
        x.choose(6, 0, 3, 0, 0);
        check.due("6 of 10 three times", x.next(0), 2);
        check.sentence("READ next: none if none parts them");
        HeronBook y = book("word w ab;word v -;word u abc;", 4);
        y.choose(0, 0, 0, 0, 0);
        y.heard(0, 0, 0, 1);
        y.choose(1, 0, 1, 0, 0);
        y.choose(2, 0, 2, 0, 0);
        y.choose(3, 3, 0, 0, 0);
        check.due("a, b, ab: all would laugh, or none", y.next(0), NONE);
        check.due("of the other nothing is known", y.next(1), 2);
        y.choose(3, 2, 0, 2, 1);
        check.due("TOLD, all would laugh", y.next(0), NONE);
        check.sentence("READ next: no set fits");
        y.heard(1, 0, 1, 1);
        check.due("fit", y.fit(0, 999), 0);
        check.due("next", y.next(0), NONE);
        check.sentence("READ next: all that is known, put RIGHT too");
        HeronBook z = book("word w abc;word v ab;word u c;", 3);
        for (int p = 0; p < 3; p++) {
            z.choose(p, 0, p, 0, 0);
        }
        z.heard(0, 0, 0, 1);
        check.due("six sets: ab parts them 3 and 3", z.next(0), 1);
        z.heard(1, 0, 1, 0);
        check.due("c, ac, bc: c parts them", z.next(0), 2);
        z.right(999, 1, 1);
        check.due("a, b, ab: nothing parts them", z.next(0), NONE);
        check.sentence("READ next: PLACE 23, and PLACE 0");
        HeronBook last = book("word w a;", 24);
        last.choose(23, 0, 0, 0, 0);
        check.due("it alone", last.next(1), 23);
        last.choose(0, 0, 0, 0, 0);
        check.due("PLACE 0", last.next(1), 0);
    }

    private static void countWhat() {
        check.sentence("count: what 0 .. 5; NONE for others");
        int[] due = {3, 2, 3, 3, 1, 7};
        for (int what = 0; what < 6; what++) {
            int w = what;
            refused("count(" + what + ")", x -> x.count(w), due[what]);
            check.due("of a new one", new HeronBook().count(what), 0);
        }
        for (int what : new int[] {-1, 6, 7, MIN, MAX}) {
            refused("count(" + what + ")", x -> x.count(what), NONE);
        }
        check.sentence("count at its most");
        HeronBook full = Check.of("notion n " + ALL + ";word w a;" + "place n -;".repeat(24) + "hearer h a a;notes 99;");
        for (int p = 0; p < 24; p++) {
            full.choose(p, 0, 0, 0, 0);
        }
        for (int p = 0; p < 4; p++) {
            full.note(p, (1 << 24) - 1);
        }
        full.note(4, 7);
        for (int i = 0; i < 41; i++) {
            full.moves(0, 5, 1);
            full.heard(5, 0, 0, 1);
            full.right(5, 0, 1);
        }
        int[] most = {24, 99, 40, 30, 20, 0};
        for (int what = 0; what < 6; what++) {
            check.due("count(" + what + ")", full.count(what), most[what]);
        }
    }

    public static void main(String[] args) {
        heardRange();
        heardFull();
        rightRange();
        rightFull();
        asKnownAt();
        fitSets();
        surelyBounds();
        nextBounds();
        countWhat();
        check.close("LaughEdgesTest");
    }
}
