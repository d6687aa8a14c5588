import java.util.function.ToIntFunction;

/** The edges that the document names of hearers, RENDERINGS, the FOUR and years: promises 23 to 36. */
public final class HearerEdgesTest {
    private static final Check check = new Check();
    private static final int NONE = HeronBook.NONE;
    private static final int RANGE = HeronBook.RANGE;
    private static final int FULL = HeronBook.FULL;
    private static final int STATE = HeronBook.STATE;
    private static final int MIN = Integer.MIN_VALUE;
    private static final int MAX = Integer.MAX_VALUE;
    /** Numbers that are none for a rich object. */
    private static final int[] NO_HEARERS = {-1, 2, 3, 6, 32, -2, MIN, MAX};
    private static final int[] NO_PLACES = {-1, 4, 5, 24, 32, -2, MIN, MAX};
    private static final int[] NO_WORDS = {-1, 3, 20, 32, -2, MIN, MAX};
    private static final int[] NO_SLOTS = {-1, 4, 5, 32, -2, MIN, MAX};
    private static final int[] NO_YEARS = {-1, 2001, 2002, -2, MIN, MAX};
    private static final String ALL = "abcdefghijklmnopqrstuvwx";

    private static void refused(String what, ToIntFunction<HeronBook> call, int want) {
        Twins.refused(check, what, call, want);
    }

    private static void hearersAndPlaces() {
        check.sentence("hears, back, laughs, hits, on: RANGE: no such HEARER");
        for (int h : NO_HEARERS) {
            for (int p : new int[] {0, 3}) {
                refused("hears(" + h + ", " + p + ")", x -> x.hears(h, p), RANGE);
                refused("back(" + h + ", " + p + ")", x -> x.back(h, p), RANGE);
                refused("laughs(" + h + ", " + p + ")", x -> x.laughs(h, p), RANGE);
                refused("on(" + h + ", 0, " + p + ")", x -> x.on(h, 0, p), RANGE);
                refused("on(0, " + h + ", " + p + ")", x -> x.on(0, h, p), RANGE);
            }
            refused("hits(" + h + ")", x -> x.hits(h), RANGE);
        }
        check.sentence("hears, back, laughs, on: RANGE: no such PLACE");
        for (int p : NO_PLACES) {
            refused("hears(0, " + p + ")", x -> x.hears(0, p), RANGE);
            refused("back(0, " + p + ")", x -> x.back(0, p), RANGE);
            refused("laughs(0, " + p + ")", x -> x.laughs(0, p), RANGE);
            refused("on(0, 1, " + p + ")", x -> x.on(0, 1, p), RANGE);
        }
        check.sentence("hears, back, laughs, on: NONE: it has no CHOICE");
        for (int h = 0; h < 2; h++) {
            int hearer = h;
            refused("hears", x -> x.hears(hearer, 3), NONE);
            refused("back", x -> x.back(hearer, 3), NONE);
            refused("laughs", x -> x.laughs(hearer, 3), NONE);
            refused("on", x -> x.on(hearer, 1 - hearer, 3), NONE);
        }
        check.sentence("the last HEARER, the last PLACE");
        refused("hears(1, 2)", x -> x.hears(1, 2), Check.bits("ad"));
        refused("back(1, 2)", x -> x.back(1, 2), 1);
        refused("laughs(1, 2)", x -> x.laughs(1, 2), 1);
        refused("on(1, 0, 2)", x -> x.on(1, 0, 2), 1);
        refused("hits(1)", x -> x.hits(1), 2);
        HeronBook full = Check.of(AnyCallTest.fullBook());
        full.choose(23, 3, 0, 0, 0);
        check.due("HEARER 5 at PLACE 23", full.hears(5, 23), 0);
        check.due("HEARER 6", full.hears(6, 23), RANGE);
        check.due("PLACE 24", full.hears(5, 24), RANGE);
        check.due("hits(5)", full.hits(5), 0);
        check.due("hits(6)", full.hits(6), RANGE);
        HeronBook none = Check.of("notion n a;place n a;");
        none.choose(0, 3, 0, 0, 0);
        check.due("no HEARERS: hears", none.hears(0, 0), RANGE);
        check.due("no HEARERS: hits", none.hits(0), RANGE);
        check.due("no HEARERS: next", none.next(0), RANGE);
    }

    private static void hearing() {
        check.sentence("HEARS: its TRAITS and those of its NOTE, as far as they KNOW them");
        HeronBook x = Check.of("notion n " + ALL + ";word w " + ALL + ";word v -;place n -;hearer h " + ALL + " x;hearer g - x;hearer f x x;notes 99;");
        x.choose(0, 0, 0, 0, 0);
        check.due("one who KNOWS all", x.hears(0, 0), (1 << 24) - 1);
        check.due("one who KNOWS nothing", x.hears(1, 0), 0);
        check.due("one who KNOWS the last", x.hears(2, 0), 1 << 23);
        x.choose(0, 0, 1, 0, 0);
        check.due("nothing is said", x.hears(0, 0), 0);
        x.note(0, 1 << 23 | 1);
        check.due("the NOTE", x.hears(0, 0), 1 << 23 | 1);
        check.due("as far as known", x.hears(2, 0), 1 << 23);
        check.due("not known", x.hears(1, 0), 0);
        x.choose(0, 3, 0, 0, 0);
        check.due("BORROWED, with the NOTE", x.hears(0, 0), 1 << 23 | 1);
        check.sentence("LAUGHS: the CHOICE has all TRAITS that the HEARER LAUGHS at");
        HeronBook y = Check.of("notion n abc;word w a;word v ab;word u abc;place n -;hearer h - ab;hearer g - -;notes 9;");
        y.choose(0, 0, 0, 0, 0);
        check.due("one of two", y.laughs(0, 0), 0);
        y.note(0, 2);
        check.due("the other in a NOTE", y.laughs(0, 0), 0);
        y.choose(0, 0, 1, 0, 0);
        check.due("both", y.laughs(0, 0), 1);
        y.choose(0, 0, 2, 0, 0);
        check.due("more than both", y.laughs(0, 0), 1);
        y.choose(0, 3, 0, 0, 0);
        check.due("BORROWED", y.laughs(0, 0), 0);
        check.sentence("LAUGHS: one at least");
        check.due("one who LAUGHS at nothing", y.laughs(1, 0), 0);
        y.choose(0, 0, 2, 0, 0);
        check.due("one who LAUGHS at nothing", y.laughs(1, 0), 0);
    }

    private static void tellingBack() {
        check.sentence("TOLD BACK: the greatest; then the least NOTION");
        HeronBook x = Check.of("notion n a;notion m b;notion k ab;word w ab;word v a;word u b;word t c;place k -;hearer h abc -;");
        int[] due = {2, 0, 1, 0};
        for (int w = 0; w < 4; w++) {
            x.choose(0, 0, w, 0, 0);
            check.due("word " + w, x.back(0, 0), due[w]);
        }
        check.sentence("TOLD BACK: below 0, too");
        HeronBook low = Check.of("notion n abc;notion m ab;notion k abd;word w " + ALL + ";place n -;hearer h x -;weight abcx 9;");
        low.choose(0, 0, 0, 0, 0);
        check.due("-36, -27, -28", low.back(0, 0), 1);
        check.sentence("TOLD BACK: TRAITS of weight 0");
        HeronBook light = Check.of("notion n abc;notion m -;word w -;place m -;hearer h a -;weight abc 0;");
        light.choose(0, 0, 0, 0, 0);
        check.due("alike: the least", light.back(0, 0), 0);
        check.sentence("TOLD BACK: 2 times the heard ones, less its other ones, less those that it has not");
        HeronBook y = Check.of("notion n ab;notion m ac;word w ad;place n -;hearer h ad -;weight a 1;weight b 2;weight c 1;weight d 9;");
        y.choose(0, 0, 0, 0, 0);
        check.due("2 - 2 - 9 and 2 - 1 - 9", y.back(0, 0), 1);
        HeronBook twice = Check.of("notion n -;notion m ab;word w a;place n -;hearer h a -;weight b 2;");
        twice.choose(0, 0, 0, 0, 0);
        check.due("-1 and 2 - 2", twice.back(0, 0), 1);
        HeronBook thrice = Check.of("notion n -;notion m ab;word w a;place n -;hearer h a -;weight b 3;");
        thrice.choose(0, 0, 0, 0, 0);
        check.due("-1 and 2 - 3: the least", thrice.back(0, 0), 0);
        check.sentence("RIGHT: at how many PLACES with a CHOICE");
        HeronBook all = Check.of("notion n a;word w a;" + "place n -;".repeat(24) + "hearer h a -;");
        for (int p = 0; p < 24; p++) {
            check.due("RIGHT", all.hits(0), p);
            all.choose(p, 0, 0, 0, 0);
        }
        check.due("at all of them", all.hits(0), 24);
        check.due("a CHOICE less", all.leave(23), 1);
        check.due("RIGHT", all.hits(0), 23);
    }

    private static void tellingOn() {
        check.sentence("ON: without words there is nothing to be heard");
        HeronBook bare = Check.of("notion n ab;notion m c;notion k -;place n -;hearer h abc -;");
        bare.choose(0, 3, 0, 0, 0);
        bare.note(0, 3);
        check.due("told back", bare.back(0, 0), 0);
        check.due("told on", bare.on(0, 0, 0), 2);
        check.sentence("ON: the least word of those that cost least");
        HeronBook x = Check.of("notion n ab;notion m a;notion k b;word w b;word v a;place n -;hearer h ab -;lack 1;");
        x.choose(0, 1, 0, 1, 0);
        check.due("told back", x.back(0, 0), 0);
        check.due("w is said: b is heard", x.on(0, 0, 0), 2);
        check.sentence("ON: a word with all TRAITS, or none, may be it");
        HeronBook all = Check.of("notion n " + ALL + ";notion m -;word w -;word v " + ALL + ";place n -;hearer h " + ALL + " -;");
        all.choose(0, 0, 1, 0, 0);
        check.due("all", all.on(0, 0, 0), 0);
        all.choose(0, 0, 0, 0, 0);
        check.due("none", all.on(0, 0, 0), 1);
        check.sentence("ON: lack and add, and weights, decide the word");
        HeronBook lack = Check.of("notion n ab;notion m cd;notion k c;word w abcd;word v b;place n -;hearer h ab -;hearer g cd -;lack 5;add 3;weight cd 2;");
        lack.choose(0, 3, 0, 0, 0);
        lack.note(0, 3);
        check.due("v loses 5, w 12: nothing is heard of v", lack.on(0, 1, 0), 0);
        HeronBook add = Check.of("notion n ab;notion m cd;notion k c;word w abcd;word v b;place n -;hearer h ab -;hearer g cd -;lack 5;add 1;weight cd 2;");
        add.choose(0, 3, 0, 0, 0);
        add.note(0, 3);
        check.due("v loses 5, w 4: cd is heard of w", add.on(0, 1, 0), 1);
    }

    private static void slots() {
        check.sentence("keep, take, nearer: slots 0 .. 3; RANGE");
        for (int slot : NO_SLOTS) {
            refused("keep(" + slot + ")", x -> x.keep(slot), RANGE);
            refused("take(" + slot + ")", x -> x.take(slot), RANGE);
            refused("nearer(" + slot + ", 0, 0)", x -> x.nearer(slot, 0, 0), RANGE);
            refused("nearer(0, " + slot + ", 0)", x -> x.nearer(0, slot, 0), RANGE);
            refused("nearer(" + slot + ", 1, 0)", x -> x.nearer(slot, 1, 0), RANGE);
        }
        for (int h : NO_HEARERS) {
            refused("nearer(0, 2, " + h + ")", x -> x.nearer(0, 2, h), RANGE);
            refused("nearer(0, 1, " + h + ")", x -> x.nearer(0, 1, h), RANGE);
        }
        HeronBook x = Twins.rich();
        for (int slot = 0; slot < 4; slot++) {
            check.due("keep(" + slot + ")", x.keep(slot), x.lost());
        }
        for (int slot = 0; slot < 4; slot++) {
            check.due("take(" + slot + ")", x.take(slot), x.lost());
        }
        check.sentence("take: STATE: none is kept there");
        refused("take(1)", y -> y.take(1), STATE);
        refused("take(3)", y -> y.take(3), STATE);
        check.due("of a new one", new HeronBook().take(0), STATE);
        HeronBook kept = new HeronBook();
        check.due("an empty one is kept", kept.keep(3), 0);
        check.due("and taken", kept.take(3), 0);
        check.sentence("nearer: STATE: none is kept in one");
        refused("the second", y -> y.nearer(0, 1, 0), STATE);
        refused("the first", y -> y.nearer(3, 2, 0), STATE);
        refused("both", y -> y.nearer(1, 3, 0), STATE);
        refused("one with itself", y -> y.nearer(1, 1, 0), STATE);
    }

    private static void renderings() {
        check.sentence("RENDERINGS: CHOICES and NOTES of all PLACES");
        HeronBook x = Check.of("notion n a;word w a;word v -;" + "place n a;".repeat(24) + "notes 2;");
        x.choose(0, 0, 0, 0, 0);
        x.choose(23, 0, 1, 0, 0);
        x.note(23, 1);
        x.note(1, 1);
        check.due("keep", x.keep(3), 0);
        x.leave(0);
        x.choose(23, 2, 1, 1, 0);
        x.choose(5, 3, 0, 0, 0);
        x.note(23, 0);
        x.note(1, 0);
        x.note(2, 1);
        check.due("take", x.take(3), 0);
        check.due("CHOICES", x.count(0), 2);
        check.due("of PLACE 0", x.choice(0, 1), 0);
        check.due("of PLACE 23", x.choice(23, 0), 0);
        check.due("no second word", x.choice(23, 2), NONE);
        check.due("NOTE of PLACE 23", x.bears(23, 4), 1);
        check.due("NOTE of PLACE 1 without CHOICE", x.bears(1, 4), 1);
        check.due("NOTE of PLACE 2", x.bears(2, 4), 0);
        check.due("NOTES are full again", x.note(2, 1), FULL);
        check.sentence("nearer: the RENDERING that is stays");
        refused("nearer of 0 and 2", y -> y.nearer(0, 2, 0), 2);
        refused("nearer of 2 and 0", y -> y.nearer(2, 0, 0), 2);
        refused("nearer of 0 and 2 for the other", y -> y.nearer(0, 2, 1), 2);
        check.sentence("nearer: none if RIGHT and LOST are alike; NONE");
        refused("one with itself", y -> y.nearer(2, 2, 0), NONE);
        HeronBook z = Check.of("notion n a;word w a;word v ab;word u b;place n a;hearer h a -;");
        z.choose(0, 0, 0, 0, 0);
        z.keep(0);
        z.keep(1);
        check.due("alike", z.nearer(0, 1, 0), NONE);
        z.choose(0, 0, 1, 0, 0);
        z.keep(1);
        check.due("alike RIGHT, LOST 0 and 1", z.nearer(0, 1, 0), 0);
        check.due("the other way", z.nearer(1, 0, 0), 0);
        z.leave(0);
        z.keep(2);
        check.due("RIGHT 1 and 0, LOST 1 and 0", z.nearer(1, 2, 0), 1);
        check.due("the other way", z.nearer(2, 1, 0), 1);
    }

    private static void four() {
        check.sentence("gives: FOUR (0 .. 3), a PLACE, a word, a number 0 .. 99; RANGE");
        for (int v : new int[] {-1, 4, 5, MIN, MAX}) {
            refused("gives(" + v + ", 0, 0, 0)", x -> x.gives(v, 0, 0, 0), RANGE);
        }
        for (int p : NO_PLACES) {
            refused("gives(0, " + p + ", 0, 0)", x -> x.gives(0, p, 0, 0), RANGE);
            refused("agree(" + p + ")", x -> x.agree(p), RANGE);
        }
        for (int w : NO_WORDS) {
            refused("gives(0, 0, " + w + ", 0)", x -> x.gives(0, 0, w, 0), RANGE);
        }
        for (int n : new int[] {-1, 100, 101, 256, MIN, MAX}) {
            refused("gives(0, 0, 0, " + n + ")", x -> x.gives(0, 0, 0, n), RANGE);
        }
        HeronBook x = Twins.rich();
        check.due("0 .. 99", x.gives(3, 3, 2, 99), 0);
        check.due("99 was", x.gives(3, 3, 2, 0), 99);
        check.due("0 was", x.gives(3, 3, 2, 1), 0);
        refused("what it was, again", y -> y.gives(0, 0, 0, 9), 9);
        HeronBook full = Check.of(AnyCallTest.fullBook());
        check.due("the last of all", full.gives(3, 23, 19, 7), 0);
        check.due("it alone", full.gives(2, 23, 19, 0), 0);
        check.due("it alone", full.gives(3, 22, 19, 0), 0);
        check.due("it alone", full.gives(3, 23, 18, 0), 0);
        check.due("what it was", full.gives(3, 23, 19, 7), 7);
        for (int v = 0; v < 4; v++) {
            check.due("a mark", full.gives(v, 1, 0, 10 + v), 0);
            check.due("another PLACE and word", full.gives(v, 0, 1, 20 + v), 0);
        }
        for (int v = 0; v < 4; v++) {
            check.due("a mark", full.gives(v, 1, 0, 0), 10 + v);
            check.due("another PLACE and word", full.gives(v, 0, 1, 0), 20 + v);
        }
        check.sentence("gives: 0 at first");
        for (int v = 0; v < 4; v++) {
            check.due("of a new one", full.gives(v, 0, 0, 0), 0);
        }
        check.sentence("agree: NONE: there are no words");
        HeronBook bare = Check.of("notion n a;place n a;");
        check.due("agree(0)", bare.agree(0), NONE);
        check.due("agree(1)", bare.agree(1), RANGE);
        check.sentence("AGREE: the greatest is least, then their sum, then the least word");
        HeronBook y = Check.of("notion n a;word w a;word v a;word u a;place n a;");
        check.due("all 0", y.agree(0), 0);
        put(y, 0, 99, 99, 99, 99);
        put(y, 1, 99, 99, 99, 98);
        put(y, 2, 99, 99, 99, 99);
        check.due("sums 396, 395, 396", y.agree(0), 1);
        put(y, 2, 98, 98, 98, 98);
        check.due("greatest 98", y.agree(0), 2);
        put(y, 1, 98, 98, 98, 98);
        check.due("1 and 2 alike", y.agree(0), 1);
        put(y, 0, 98, 0, 0, 0);
        check.due("sum 98", y.agree(0), 0);
        put(y, 1, 0, 0, 0, 98);
        check.due("alike", y.agree(0), 0);
        put(y, 1, 97, 97, 97, 97);
        check.due("greatest 97, though their sum is 388", y.agree(0), 1);
    }

    private static void put(HeronBook x, int word, int... numbers) {
        for (int v = 0; v < 4; v++) {
            x.gives(v, 0, word, numbers[v]);
        }
    }

    private static void movesBounds() {
        check.sentence("moves: RANGE: no such word");
        for (int w : NO_WORDS) {
            refused("moves(" + w + ", 30, 0)", x -> x.moves(w, 30, 0), RANGE);
        }
        check.due("the last word", Twins.rich().moves(2, 0, 0), 4);
        check.sentence("moves: RANGE: no such year: YEARS 0 .. 2000");
        for (int year : NO_YEARS) {
            refused("moves(2, " + year + ", 0)", x -> x.moves(2, year, 0), RANGE);
        }
        check.due("year 0", Twins.rich().moves(2, 0, 0), 4);
        check.due("year 2000", Twins.rich().moves(2, 2000, 0), 4);
        check.sentence("moves: RANGE: a year below one of its own ones; years never falling for a word");
        refused("word 0 in 19", x -> x.moves(0, 19, 0), RANGE);
        refused("word 0 in 10", x -> x.moves(0, 10, 0), RANGE);
        refused("word 0 in 0", x -> x.moves(0, 0, 0), RANGE);
        refused("word 1 in 4", x -> x.moves(1, 4, 0), RANGE);
        check.due("word 0 in 20", Twins.rich().moves(0, 20, 0), 4);
        check.due("word 0 in 21", Twins.rich().moves(0, 21, 0), 4);
        check.due("word 1 in 5", Twins.rich().moves(1, 5, 0), 4);
        check.due("word 1 in 19, below one of another word", Twins.rich().moves(1, 19, 0), 4);
        HeronBook once = Check.of("word w a;");
        check.due("the first of all", once.moves(0, 5, 0), 1);
        check.due("below it", once.moves(0, 4, 0), RANGE);
        check.due("at it", once.moves(0, 5, 0), 2);
        check.sentence("moves: RANGE: no such TRAITS");
        for (int bit = 24; bit < 32; bit++) {
            int set = 1 << bit;
            refused("bit " + bit, x -> x.moves(2, 30, set), RANGE);
            refused("bit " + bit + " besides others", x -> x.moves(2, 30, set | 5), RANGE);
        }
        refused("all bits", x -> x.moves(2, 30, -1), RANGE);
        check.due("no TRAITS", Twins.rich().moves(2, 30, 0), 4);
        check.due("all TRAITS", Twins.rich().moves(2, 30, (1 << 24) - 1), 4);
        check.sentence("moves: at most 40 in all; FULL");
        HeronBook x = movedTo(39);
        check.due("the 40th", x.moves(2, 30, 1), 40);
        check.due("the 41st", x.moves(2, 31, 0), FULL);
        Twins.refused(check, "the 41st", () -> movedTo(40), y -> y.moves(0, 2000, 0), FULL);
        Twins.refused(check, "the 41st of another word", () -> movedTo(40), y -> y.moves(1, 6, 0), FULL);
        check.due("count", x.count(2), 40);
        check.due("of no word", x.moves(3, 30, 0), RANGE);
    }

    private static HeronBook movedTo(int many) {
        HeronBook x = Twins.rich();
        for (int i = x.count(2); i < many; i++) {
            x.moves(2, 30, i);
        }
        return x;
    }

    private static void yearsBounds() {
        check.sentence("lostIn, turned: YEARS 0 .. 2000; RANGE");
        for (int year : NO_YEARS) {
            refused("lostIn(" + year + ")", x -> x.lostIn(year), RANGE);
            refused("turned(" + year + ")", x -> x.turned(year), RANGE);
        }
        int lost = Twins.rich().lost();
        refused("lostIn(0)", x -> x.lostIn(0), lost);
        refused("turned(2000)", x -> x.turned(2000), 0);
        check.sentence("from a year on it has other TRAITS");
        HeronBook x = Check.of("notion n a;word w a;word v a;place n a;place n a;");
        x.choose(0, 0, 0, 0, 0);
        x.choose(1, 0, 1, 0, 0);
        x.moves(0, 100, 0);
        x.moves(1, 2000, 2);
        int[][] due = {{0, 0, 0}, {99, 0, 0}, {100, 2, 1}, {101, 2, 0}, {1999, 2, 0}, {2000, 5, 1}};
        for (int[] d : due) {
            check.due("lostIn(" + d[0] + ")", x.lostIn(d[0]), d[1]);
            check.due("turned(" + d[0] + ")", x.turned(d[0]), d[2]);
        }
        check.sentence("UNTIL: the first year in which LOST is more than a number");
        int[][] until = {{0, 100}, {1, 100}, {2, 2000}, {4, 2000}, {5, NONE}, {6, NONE}, {MAX, NONE}};
        for (int[] u : until) {
            check.due("until(" + u[0] + ")", x.until(u[0]), u[1]);
        }
        HeronBook early = Check.of("notion n a;word w a;place n a;");
        early.choose(0, 0, 0, 0, 0);
        early.moves(0, 1, 0);
        check.due("the year 1", early.until(0), 1);
        check.due("turned in it", early.turned(1), 1);
        check.sentence("until: RANGE: a number below 0");
        for (int n : new int[] {-1, -2, MIN}) {
            refused("until(" + n + ")", y -> y.until(n), RANGE);
        }
        refused("until(0)", y -> y.until(0), 0);
        check.due("NONE: never, of an empty BOOK", new HeronBook().until(0), NONE);
        check.sentence("a move in year 0; TURNS: 0 in year 0");
        HeronBook zero = Check.of("notion n a;word w a;place n a;");
        zero.choose(0, 0, 0, 0, 0);
        zero.moves(0, 0, 0);
        check.due("lostIn(0)", zero.lostIn(0), 2);
        check.due("turned(0)", zero.turned(0), 0);
        check.due("turned(1)", zero.turned(1), 0);
        check.due("until(1)", zero.until(1), 0);
        check.due("until(2)", zero.until(2), NONE);
        check.due("lost() asks for no year", zero.lost(), 0);
        HeronBook mended = Check.of("notion n a;word w -;place n a;");
        mended.choose(0, 0, 0, 0, 0);
        check.due("until(1) without a move", mended.until(1), 0);
        mended.moves(0, 0, 1);
        check.due("less is lost from year 0 on", mended.lostIn(0), 0);
        check.due("until(0): never", mended.until(0), NONE);
        check.due("lost() asks for no year", mended.lost(), 2);
        check.sentence("moves of one year: the later told one is; two that go back to what it was don't turn");
        HeronBook back = Check.of("notion n a;word w a;place n a;");
        back.choose(0, 0, 0, 0, 0);
        back.moves(0, 7, 0);
        back.moves(0, 7, 1);
        check.due("lostIn(7)", back.lostIn(7), 0);
        check.due("turned(7)", back.turned(7), 0);
        check.due("until(0)", back.until(0), NONE);
        check.sentence("TURNS: how many PLACES: all of 24, and LOST of all the same");
        HeronBook all = Check.of("notion n ab;word w a;word v b;" + "place n a;place n b;".repeat(12));
        for (int p = 0; p < 24; p++) {
            all.choose(p, 0, 0, 0, 0);
        }
        all.moves(0, 1, 2);
        check.due("lostIn(0)", all.lostIn(0), 24);
        check.due("lostIn(1)", all.lostIn(1), 24);
        check.due("turned(1)", all.turned(1), 24);
        all.leave(23);
        check.due("one less", all.turned(1), 23);
        check.sentence("moves: all else asks for words as THE BOOK tells them");
        HeronBook moved = Twins.rich();
        moved.moves(2, 0, 0);
        HeronBook plain = Twins.rich();
        check.due("traits", moved.traits(1, 2), plain.traits(1, 2));
        check.due("lost", moved.lost(), plain.lost());
        check.due("bears", moved.bears(2, 0), plain.bears(2, 0));
        check.due("clashes", moved.clashes(), plain.clashes());
        check.due("one", moved.one(0), plain.one(0));
        check.due("swap", moved.swap(0), plain.swap(0));
        check.due("hears", moved.hears(0, 2), plain.hears(0, 2));
        check.due("laughs", moved.laughs(0, 2), plain.laughs(0, 2));
        check.due("keep", moved.keep(1), plain.keep(1));
        check.due("next", moved.next(0), plain.next(0));
        check.due("best", moved.best(15), plain.best(15));
        check.due("exchange", moved.exchange(), plain.exchange());
    }

    public static void main(String[] args) {
        hearersAndPlaces();
        hearing();
        tellingBack();
        tellingOn();
        slots();
        renderings();
        four();
        movesBounds();
        yearsBounds();
        check.close("HearerEdgesTest");
    }
}
