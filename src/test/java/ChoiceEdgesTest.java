import java.util.function.Supplier;
import java.util.function.ToIntFunction;

/** The edges that the document names of what is asked of THE BOOK and of choices: promises 6 to 16. */
public final class ChoiceEdgesTest {
    private static final Check check = new Check();
    private static final int NONE = HeronBook.NONE;
    private static final int RANGE = HeronBook.RANGE;
    private static final int FULL = HeronBook.FULL;
    private static final int MIN = Integer.MIN_VALUE;
    private static final int MAX = Integer.MAX_VALUE;
    /** For a rich object: PLACES that are none. */
    private static final int[] NO_PLACES = {-1, 4, 5, 24, 32, -2, MIN, MAX};
    private static final int[] NO_WORDS = {-1, 3, 20, 32, -2, MIN, MAX};
    private static final String ALL = "abcdefghijklmnopqrstuvwx";
    private static final int ALL_BITS = (1 << 24) - 1;

    private static void refused(String what, ToIntFunction<HeronBook> call, int want) {
        Twins.refused(check, what, call, want);
    }

    private static void choiceIs(HeronBook x, int p, int kind, int a, int b, int c) {
        check.due("kind at " + p, x.choice(p, 0), kind);
        check.due("first word at " + p, x.choice(p, 1), a);
        check.due("second word at " + p, x.choice(p, 2), b);
        check.due("third word at " + p, x.choice(p, 3), c);
    }

    private static void toldWhat() {
        check.sentence("told: what 0 .. 9 and 20 + t; NONE for others");
        int[] inside = {0, 9, 20, 43};
        int[] due = {2, 4, 1, 1};
        for (int i = 0; i < inside.length; i++) {
            int what = inside[i];
            refused("told(" + what + ")", x -> x.told(what), due[i]);
        }
        for (int what : new int[] {-1, 10, 11, 19, 44, 45, MIN, MAX}) {
            refused("told(" + what + ")", x -> x.told(what), NONE);
        }
    }

    private static void traitsAndNotion() {
        check.sentence("traits: kind 0 .. 5; RANGE");
        int[] counts = {2, 3, 4, 2, 2, 2};
        int[] lastOnes = {Check.bits("cd"), Check.bits("abc"), 0, Check.bits("c"), Check.bits("ad"), Check.bits("d")};
        for (int kind = 0; kind < 6; kind++) {
            int k = kind;
            int last = counts[kind] - 1;
            refused("traits(" + kind + ", the last)", x -> x.traits(k, last), lastOnes[kind]);
            for (int i : new int[] {-1, last + 1, 32, MIN, MAX}) {
                refused("traits(" + kind + ", " + i + ")", x -> x.traits(k, i), RANGE);
            }
            check.due("of an empty BOOK", new HeronBook().traits(kind, 0), RANGE);
        }
        for (int kind : new int[] {-1, 6, 7, MIN, MAX}) {
            refused("traits(" + kind + ", 0)", x -> x.traits(kind, 0), RANGE);
        }
        HeronBook full = Check.of(AnyCallTest.fullBook());
        int[] most = {12, 20, 24, 20, 6, 6};
        for (int kind = 0; kind < 6; kind++) {
            check.holds("the last of a full BOOK", full.traits(kind, most[kind] - 1) >= 0);
            check.due("the one behind it", full.traits(kind, most[kind]), RANGE);
        }
        check.sentence("notion: the NOTION of a PLACE; RANGE");
        refused("notion(3)", x -> x.notion(3), 0);
        for (int p : NO_PLACES) {
            refused("notion(" + p + ")", x -> x.notion(p), RANGE);
        }
        check.due("the last of a full BOOK", full.notion(23), 11);
        check.due("the one behind it", full.notion(24), RANGE);
        check.due("of an empty BOOK", new HeronBook().notion(0), RANGE);
    }

    private static void choosePlaceAndKind() {
        check.sentence("choose: RANGE: no such PLACE");
        for (int p : NO_PLACES) {
            for (int kind = 0; kind < 4; kind++) {
                int k = kind;
                refused("choose(" + p + ", " + kind + ")", x -> x.choose(p, k, 0, 1, 2), RANGE);
            }
        }
        check.due("the last PLACE", Twins.rich().choose(3, 0, 0, 0, 0), 0);
        HeronBook full = Check.of("notion n -;word w -;" + "place n -;".repeat(24));
        check.due("PLACE 23", full.choose(23, 3, 0, 0, 0), 5);
        check.due("PLACE 24", full.choose(24, 3, 0, 0, 0), RANGE);
        check.due("CHOICES", full.count(0), 1);
        check.sentence("choose: RANGE: no such kind");
        for (int kind : new int[] {-1, 4, 5, MIN, MAX}) {
            refused("choose(0, " + kind + ")", x -> x.choose(0, kind, 0, 1, 2), RANGE);
            refused("choose(3, " + kind + ")", x -> x.choose(3, kind, 0, 1, 2), RANGE);
        }
    }

    private static void chooseWords() {
        check.sentence("choose: RANGE: no such words");
        for (int no : NO_WORDS) {
            refused("PLAIN " + no, x -> x.choose(0, 0, no, 0, 0), RANGE);
            refused("MADE " + no + ", 0", x -> x.choose(0, 1, no, 0, 0), RANGE);
            refused("MADE 0, " + no, x -> x.choose(0, 1, 0, no, 0), RANGE);
            refused("TOLD " + no + ", 0", x -> x.choose(0, 2, no, 0, NONE), RANGE);
            refused("TOLD 0, " + no, x -> x.choose(0, 2, 0, no, NONE), RANGE);
            refused("TOLD 0, " + no + ", 0", x -> x.choose(0, 2, 0, no, 0), RANGE);
            if (no != NONE) {
                refused("TOLD 0, 1, " + no, x -> x.choose(0, 2, 0, 1, no), RANGE);
                refused("TOLD at a PLACE without CHOICE", x -> x.choose(3, 2, 0, 1, no), RANGE);
            }
        }
        for (int w : new int[] {0, 2}) {
            HeronBook x = Twins.rich();
            check.holds("PLAIN " + w, x.choose(0, 0, w, 0, 0) >= 0);
            choiceIs(x, 0, 0, w, NONE, NONE);
            check.holds("TOLD " + w, x.choose(0, 2, w, w, w) >= 0);
            choiceIs(x, 0, 2, w, w, w);
        }
        HeronBook full = Check.of(AnyCallTest.fullBook());
        check.holds("word 19", full.choose(0, 2, 19, 19, 19) >= 0);
        check.due("word 20", full.choose(0, 0, 20, 0, 0), RANGE);
        check.due("word 20 second", full.choose(0, 1, 19, 20, 0), RANGE);
        check.due("word 20 third", full.choose(0, 2, 19, 19, 20), RANGE);
        choiceIs(full, 0, 2, 19, 19, 19);
        check.sentence("choose: RANGE: words of MADE alike; MADE: two unlike words");
        for (int w = 0; w < 3; w++) {
            int alike = w;
            refused("MADE " + w + " twice", x -> x.choose(0, 1, alike, alike, 0), RANGE);
        }
        HeronBook made = Twins.rich();
        made.choose(0, 1, 2, 1, 0);
        choiceIs(made, 0, 1, 2, 1, NONE);
        check.sentence("TOLD: a row of two or three words (any); c unless that is NONE");
        HeronBook told = Twins.rich();
        check.due("two alike: b is told, long 7", told.choose(0, 2, 0, 0, NONE), 7);
        choiceIs(told, 0, 2, 0, 0, NONE);
        check.due("three alike: long 7 twice", told.choose(0, 2, 0, 0, 0), 14);
        choiceIs(told, 0, 2, 0, 0, 0);
        check.sentence("choose: without words there is BORROWED alone");
        HeronBook bare = Check.of("notion n a;place n a;");
        for (int kind = 0; kind < 3; kind++) {
            check.due("kind " + kind, bare.choose(0, kind, 0, 1, NONE), RANGE);
        }
        check.due("no CHOICE", bare.choice(0, 0), NONE);
        check.due("BORROWED", bare.choose(0, 3, 0, 0, 0), 2 + 5);
    }

    private static void chooseOthers() {
        check.sentence("choose: numbers that a kind hasn't don't matter");
        int[][] any = {{0, 0, 0}, {-1, -1, -1}, {MIN, MIN, MIN}, {MAX, MAX, MAX}, {3, 3, 3}, {1, 1, 1}};
        for (int[] n : any) {
            HeronBook one = Twins.rich();
            HeronBook other = Twins.rich();
            check.due("PLAIN", other.choose(0, 0, 2, n[1], n[2]), one.choose(0, 0, 2, 0, 0));
            check.due("MADE", other.choose(1, 1, 2, 0, n[2]), one.choose(1, 1, 2, 0, 0));
            check.due("BORROWED", other.choose(2, 3, n[0], n[1], n[2]), one.choose(2, 3, 0, 0, 0));
            Twins.alike(check, "whatever is given", one, other);
        }
        check.sentence("choose: a PLACE's CHOICE: its LOST; one that was is none any more");
        HeronBook x = Twins.rich();
        check.due("TOLD u, w, v at 1: adds ab, 2 words more", x.choose(1, 2, 2, 0, 1), 2 * 3 + 14);
        check.due("PLAIN there: lacks c", x.choose(1, 0, 1, 0, 0), 3 * 3 + 2 * 2);
        choiceIs(x, 1, 0, 1, NONE, NONE);
        check.due("CHOICES", x.count(0), 3);
    }

    private static void leaveAndChoice() {
        check.sentence("leave: 1 if it had one, else 0");
        refused("leave without CHOICE", x -> x.leave(3), 0);
        HeronBook x = Twins.rich();
        check.due("leave", x.leave(0), 1);
        check.due("CHOICES", x.count(0), 2);
        check.due("leave again", x.leave(0), 0);
        choiceIs(x, 0, NONE, NONE, NONE, NONE);
        choiceIs(x, 1, 1, 0, 1, NONE);
        check.sentence("leave: its NOTE stays");
        check.due("its NOTE", x.bears(0, 4), Check.bits("b"));
        check.due("TRAITS in NOTES", x.count(1), 2);
        check.due("chosen again, b is told", x.choose(0, 0, 0, 0, 0), 0);
        check.sentence("leave: RANGE");
        for (int p : NO_PLACES) {
            refused("leave(" + p + ")", y -> y.leave(p), RANGE);
        }
        check.sentence("choice: RANGE: no such PLACE, what");
        for (int p : NO_PLACES) {
            refused("choice(" + p + ", 0)", y -> y.choice(p, 0), RANGE);
            refused("choice(" + p + ", 4)", y -> y.choice(p, 4), RANGE);
        }
        for (int what : new int[] {-1, 4, 5, MIN, MAX}) {
            refused("choice(0, " + what + ")", y -> y.choice(0, what), RANGE);
            refused("choice(3, " + what + ") without CHOICE", y -> y.choice(3, what), RANGE);
        }
        check.sentence("choice: NONE without, and for words that it hasn't");
        for (int what = 0; what < 4; what++) {
            int w = what;
            refused("choice(3, " + what + ")", y -> y.choice(3, w), NONE);
        }
        HeronBook z = Twins.rich();
        choiceIs(z, 0, 0, 0, NONE, NONE);
        choiceIs(z, 1, 1, 0, 1, NONE);
        choiceIs(z, 2, 2, 2, 0, 1);
        z.choose(2, 3, 0, 0, 0);
        choiceIs(z, 2, 3, NONE, NONE, NONE);
    }

    private static void bearsWhat() {
        check.sentence("bears: what 0 .. 4; RANGE");
        int[] due = {Check.bits("abd"), Check.bits("c"), Check.bits("ab"), 9 + 6 + 7, 0};
        for (int what = 0; what < 5; what++) {
            int w = what;
            refused("bears(1, " + what + ")", x -> x.bears(1, w), due[what]);
        }
        for (int what : new int[] {-1, 5, 6, MIN, MAX}) {
            refused("bears(1, " + what + ")", x -> x.bears(1, what), RANGE);
            refused("bears(3, " + what + ") without CHOICE", x -> x.bears(3, what), RANGE);
        }
        for (int p : NO_PLACES) {
            for (int what = -1; what < 6; what++) {
                int w = what;
                refused("bears(" + p + ", " + what + ")", x -> x.bears(p, w), RANGE);
            }
        }
        check.sentence("bears: NONE without; its NOTE also without CHOICE");
        for (int what = 0; what < 4; what++) {
            int w = what;
            refused("bears(3, " + what + ")", x -> x.bears(3, w), NONE);
        }
        HeronBook x = Twins.rich();
        check.due("an empty NOTE", x.bears(3, 4), 0);
        x.note(3, 1);
        check.due("a NOTE", x.bears(3, 4), 1);
        check.due("no LOST for it", x.bears(3, 3), NONE);
        check.sentence("BORROWED has no TRAITS: it LACKS all that BEAR and ADDS nothing");
        HeronBook y = Check.of("notion n " + ALL + ";notion m -;word w " + ALL + ";word v -;place n " + ALL + ";place m -;");
        y.choose(0, 3, 0, 0, 0);
        y.choose(1, 3, 0, 0, 0);
        check.due("TRAITS", y.bears(0, 0), 0);
        check.due("LACKS all", y.bears(0, 1), ALL_BITS);
        check.due("ADDS", y.bears(0, 2), 0);
        check.due("LACKS nothing where nothing bears", y.bears(1, 1), 0);
        y.choose(0, 0, 0, 0, 0);
        y.choose(1, 0, 0, 0, 0);
        check.due("all TRAITS", y.bears(0, 0), ALL_BITS);
        check.due("LACKS nothing", y.bears(0, 1), 0);
        check.due("ADDS nothing", y.bears(0, 2), 0);
        check.due("ADDS all", y.bears(1, 2), ALL_BITS);
        y.choose(0, 0, 1, 0, 0);
        check.due("a word without TRAITS", y.bears(0, 1), ALL_BITS);
    }

    private static void noteBounds() {
        check.sentence("note: RANGE: TRAITS that its NOTION hasn't");
        for (int bit = 0; bit < 32; bit++) {
            int set = 1 << bit;
            if (bit < 3) {
                check.due("bit " + bit + " is one of its NOTION", Twins.rich().note(3, set), 3);
            } else {
                refused("bit " + bit + " is none", x -> x.note(3, set), RANGE);
                refused("bit " + bit + " besides one", x -> x.note(3, set | 1), RANGE);
            }
        }
        refused("all bits", x -> x.note(0, -1), RANGE);
        check.due("a TRAIT that doesn't BEAR there", Twins.rich().note(0, Check.bits("c")), 2);
        HeronBook last = Check.of("notion n x;place n -;");
        check.due("TRAIT 23", last.note(0, 1 << 23), 1);
        check.due("TRAIT 24", last.note(0, 1 << 24), RANGE);
        check.sentence("note: RANGE: no such PLACE");
        for (int p : NO_PLACES) {
            refused("note(" + p + ", 0)", x -> x.note(p, 0), RANGE);
        }
        check.sentence("note: FULL: it would be more than notes says");
        HeronBook x = Twins.rich();
        check.due("two more make four", x.note(3, Check.bits("ac")), 4);
        check.due("a fifth", x.note(1, Check.bits("c")), FULL);
        check.due("is not told", x.bears(1, 4), 0);
        refused("three more", y -> y.note(3, Check.bits("abc")), FULL);
        refused("a third one there, when NOTES are full", ChoiceEdgesTest::fullOfNotes, y -> y.note(3, Check.bits("abc")), FULL);
        check.due("one for another", x.note(0, Check.bits("c")), 4);
        check.due("the same again", x.note(0, Check.bits("c")), 4);
        check.due("none", x.note(0, 0), 3);
        check.due("room again", x.note(1, Check.bits("d")), 4);
        check.due("in all", x.count(1), 4);
        check.sentence("notes 0: no NOTE tells anything");
        HeronBook none = Check.of("notion n a;place n a;notes 0;");
        check.due("one", none.note(0, 1), FULL);
        check.due("an empty one", none.note(0, 0), 0);
        check.due("it tells nothing", none.bears(0, 4), 0);
        check.sentence("notes 99");
        HeronBook many = Check.of("notion n " + ALL + ";" + "place n -;".repeat(6) + "notes 99;");
        for (int p = 0; p < 4; p++) {
            check.due("24 more", many.note(p, ALL_BITS), 24 * (p + 1));
        }
        check.due("100", many.note(4, 15), FULL);
        check.due("99", many.note(4, 7), 99);
        check.due("one more", many.note(5, 1), FULL);
        check.due("count", many.count(1), 99);
        check.sentence("NOTES of a PLACE without CHOICE, and with one, count alike");
        check.due("in all", x.count(1), 4);
        x.leave(1);
        check.due("in all", x.count(1), 4);
        check.due("there is no room", x.note(0, 1), FULL);
    }

    private static HeronBook fullOfNotes() {
        HeronBook x = Twins.rich();
        x.note(3, Check.bits("ab"));
        return x;
    }

    private static void refused(String what, Supplier<HeronBook> made, ToIntFunction<HeronBook> call, int want) {
        Twins.refused(check, what, made, call, want);
    }

    private static void lostBounds() {
        check.sentence("LOST of all: the sum over all PLACES with a CHOICE: none");
        check.due("of an empty BOOK", new HeronBook().lost(), 0);
        HeronBook none = Check.of("notion n a;place n a;");
        none.note(0, 1);
        check.due("without CHOICES", none.lost(), 0);
        check.sentence("LOST at its greatest");
        HeronBook most = Check.of("notion n " + ALL + ";notion m -;word w -;word v " + ALL + ";" + ("place n " + ALL + ";").repeat(12) + "place m -;".repeat(12)
            + "lack 9;add 9;borrow 99;long 9;notes 99;weight " + ALL + " 9;");
        for (int p = 0; p < 24; p++) {
            check.due("BORROWED or TOLD at " + p, p < 12 ? most.choose(p, 3, 0, 0, 0) : most.choose(p, 2, 1, 1, 1), p < 12 ? 1944 + 99 : 1944 + 18);
        }
        check.due("of all", most.lost(), 12 * (1944 + 99 + 1944 + 18));
        check.due("keep tells it", most.keep(0), 12 * (1944 + 99 + 1944 + 18));
        check.sentence("LOST with add, borrow, long, weights 0");
        HeronBook least = Check.of("notion n ab;word w c;place n ab;place n ab;add 0;borrow 0;long 0;weight ab 0;");
        check.due("TOLD", least.choose(0, 2, 0, 0, 0), 0);
        check.due("BORROWED", least.choose(1, 3, 0, 0, 0), 0);
        check.due("of all", least.lost(), 0);
        check.due("though it LACKS", least.bears(0, 1), 3);
        check.sentence("LOST: LACKS that no NOTE tells: each alone, at its own PLACE");
        HeronBook x = Check.of("notion n ab;word w -;place n ab;place n ab;notes 2;");
        x.choose(0, 0, 0, 0, 0);
        x.choose(1, 0, 0, 0, 0);
        x.note(0, 1);
        check.due("at 0", x.bears(0, 3), 2);
        check.due("at 1", x.bears(1, 3), 4);
        x.note(0, 3);
        check.due("at 0, both told", x.bears(0, 3), 0);
        check.due("it LACKS them all the same", x.bears(0, 1), 3);
        check.due("of all", x.lost(), 4);
        check.sentence("LOST: the weights of each TRAIT");
        StringBuilder weights = new StringBuilder("notion n " + ALL + ";word w -;");
        for (int t = 0; t < 24; t++) {
            weights.append("place n ").append(ALL.charAt(t)).append(";weight ").append(ALL.charAt(t)).append(' ').append((t * 7 + t / 6) % 10).append(';');
        }
        HeronBook each = Check.of(weights.toString());
        for (int t = 0; t < 24; t++) {
            check.due("TRAIT " + t + " alone is lacking", each.choose(t, 0, 0, 0, 0), 2 * ((t * 7 + t / 6) % 10));
        }
        check.sentence("LOST: long for each word behind the first");
        HeronBook y = Check.of("notion n -;word w -;word v -;place n -;long 9;");
        check.due("one", y.choose(0, 0, 0, 0, 0), 0);
        check.due("MADE", y.choose(0, 1, 0, 1, 0), 9);
        check.due("two", y.choose(0, 2, 0, 0, NONE), 9);
        check.due("three", y.choose(0, 2, 0, 0, 0), 18);
        check.due("BORROWED", y.choose(0, 3, 0, 0, 0), 5);
    }

    private static void clashBounds() {
        check.sentence("A TIE CLASHES if both PLACES have a CHOICE");
        HeronBook x = Check.of("notion n ab;notion m a;word w a;word v b;place n -;place n -;place m -;tie 0 1 a;tie 1 2 a;");
        check.due("neither", x.clashes(), 0);
        x.choose(0, 0, 1, 0, 0);
        check.due("the first alone", x.clashes(), 0);
        x.leave(0);
        x.choose(1, 0, 1, 0, 0);
        check.due("the second alone", x.clashes(), 0);
        x.choose(0, 0, 1, 0, 0);
        check.due("both", x.clashes(), 1);
        check.sentence("these have no TRAIT of the TIE both");
        x.choose(0, 0, 0, 0, 0);
        check.due("the first has it", x.clashes(), 1);
        x.choose(0, 0, 1, 0, 0);
        x.choose(1, 0, 0, 0, 0);
        check.due("the second has it", x.clashes(), 1);
        x.choose(0, 0, 0, 0, 0);
        check.due("both have it", x.clashes(), 0);
        x.note(0, 1);
        x.choose(0, 0, 1, 0, 0);
        check.due("a NOTE doesn't help", x.clashes(), 1);
        check.sentence("and they aren't both BORROWED for one NOTION");
        x.choose(0, 3, 0, 0, 0);
        check.due("one BORROWED", x.clashes(), 1);
        x.choose(1, 3, 0, 0, 0);
        check.due("both for one", x.clashes(), 0);
        x.choose(2, 3, 0, 0, 0);
        check.due("both for unlike ones", x.clashes(), 2);
        check.sentence("clashes: as bits: TIE 0 and TIE 19");
        StringBuilder text = new StringBuilder("notion n a;word w a;" + "place n -;".repeat(21));
        for (int t = 0; t < 20; t++) {
            text.append("tie ").append(t).append(' ').append(t + 1).append(t == 0 || t == 19 ? " b;" : " a;");
        }
        HeronBook y = Check.of(text.toString());
        for (int p = 0; p < 21; p++) {
            y.choose(p, 0, 0, 0, 0);
        }
        check.due("the first and the last", y.clashes(), 1 | 1 << 19);
        HeronBook all = Check.of(text.toString().replace(" a;", " -;"));
        for (int p = 0; p < 21; p++) {
            all.choose(p, 0, 0, 0, 0);
        }
        check.due("all of 20", all.clashes(), (1 << 20) - 1);
        check.due("of an empty BOOK", new HeronBook().clashes(), 0);
    }

    private static void boundBounds() {
        check.sentence("bound: RANGE");
        for (int p : NO_PLACES) {
            refused("bound(" + p + ")", x -> x.bound(p), RANGE);
        }
        check.sentence("BOUND by a PLACE: itself, too; one behind the other");
        refused("alone", x -> x.bound(3), 8);
        refused("from the first", x -> x.bound(0), 7);
        refused("from the last", x -> x.bound(2), 7);
        StringBuilder text = new StringBuilder("notion n -;" + "place n -;".repeat(24));
        for (int t = 0; t < 20; t++) {
            text.append("tie ").append(23 - t).append(' ').append(22 - t).append(" -;");
        }
        HeronBook x = Check.of(text.toString());
        check.due("twenty TIES lead on", x.bound(23), 0xfffff8);
        check.due("from the other end", x.bound(3), 0xfffff8);
        check.due("from the middle", x.bound(12), 0xfffff8);
        check.due("not to PLACE 2", x.bound(2), 4);
        HeronBook two = Check.of("notion n -;" + "place n -;".repeat(4) + "tie 0 3 -;tie 1 2 -;tie 2 1 -;");
        check.due("one part", two.bound(3), 9);
        check.due("the other", two.bound(1), 6);
        check.sentence("BOUND: with CHOICES or without");
        two.choose(0, 3, 0, 0, 0);
        check.due("as it was", two.bound(0), 9);
    }

    public static void main(String[] args) {
        toldWhat();
        traitsAndNotion();
        choosePlaceAndKind();
        chooseWords();
        chooseOthers();
        leaveAndChoice();
        bearsWhat();
        noteBounds();
        lostBounds();
        clashBounds();
        boundBounds();
        check.close("ChoiceEdgesTest");
    }
}
