import java.util.ArrayList;
import java.util.List;
import java.util.function.Supplier;
import java.util.function.ToIntFunction;

/**
 * Two objects that are made alike: where one of them gets a call that is refused, or that asks alone, no later call may
 * show it. Everything is asked of both, what can only be seen by a change last.
 */
final class Twins {
    /** Nothing is promised behind the 512th call. */
    private static final int MOST_CALLS = 512;
    private static final String RICH = "notion n abc;notion m cd;word w a;word v bd;word u abc;"
        + "place n ab;place m cd;place n c;place n -;tie 0 1 b;tie 1 2 c;hearer h abcd ab;hearer g ad d;"
        + "lack 3;add 2;borrow 50;long 7;notes 4;weight b 2;weight c 3;weight d 4;";

    private final List<String> calls = new ArrayList<>();
    private final List<Integer> answers = new ArrayList<>();
    private final HeronBook x;

    private Twins(HeronBook x) {
        this.x = x;
    }

    /**
     * An object with something of everything: 2 NOTIONS, 3 words, 4 PLACES (the last one without CHOICE), 2 TIES, 2 HEARERS,
     * 2 of 4 TRAITS in NOTES, RENDERINGS in slots 0 and 2, 3 MOVES, 3 HEARD, 1 putting RIGHT at STEP 7, 7 bytes on the tape.
     */
    static HeronBook rich() {
        HeronBook x = Check.of(RICH);
        x.choose(0, 0, 1, 0, 0);
        x.note(1, Check.bits("d"));
        x.keep(0);
        x.choose(0, 0, 0, 0, 0);
        x.choose(1, 1, 0, 1, 0);
        x.choose(2, 2, 2, 0, 1);
        x.note(0, Check.bits("b"));
        x.note(1, 0);
        x.note(2, Check.bits("c"));
        x.keep(2);
        x.note(2, Check.bits("a"));
        x.gives(0, 0, 0, 9);
        x.gives(3, 0, 1, 4);
        x.gives(1, 3, 2, 99);
        x.moves(0, 10, Check.bits("ab"));
        x.moves(1, 5, Check.bits("d"));
        x.moves(0, 20, 0);
        x.heard(3, 0, 0, 1);
        x.heard(5, 0, 1, 0);
        x.heard(5, 1, 2, 1);
        x.right(7, 0, 0);
        Check.add(x, "lack 7;");
        return x;
    }

    /** A call on one of two rich ones: its answer, and nothing else is another one behind it. */
    static void refused(Check check, String what, ToIntFunction<HeronBook> call, int want) {
        refused(check, what, Twins::rich, call, want);
    }

    static void refused(Check check, String what, Supplier<HeronBook> made, ToIntFunction<HeronBook> call, int want) {
        HeronBook tried = made.get();
        check.due(what, call.applyAsInt(tried), want);
        alike(check, what, made.get(), tried);
    }

    /** All that these two answer is alike. */
    static void alike(Check check, String what, HeronBook plain, HeronBook tried) {
        Twins one = new Twins(plain);
        Twins other = new Twins(tried);
        one.askAll();
        other.askAll();
        one.askTape();
        other.askTape();
        compare(check, what, one, other);
    }

    /** All that these two answer is alike, but for the tape and the FAULT. */
    static void alikeButTape(Check check, String what, HeronBook plain, HeronBook tried) {
        Twins one = new Twins(plain);
        Twins other = new Twins(tried);
        one.askAll();
        other.askAll();
        compare(check, what, one, other);
    }

    private static void compare(Check check, String what, Twins one, Twins other) {
        check.holds(what + ": calls for making and asking", one.calls.size() + 160 <= MOST_CALLS);
        check.due(what + ": calls", other.calls.size(), one.calls.size());
        for (int i = 0; i < Math.min(one.calls.size(), other.calls.size()); i++) {
            check.due(what + ", then " + one.calls.get(i), other.answers.get(i), one.answers.get(i));
        }
    }

    private void note(String call, int answer) {
        calls.add(call);
        answers.add(answer);
    }

    private interface Ask {
        int of(int i);
    }

    /** Of numbers below n: the first few, the last one, and the one behind it. */
    private void each(String call, int n, Ask ask) {
        for (int i = 0; i <= n; i++) {
            if (i < 4 || i >= n - 1) {
                note(call + " " + i, ask.of(i));
            }
        }
    }

    private void askAll() {
        askBook();
        askRendering("");
        askChoices();
        askHearers();
        askYears();
        askLaughs();
        askByChanges();
    }

    private void askBook() {
        each("told", 10, x::told);
        each("weight", 24, t -> x.told(20 + t));
        int[] sorts = {0, 1, 2, 3, 4, 4};
        for (int kind = 0; kind < 6; kind++) {
            int k = kind;
            each("traits " + kind, x.told(sorts[kind]), i -> x.traits(k, i));
        }
        each("notion", x.told(2), x::notion);
        each("count", 4, x::count);
    }

    private void askRendering(String when) {
        for (int what = 0; what < 4; what++) {
            int w = what;
            each(when + "choice " + what, x.told(2) - 1, p -> x.choice(p, w));
        }
        each(when + "NOTE", x.told(2) - 1, p -> x.bears(p, 4));
        note(when + "lost", x.lost());
    }

    private void askChoices() {
        for (int what = 0; what < 4; what++) {
            int w = what;
            each("bears " + what, x.told(2) - 1, p -> x.bears(p, w));
        }
        note("clashes", x.clashes());
        each("bound", x.told(2), x::bound);
        each("one", x.told(0), x::one);
        each("price", x.told(0), x::price);
        each("swap", x.told(0), x::swap);
    }

    private void askHearers() {
        each("hears 0", x.told(2) - 1, p -> x.hears(0, p));
        each("back 0", x.told(2) - 1, p -> x.back(0, p));
        each("laughs 0", x.told(2) - 1, p -> x.laughs(0, p));
        each("hits", x.told(4), x::hits);
        each("on", x.told(2) - 1, p -> x.on(0, 1, p));
        each("agree", x.told(2), x::agree);
        each("nearer 0", 3, b -> x.nearer(0, b, 0));
        each("nearer 2", 3, b -> x.nearer(2, b, 1));
    }

    private void askYears() {
        for (int year : new int[] {0, 4, 5, 9, 10, 19, 20, 2000}) {
            note("lostIn " + year, x.lostIn(year));
            note("turned " + year, x.turned(year));
        }
        note("until", x.until(x.lost()));
    }

    private void askLaughs() {
        for (int known : new int[] {0, 2, 3, 4, 5, 6, 7, 999}) {
            note("fit 0 " + known, x.fit(0, known));
            note("fit 1 " + known, x.fit(1, known));
        }
        each("surely", 3, t -> x.surely(0, t, 999));
        each("next", x.told(4), x::next);
    }

    private void askByChanges() {
        each("gives 0", x.told(1) - 1, w -> x.gives(0, 0, w, 0));
        each("gives 1", x.told(2) - 1, p -> x.gives(1, p, 2, 0));
        each("gives 3", x.told(1) - 1, w -> x.gives(3, 0, w, 0));
        each("moves in 9", x.told(1) - 1, w -> x.moves(w, 9, 0));
        each("moves in 19", x.told(1) - 1, w -> x.moves(w, 19, 0));
        note("choose", x.choose(0, 3, 0, 0, 0));
        note("heard at an earlier STEP", x.heard(6, 0, 0, 1));
        note("heard at the latest STEP", x.heard(7, 0, 0, 1));
        each("how often put RIGHT", x.count(3), k -> x.right(7, k, 1));
        for (int slot = 0; slot < 4; slot++) {
            int taken = x.take(slot);
            note("take " + slot, taken);
            if (taken >= 0) {
                askRendering("of slot " + slot + ", ");
            }
        }
    }

    private void askTape() {
        note("KIND", x.fault(0));
        note("PLACE", x.fault(1));
        note("bytes", x.count(5));
        note("book of what is there", x.book());
        note("its KIND", x.fault(0));
        note("its PLACE", x.fault(1));
        note("its lack", x.told(5));
        note("its notions", x.told(0));
    }
}
