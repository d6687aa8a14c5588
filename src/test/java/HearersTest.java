/** Promises 23 to 32: hears, back, laughs, hits, on, keep, take, nearer, gives, agree. */
public final class HearersTest {
    private static final Check check = new Check();
    private static final int NONE = HeronBook.NONE;
    private static final int RANGE = HeronBook.RANGE;

    /** h knows all, g a and d, f nothing; h laughs at ab, g at d, f at nothing. */
    private static HeronBook heron() {
        return Check.of("notion n abc;notion m cd;notion k d;word w a;word v bd;word u cd;place n ab;place m cd;place k d;"
            + "hearer h abcd ab;hearer g ad d;hearer f - -;");
    }

    private static void rangeOrNone(HeronBook x, int h, int p, int want) {
        check.due("hears(" + h + ", " + p + ")", x.hears(h, p), want);
        check.due("back(" + h + ", " + p + ")", x.back(h, p), want);
        check.due("laughs(" + h + ", " + p + ")", x.laughs(h, p), want);
        check.due("on(" + h + ", 0, " + p + ")", x.on(h, 0, p), want);
    }

    private static void promises23To25() {
        HeronBook x = heron();
        rangeOrNone(x, 0, 0, NONE);
        for (int no : new int[] {-1, 3, Integer.MIN_VALUE, Integer.MAX_VALUE}) {
            rangeOrNone(x, no, 0, RANGE);
            rangeOrNone(x, 0, no, RANGE);
            check.due("hits(" + no + ")", x.hits(no), RANGE);
            check.due("on(0, " + no + ", 0)", x.on(0, no, 0), RANGE);
        }
        x.choose(0, 1, 0, 1, 0);
        check.due("h hears", x.hears(0, 0), Check.bits("abd"));
        check.due("g hears", x.hears(1, 0), Check.bits("ad"));
        check.due("f hears", x.hears(2, 0), 0);
        x.note(0, Check.bits("c"));
        check.due("h hears the NOTE", x.hears(0, 0), Check.bits("abcd"));
        check.due("g doesn't KNOW it", x.hears(1, 0), Check.bits("ad"));
        check.due("h: n 6 - 1, m 4 - 2, k 2 - 3", x.back(0, 0), 0);
        check.due("g: n 2 - 2 - 1, m 2 - 1 - 1, k 2 - 1", x.back(1, 0), 2);
        check.due("f: n -3, m -2, k -1", x.back(2, 0), 2);
        check.due("h laughs at ab", x.laughs(0, 0), 1);
        check.due("g laughs at d", x.laughs(1, 0), 1);
        check.due("f laughs at nothing", x.laughs(2, 0), 0);
        x.choose(0, 0, 0, 0, 0);
        x.note(0, Check.bits("b"));
        check.due("a NOTE makes nobody laugh", x.laughs(0, 0), 0);
        x.choose(0, 3, 0, 0, 0);
        check.due("BORROWED: the NOTE alone is heard", x.hears(0, 0), Check.bits("b"));
        HeronBook deaf = Check.of("notion n ab;word w ab;place n -;hearer h - ab;");
        deaf.choose(0, 0, 0, 0, 0);
        check.due("laughs at what isn't known", deaf.laughs(0, 0), 1);

        HeronBook y = Check.of("notion n a;notion m b;notion k ab;notion j -;word w ab;word v c;place n -;hearer h abc -;weight a 3;weight b 3;weight c 9;");
        y.choose(0, 0, 0, 0, 0);
        check.due("k by its weights", y.back(0, 0), 2);
        y.choose(0, 0, 1, 0, 0);
        check.due("j: -9; n, m -12; k -15", y.back(0, 0), 3);
        HeronBook alike = Check.of("notion n ab;notion m ac;word w a;place m -;hearer h a -;");
        alike.choose(0, 0, 0, 0, 0);
        check.due("of alike ones the least", alike.back(0, 0), 0);
        HeronBook heavy = Check.of("notion n ab;notion m a;word w a;place m -;hearer h a -;weight b 0;");
        heavy.choose(0, 0, 0, 0, 0);
        check.due("what weighs nothing parts nothing", heavy.back(0, 0), 0);
    }

    private static void promise26() {
        HeronBook x = heron();
        check.due("no CHOICES", x.hits(0), 0);
        x.choose(0, 0, 0, 0, 0);
        x.choose(1, 0, 2, 0, 0);
        x.choose(2, 0, 2, 0, 0);
        check.due("h: n by a, m by cd, not k by cd", x.hits(0), 2);
        check.due("g: n by a? 2 - 2 = 0; k by d", x.hits(1), 2);
        check.due("f: k alone", x.hits(2), 1);
        x.leave(2);
        check.due("f: none", x.hits(2), 0);
    }

    private static void promise27() {
        HeronBook x = heron();
        x.choose(0, 0, 0, 0, 0);
        check.due("h tells n by w to h", x.on(0, 0, 0), 0);
        check.due("h tells n by w to g", x.on(0, 1, 0), 0);
        check.due("h tells n by w to f, who hears nothing", x.on(0, 2, 0), 2);
        check.due("f tells k by v (bd), not by u, to h", x.on(2, 0, 0), 2);
        check.due("f tells k by v to g, who knows d", x.on(2, 1, 0), 2);
        HeronBook y = Check.of("notion n ab;notion m cde;notion k a;word w cde;word v ac;word u bc;place n -;hearer h abcde -;hearer g abc -;weight b 2;lack 3;add 5;");
        y.choose(0, 3, 0, 0, 0);
        y.note(0, 3);
        check.due("h tells back n; told by u: 3 and 5", y.on(0, 1, 0), 0);
        HeronBook least = Check.of("notion n ab;notion m bc;word w a;word v b;place n -;hearer h ab -;hearer g ab -;lack 1;");
        least.choose(0, 3, 0, 0, 0);
        least.note(0, 3);
        check.due("of alike words the least", least.on(0, 1, 0), 0);
        HeronBook wordless = Check.of("notion n ab;notion m c;place n -;hearer h ab -;");
        wordless.choose(0, 3, 0, 0, 0);
        wordless.note(0, 3);
        check.due("told back at first", wordless.back(0, 0), 0);
        check.due("nothing to be heard without words", wordless.on(0, 0, 0), 1);
    }

    private static void promises28And29() {
        HeronBook x = heron();
        for (int no : new int[] {-1, 4, Integer.MIN_VALUE, Integer.MAX_VALUE}) {
            check.due("keep(" + no + ")", x.keep(no), RANGE);
            check.due("take(" + no + ")", x.take(no), RANGE);
        }
        check.due("take of none", x.take(3), HeronBook.STATE);
        x.choose(0, 2, 0, 0, 1);
        x.choose(1, 0, 0, 0, 0);
        x.note(1, Check.bits("c"));
        int lost = x.lost();
        check.due("keep", x.keep(3), lost);
        x.choose(0, 0, 1, 0, 0);
        x.choose(2, 3, 0, 0, 0);
        x.note(0, Check.bits("ab"));
        x.note(1, 0);
        x.leave(1);
        int other = x.lost();
        check.due("keep another", x.keep(0), other);
        check.due("take", x.take(3), lost);
        check.due("its kind", x.choice(0, 0), 2);
        check.due("its third word", x.choice(0, 3), 1);
        check.due("its CHOICES", x.count(0), 2);
        check.due("its NOTE at 1", x.bears(1, 4), Check.bits("c"));
        check.due("its NOTE at 0", x.bears(0, 4), 0);
        x.choose(0, 3, 0, 0, 0);
        check.due("what is kept stays", x.take(3), lost);
        check.due("take another", x.take(0), other);
        check.due("no CHOICE at 1", x.choice(1, 0), NONE);
        check.due("a NOTE at 0", x.bears(0, 4), Check.bits("ab"));
        check.due("kept again over it", x.keep(3), other);
        check.due("and taken", x.take(3), other);
    }

    private static void promise30() {
        HeronBook x = heron();
        check.due("none is kept", x.nearer(0, 1, 0), HeronBook.STATE);
        x.keep(0);
        check.due("one isn't kept", x.nearer(0, 1, 0), HeronBook.STATE);
        check.due("the other isn't kept", x.nearer(1, 0, 0), HeronBook.STATE);
        check.due("no slot 4", x.nearer(0, 4, 0), RANGE);
        check.due("no slot 4 first", x.nearer(4, 0, 0), RANGE);
        check.due("no slot -1", x.nearer(-1, 1, 0), RANGE);
        check.due("no slot -1 behind", x.nearer(0, -1, 0), RANGE);
        check.due("no hearer", x.nearer(0, 1, 3), RANGE);
        check.due("no hearer -1", x.nearer(0, 1, -1), RANGE);
        x.choose(0, 0, 0, 0, 0);
        x.keep(1);
        check.due("more RIGHT, though more LOST", x.nearer(0, 1, 0), 1);
        check.due("the other way", x.nearer(1, 0, 0), 1);
        check.due("alike RIGHT for f, less LOST", x.nearer(1, 0, 2), 0);
        check.due("the other way", x.nearer(0, 1, 2), 0);
        check.due("one with itself", x.nearer(1, 1, 0), NONE);
        x.keep(2);
        check.due("alike", x.nearer(1, 2, 0), NONE);
        x.note(0, Check.bits("b"));
        x.keep(3);
        check.due("NOTES are kept: less LOST", x.nearer(2, 3, 0), 3);
        x.choose(0, 3, 0, 0, 0);
        x.nearer(1, 2, 0);
        check.due("the RENDERING that is stays", x.choice(0, 0), 3);
        check.due("and its NOTE", x.bears(0, 4), Check.bits("b"));
    }

    private static void promises31And32() {
        HeronBook x = heron();
        check.due("0 at first", x.gives(0, 0, 0, 99), 0);
        check.due("what it was", x.gives(0, 0, 0, 3), 99);
        check.due("another voice", x.gives(3, 0, 0, 5), 0);
        check.due("another place", x.gives(0, 2, 0, 5), 0);
        check.due("another word", x.gives(0, 0, 2, 5), 0);
        check.due("it is 3", x.gives(0, 0, 0, 3), 3);
        int[][] no = {{-1, 0, 0, 0}, {4, 0, 0, 0}, {0, -1, 0, 0}, {0, 3, 0, 0}, {0, 0, -1, 0}, {0, 0, 3, 0}, {0, 0, 0, -1}, {0, 0, 0, 100},
            {Integer.MIN_VALUE, 0, 0, 0}, {0, Integer.MAX_VALUE, 0, 0}};
        for (int[] n : no) {
            check.due("gives of what can't be", x.gives(n[0], n[1], n[2], n[3]), RANGE);
        }
        check.due("agree(-1)", x.agree(-1), RANGE);
        check.due("agree(3)", x.agree(3), RANGE);
        check.due("nobody gives anything: the least", x.agree(1), 0);
        check.due("0: 3 5; 1: none", x.agree(0), 1);
        x.gives(1, 0, 1, 6);
        check.due("0: greatest 5, sum 8; 2: greatest 5, sum 5", x.agree(0), 2);
        x.gives(1, 0, 2, 3);
        check.due("both 8 in all: the least", x.agree(0), 0);
        x.gives(2, 0, 2, 1);
        x.gives(2, 0, 1, 0);
        x.gives(1, 0, 0, 6);
        x.gives(1, 0, 1, 4);
        check.due("the greatest is least", x.agree(0), 1);
        for (int v = 0; v < 4; v++) {
            x.gives(v, 0, 1, 4);
        }
        check.due("though its sum is greater", x.agree(0), 1);
        HeronBook bare = Check.of("notion n a;place n a;");
        check.due("no words to agree on", bare.agree(0), NONE);
        check.due("no such place", bare.agree(1), RANGE);
    }

    public static void main(String[] args) {
        promises23To25();
        promise26();
        promise27();
        promises28And29();
        promise30();
        promises31And32();
        check.close("HearersTest");
    }
}
