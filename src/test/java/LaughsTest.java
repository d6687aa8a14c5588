/** Promises 37 to 42: heard, right, fit, surely, next, count. */
public final class LaughsTest {
    private static final Check check = new Check();
    private static final int NONE = HeronBook.NONE;
    private static final int RANGE = HeronBook.RANGE;
    private static final int MIN = Integer.MIN_VALUE;

    private static HeronBook heron() {
        HeronBook x = Check.of("notion n abc;word w ab;word v bc;word u abc;word t -;place n -;place n -;place n -;place n -;"
            + "hearer h a -;hearer g - a;");
        for (int p = 0; p < 3; p++) {
            x.choose(p, 0, p, 0, 0);
        }
        return x;
    }

    private static void promise37() {
        HeronBook x = heron();
        int[][] no = {{-1, 0, 0, 0}, {1000, 0, 0, 0}, {MIN, 0, 0, 0}, {0, -1, 0, 0}, {0, 2, 0, 0}, {0, 0, -1, 0}, {0, 0, 4, 0},
            {0, 0, 0, -1}, {0, 0, 0, 2}, {0, 2, 3, 0}, {1000, 0, 3, 0}};
        for (int[] n : no) {
            check.due("heard of what can't be", x.heard(n[0], n[1], n[2], n[3]), RANGE);
        }
        check.due("no CHOICE there", x.heard(0, 0, 3, 1), HeronBook.STATE);
        check.due("what was refused has no STEP", x.heard(9, 0, 3, 1), HeronBook.STATE);
        check.due("the first", x.heard(0, 0, 0, 1), 0);
        check.due("the second", x.heard(4, 1, 0, 0), 1);
        check.due("an earlier STEP", x.heard(3, 1, 0, 0), RANGE);
        check.due("the same STEP", x.heard(4, 1, 1, 0), 2);
        for (int k = 3; k < 30; k++) {
            check.due("HEARD " + k, x.heard(998 - 30 + k, 1, 1, 0), k);
        }
        check.due("one too many", x.heard(999, 1, 1, 0), HeronBook.FULL);
        check.due("RANGE goes ahead of FULL", x.heard(999, 1, 4, 0), RANGE);
        check.due("STATE goes ahead of FULL", x.heard(999, 1, 3, 0), HeronBook.STATE);
        check.due("FULL has no STEP", x.right(997, 0, 0), 1);
        check.due("count", x.count(3), 30);
    }

    private static void promise38() {
        HeronBook x = heron();
        check.due("none was HEARD", x.right(0, 0, 0), RANGE);
        x.heard(3, 0, 0, 1);
        x.heard(5, 0, 1, 1);
        int[][] no = {{4, 0, 0}, {-1, 0, 0}, {1000, 0, 0}, {5, -1, 0}, {5, 2, 0}, {5, 0, -1}, {5, 0, 2}, {MIN, MIN, MIN}};
        for (int[] n : no) {
            check.due("right of what can't be", x.right(n[0], n[1], n[2]), RANGE);
        }
        check.due("once", x.right(6, 0, 0), 1);
        check.due("twice", x.right(8, 0, 1), 2);
        check.due("another one", x.right(8, 1, 1), 1);
        check.due("a STEP behind", x.right(7, 1, 1), RANGE);
        check.due("HEARD behind", x.heard(7, 0, 0, 1), RANGE);
        check.due("HEARD at that STEP", x.heard(8, 0, 0, 1), 2);
        for (int i = 4; i <= 20; i++) {
            check.due("right " + i, x.right(9 + i, 1, 0), i - 2);
        }
        check.due("count", x.count(4), 20);
        check.due("one too many", x.right(40, 0, 0), HeronBook.FULL);
        check.due("RANGE goes ahead", x.right(1, 0, 0), RANGE);
        check.due("FULL has no STEP", x.heard(29, 0, 0, 0), 3);
        check.due("HEARD has room", x.count(3), 4);
    }

    private static void promise39() {
        HeronBook x = heron();
        for (int no : new int[] {-1, 2, MIN}) {
            check.due("fit(" + no + ", 0)", x.fit(no, 0), RANGE);
        }
        for (int no : new int[] {-1, 1000, MIN, Integer.MAX_VALUE}) {
            check.due("fit(0, " + no + ")", x.fit(0, no), RANGE);
        }
        check.due("all sets", x.fit(0, 0), 300);
        check.due("all sets at 999", x.fit(1, 999), 300);
        x.heard(10, 0, 0, 1);
        check.due("a, b, ab", x.fit(0, 10), 3);
        check.due("not known yet", x.fit(0, 9), 300);
        check.due("of another one nothing is known", x.fit(1, 10), 300);
        x.heard(20, 0, 1, 0);
        check.due("not b: a, ab", x.fit(0, 20), 2);
        check.due("as known at 19", x.fit(0, 19), 3);
        x.choose(0, 0, 3, 0, 0);
        check.due("the TRAITS of the CHOICE as it was told", x.fit(0, 20), 2);
        x.heard(30, 0, 0, 1);
        check.due("nothing at all made them laugh: none", x.fit(0, 30), 0);
        x.right(40, 2, 0);
        check.due("put RIGHT", x.fit(0, 40), 2);
        check.due("as known at 39", x.fit(0, 39), 0);
        check.due("as known at 999", x.fit(0, 999), 2);
        x.right(50, 1, 1);
        check.due("b, of both: b alone", x.fit(0, 50), 1);
        x.right(50, 1, 0);
        check.due("the later told of one STEP", x.fit(0, 50), 2);
        x.right(60, 0, 0);
        check.due("neither in ab nor in bc", x.fit(0, 60), 300 - 3 - 3 + 1);
        check.due("as known at 10", x.fit(0, 10), 3);
    }

    private static void promise40() {
        HeronBook x = heron();
        check.due("surely(2, 0, 0)", x.surely(2, 0, 0), RANGE);
        check.due("surely(-1, 0, 0)", x.surely(-1, 0, 0), RANGE);
        check.due("surely(0, 24, 0)", x.surely(0, 24, 0), RANGE);
        check.due("surely(0, -1, 0)", x.surely(0, -1, 0), RANGE);
        check.due("surely(0, 0, -1)", x.surely(0, 0, -1), RANGE);
        check.due("surely(0, 0, 1000)", x.surely(0, 0, 1000), RANGE);
        check.due("nothing is known", x.surely(0, 0, 0), 2);
        check.due("nothing is known of x", x.surely(0, 23, 0), 2);
        x.heard(1, 0, 0, 1);
        x.heard(2, 0, 1, 0);
        check.due("a or ab: a", x.surely(0, 0, 2), 1);
        check.due("b", x.surely(0, 1, 2), 2);
        check.due("c", x.surely(0, 2, 2), 0);
        check.due("x", x.surely(0, 23, 2), 0);
        check.due("as known at 1: a", x.surely(0, 0, 1), 2);
        x.heard(3, 0, 2, 0);
        check.due("no set fits", x.surely(0, 0, 3), NONE);
        check.due("RANGE goes ahead", x.surely(0, 24, 3), RANGE);
        check.due("of another one", x.surely(1, 0, 3), 2);
    }

    private static void promise41() {
        HeronBook x = heron();
        check.due("next(2)", x.next(2), RANGE);
        check.due("next(-1)", x.next(-1), RANGE);
        check.due("the most TRAITS part 300 best: 6 and 294", x.next(0), 2);
        x.heard(1, 0, 2, 1);
        check.due("a b c ab ac bc: 3 and 3 by the least", x.next(0), 0);
        x.leave(0);
        check.due("without place 0", x.next(0), 1);
        x.heard(2, 0, 1, 1);
        check.due("b c bc: nothing parts them but ab", x.next(0), NONE);
        x.choose(3, 0, 0, 0, 0);
        check.due("b, or c bc", x.next(0), 3);
        x.heard(3, 0, 3, 1);
        check.due("b alone", x.next(0), NONE);
        x.heard(4, 0, 2, 0);
        check.due("no set fits", x.next(0), NONE);
        x.right(5, 3, 1);
        x.right(5, 2, 0);
        check.due("c, bc as all is known: no part", x.next(0), NONE);
        x.choose(0, 1, 0, 3, 0);
        check.due("words that have no TRAIT of these", x.next(0), NONE);
        check.due("another one", x.next(1), 2);
        HeronBook y = Check.of("notion n -;word w -;place n -;place n -;hearer h - -;");
        check.due("no CHOICE", y.next(0), NONE);
        y.choose(1, 0, 0, 0, 0);
        check.due("nobody would laugh", y.next(0), NONE);
    }

    private static void promise42() {
        HeronBook x = heron();
        check.due("CHOICES", x.count(0), 3);
        x.choose(3, 3, 0, 0, 0);
        x.leave(0);
        x.leave(1);
        check.due("CHOICES", x.count(0), 2);
        x.note(0, 5);
        x.note(3, 7);
        check.due("TRAITS in NOTES", x.count(1), 5);
        x.moves(0, 0, 0);
        x.moves(1, 0, 0);
        check.due("MOVES", x.count(2), 2);
        x.heard(0, 0, 2, 0);
        x.heard(0, 0, 2, 0);
        x.heard(0, 0, 3, 0);
        check.due("HEARD", x.count(3), 3);
        x.right(0, 0, 0);
        x.right(0, 0, 1);
        x.right(0, 1, 1);
        x.right(0, 0, 1);
        check.due("puttings RIGHT", x.count(4), 4);
        x.feed(0, 0, 0, 0, 0);
        check.due("bytes", x.count(5), 20);
        check.due("count(-1)", x.count(-1), NONE);
        check.due("count(6)", x.count(6), NONE);
        check.due("count(MIN)", x.count(MIN), NONE);
    }

    public static void main(String[] args) {
        promise37();
        promise38();
        promise39();
        promise40();
        promise41();
        promise42();
        check.close("LaughsTest");
    }
}
