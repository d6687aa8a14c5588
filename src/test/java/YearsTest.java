/** Promises 33 to 36: moves, lostIn, turned, until. */
public final class YearsTest {
    private static final Check check = new Check();
    private static final int NONE = HeronBook.NONE;
    private static final int RANGE = HeronBook.RANGE;
    private static final int MIN = Integer.MIN_VALUE;
    private static final int MAX = Integer.MAX_VALUE;

    private static HeronBook heron() {
        HeronBook x = Check.of("notion n ab;word w a;word v b;place n a;place n b;place n ab;lack 3;borrow 20;hearer h ab a;");
        x.choose(0, 0, 0, 0, 0);
        x.choose(1, 0, 1, 0, 0);
        x.choose(2, 1, 0, 1, 0);
        return x;
    }

    private static void promise33() {
        HeronBook x = heron();
        check.due("no word", x.moves(2, 0, 0), RANGE);
        check.due("no word -1", x.moves(-1, 0, 0), RANGE);
        check.due("year -1", x.moves(0, -1, 0), RANGE);
        check.due("year 2001", x.moves(0, 2001, 0), RANGE);
        check.due("TRAIT 24", x.moves(0, 0, 1 << 24), RANGE);
        check.due("TRAITS below 0", x.moves(0, 0, MIN), RANGE);
        check.due("all TRAITS, year 2000", x.moves(1, 2000, (1 << 24) - 1), 1);
        check.due("a year behind", x.moves(1, 1999, 0), RANGE);
        check.due("another word", x.moves(0, 1999, 0), 2);
        check.due("the same year", x.moves(0, 1999, 2), 3);
        check.due("an earlier one", x.moves(0, 1998, 2), RANGE);
        check.due("all else asks for words as they were", x.traits(1, 1), 2);
        check.due("LOST is as it was", x.lost(), 1);
        check.due("a laugh as it was", x.laughs(0, 0), 1);
        for (int i = 4; i <= 40; i++) {
            check.due("move " + i, x.moves(1, 2000, i), i);
        }
        check.due("one too many", x.moves(1, 2000, 0), HeronBook.FULL);
        check.due("RANGE goes ahead", x.moves(1, 0, 0), RANGE);
        check.due("count", x.count(2), 40);
    }

    private static void promises34To36() {
        HeronBook x = heron();
        for (int no : new int[] {-1, 2001, MIN, MAX}) {
            check.due("lostIn(" + no + ")", x.lostIn(no), RANGE);
            check.due("turned(" + no + ")", x.turned(no), RANGE);
        }
        check.due("until(-1)", x.until(-1), RANGE);
        check.due("until(MIN)", x.until(MIN), RANGE);
        check.due("lostIn(0)", x.lostIn(0), 1);
        check.due("lostIn(2000)", x.lostIn(2000), 1);
        check.due("until(0)", x.until(0), 0);
        check.due("until(1)", x.until(1), NONE);
        x.moves(1, 100, Check.bits("c"));
        x.moves(0, 50, Check.bits("ab"));
        x.moves(1, 200, Check.bits("b"));
        x.moves(1, 200, Check.bits("bc"));
        check.due("49", x.lostIn(49), 1);
        check.due("50: a is had besides", x.lostIn(50), 1);
        check.due("99", x.lostIn(99), 1);
        check.due("100: 1 lacks b, adds c; 2 adds c", x.lostIn(100), 4 + 2);
        check.due("199", x.lostIn(199), 6);
        check.due("200: the later told of one year", x.lostIn(200), 1 + 2);
        check.due("2000", x.lostIn(2000), 3);
        check.due("turned(0)", x.turned(0), 0);
        check.due("turned(50)", x.turned(50), 0);
        check.due("turned(99)", x.turned(99), 0);
        check.due("turned(100)", x.turned(100), 2);
        check.due("turned(101)", x.turned(101), 0);
        check.due("turned(200)", x.turned(200), 1);
        check.due("until(0)", x.until(0), 0);
        check.due("until(1)", x.until(1), 100);
        check.due("until(5)", x.until(5), 100);
        check.due("until(6)", x.until(6), NONE);
        check.due("until(MAX)", x.until(MAX), NONE);
        x.moves(0, 2000, 0);
        check.due("the last year", x.lostIn(2000), 1 + 2 + 6);
        check.due("until the last year", x.until(6), 2000);
        check.due("turned in the last year", x.turned(2000), 2);
        x.leave(0);
        check.due("without place 0", x.lostIn(2000), 6);
        x.choose(1, 3, 0, 0, 0);
        check.due("BORROWED moves not", x.lostIn(100), 23 + 2);
        x.note(1, Check.bits("b"));
        check.due("NOTES as they are", x.lostIn(100), 20 + 2);
        check.due("lost() knows no year", x.lost(), 21);

        HeronBook y = heron();
        y.moves(0, 0, 0);
        check.due("moved in year 0", y.lostIn(0), 3 + 1 + 3);
        check.due("turned(0) is 0", y.turned(0), 0);
        check.due("until(6) is year 0", y.until(6), 0);
        HeronBook z = heron();
        z.moves(0, 30, Check.bits("abcd"));
        z.moves(1, 20, Check.bits("bc"));
        check.due("years out of their order: until(1)", z.until(1), 20);
        check.due("until(3)", z.until(3), 30);
        HeronBook early = heron();
        early.moves(0, 1, 0);
        check.due("until the year 1", early.until(1), 1);
        HeronBook even = heron();
        even.moves(0, 7, Check.bits("b"));
        even.moves(1, 7, Check.bits("a"));
        check.due("LOST of two changed", even.turned(7), 2);
    }

    public static void main(String[] args) {
        promise33();
        promises34To36();
        check.close("YearsTest");
    }
}
