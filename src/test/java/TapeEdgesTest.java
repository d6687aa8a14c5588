/** The edges that the document names of THE TAPE: promises 1 to 4, and what a byte is. */
public final class TapeEdgesTest {
    private static final Check check = new Check();
    private static final int NONE = HeronBook.NONE;
    private static final int FULL = HeronBook.FULL;
    private static final int BLANKS = 0x20202020;

    private static String filledTo(int length, String text) {
        return text + " ".repeat(length - text.length());
    }

    private static HeronBook withTape(String text) {
        HeronBook x = new HeronBook();
        Check.add(x, text);
        return x;
    }

    private static void atMost1200() {
        check.sentence("THE TAPE has at most 1200 bytes");
        HeronBook x = new HeronBook();
        for (int i = 1; i <= 60; i++) {
            check.due("feed " + i, x.feed(BLANKS, BLANKS, BLANKS, BLANKS, BLANKS), 20 * i);
        }
        check.due("feed 61", x.feed(BLANKS, BLANKS, BLANKS, BLANKS, BLANKS), FULL);
        check.due("bytes", x.count(5), 1200);
        check.due("1200 blanks are a text", x.book(), 0);

        check.sentence("all of 1200 bytes are read");
        HeronBook last = withTape(filledTo(1199, "lack 3") + ";");
        check.due("the last byte ends a clause", last.book(), 1);
        check.due("its lack", last.told(5), 3);
        HeronBook open = withTape(filledTo(1200, "lack 3"));
        check.due("without it", open.book(), NONE);
        check.due("KIND", open.fault(0), 1);
        check.due("PLACE: the text's length", open.fault(1), 1200);
        HeronBook wrong = withTape(filledTo(1199, "") + "?");
        check.due("a wrong last byte", wrong.book(), NONE);
        check.due("its PLACE", wrong.fault(1), 1199);
    }

    private static void fullWhenMore() {
        check.sentence("feed: FULL when there would be more than 1200");
        HeronBook inside = withTape(filledTo(1180, "add 9;"));
        check.due("from 1180", inside.feed(BLANKS, BLANKS, BLANKS, BLANKS, BLANKS), 1200);
        for (int length : new int[] {1181, 1190, 1199, 1200}) {
            Twins.refused(check, "feed behind " + length, () -> withTape(filledTo(length, "add 9;")),
                x -> x.feed(-1, -1, -1, -1, -1), FULL);
        }
        HeronBook again = withTape(filledTo(1181, "add 9;"));
        again.feed(-1, -1, -1, -1, -1);
        check.due("no byte of it came", again.end(1182), NONE);
        check.due("room is made", again.end(1180), 1180);
        check.due("and taken", again.feed(BLANKS, BLANKS, BLANKS, BLANKS, 0x6c6f6e67), 1200);
        check.due("the text", again.book(), NONE);
        check.due("its PLACE: behind long", again.fault(1), 1200);

        check.sentence("feed on a rich object when it is full");
        Twins.refused(check, "feed", () -> {
            HeronBook x = Twins.rich();
            Check.add(x, " ".repeat(1174));
            return x;
        }, x -> x.feed(BLANKS, BLANKS, BLANKS, BLANKS, BLANKS), FULL);
    }

    private static void highestFirst() {
        check.sentence("feed: twenty bytes, the highest of each int first");
        for (int at = 0; at < 20; at++) {
            int[] ints = {BLANKS, BLANKS, BLANKS, BLANKS, BLANKS};
            ints[at / 4] |= 0xff << 24 - at % 4 * 8;
            HeronBook x = new HeronBook();
            check.due("feed", x.feed(ints[0], ints[1], ints[2], ints[3], ints[4]), 20);
            check.due("book with one wrong byte", x.book(), NONE);
            check.due("where it is", x.fault(1), at);
        }
        check.sentence("feed: bytes come behind THE TAPE");
        HeronBook x = withTape("lack ");
        check.due("behind five", x.feed(0x343b2020, BLANKS, BLANKS, BLANKS, BLANKS), 25);
        check.due("one clause of both", x.book(), 1);
        check.due("its lack", x.told(5), 4);

        check.sentence("a byte is 0 .. 255: no sign of 0 .. 127 stands for one above");
        for (char sign : new char[] {'l' + 128, ' ' + 128, '\n' + 128, ';' + 128, '3' + 128, '-' + 128}) {
            HeronBook y = new HeronBook();
            check.due("book", Check.read(y, "lack 3;" + sign), NONE);
            check.due("KIND of " + (int) sign, y.fault(0), 1);
            check.due("PLACE", y.fault(1), 7);
        }
    }

    private static void firstBytesAlone() {
        check.sentence("end: THE TAPE has its first n bytes alone: n");
        String text = "lack 7;add 8;";
        for (int n = 0; n <= 13; n++) {
            HeronBook x = withTape(text);
            check.due("end(" + n + ")", x.end(n), n);
            check.due("bytes", x.count(5), n);
            int clauses = n == 0 ? 0 : n == 7 ? 1 : n == 13 ? 2 : NONE;
            check.due("book of " + n, x.book(), clauses);
        }
        check.sentence("end: what comes then comes behind these");
        HeronBook x = withTape(text);
        x.end(5);
        Check.add(x, "2;");
        check.due("book", x.book(), 1);
        check.due("lack", x.told(5), 2);
        check.due("add isn't told", x.told(6), 1);

        check.sentence("end: NONE when it has not so many, or n is below 0");
        Twins.refused(check, "end(8) of 7", y -> y.end(8), NONE);
        Twins.refused(check, "end(MAX) of 7", y -> y.end(Integer.MAX_VALUE), NONE);
        Twins.refused(check, "end(-1)", y -> y.end(-1), NONE);
        Twins.refused(check, "end(MIN)", y -> y.end(Integer.MIN_VALUE), NONE);
        Twins.refused(check, "end(7) of 7", y -> y.end(7), 7);
        Twins.refused(check, "end(1) of none", HeronBook::new, y -> y.end(1), NONE);
        Twins.refused(check, "end(0) of none", HeronBook::new, y -> y.end(0), 0);
        Twins.refused(check, "end(1201) of 1200", () -> withTape(filledTo(1200, "long 0;")), y -> y.end(1201), NONE);
        Twins.refused(check, "end(1200) of 1200", () -> withTape(filledTo(1200, "long 0;")), y -> y.end(1200), 1200);
        HeronBook cut = withTape(text);
        cut.end(7);
        check.due("what was cut off doesn't come again", cut.end(13), NONE);
    }

    private static void emptied() {
        check.sentence("each call that reads THE TAPE empties it, whatever it tells");
        for (String text : new String[] {"", " ", "lack 3;", "lack 0;", "lack", "\0", filledTo(1200, ""), filledTo(1200, "x")}) {
            HeronBook x = withTape(text);
            x.book();
            check.due("bytes behind a text of " + text.length(), x.count(5), 0);
            check.due("end(1)", x.end(1), NONE);
            check.due("it is an empty text then", x.book(), 0);
            check.due("KIND", x.fault(0), 0);
            check.due("there is room again", x.feed(0, 0, 0, 0, 0), 20);
        }
        check.sentence("no other call reads or empties it");
        HeronBook x = Twins.rich();
        x.fault(0);
        x.take(0);
        x.best(1);
        x.exchange();
        x.mend(1);
        check.due("bytes", x.count(5), 7);
    }

    private static void aNewObject() {
        check.sentence("HeronBook(): an empty BOOK");
        HeronBook read = new HeronBook();
        check.due("an empty text", read.book(), 0);
        Twins.alike(check, "a new one, and one with an empty text", new HeronBook(), read);
        HeronBook rich = Twins.rich();
        rich.end(0);
        check.due("an empty text on a rich one", rich.book(), 0);
        Twins.alike(check, "a new one, and a rich one with an empty text", new HeronBook(), rich);
        HeronBook one = new HeronBook();
        Check.read(one, "notion n a;place n a;word w a;hearer h a a;");
        one.choose(0, 0, 0, 0, 0);
        check.due("another object is another one", new HeronBook().told(2), 0);
    }

    private static void untilThe512thCall() {
        check.sentence("An object is used for at most 512 calls");
        HeronBook x = new HeronBook();
        x.feed(0x6c61636b, 0x20373b20, BLANKS, BLANKS, BLANKS);
        x.book();
        for (int call = 3; call < 512; call++) {
            x.feed(0, 0, 0, 0, 0);
        }
        check.due("the 512th", x.told(5), 7);
    }

    public static void main(String[] args) {
        aNewObject();
        atMost1200();
        fullWhenMore();
        highestFirst();
        firstBytesAlone();
        emptied();
        untilThe512thCall();
        check.close("TapeEdgesTest");
    }
}
