/** Promises 1 to 8: a new object, feed, end, book, fault, told, traits, notion. */
public final class BookTest {
    private static final Check check = new Check();

    private static void fault(String text, int kind, int place) {
        HeronBook x = new HeronBook();
        check.due("book of " + text, Check.read(x, text), HeronBook.NONE);
        check.due("KIND in " + text, x.fault(0), kind);
        check.due("PLACE in " + text, x.fault(1), place);
        check.due("the tape behind " + text, x.count(5), 0);
    }

    private static void sound(String text, int clauses) {
        HeronBook x = new HeronBook();
        check.due("book of " + text, Check.read(x, text), clauses);
        check.due("KIND in " + text, x.fault(0), 0);
        check.due("PLACE in " + text, x.fault(1), HeronBook.NONE);
        check.due("the tape behind " + text, x.count(5), 0);
    }

    private static String many(String before, int n, String behind) {
        StringBuilder text = new StringBuilder();
        for (int i = 0; i < n; i++) {
            text.append(before).append((char) ('a' + i)).append(behind);
        }
        return text.toString();
    }

    private static void promise1() {
        HeronBook x = new HeronBook();
        for (int what = 0; what < 5; what++) {
            check.due("told(" + what + ") of a new one", x.told(what), 0);
        }
        int[] settings = {2, 1, 5, 1, 6};
        for (int i = 0; i < 5; i++) {
            check.due("told(" + (5 + i) + ") of a new one", x.told(5 + i), settings[i]);
        }
        for (int t = 0; t < 24; t++) {
            check.due("weight " + t + " of a new one", x.told(20 + t), 1);
        }
        for (int what = 0; what < 6; what++) {
            check.due("count(" + what + ") of a new one", x.count(what), 0);
        }
        check.due("KIND ahead of any", x.fault(0), 0);
        check.due("PLACE ahead of any", x.fault(1), HeronBook.NONE);
    }

    private static void promises2And3() {
        HeronBook x = new HeronBook();
        for (int i = 1; i <= 60; i++) {
            check.due("feed", x.feed(i, -i, 0, Integer.MIN_VALUE, -1), 20 * i);
        }
        check.due("feed over 1200", x.feed(0, 0, 0, 0, 0), HeronBook.FULL);
        check.due("bytes when full", x.count(5), 1200);
        check.due("end(1201)", x.end(1201), HeronBook.NONE);
        check.due("end(1200)", x.end(1200), 1200);
        check.due("end(-1)", x.end(-1), HeronBook.NONE);
        check.due("bytes are as they were", x.count(5), 1200);
        check.due("end(1181)", x.end(1181), 1181);
        check.due("feed to 1201", x.feed(0, 0, 0, 0, 0), HeronBook.FULL);
        check.due("end(1180)", x.end(1180), 1180);
        check.due("feed to 1200", x.feed(0, 0, 0, 0, 0), 1200);
        check.due("end(MIN)", x.end(Integer.MIN_VALUE), HeronBook.NONE);
        check.due("end(MAX)", x.end(Integer.MAX_VALUE), HeronBook.NONE);
        check.due("end(0)", x.end(0), 0);
        check.due("end(0) again", x.end(0), 0);
        check.due("end(1) of none", x.end(1), HeronBook.NONE);

        // a text in two pieces, cut in the middle: bytes are in their order
        Check.type(x, "notion heron abcTOO MUCH");
        x.end(16);
        Check.add(x, "d;place heron c;");
        check.due("book in pieces", x.book(), 2);
        check.due("its traits", x.traits(0, 0), 15);
        check.due("its place", x.traits(2, 0), 4);
        // what was cut off is not read, though it stood right behind
        Check.type(x, "lack 12;");
        x.end(6);
        check.due("a cut number", x.book(), HeronBook.NONE);
        check.due("its KIND", x.fault(0), 1);
        check.due("its PLACE", x.fault(1), 6);
        Check.type(x, "notion ab cd;");
        x.end(8);
        x.book();
        check.due("a cut word", x.fault(1), 8);
        // a full tape can be read
        StringBuilder full = new StringBuilder("lack 3;");
        while (full.length() < 1200) {
            full.append(full.length() % 2 == 0 ? ' ' : '\n');
        }
        check.due("a full tape", Check.read(x, full.toString()), 1);
        check.due("its lack", x.told(5), 3);
    }

    private static void promise4() {
        HeronBook x = Check.of("notion a ab;word w a;word v b;place a a;place a b;tie 0 1 a;hearer h a a;lack 4;notes 1;weight b 3;");
        x.choose(0, 0, 0, 0, 0);
        x.note(0, 1);
        x.keep(2);
        x.gives(1, 0, 0, 7);
        x.moves(0, 3, 0);
        x.heard(5, 0, 0, 1);
        x.right(6, 0, 0);
        check.due("a book with a FAULT", Check.read(x, "notion b c;notion b d;"), HeronBook.NONE);
        check.due("its KIND", x.fault(0), 3);
        check.due("the BOOK stays: notions", x.told(0), 1);
        check.due("the BOOK stays: traits", x.traits(0, 0), 3);
        check.due("the BOOK stays: lack", x.told(5), 4);
        check.due("the BOOK stays: weight", x.told(21), 3);
        check.due("the CHOICE stays", x.choice(0, 1), 0);
        check.due("the NOTE stays", x.bears(0, 4), 1);
        check.due("the MOVE stays", x.count(2), 1);
        check.due("HEARD stays", x.count(3), 1);
        check.due("RIGHT stays", x.count(4), 1);
        check.due("the STEP stays", x.heard(5, 0, 0, 1), HeronBook.RANGE);
        check.due("what FOUR give stays", x.gives(1, 0, 0, 7), 7);
        check.due("the RENDERING stays", x.take(2), 0);

        check.due("another book", Check.read(x, "notion a ab;word w a;place a a;hearer h a a;"), 4);
        check.due("KIND is 0 again", x.fault(0), 0);
        check.due("PLACE is NONE again", x.fault(1), HeronBook.NONE);
        check.due("no CHOICE", x.choice(0, 0), HeronBook.NONE);
        check.due("CHOICES", x.count(0), 0);
        check.due("no NOTE", x.count(1), 0);
        check.due("no MOVE", x.count(2), 0);
        check.due("no HEARD", x.count(3), 0);
        check.due("no RIGHT", x.count(4), 0);
        check.due("no RENDERING", x.take(2), HeronBook.STATE);
        check.due("FOUR give nothing", x.gives(1, 0, 0, 0), 0);
        x.choose(0, 0, 0, 0, 0);
        check.due("a move of an early year", x.moves(0, 0, 0), 1);
        check.due("the STEP is 0", x.heard(0, 0, 0, 1), 0);
        check.due("never put RIGHT", x.right(0, 0, 0), 1);
        check.due("lack as not told", x.told(5), 2);
        check.due("notes as not told", x.told(9), 6);
        check.due("weight as not told", x.told(21), 1);
        check.due("no tie", x.told(3), 0);

        check.due("an empty tape is a BOOK", x.book(), 0);
        check.due("its notions", x.told(0), 0);
        check.due("its hearers", x.told(4), 0);
        check.due("its places", x.notion(0), HeronBook.RANGE);
    }

    private static void soundTexts() {
        sound("", 0);
        sound(" \n \n", 0);
        sound("notion notion word;", 1);
        sound("\nnotion\n\nlack   -\n ; place lack-;", 2);
        sound("notion a abc;place a abc;place a-;tie0 1b;tie 1 0 -;", 5);
        sound("notion abcdefghijklmnopqrstuvwx abcdefghijklmnopqrstuvwx;", 1);
        sound("notion yz aaabbb;word yz x;hearer yz - -;", 3);
        sound("weight - 3;weight a 1;weight a 0;weight a 009;", 4);
        sound("lack 1;add 0;borrow 0;long 0;notes 0;", 5);
        sound("lack 009;add 9;borrow 099;long 9;notes 99;", 5);
        sound(many("notion ", 12, " -;"), 12);
        sound(many("word ", 20, " -;"), 20);
        sound(many("hearer ", 6, " - -;"), 6);
        sound("notion a -;" + many("place ", 1, " -;").repeat(24), 25);
        sound("notion a -;place a -;place a -;" + "tie 0 1 -;".repeat(20), 23);
    }

    private static void syntaxFaults() {
        fault("n", 1, 0);
        fault("  heron a;", 1, 2);
        fault(";", 1, 0);
        fault("motion a a;", 1, 0);
        fault("notiom a a;", 1, 0);
        fault("notions a a;", 1, 0);
        fault("dack 1;", 1, 0);
        fault("-", 1, 0);
        fault("7", 1, 0);
        fault("Notion a a;", 1, 0);
        fault("notion", 1, 6);
        fault("notion  \n", 1, 9);
        fault("notion 1 a;", 1, 7);
        fault("notion - a;", 1, 7);
        fault("notion ; a;", 1, 7);
        fault("notion a", 1, 8);
        fault("notion a 1;", 1, 9);
        fault("notion a ;", 1, 9);
        fault("notion a b", 1, 10);
        fault("notion a b ", 1, 11);
        fault("notion a b c;", 1, 11);
        fault("notion a b-;", 1, 10);
        fault("notion a b;;", 1, 11);
        fault("notion a b;lack 1", 1, 17);
        fault("notion a b.", 1, 10);
        fault("notion a b\t;", 1, 10);
        fault("notion a b\u00e9;", 1, 10);
        fault("notion a b\0;", 1, 10);
        fault("notion\u0080a b;", 1, 6);
        fault("notion abcdefghijklmnopqrstuvwxy a;", 1, 7);
        fault("notion a aaaaaaaaaaaaaaaaaaaaaaaaa;", 1, 9);
        fault("notionabcdefghijklmnopqrst a;", 1, 0);
        fault("lack 0001;", 1, 5);
        fault("lack -;", 1, 5);
        fault("lack a;", 1, 5);
        fault("lack;", 1, 4);
        fault("lack 1 2;", 1, 7);
        fault("weight a;", 1, 8);
        fault("weight 1 a;", 1, 7);
        fault("hearer a b;", 1, 10);
        fault("hearer a b c d;", 1, 13);
        fault("place;", 1, 5);
        fault("place 1;", 1, 6);
        fault("tie a;", 1, 4);
        fault("notion a -;place a -;place a -;tie 0;", 1, 36);
        fault("notion a -;place a -;place a -;tie 0 1;", 1, 38);
        fault("notion a -;place a -;place a -;tie 0 - a;", 1, 37);
        fault("notion a -;place a -;place a -;tie 0 1 1;", 1, 39);
    }

    private static void otherFaults() {
        fault("notion a y;", 2, 9);
        fault("notion a abz", 2, 9);
        fault("word a z;", 2, 7);
        fault("hearer a y a;", 2, 9);
        fault("hearer a a z;", 2, 11);
        fault("weight y 1;", 2, 7);
        fault("weight a 10;", 2, 9);
        fault("weight a 999;", 2, 9);
        fault("lack 0;", 2, 5);
        fault("lack 10;", 2, 5);
        fault("add 10;", 2, 4);
        fault("borrow 100;", 2, 7);
        fault("long 10;", 2, 5);
        fault("notes 100;", 2, 6);
        fault("tie 0 1 a;", 2, 4);
        fault("notion a -;place a -;tie 0 1 a;", 2, 27);
        fault("notion a -;place a -;tie 1 0 a;", 2, 25);
        fault("notion a -;place a -;place a -;tie 0 1 y;", 2, 39);
        fault("notion a a;place a y;", 2, 19);
        fault("notion a a;place a bz;", 2, 19);

        fault("notion ab -;notion ba -;notion ab y;", 3, 31);
        fault("word a -;word a", 3, 14);
        fault("hearer a - -;hearer b - -;hearer b - -;", 3, 33);
        fault("lack 1;add 1;lack 2;", 3, 13);
        fault("lack 1;lack;", 3, 7);
        fault("add 1;add 1;", 3, 6);
        fault("borrow 1;borrow 1;", 3, 9);
        fault("long 1;long 1;", 3, 7);
        fault("notes 1;notes 1;", 3, 8);
        fault("notion a -;place a -;place a -;tie 1 1 a;", 3, 37);
        fault("notion a -;place a -;place a -;tie 001 1 a;", 3, 39);

        fault(many("notion ", 13, " -;"), 4, 132);
        fault(many("notion ", 12, " -;") + "notion", 4, 132);
        fault(many("word ", 21, " -;"), 4, 180);
        fault(many("hearer ", 7, " - -;"), 4, 78);
        fault("notion a -;" + "place a -;".repeat(24) + " place b -;", 4, 252);
        fault("notion a -;place a -;place a -;" + "tie 0 1 -;".repeat(21), 4, 231);

        fault("place a y;", 5, 6);
        fault("word a -;hearer a - -;place a -;", 5, 28);
        fault("notion ab -;place a -;", 5, 18);
        fault("place a -;notion a -;", 5, 6);
        fault("notion n a;place n ba;", 6, 19);
        fault("notion n -;place n a", 6, 19);
        fault("notion m ab;notion n a;place m ab;place n ab", 6, 42);
        // the first one that is come to
        fault("notion a b;lack 0;notion a b;", 2, 16);
        fault("lack 0 notion", 2, 5);
    }

    private static void promise5() {
        HeronBook x = new HeronBook();
        Check.read(x, "lack 0;");
        check.due("fault(0)", x.fault(0), 2);
        check.due("fault(1)", x.fault(1), 5);
        check.due("fault(2)", x.fault(2), HeronBook.NONE);
        check.due("fault(-1)", x.fault(-1), HeronBook.NONE);
        Check.read(x, "lack 1;");
        check.due("fault(0) of the latest", x.fault(0), 0);
        check.due("fault(1) of the latest", x.fault(1), HeronBook.NONE);
    }

    private static void promises6To8() {
        HeronBook x = Check.of("notion a ab;notion b cx;word w -;word v aab;word u x;place b x;place a ba;place b -;"
            + "tie 0 2 cd;tie 2 1 -;hearer h ab xw;hearer g - a;hearer f x -;hearer e a a;"
            + "lack 3;add 4;borrow 77;long 8;notes 65;weight acx 9;weight c 0;weight x 5;");
        int[] told = {2, 3, 3, 2, 4, 3, 4, 77, 8, 65};
        for (int what = 0; what < 10; what++) {
            check.due("told(" + what + ")", x.told(what), told[what]);
        }
        for (int what : new int[] {-1, 10, 19, 44, Integer.MIN_VALUE, Integer.MAX_VALUE}) {
            check.due("told(" + what + ")", x.told(what), HeronBook.NONE);
        }
        check.due("weight of a", x.told(20), 9);
        check.due("weight of b", x.told(21), 1);
        check.due("weight of c", x.told(22), 0);
        check.due("weight of x", x.told(43), 5);
        int ax = 1 << 23;
        int[][] traits = {{3, 4 | ax}, {0, 3, ax}, {ax, 3, 0}, {12, 0}, {3, 0, ax, 1}, {ax | 1 << 22, 1, 0, 1}};
        for (int kind = 0; kind < traits.length; kind++) {
            for (int i = 0; i < traits[kind].length; i++) {
                check.due("traits(" + kind + ", " + i + ")", x.traits(kind, i), traits[kind][i]);
            }
            check.due("traits(" + kind + ", too many)", x.traits(kind, traits[kind].length), HeronBook.RANGE);
            check.due("traits(" + kind + ", -1)", x.traits(kind, -1), HeronBook.RANGE);
            check.due("traits(" + kind + ", MIN)", x.traits(kind, Integer.MIN_VALUE), HeronBook.RANGE);
        }
        check.due("traits(-1, 0)", x.traits(-1, 0), HeronBook.RANGE);
        check.due("traits(6, 0)", x.traits(6, 0), HeronBook.RANGE);
        check.due("notion(0)", x.notion(0), 1);
        check.due("notion(1)", x.notion(1), 0);
        check.due("notion(2)", x.notion(2), 1);
        check.due("notion(3)", x.notion(3), HeronBook.RANGE);
        check.due("notion(-1)", x.notion(-1), HeronBook.RANGE);
    }

    public static void main(String[] args) {
        promise1();
        promises2And3();
        promise4();
        soundTexts();
        syntaxFaults();
        otherFaults();
        promise5();
        promises6To8();
        check.close("BookTest");
    }
}
