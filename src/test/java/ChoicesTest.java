/** Promises 9 to 22: choose, leave, choice, bears, note, lost, clashes, bound, best, exchange, one, price, swap, mend. */
public final class ChoicesTest {
    private static final Check check = new Check();
    private static final int NONE = HeronBook.NONE;
    private static final int RANGE = HeronBook.RANGE;
    private static final int MIN = Integer.MIN_VALUE;
    private static final int MAX = Integer.MAX_VALUE;

    /** Weights: a 1, b 2, c 3, d 4, e 0; lack 3, add 2, borrow 50, long 7. */
    private static HeronBook heron() {
        return Check.of("notion n abc;notion m cd;word w a;word v bd;word u abc;word t -;"
            + "place n ab;place m cd;place n c;place n -;lack 3;add 2;borrow 50;long 7;notes 4;"
            + "weight b 2;weight c 3;weight d 4;weight e 0;");
    }

    private static void choiceIs(HeronBook x, int p, int kind, int a, int b, int c) {
        check.due("kind", x.choice(p, 0), kind);
        check.due("first word", x.choice(p, 1), a);
        check.due("second word", x.choice(p, 2), b);
        check.due("third word", x.choice(p, 3), c);
    }

    private static void promise9() {
        HeronBook x = heron();
        check.due("PLAIN w lacks b", x.choose(0, 0, 0, 99, 99), 6);
        choiceIs(x, 0, 0, 0, NONE, NONE);
        check.due("PLAIN v lacks a, adds d", x.choose(0, 0, 1, -1, -1), 3 + 8);
        check.due("PLAIN t lacks ab", x.choose(0, 0, 3, 0, 0), 9);
        check.due("PLAIN u", x.choose(0, 0, 2, 0, 0), 0);
        check.due("MADE w, v", x.choose(0, 1, 0, 1, MAX), 8 + 7);
        choiceIs(x, 0, 1, 0, 1, NONE);
        check.due("MADE v, w", x.choose(0, 1, 1, 0, 0), 8 + 7);
        choiceIs(x, 0, 1, 1, 0, NONE);
        check.due("TOLD t, t", x.choose(0, 2, 3, 3, NONE), 9 + 7);
        choiceIs(x, 0, 2, 3, 3, NONE);
        check.due("TOLD w, w, w", x.choose(0, 2, 0, 0, 0), 6 + 14);
        choiceIs(x, 0, 2, 0, 0, 0);
        check.due("TOLD w, t, v", x.choose(0, 2, 0, 3, 1), 8 + 14);
        choiceIs(x, 0, 2, 0, 3, 1);
        check.due("BORROWED", x.choose(0, 3, MIN, MAX, 77), 9 + 50);
        choiceIs(x, 0, 3, NONE, NONE, NONE);
        check.due("BORROWED where nothing bears", x.choose(3, 3, 0, 0, 0), 50);

        check.due("no place 4", x.choose(4, 0, 0, 0, 0), RANGE);
        check.due("no place -1", x.choose(-1, 3, 0, 0, 0), RANGE);
        check.due("no place MIN", x.choose(MIN, 3, 0, 0, 0), RANGE);
        check.due("no kind 4", x.choose(0, 4, 0, 1, 2), RANGE);
        check.due("no kind -1", x.choose(0, -1, 0, 1, 2), RANGE);
        check.due("no word 4", x.choose(0, 0, 4, 0, 0), RANGE);
        check.due("no word -1", x.choose(0, 0, -1, 0, 0), RANGE);
        check.due("MADE without its second", x.choose(0, 1, 0, 4, 0), RANGE);
        check.due("MADE without its first", x.choose(0, 1, -1, 0, 0), RANGE);
        check.due("MADE of alike ones", x.choose(0, 1, 2, 2, 0), RANGE);
        check.due("TOLD without its second", x.choose(0, 2, 0, NONE, NONE), RANGE);
        check.due("TOLD without its first", x.choose(0, 2, 4, 0, NONE), RANGE);
        check.due("TOLD with a third that is none", x.choose(0, 2, 0, 1, 4), RANGE);
        check.due("TOLD with a third of -2", x.choose(0, 2, 0, 1, -2), RANGE);
        choiceIs(x, 0, 3, NONE, NONE, NONE);
        HeronBook bare = Check.of("notion n a;place n a;");
        check.due("no words at all", bare.choose(0, 0, 0, 0, 0), RANGE);
        check.due("BORROWED without words", bare.choose(0, 3, 0, 0, 0), 7);
    }

    private static void promises10And11() {
        HeronBook x = heron();
        check.due("leave without CHOICE", x.leave(0), 0);
        choiceIs(x, 0, NONE, NONE, NONE, NONE);
        x.choose(0, 2, 0, 1, 2);
        x.note(0, 1);
        check.due("leave", x.leave(0), 1);
        choiceIs(x, 0, NONE, NONE, NONE, NONE);
        check.due("its NOTE stays", x.bears(0, 4), 1);
        check.due("leave again", x.leave(0), 0);
        check.due("leave(4)", x.leave(4), RANGE);
        check.due("leave(-1)", x.leave(-1), RANGE);
        check.due("choice(4, 0)", x.choice(4, 0), RANGE);
        check.due("choice(-1, 0)", x.choice(-1, 0), RANGE);
        check.due("choice(0, 4) without CHOICE", x.choice(0, 4), RANGE);
        check.due("choice(0, -1) without CHOICE", x.choice(0, -1), RANGE);
        check.due("choice(0, MIN)", x.choice(0, MIN), RANGE);
    }

    private static void promise12() {
        HeronBook x = heron();
        x.note(0, Check.bits("bc"));
        for (int what = 0; what < 4; what++) {
            check.due("bears without CHOICE", x.bears(0, what), NONE);
        }
        check.due("NOTE without CHOICE", x.bears(0, 4), Check.bits("bc"));
        x.choose(0, 1, 1, 3, 0);
        check.due("TRAITS of MADE v, t", x.bears(0, 0), Check.bits("bd"));
        check.due("LACKS", x.bears(0, 1), Check.bits("a"));
        check.due("ADDS", x.bears(0, 2), Check.bits("d"));
        check.due("LOST", x.bears(0, 3), 3 + 8 + 7);
        x.choose(0, 2, 0, 0, 1);
        check.due("TRAITS of TOLD w, w, v", x.bears(0, 0), Check.bits("abd"));
        x.choose(0, 3, 0, 0, 0);
        check.due("TRAITS of BORROWED", x.bears(0, 0), 0);
        check.due("LACKS of BORROWED, a NOTE or not", x.bears(0, 1), Check.bits("ab"));
        check.due("ADDS of BORROWED", x.bears(0, 2), 0);
        check.due("LOST of BORROWED, b being told", x.bears(0, 3), 3 + 50);
        x.choose(2, 0, 2, 0, 0);
        check.due("what doesn't bear here is no ADD", x.bears(2, 2), 0);
        check.due("bears(0, 5)", x.bears(0, 5), RANGE);
        check.due("bears(0, -1)", x.bears(0, -1), RANGE);
        check.due("bears(4, 4)", x.bears(4, 4), RANGE);
        check.due("bears(-1, 0)", x.bears(-1, 0), RANGE);
    }

    private static void promise13() {
        HeronBook x = heron();
        check.due("note", x.note(0, Check.bits("abc")), 3);
        check.due("another TRAIT of the NOTION, bearing or not", x.note(1, Check.bits("c")), 4);
        check.due("a fifth", x.note(2, 1), HeronBook.FULL);
        check.due("nothing was told", x.bears(2, 4), 0);
        check.due("more in the same one", x.note(1, Check.bits("cd")), HeronBook.FULL);
        check.due("it is as it was", x.bears(1, 4), Check.bits("c"));
        check.due("another one instead", x.note(1, Check.bits("d")), 4);
        check.due("it is another one", x.bears(1, 4), Check.bits("d"));
        check.due("less", x.note(0, 0), 1);
        check.due("count", x.count(1), 1);
        check.due("TRAITS that the NOTION hasn't", x.note(0, Check.bits("d")), RANGE);
        check.due("the highest bit", x.note(0, MIN), RANGE);
        check.due("bit 24", x.note(0, 1 << 24), RANGE);
        check.due("RANGE goes ahead of FULL", x.note(0, -1), RANGE);
        check.due("note(4)", x.note(4, 0), RANGE);
        check.due("note(-1)", x.note(-1, 0), RANGE);
        HeronBook none = Check.of("notion n a;place n a;notes 0;");
        check.due("no NOTES at all", none.note(0, 1), HeronBook.FULL);
        check.due("an empty one", none.note(0, 0), 0);
    }

    private static void promise14() {
        HeronBook x = heron();
        check.due("nothing lost without CHOICES", x.lost(), 0);
        x.choose(0, 0, 0, 0, 0);
        x.choose(1, 0, 1, 0, 0);
        check.due("LOST: b at 0; c at 1, b besides", x.lost(), 6 + 9 + 4);
        x.choose(3, 3, 0, 0, 0);
        check.due("and 50", x.lost(), 69);
        x.note(1, Check.bits("c"));
        check.due("c told at 1", x.lost(), 60);
        x.note(2, Check.bits("b"));
        check.due("b told at 2 is none of 0", x.lost(), 60);
        x.leave(0);
        check.due("place 0 left", x.lost(), 54);
    }

    private static void promise15() {
        HeronBook x = Check.of("notion n abc;notion m ab;word w a;word v ab;word u b;place n -;place n -;place m -;place m -;"
            + "tie 0 1 a;tie 1 0 bc;tie 1 2 ab;tie 0 1 -;tie 2 3 c;");
        check.due("none without CHOICES", x.clashes(), 0);
        x.choose(0, 0, 0, 0, 0);
        check.due("none with one CHOICE", x.clashes(), 0);
        x.choose(1, 0, 1, 0, 0);
        check.due("a both; b or c not both; no TRAIT at all", x.clashes(), 0b1010);
        x.choose(2, 0, 2, 0, 0);
        check.due("b both", x.clashes(), 0b1010);
        x.choose(2, 3, 0, 0, 0);
        check.due("one BORROWED", x.clashes(), 0b1110);
        x.choose(1, 3, 0, 0, 0);
        check.due("both BORROWED for unlike NOTIONS", x.clashes(), 0b1111);
        x.choose(3, 3, 0, 0, 0);
        check.due("both BORROWED for one NOTION", x.clashes(), 0b1111);
        x.choose(3, 0, 1, 0, 0);
        check.due("one of them BORROWED", x.clashes(), 0b11111);
        x.choose(0, 3, 0, 0, 0);
        check.due("0 and 1 BORROWED for one", x.clashes(), 0b10100);
        x.choose(2, 1, 0, 2, 0);
        x.choose(1, 2, 0, 2, -1);
        check.due("TRAITS of all their words", x.clashes(), 0b11011);
    }

    private static void promise16() {
        HeronBook x = Check.of("notion n -;" + "place n -;".repeat(8) + "tie 5 3 -;tie 2 1 a;tie 3 1 b;tie 6 7 -;");
        int chain = 1 << 1 | 1 << 2 | 1 << 3 | 1 << 5;
        int[] due = {1, chain, chain, chain, 1 << 4, chain, 3 << 6, 3 << 6};
        for (int p = 0; p < 8; p++) {
            check.due("bound(" + p + ")", x.bound(p), due[p]);
        }
        check.due("bound(8)", x.bound(8), RANGE);
        check.due("bound(-1)", x.bound(-1), RANGE);
        StringBuilder row = new StringBuilder("notion n -;" + "place n -;".repeat(24));
        for (int p = 20; p > 0; p--) {
            row.append("tie ").append(p).append(' ').append(p - 1).append(" -;");
        }
        HeronBook y = Check.of(row.toString());
        check.due("a long row from its head", y.bound(0), (1 << 21) - 1);
        check.due("a long row from its end", y.bound(20), (1 << 21) - 1);
        check.due("outside", y.bound(23), 1 << 23);
    }

    private static void promise17() {
        HeronBook x = Check.of("notion n ab;word w a;word v b;word u ab;word t ab;place n a;place n b;place n ab;tie 0 1 a;tie 1 2 b;");
        check.due("each by itself: w for a", x.best(1), 0);
        choiceIs(x, 0, 0, 0, NONE, NONE);
        check.due("tied to w by a: u, not v", x.best(2), 0);
        choiceIs(x, 1, 0, 2, NONE, NONE);
        x.leave(0);
        check.due("no longer tied", x.best(2), 0);
        choiceIs(x, 1, 0, 1, NONE, NONE);
        check.due("three at once, the least row", x.best(7), 0);
        choiceIs(x, 0, 0, 0, NONE, NONE);
        choiceIs(x, 1, 0, 2, NONE, NONE);
        choiceIs(x, 2, 0, 2, NONE, NONE);
        x.choose(2, 2, 0, 0, 0);
        check.due("others as they are; a is told in three words", x.best(1), 4);
        check.due("nothing goes with that but v at 1 no more", x.best(2), NONE);
        choiceIs(x, 1, 0, 2, NONE, NONE);
        check.due("0 and 1 can't help it", x.best(3), NONE);
        choiceIs(x, 0, 0, 0, NONE, NONE);
        check.due("other clashes don't matter", x.clashes(), 2);

        check.due("no places", x.best(0), RANGE);
        check.due("a place that is none", x.best(8), RANGE);
        check.due("one that is, one that is none", x.best(9), RANGE);
        check.due("below 0", x.best(-1), RANGE);
        check.due("MIN", x.best(MIN), RANGE);

        HeronBook y = Check.of("notion n a;notion m a;word w b;place n a;place n a;place m a;place n a;place n a;"
            + "tie 0 1 a;tie 1 2 b;borrow 1;lack 5;");
        check.due("both BORROWED for one", y.best(3), 12);
        choiceIs(y, 0, 3, NONE, NONE, NONE);
        choiceIs(y, 1, 3, NONE, NONE, NONE);
        check.due("five places", y.best(31), RANGE);
        check.due("four places that can't be", y.best(15), NONE);
        check.due("nothing was put", y.count(0), 2);
        check.due("four places", y.best(1 << 3 | 1 << 4 | 1 << 1 | 1), 24);
        HeronBook z = Check.of("notion n a;word w -;place n -;place n -;borrow 0;");
        check.due("a word goes ahead of BORROWED", z.best(3), 0);
        choiceIs(z, 0, 0, 0, NONE, NONE);
        HeronBook bare = Check.of("notion n a;place n a;place n -;borrow 9;");
        bare.note(0, 1);
        check.due("without words; NOTES as they are", bare.best(1), 9);
        choiceIs(bare, 0, 3, NONE, NONE, NONE);
        HeronBook blank = Check.of("notion n a;place n -;place n -;word w -;word v a;tie 0 1 -;");
        check.due("a TIE without TRAITS: both BORROWED", blank.best(3), 10);
        HeronBook last = Check.of("notion n a;word w -;" + "place n a;".repeat(24));
        check.due("the last place", last.best(1 << 23), 2);
    }

    private static void promise18() {
        HeronBook x = Check.of("notion n ab;word w a;word v b;word u ab;place n a;place n b;place n ab;tie 0 1 a;");
        check.due("no CHOICE, nothing to exchange", x.exchange(), 0);
        check.due("none is made", x.count(0), 0);
        x.choose(0, 3, 0, 0, 0);
        x.choose(1, 1, 0, 2, 0);
        check.due("0: w. 1: u", x.exchange(), 0);
        choiceIs(x, 0, 0, 0, NONE, NONE);
        choiceIs(x, 1, 0, 2, NONE, NONE);
        choiceIs(x, 2, NONE, NONE, NONE, NONE);
        // an exchange that is no better is none
        HeronBook y = Check.of("notion n a;word w -;word v -;place n -;borrow 0;");
        y.choose(0, 0, 1, 0, 0);
        check.due("alike", y.exchange(), 0);
        choiceIs(y, 0, 0, 1, NONE, NONE);
        // BORROWED last, and 100 for each clash
        HeronBook z = Check.of("notion n a;word w -;word v a;place n -;place n a;tie 0 1 a;tie 1 0 a;borrow 99;add 9;lack 9;weight a 9;");
        z.choose(0, 3, 0, 0, 0);
        z.choose(1, 0, 1, 0, 0);
        check.due("two clashes cost 200", z.exchange(), 0);
        choiceIs(z, 0, 0, 1, NONE, NONE);
        z.choose(0, 3, 0, 0, 0);
        z.choose(1, 3, 0, 0, 0);
        check.due("both BORROWED: each alone would clash", z.exchange(), 99 + 99 + 81);
        choiceIs(z, 0, 3, NONE, NONE, NONE);
        // a clash that costs 100 is borne where all else loses more
        HeronBook c = Check.of("notion n a;word w a;word v b;place n a;place n -;tie 0 1 b;lack 9;weight a 9;weight b 9;add 9;");
        c.choose(0, 3, 0, 0, 0);
        c.choose(1, 0, 1, 0, 0);
        check.due("the clash stays", c.exchange(), 0);
        check.due("it is one", c.clashes(), 1);
    }

    /** A row in which a place follows the one behind it, so that one more is put in each round. */
    private static void tenRounds() {
        StringBuilder text = new StringBuilder("notion n abc;word w a;word v bc;" + "place n b;".repeat(13) + "place n bc;");
        for (int p = 0; p < 13; p++) {
            text.append("tie ").append(p).append(' ').append(p + 1).append(" abc;");
        }
        HeronBook x = Check.of(text.append("lack 9;weight bc 9;").toString());
        for (int p = 0; p < 14; p++) {
            x.choose(p, 0, 0, 0, 0);
        }
        check.due("ten rounds leave four places", x.exchange(), 4 * 81);
        check.due("one tie clashes", x.clashes(), 1 << 3);
        check.due("ten more leave none", x.exchange(), 0);
        check.due("no tie clashes", x.clashes(), 0);
    }

    private static void promises19To21() {
        HeronBook x = heron();
        check.due("one for n: u", x.one(0), 2);
        check.due("its price", x.price(0), 0);
        check.due("one for m: u lacks d, adds ab; t lacks cd; v lacks c, adds b", x.one(1), 1);
        check.due("its price", x.price(1), 0);
        check.due("swap for n", x.swap(0), 2);
        check.due("swap for m", x.swap(1), NONE);
        check.due("one(2)", x.one(2), RANGE);
        check.due("one(-1)", x.one(-1), RANGE);
        check.due("price(2)", x.price(2), RANGE);
        check.due("price(-1)", x.price(-1), RANGE);
        check.due("swap(2)", x.swap(2), RANGE);
        check.due("swap(-1)", x.swap(-1), RANGE);

        HeronBook y = Check.of("notion n abc;notion m a;word w a;word v b;word u bc;place n a;place n b;place n b;place n c;lack 5;");
        check.due("u for b, b, c: it lacks a", y.one(0), 2);
        check.due("another one at each place loses nothing", y.price(0), 5);
        y.note(1, 2);
        y.note(2, 2);
        y.note(3, 4);
        check.due("with NOTES as they are: w", y.one(0), 0);
        check.due("its price then", y.price(0), 0);
        check.due("swap asks no NOTE", y.swap(0), NONE);
        check.due("a NOTION without PLACES: the least", y.one(1), 0);
        check.due("its price", y.price(1), 0);
        check.due("its swap", y.swap(1), 0);
        HeronBook bare = Check.of("notion n a;place n a;");
        check.due("one without words", bare.one(0), NONE);
        check.due("price without words", bare.price(0), NONE);
        check.due("swap without words", bare.swap(0), NONE);
        check.due("one(1) without words", bare.one(1), RANGE);
        check.due("price(1) without words", bare.price(1), RANGE);
        check.due("swap(1) without words", bare.swap(1), RANGE);
        HeronBook alike = Check.of("notion n ab;word w a;word v b;word u ab;word t ab;place n a;place n b;");
        check.due("of alike ones the least", alike.one(0), 2);
        check.due("of alike ones the least to swap", alike.swap(0), 2);
    }

    private static void promise22() {
        HeronBook x = heron();
        check.due("no CHOICE, no LACK", x.mend(99), 0);
        for (int p = 0; p < 4; p++) {
            x.choose(p, 3, 0, 0, 0);
        }
        check.due("mend(0)", x.mend(0), 0);
        check.due("one: d at 1", x.mend(1), 1);
        check.due("its NOTE", x.bears(1, 4), Check.bits("d"));
        check.due("two: c at 1, c at 2", x.mend(2), 2);
        check.due("NOTE at 1", x.bears(1, 4), Check.bits("cd"));
        check.due("NOTE at 2", x.bears(2, 4), Check.bits("c"));
        check.due("as notes allow: b at 0", x.mend(9), 1);
        check.due("NOTE at 0", x.bears(0, 4), Check.bits("b"));
        check.due("no more", x.mend(99), 0);
        check.due("in all", x.count(1), 4);
        check.due("mend(100)", x.mend(100), RANGE);
        check.due("mend(-1)", x.mend(-1), RANGE);
        HeronBook y = Check.of("notion n abcd;word w a;place n abd;place n dcb;notes 99;weight d 0;");
        y.choose(0, 0, 0, 0, 0);
        y.choose(1, 0, 0, 0, 0);
        y.note(1, Check.bits("a"));
        check.due("the least PLACE, then the least TRAIT; none of weight 0", y.mend(2), 2);
        check.due("b at 0", y.bears(0, 4), Check.bits("b"));
        check.due("b at 1, besides a", y.bears(1, 4), Check.bits("ab"));
        check.due("c alone is left", y.mend(99), 1);
        check.due("NOTE at 1", y.bears(1, 4), Check.bits("abc"));
    }

    public static void main(String[] args) {
        promise9();
        promises10And11();
        promise12();
        promise13();
        promise14();
        promise15();
        promise16();
        promise17();
        promise18();
        tenRounds();
        promises19To21();
        promise22();
        check.close("ChoicesTest");
    }
}
