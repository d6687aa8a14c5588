import java.util.function.ToIntFunction;

/** The edges that the document names of what is searched for: best, exchange, one, price, swap, mend, promises 17 to 22. */
public final class SearchEdgesTest {
    private static final Check check = new Check();
    private static final int NONE = HeronBook.NONE;
    private static final int RANGE = HeronBook.RANGE;
    private static final int MIN = Integer.MIN_VALUE;
    private static final int MAX = Integer.MAX_VALUE;
    private static final int[] NO_NOTIONS = {-1, 2, 3, 12, 32, -2, MIN, MAX};
    private static final String ALL = "abcdefghijklmnopqrstuvwx";

    private static void refused(String what, ToIntFunction<HeronBook> call, int want) {
        Twins.refused(check, what, call, want);
    }

    private static void plain(HeronBook x, int p, int word) {
        check.due("kind at " + p, x.choice(p, 0), word == NONE ? 3 : 0);
        check.due("word at " + p, x.choice(p, 1), word);
        check.due("no second word at " + p, x.choice(p, 2), NONE);
        check.due("no third word at " + p, x.choice(p, 3), NONE);
    }

    private static void bestSets() {
        check.sentence("best: RANGE: bits of PLACES that are none");
        for (int bit = 4; bit < 32; bit++) {
            int set = 1 << bit;
            refused("best of PLACE " + bit, x -> x.best(set), RANGE);
            refused("best of PLACE " + bit + " and 0", x -> x.best(set | 1), RANGE);
        }
        refused("best(-1)", x -> x.best(-1), RANGE);
        check.sentence("best: 1 .. 4 PLACES");
        refused("best of none", x -> x.best(0), RANGE);
        HeronBook x = Check.of("notion n a;word w a;" + "place n a;".repeat(6));
        check.due("five", x.best(0b11111), RANGE);
        check.due("five others", x.best(0b111101), RANGE);
        check.due("six", x.best(0b111111), RANGE);
        check.due("nothing was put", x.count(0), 0);
        check.due("four", x.best(0b111100), 0);
        check.due("four were put", x.count(0), 4);
        check.due("these four", x.choice(1, 0), NONE);
        check.due("one", x.best(0b10), 0);
        check.due("it was put", x.count(0), 5);
        check.sentence("best: PLACE 23");
        HeronBook last = Check.of("notion n a;word w a;" + "place n a;".repeat(24));
        check.due("it", last.best(1 << 23), 0);
        plain(last, 23, 0);
        check.due("PLACE 24", last.best(1 << 24), RANGE);
        check.due("four that lie apart", last.best(1 << 23 | 1 << 22 | 1 << 11 | 1), 0);
        check.due("CHOICES", last.count(0), 4);
        check.due("of an empty BOOK", new HeronBook().best(1), RANGE);
    }

    private static void bestNone() {
        check.sentence("best: NONE: there are none such");
        HeronBook made = tiedToTold();
        check.due("nothing goes with a TIE of no TRAIT to what isn't BORROWED", made.best(1), NONE);
        Twins.refused(check, "best of one", SearchEdgesTest::tiedToTold, x -> x.best(1), NONE);
        Twins.refused(check, "best of it and a free one", SearchEdgesTest::tiedToTold, x -> x.best(5), NONE);
        check.due("the free one", tiedToTold().best(4), 9);
        check.due("both ends of it", tiedToTold().best(3), 10 + 7);
        HeronBook unlike = Check.of("notion n a;notion m a;word w a;place n a;place m a;place n a;tie 0 1 b;");
        check.due("a TIE inside the set that always CLASHES", unlike.best(3), NONE);
        check.due("CHOICES", unlike.count(0), 0);
        check.due("one end of it, the other being without CHOICE", unlike.best(1), 0);
        check.due("the other end then", unlike.best(2), NONE);
        check.due("CHOICES", unlike.count(0), 1);
        check.due("both ends", unlike.best(3), NONE);
        plain(unlike, 0, 0);
        check.sentence("best: a TIE that CLASHES elsewhere doesn't matter");
        HeronBook else1 = Check.of("notion n a;word w a;place n a;place n a;place n a;tie 0 1 b;");
        else1.choose(0, 0, 0, 0, 0);
        else1.choose(1, 0, 0, 0, 0);
        check.due("it CLASHES", else1.clashes(), 1);
        check.due("another PLACE", else1.best(4), 0);
    }

    /** PLACES 0 and 1 tied by no TRAIT, 1 being TOLD; 2 is free. */
    private static HeronBook tiedToTold() {
        HeronBook x = Check.of("notion n a;word w b;place n -;place n -;place n a;tie 0 1 -;add 2;long 3;");
        x.choose(1, 2, 0, 0, NONE);
        x.choose(2, 3, 0, 0, 0);
        return x;
    }

    private static void bestRows() {
        check.sentence("best: PLAIN and BORROWED CHOICES alone");
        HeronBook x = Check.of("notion n ab;word w a;word v b;place n ab;long 0;");
        x.choose(0, 1, 0, 1, 0);
        check.due("MADE loses nothing", x.lost(), 0);
        check.due("best isn't MADE", x.best(1), 2);
        plain(x, 0, 0);
        check.sentence("best: then the least row, words by numbers, BORROWED behind them");
        HeronBook alike = Check.of("notion n a;word w -;word v -;place n -;place n -;borrow 0;tie 0 1 -;");
        alike.choose(0, 0, 1, 0, 0);
        check.due("one alone: the least word", Check.of("notion n a;word w -;word v -;place n -;borrow 0;").best(1), 0);
        check.due("both BORROWED, as the TIE asks", alike.best(3), 0);
        plain(alike, 0, NONE);
        plain(alike, 1, NONE);
        HeronBook first = Check.of("notion n ab;word w a;word v b;word u ab;place n -;place n -;tie 0 1 b;weight ab 0;borrow 0;");
        check.due("both lose nothing", first.best(3), 0);
        plain(first, 0, 1);
        plain(first, 1, 1);
        HeronBook back = Check.of("notion n ab;word w a;word v b;word u ab;place n -;place n b;tie 0 1 a;");
        check.due("the least row is not the least word at the last PLACE", back.best(3), 0);
        plain(back, 0, 0);
        plain(back, 1, 2);
        check.sentence("best: without words there is BORROWED alone");
        HeronBook bare = Check.of("notion n a;place n a;place n -;place n -;place n -;tie 0 1 -;");
        check.due("four", bare.best(15), 2 + 20);
        for (int p = 0; p < 4; p++) {
            plain(bare, p, NONE);
        }
        check.sentence("best: what is put is LOST of all then");
        HeronBook other = Check.of("notion n a;word w a;word v b;place n a;place n a;");
        other.choose(1, 0, 1, 0, 0);
        check.due("with what stays", other.best(1), 3);
        check.due("that stays", other.choice(1, 1), 1);
        check.due("NOTES stay", other.count(1), 0);
    }

    private static void bestOptions() {
        check.sentence("best: BORROWED has no TRAITS");
        HeronBook x = Check.of("notion n abx;word w c;place n abx;lack 1;borrow 1;add 4;");
        check.due("w loses 7, BORROWED 4", x.best(1), 4);
        plain(x, 0, NONE);
        HeronBook y = Check.of("notion n a;word w b;place n a;borrow 2;");
        check.due("w loses 3, BORROWED 4", y.best(1), 3);
        plain(y, 0, 0);
        HeronBook z = Check.of("notion n a;word w ax;place n a;place n -;tie 0 1 a;add 9;borrow 0;lack 1;");
        z.choose(1, 0, 0, 0, 0);
        check.due("BORROWED doesn't go with a", z.best(1), 18);
        plain(z, 0, 0);
        check.sentence("best: what a TIE with a PLACE outside forbids");
        HeronBook tied = Check.of("notion n abc;word w a;word v b;word u bc;word t abc;place n -;place n a;tie 0 1 b;tie 1 0 c;");
        tied.choose(0, 0, 2, 0, 0);
        check.due("w and v would CLASH, t doesn't", tied.best(2), 0);
        plain(tied, 1, 3);
        HeronBook one = Check.of("notion n abc;word w a;word v b;word u bc;word t abc;place n -;place n -;tie 1 0 b;");
        one.choose(0, 0, 1, 0, 0);
        check.due("w alone would CLASH", one.best(2), 0);
        plain(one, 1, 1);
        check.sentence("best: less by 1 is less");
        HeronBook less = Check.of("notion n a;word w b;word v -;place n -;place n -;place n -;");
        check.due("one PLACE", less.best(1), 0);
        plain(less, 0, 1);
        check.due("three PLACES", less.best(7), 0);
        plain(less, 2, 1);
        HeronBook foreign = Check.of("notion n a;word w bc;place n -;borrow 1;");
        check.due("BORROWED 1, w 2", foreign.best(1), 1);
        plain(foreign, 0, NONE);
    }

    /** 24 PLACES, 20 words of which the last alone has x, 20 TIES of x: the most of all. */
    private static HeronBook fullOfX() {
        StringBuilder text = new StringBuilder("notion n x;notion m a;");
        for (int w = 0; w < 20; w++) {
            text.append("word ").append((char) ('a' + w)).append(w == 19 ? " x;" : " b;");
        }
        text.append("place n -;".repeat(24));
        for (int t = 0; t < 20; t++) {
            text.append("tie ").append(t).append(' ').append(t + 4).append(" x;");
        }
        return Check.of(text.append("hearer h x -;hearer g b -;borrow 9;").toString());
    }

    private static void theMostOfAll() {
        check.sentence("best: four PLACES, 20 words and BORROWED, 20 TIES");
        HeronBook x = fullOfX();
        check.due("four that are tied", x.best(1 | 1 << 4 | 1 << 8 | 1 << 12), 0);
        for (int p = 0; p <= 12; p += 4) {
            plain(x, p, 19);
        }
        check.due("the last four", x.best(0xf00000), 0);
        plain(x, 23, 19);
        check.due("one between two of them", x.best(1 << 16), 0);
        plain(x, 16, 19);
        x.choose(19, 3, 0, 0, 0);
        check.due("the last TIE: BORROWED with BORROWED", x.best(1 << 23), 18);
        plain(x, 23, NONE);
        check.sentence("exchange: 24 PLACES, 20 words and BORROWED, 20 TIES");
        HeronBook y = fullOfX();
        for (int p = 0; p < 24; p++) {
            y.choose(p, 2, 0, 19, p % 2 == 0 ? 1 : NONE);
        }
        check.due("all put to the last word", y.exchange(), 0);
        check.due("no CLASH", y.clashes(), 0);
        plain(y, 0, 19);
        plain(y, 23, 19);
        check.sentence("one, price, swap, on with 20 words");
        check.due("one: the last", y.one(0), 19);
        check.due("its price", y.price(0), 0);
        check.due("swap: the least", y.swap(0), 0);
        check.due("on: the last is said", y.on(0, 0, 0), 0);
        check.sentence("words of a BOOK that was are none of the next one");
        HeronBook next = fullOfX();
        next.choose(0, 0, 19, 0, 0);
        check.due("another BOOK", Check.read(next, "notion n a;notion m x;word w a;place m x;place n a;tie 0 1 -;hearer h x -;hearer g ax -;borrow 99;"), 9);
        check.due("best", next.best(1), 3);
        plain(next, 0, 0);
        check.due("one", next.one(1), 0);
        check.due("swap", next.swap(1), NONE);
        next.note(0, 1 << 23);
        check.due("told back", next.back(0, 0), 1);
        check.due("said by w: a is heard", next.on(0, 1, 0), 0);
        next.choose(0, 3, 0, 0, 0);
        check.due("exchange", next.exchange(), 1);
    }

    /** A row of PLACES in which each round of EXCHANGES puts one more, from the last one on. */
    private static HeronBook row(int places) {
        StringBuilder text = new StringBuilder("notion n abc;word w a;word v bc;" + "place n b;".repeat(places - 1) + "place n bc;");
        for (int p = 0; p < places - 1; p++) {
            text.append("tie ").append(p).append(' ').append(p + 1).append(" abc;");
        }
        HeronBook x = Check.of(text.append("lack 9;weight bc 9;").toString());
        for (int p = 0; p < places; p++) {
            x.choose(p, 0, 0, 0, 0);
        }
        return x;
    }

    private static void exchangeRounds() {
        check.sentence("EXCHANGES: rounds until one changes nothing, 10 at most");
        check.due("two rounds", row(2).exchange(), 0);
        check.due("nine rounds", row(9).exchange(), 0);
        check.due("ten rounds", row(10).exchange(), 0);
        HeronBook eleven = row(11);
        check.due("an eleventh isn't made", eleven.exchange(), 81);
        check.due("the first PLACE is left", eleven.choice(0, 1), 0);
        check.due("the second is put", eleven.choice(1, 1), 1);
        check.due("their TIE CLASHES", eleven.clashes(), 1);
        check.due("the next call goes on", eleven.exchange(), 0);
        check.due("and ends", eleven.clashes(), 0);
        check.due("nothing is left to change", eleven.exchange(), 0);
        check.sentence("EXCHANGES: if that is less than it was");
        HeronBook x = Check.of("notion n ab;word w a;word v b;word u a;place n a;place n ab;long 0;borrow 0;");
        x.choose(0, 0, 2, 0, 0);
        x.choose(1, 1, 2, 1, 0);
        check.due("nothing is less", x.exchange(), 0);
        plain(x, 0, 2);
        check.due("MADE stays", x.choice(1, 0), 1);
        x.choose(0, 0, 1, 0, 0);
        check.due("less by one word", x.exchange(), 0);
        plain(x, 0, 0);
        x.choose(1, 0, 1, 0, 0);
        check.due("as it was: v", x.exchange(), 2);
        plain(x, 1, 1);
        check.sentence("EXCHANGES: words by numbers, BORROWED last");
        HeronBook order = Check.of("notion n a;word w b;word v -;word u -;place n -;borrow 0;");
        order.choose(0, 0, 0, 0, 0);
        check.due("the first of the least", order.exchange(), 0);
        plain(order, 0, 1);
        HeronBook foreign = Check.of("notion n a;word w b;place n -;borrow 0;");
        foreign.choose(0, 0, 0, 0, 0);
        check.due("BORROWED", foreign.exchange(), 0);
        plain(foreign, 0, NONE);
        check.sentence("EXCHANGES: PLACES with a CHOICE");
        HeronBook none = Check.of("notion n a;word w a;place n a;place n a;");
        check.due("none", none.exchange(), 0);
        check.due("CHOICES", none.count(0), 0);
        none.choose(1, 3, 0, 0, 0);
        check.due("one", none.exchange(), 0);
        check.due("CHOICES", none.count(0), 1);
        check.due("of an empty BOOK", new HeronBook().exchange(), 0);
    }

    private static void hundredForAClash() {
        check.sentence("EXCHANGES: 100 for each CLASH");
        HeronBook less = tiedByLoss(9, 9, 9, 2);
        check.due("99 is less than a CLASH", less.exchange(), 99);
        check.due("no CLASH", less.clashes(), 0);
        HeronBook alike = tiedByLoss(4, 9, 8, 8);
        check.due("100 is not less", alike.exchange(), 0);
        check.due("one CLASH", alike.clashes(), 1);
        HeronBook more = tiedByLoss(5, 9, 7, 8);
        check.due("101 is more", more.exchange(), 0);
        check.due("one CLASH", more.clashes(), 1);
    }

    /** PLACE 1 loses lack times a and add times b if it has b, as the TIE asks, and nothing with a; PLACE 0 has b in any case. */
    private static HeronBook tiedByLoss(int lack, int a, int add, int b) {
        HeronBook x = Check.of("notion n b;notion m ac;word w bd;word v a;word u b;place n b;place m a;tie 0 1 b;borrow 99;weight d 9;"
            + "lack " + lack + ";add " + add + ";weight a " + a + ";weight b " + b + ";");
        x.choose(0, 0, 2, 0, 0);
        x.choose(1, 0, 1, 0, 0);
        return x;
    }

    private static void oneAndPrice() {
        check.sentence("one, price, swap: RANGE");
        for (int n : NO_NOTIONS) {
            refused("one(" + n + ")", x -> x.one(n), RANGE);
            refused("price(" + n + ")", x -> x.price(n), RANGE);
            refused("swap(" + n + ")", x -> x.swap(n), RANGE);
        }
        refused("one(1)", x -> x.one(1), 1);
        refused("price(1)", x -> x.price(1), 0);
        refused("swap(1)", x -> x.swap(1), NONE);
        refused("swap(0)", x -> x.swap(0), 2);
        HeronBook full = Check.of(AnyCallTest.fullBook());
        check.holds("the last NOTION", full.one(11) >= 0 && full.price(11) >= 0);
        check.due("one(12)", full.one(12), RANGE);
        check.due("price(12)", full.price(12), RANGE);
        check.due("swap(12)", full.swap(12), RANGE);
        check.due("one of an empty BOOK", new HeronBook().one(0), RANGE);
        check.due("price of an empty BOOK", new HeronBook().price(0), RANGE);
        check.due("swap of an empty BOOK", new HeronBook().swap(0), RANGE);
        check.sentence("one, price, swap: NONE: there are no words");
        HeronBook bare = Check.of("notion n -;notion m a;place m a;");
        for (int n = 0; n < 2; n++) {
            check.due("one(" + n + ")", bare.one(n), NONE);
            check.due("price(" + n + ")", bare.price(n), NONE);
            check.due("swap(" + n + ")", bare.swap(n), NONE);
            check.due("one of no NOTION", bare.one(2), RANGE);
        }
        check.sentence("ONE, PRICE, SWAP of a NOTION without PLACES: the least word");
        HeronBook free = Check.of("notion n abc;word w x;word v abc;");
        check.due("one", free.one(0), 0);
        check.due("price", free.price(0), 0);
        check.due("swap", free.swap(0), 0);
        check.sentence("ONE: then the least word");
        HeronBook alike = Check.of("notion n ab;word w x;word v b;word u a;word t a;place n a;place n b;");
        check.due("three alike", alike.one(0), 1);
        check.due("its price", alike.price(0), 2);
        check.sentence("ONE: at all its PLACES, with a CHOICE or without, at its alone");
        HeronBook x = Check.of("notion n ab;notion m b;word w a;word v b;place n a;place n a;place n b;place m b;place m b;");
        check.due("two to one", x.one(0), 0);
        check.due("its price", x.price(0), 2);
        check.due("of the other", x.one(1), 1);
        x.choose(0, 3, 0, 0, 0);
        check.sentence("PRICE: the least LOST (PLAIN) at each of them");
        HeronBook one = Check.of("notion n a;word w b;place n a;place n a;borrow 0;lack 3;");
        check.due("one word: nothing is less", one.price(0), 0);
        HeronBook two = Check.of("notion n ab;notion m x;word w a;word v bc;place n ab;place m x;place n b;place n a;borrow 0;lack 3;add 1;");
        check.due("w: 3, 3, 0; v: 4, 1, 4", two.one(0), 0);
        check.due("less than 3, 1, 0", two.price(0), 2);
        check.due("a CHOICE doesn't matter", x.one(0), 0);
        check.due("nor for the price", x.price(0), 2);
    }

    private static void swapBounds() {
        check.sentence("SWAP: all TRAITS that BEAR at any of its PLACES");
        HeronBook x = Check.of("notion n abc;notion m d;word w ab;word v abd;word u abcd;word t abc;place n a;place n b;place m d;");
        check.due("a and b", x.swap(0), 0);
        check.due("d", x.swap(1), 1);
        HeronBook more = Check.of("notion n abc;word w ab;word v abd;word u abcd;word t abc;place n a;place n b;place n c;");
        check.due("a, b and c: the least of two", more.swap(0), 2);
        HeronBook none = Check.of("notion n abc;word w ab;word v bc;place n a;place n bc;");
        check.due("no word has them all", none.swap(0), NONE);
        HeronBook last = Check.of("notion n " + ALL + ";word w abcdefghijklmnopqrstuvw;word v " + ALL + ";place n " + ALL + ";");
        check.due("all of 24", last.swap(0), 1);
    }

    private static HeronBook lacking(String settings) {
        HeronBook x = Check.of("notion n abcd;word w -;place n abcd;place n dcb;place n a;" + settings);
        x.choose(0, 0, 0, 0, 0);
        x.choose(1, 0, 0, 0, 0);
        return x;
    }

    private static void mendBounds() {
        check.sentence("mend: n 0 .. 99; RANGE");
        for (int n : new int[] {-1, 100, 101, MIN, MAX}) {
            refused("mend(" + n + ")", x -> x.mend(n), RANGE);
        }
        refused("mend(0)", x -> x.mend(0), 0);
        check.due("mend(99)", lacking("notes 99;").mend(99), 7);
        check.sentence("MEND: n at most");
        for (int n = 0; n <= 8; n++) {
            HeronBook x = lacking("notes 99;");
            check.due("mend(" + n + ")", x.mend(n), Math.min(n, 7));
            check.due("TRAITS told", x.count(1), Math.min(n, 7));
        }
        check.sentence("MEND: as notes allows");
        for (int notes = 0; notes <= 8; notes++) {
            HeronBook x = lacking("notes " + notes + ";");
            check.due("notes " + notes, x.mend(99), Math.min(notes, 7));
            check.due("TRAITS told", x.count(1), Math.min(notes, 7));
            check.due("no more", x.mend(99), 0);
        }
        HeronBook some = lacking("notes 3;");
        some.note(2, 15);
        check.due("a NOTE is refused", some.count(1), 0);
        some.note(2, 3);
        check.due("besides two", some.mend(99), 1);
        check.due("these stay", some.bears(2, 4), 3);
        check.due("in all", some.count(1), 3);
        Twins.refused(check, "mend when NOTES are full", () -> {
            HeronBook x = Twins.rich();
            x.note(3, 3);
            return x;
        }, x -> x.mend(99), 0);
        check.sentence("MEND: a weight above 0");
        HeronBook light = lacking("notes 99;weight abd 0;");
        check.due("c alone, at two PLACES", light.mend(99), 2);
        check.due("at 0", light.bears(0, 4), 4);
        check.due("at 1", light.bears(1, 4), 4);
        check.due("nothing at all", lacking("weight abcd 0;").mend(99), 0);
        HeronBook onlyA = Check.of("notion n a;place n a;");
        onlyA.choose(0, 3, 0, 0, 0);
        check.due("TRAIT 0 alone", onlyA.mend(1), 1);
        check.due("its NOTE", onlyA.bears(0, 4), 1);
        check.sentence("MEND: the greatest weight; of alike ones of the least PLACE, then the least TRAIT");
        HeronBook x = lacking("notes 99;weight d 2;");
        int[] at0 = {8, 8, 9, 11, 15, 15, 15};
        int[] at1 = {0, 8, 8, 8, 8, 10, 14};
        for (int i = 0; i < 7; i++) {
            check.due("one more", x.mend(1), 1);
            check.due("NOTE at 0", x.bears(0, 4), at0[i]);
            check.due("NOTE at 1", x.bears(1, 4), at1[i]);
        }
        check.due("none is left", x.mend(1), 0);
        check.due("LOST", x.lost(), 0);
        check.sentence("MEND: PLACES with a CHOICE alone");
        check.due("NOTE at 2", x.bears(2, 4), 0);
        HeronBook last = Check.of("notion n " + ALL + ";" + "place n -;".repeat(23) + "place n x;weight x 9;");
        last.choose(23, 3, 0, 0, 0);
        check.due("TRAIT 23 at PLACE 23", last.mend(5), 1);
        check.due("its NOTE", last.bears(23, 4), 1 << 23);
    }

    public static void main(String[] args) {
        bestSets();
        bestNone();
        bestRows();
        bestOptions();
        theMostOfAll();
        exchangeRounds();
        hundredForAClash();
        oneAndPrice();
        swapBounds();
        mendBounds();
        check.close("SearchEdgesTest");
    }
}
