import java.util.Random;

/** Promises 1 to 42 in random runs, each answer held against that of Slow. */
public final class RandomTest {
    private static final Check check = new Check();
    private static final String[] KEYS = {"notion", "word", "place", "tie", "hearer", "weight", "lack", "add", "borrow", "long", "notes"};

    private final Random random;
    private final HeronBook x = new HeronBook();
    private final Slow slow = new Slow();
    private int traitsInUse = 24;
    private int step = 0;
    private String call = "";

    private RandomTest(long seed) {
        random = new Random(seed);
    }

    private int upTo(int n) {
        return random.nextInt(n + 1);
    }

    private boolean chance(int percent) {
        return random.nextInt(100) < percent;
    }

    // ---- texts

    private String set(int most) {
        if (chance(8)) {
            return "-";
        }
        StringBuilder text = new StringBuilder();
        for (int i = upTo(most); i >= 0; i--) {
            text.append((char) ('a' + random.nextInt(traitsInUse)));
        }
        return text.toString();
    }

    private static String name(int i) {
        return i < 26 ? "" + (char) ('a' + i) : "n" + (char) ('a' + i - 26);
    }

    private String part(String set, int percent) {
        StringBuilder text = new StringBuilder();
        for (char c : set.toCharArray()) {
            if (c != '-' && chance(percent)) {
                text.append(c);
            }
        }
        return text.length() == 0 ? "-" : text.toString();
    }

    /** A book without a FAULT. */
    private String soundText() {
        traitsInUse = 3 + upTo(chance(50) ? 4 : 21);
        StringBuilder text = new StringBuilder();
        int notions = 1 + upTo(chance(80) ? 4 : 11);
        String[] sets = new String[notions];
        for (int i = 0; i < notions; i++) {
            sets[i] = set(6);
            text.append("notion ").append(name(i)).append(' ').append(sets[i]).append(';');
        }
        int words = upTo(chance(80) ? 5 : 20);
        for (int i = 0; i < words; i++) {
            text.append("word ").append(name(i)).append(' ').append(set(4)).append(';');
        }
        int places = chance(5) ? 0 : 1 + upTo(chance(80) ? 6 : 23);
        for (int i = 0; i < places; i++) {
            int n = random.nextInt(notions);
            text.append("place ").append(name(n)).append(' ').append(part(sets[n], 70)).append(';');
        }
        for (int i = places < 2 ? 0 : upTo(chance(80) ? 5 : 20); i > 0; i--) {
            int p = random.nextInt(places);
            int q = (p + 1 + random.nextInt(places - 1)) % places;
            text.append("tie ").append(p).append(' ').append(q).append(' ').append(set(4)).append(';');
        }
        for (int i = upTo(chance(90) ? 3 : 6); i > 0; i--) {
            text.append("hearer ").append(name(i)).append(' ').append(set(12)).append(' ').append(set(1)).append(';');
        }
        for (int i = upTo(3); i > 0; i--) {
            text.append("weight ").append(set(4)).append(' ').append(upTo(9)).append(';');
        }
        String[] settings = {"lack " + (1 + upTo(8)), "add " + upTo(9), "borrow " + upTo(chance(50) ? 9 : 99), "long " + upTo(9), "notes " + upTo(20)};
        for (String setting : settings) {
            text.append(chance(50) ? setting + ";" : "");
        }
        return text.toString();
    }

    /** Clauses of any kind, mostly with one thing or another that's wrong. */
    private String anyText() {
        StringBuilder text = new StringBuilder();
        traitsInUse = 1 + upTo(24);
        for (int i = upTo(20); i >= 0; i--) {
            String key = KEYS[random.nextInt(chance(60) ? 5 : KEYS.length)];
            text.append(key).append(' ');
            if (key.equals("tie")) {
                text.append(upTo(2)).append(' ').append(1 + upTo(3)).append(' ').append(set(2));
            } else if (key.equals("weight")) {
                text.append(set(3)).append(' ').append(upTo(10));
            } else if (key.equals("hearer")) {
                text.append(name(upTo(15))).append(' ').append(set(2)).append(' ').append(set(2));
            } else if (key.length() > 4 && !key.equals("notes") && !key.equals("borrow") || key.equals("word")) {
                text.append(name(upTo(15))).append(' ').append(set(2));
            } else {
                text.append(upTo(11));
            }
            text.append(";");
        }
        return text.toString();
    }

    private String spoilt(String text) {
        StringBuilder s = new StringBuilder(text);
        for (int i = upTo(2); i >= 0; i--) {
            int at = upTo(s.length());
            String sign = "; -azy09\n.Q\u00ff".charAt(random.nextInt(12)) + "";
            if (chance(50) || at >= s.length()) {
                s.insert(at, sign);
            } else {
                s.replace(at, at + 1, chance(50) ? "" : sign);
            }
        }
        return s.toString();
    }

    private void type(String text) {
        String cut = text.length() > 1200 ? text.substring(0, 1200) : text;
        due("end(0)", x.end(0), slow.end(0));
        for (int i = 0; i < cut.length(); i += 20) {
            int[] ints = new int[5];
            for (int k = 0; k < 20; k++) {
                ints[k / 4] = ints[k / 4] << 8 | (i + k < cut.length() ? cut.charAt(i + k) : ' ');
            }
            due("feed", x.feed(ints[0], ints[1], ints[2], ints[3], ints[4]), slow.feed(ints));
        }
        due("end", x.end(cut.length()), slow.end(cut.length()));
        call = cut;
        due("book", x.book(), slow.book());
        due("fault(0)", x.fault(0), slow.fault(0));
        due("fault(1)", x.fault(1), slow.fault(1));
        everyTold();
    }

    private void everyTold() {
        for (int what = -1; what < 46; what++) {
            due("told " + what, x.told(what), slow.told(what));
        }
        for (int kind = -1; kind <= 6; kind++) {
            for (int i = -1; i <= 24; i++) {
                due("traits " + kind + " " + i, x.traits(kind, i), slow.traits(kind, i));
            }
        }
        for (int p = -1; p <= 24; p++) {
            due("notion " + p, x.notion(p), slow.notion(p));
        }
    }

    private void due(String what, int got, int want) {
        if (got != want) {
            check.due(what + " in " + call, got, want);
        } else {
            check.due("", 0, 0);
        }
    }

    // ---- calls

    private int near(int n) {
        return chance(97) && n > 0 ? random.nextInt(n) : upTo(n + 2) - 1;
    }

    private int place() {
        return near(slow.told(2));
    }

    private int word() {
        return near(slow.told(1));
    }

    private int hearer() {
        return near(slow.told(4));
    }

    private int notion() {
        return near(slow.told(0));
    }

    private int bits(int within) {
        return chance(3) ? random.nextInt() : random.nextInt() & within;
    }

    private int told() {
        step = Math.min(999, step + (chance(60) ? 0 : upTo(4)));
        return chance(4) ? step - 1 : chance(1) ? 1000 : step;
    }

    private int bestSet() {
        int options = slow.told(1) + 1;
        int most = options > 21 ? 1 : options > 12 ? 2 : options > 7 ? 3 : 4;
        int set = 0;
        for (int i = 1 + upTo(chance(3) ? 5 : most - 1); i > 0; i--) {
            set |= 1 << near(slow.told(2));
        }
        return Integer.bitCount(set) <= most || Integer.bitCount(set) > 4 ? set : set & -set;
    }

    private void anyCall() {
        int what = random.nextInt(40);
        int p = place();
        if (what < 16) {
            choiceCall(what, p);
        } else if (what < 27) {
            hearerCall(what, hearer(), p);
        } else {
            laterCall(what, hearer(), p);
        }
    }

    private void choiceCall(int what, int p) {
        int n = notion();
        int kind = near(4);
        int a = word();
        int b = word();
        int c = chance(50) ? -1 : word();
        call = "p " + p + " kind " + kind + " words " + a + " " + b + " " + c + " n " + n;
        switch (what) {
            case 0, 1, 2, 3, 4, 5 -> due("choose", x.choose(p, kind, a, b, c), slow.choose(p, kind, a, b, c));
            case 6 -> due("leave", x.leave(p), slow.leave(p));
            case 7 -> {
                int notion = slow.notion(p);
                int note = chance(90) && notion >= 0 ? slow.traits(0, notion) & random.nextInt() & random.nextInt() : bits(-1);
                due("note " + note, x.note(p, note), slow.note(p, note));
            }
            case 8, 9 -> {
                int set = bestSet();
                due("best " + set, x.best(set), slow.best(set));
            }
            case 10 -> {
                if (slow.told(1) * slow.told(2) < 60 || chance(5)) {
                    due("exchange", x.exchange(), slow.exchange());
                }
            }
            case 11 -> due("one", x.one(n), slow.one(n));
            case 12 -> due("price", x.price(n), slow.price(n));
            case 13 -> due("swap", x.swap(n), slow.swap(n));
            case 14 -> {
                int most = chance(95) ? upTo(4) : upTo(103) - 2;
                due("mend " + most, x.mend(most), slow.mend(most));
            }
            default -> due("bound", x.bound(p), slow.bound(p));
        }
    }

    private void hearerCall(int what, int h, int p) {
        int g = hearer();
        int slot = near(4);
        int other = near(4);
        int w = word();
        int give = chance(90) ? upTo(5) : upTo(101) - 1;
        call = "p " + p + " hearers " + h + " " + g + " slots " + slot + " " + other + " word " + w + " give " + give;
        switch (what) {
            case 16 -> due("hears", x.hears(h, p), slow.hears(h, p));
            case 17 -> due("back", x.back(h, p), slow.back(h, p));
            case 18 -> due("laughs", x.laughs(h, p), slow.laughs(h, p));
            case 19 -> due("hits", x.hits(h), slow.hits(h));
            case 20 -> due("on", x.on(h, g, p), slow.on(h, g, p));
            case 21 -> due("keep", x.keep(slot), slow.keep(slot));
            case 22 -> due("take", x.take(slot), slow.take(slot));
            case 23 -> due("nearer", x.nearer(slot, other, h), slow.nearer(slot, other, h));
            case 24, 25 -> due("gives", x.gives(slot, p, w, give), slow.gives(slot, p, w, give));
            default -> due("agree", x.agree(p), slow.agree(p));
        }
    }

    private void laterCall(int what, int h, int p) {
        int w = word();
        int year = chance(3) ? 2001 : chance(3) ? -1 : chance(10) ? 2000 : upTo(20);
        int set = bits((1 << Math.min(24, traitsInUse)) - 1);
        int sum = slow.lost() + upTo(12) - 4;
        int at = told();
        int laugh = near(2);
        int known = chance(97) ? upTo(step + 2) : upTo(1003) - 2;
        int t = near(24);
        int k = near(slow.count(3));
        call = "p " + p + " hearer " + h + " word " + w + " year " + year + " set " + set + " told " + at + " laugh " + laugh
            + " known " + known + " trait " + t + " k " + k + " sum " + sum;
        switch (what) {
            case 27, 28 -> due("moves", x.moves(w, year, set), slow.moves(w, year, set));
            case 29 -> due("lostIn", x.lostIn(year), slow.lostIn(year));
            case 30 -> due("turned", x.turned(year), slow.turned(year));
            case 31 -> {
                if (chance(25)) {
                    due("until", x.until(sum), slow.until(sum));
                }
            }
            case 32, 33, 34 -> due("heard", x.heard(at, h, p, laugh), slow.heard(at, h, p, laugh));
            case 35, 36 -> due("right", x.right(at, k, laugh), slow.right(at, k, laugh));
            case 37 -> due("fit", x.fit(h, known), slow.fit(h, known));
            case 38 -> due("surely", x.surely(h, t, known), slow.surely(h, t, known));
            default -> due("next", x.next(h), slow.next(h));
        }
    }

    /** All that can be asked without a change. */
    private void everyState() {
        due("lost", x.lost(), slow.lost());
        due("clashes", x.clashes(), slow.clashes());
        for (int what = -1; what <= 6; what++) {
            due("count " + what, x.count(what), slow.count(what));
        }
        for (int p = -1; p <= slow.told(2); p++) {
            for (int what = -1; what <= 5; what++) {
                due("choice " + p + " " + what, x.choice(p, what), slow.choice(p, what));
                due("bears " + p + " " + what, x.bears(p, what), slow.bears(p, what));
            }
        }
    }

    private void run() {
        type(soundText());
        for (int i = 0; i < 250; i++) {
            anyCall();
            everyState();
            if (chance(1)) {
                type(chance(50) ? soundText() : spoilt(soundText()));
                step = slow.fault(0) == 0 ? 0 : step;
            }
        }
        for (int i = 0; i < 20; i++) {
            type(chance(50) ? anyText() : spoilt(anyText()));
        }
    }

    public static void main(String[] args) {
        int runs = args.length > 0 ? Integer.parseInt(args[0]) : 150;
        int from = args.length > 1 ? Integer.parseInt(args[1]) : 1;
        for (int seed = from; seed < from + runs; seed++) {
            new RandomTest(seed).run();
        }
        check.close("RandomTest");
    }
}
