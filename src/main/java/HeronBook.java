import java.util.Arrays;

/** A house where a book is said in another tongue; ../shared/DOC.md tells what each call promises. */
public final class HeronBook {
    public static final int NONE = -1;
    public static final int RANGE = -2;
    public static final int FULL = -3;
    public static final int STATE = -4;

    private static final int TRAITS = 24;
    private static final int ALL_TRAITS = (1 << TRAITS) - 1;

    private static final int NOTIONS = 0;
    private static final int WORDS = 1;
    private static final int PLACES = 2;
    private static final int TIES = 3;
    private static final int HEARERS = 4;
    private static final int LACK = 5;
    private static final int ADD = 6;
    private static final int BORROW = 7;
    private static final int LONG = 8;
    private static final int NOTES = 9;
    private static final int WEIGHT = 10;

    private static final int MOST_NOTIONS = 12;
    private static final int MOST_WORDS = 20;
    private static final int MOST_PLACES = 24;
    private static final int MOST_TIES = 20;
    private static final int MOST_HEARERS = 6;

    private static final int PLAIN = 0;
    private static final int MADE = 1;
    private static final int TOLD = 2;
    private static final int BORROWED = 3;

    private static final int SLOTS = 4;
    private static final int SET_OF_BEST = 4;
    private static final int ROUNDS = 10;
    private static final int CLASH_COST = 100;
    private static final int MOST_MENDED = 99;
    private static final int LAST_YEAR = 2000;
    private static final int LAST_STEP = 999;

    private final Tape tape = new Tape();
    private final Book held = new Book();
    private final Reader reader = new Reader();
    private final Rendering now = new Rendering(held);
    private final Rendering[] kept = new Rendering[SLOTS];
    private final boolean[] isKept = new boolean[SLOTS];
    private final Search search = new Search(held);
    private final Four four = new Four();
    private final Years years = new Years(held);
    private final Laughs laughter = new Laughs();

    public HeronBook() {
        for (int slot = 0; slot < SLOTS; slot++) {
            kept[slot] = new Rendering(held);
        }
    }

    // ---- the tape

    public int feed(int a, int b, int c, int d, int e) {
        if (!tape.hasRoom()) {
            return FULL;
        }
        tape.append(a);
        tape.append(b);
        tape.append(c);
        tape.append(d);
        tape.append(e);
        return tape.length;
    }

    public int end(int n) {
        if (n < 0 || n > tape.length) {
            return NONE;
        }
        tape.length = n;
        return n;
    }

    // ---- the book

    public int book() {
        int clauses = reader.read(tape);
        tape.length = 0;
        if (clauses == NONE) {
            return NONE;
        }
        held.copyFrom(reader.draft);
        now.clear();
        for (int slot = 0; slot < SLOTS; slot++) {
            isKept[slot] = false;
        }
        four.clear();
        years.clear();
        laughter.clear();
        return clauses;
    }

    public int fault(int what) {
        switch (what) {
            case 0: return reader.faultKind;
            case 1: return reader.faultPlace;
            default: return NONE;
        }
    }

    public int told(int what) {
        if (what >= NOTIONS && what <= HEARERS) {
            return held.counts[what];
        }
        if (what >= LACK && what <= NOTES) {
            return held.settings[what - LACK];
        }
        if (what >= 20 && what < 20 + TRAITS) {
            return held.weights[what - 20];
        }
        return NONE;
    }

    public int traits(int kind, int i) {
        switch (kind) {
            case 0: return held.has(NOTIONS, i) ? held.notionTraits[i] : RANGE;
            case 1: return held.has(WORDS, i) ? held.wordTraits[i] : RANGE;
            case 2: return held.has(PLACES, i) ? held.placeBears[i] : RANGE;
            case 3: return held.has(TIES, i) ? held.tieTraits[i] : RANGE;
            case 4: return held.has(HEARERS, i) ? held.hearerKnows[i] : RANGE;
            case 5: return held.has(HEARERS, i) ? held.hearerLaughs[i] : RANGE;
            default: return RANGE;
        }
    }

    public int notion(int p) {
        return held.has(PLACES, p) ? held.placeNotion[p] : RANGE;
    }

    // ---- choices

    public int choose(int p, int kind, int a, int b, int c) {
        if (!held.has(PLACES, p) || !wordsAreFit(kind, a, b, c)) {
            return RANGE;
        }
        now.put(p, kind, kind == BORROWED ? NONE : a,
            kind == MADE || kind == TOLD ? b : NONE, kind == TOLD ? c : NONE);
        return now.lostAt(p, held.wordTraits);
    }

    private boolean wordsAreFit(int kind, int a, int b, int c) {
        switch (kind) {
            case PLAIN: return held.has(WORDS, a);
            case MADE: return held.has(WORDS, a) && held.has(WORDS, b) && a != b;
            case TOLD: return held.has(WORDS, a) && held.has(WORDS, b) && (c == NONE || held.has(WORDS, c));
            case BORROWED: return true;
            default: return false;
        }
    }

    public int leave(int p) {
        if (!held.has(PLACES, p)) {
            return RANGE;
        }
        if (!now.isChosen(p)) {
            return 0;
        }
        now.put(p, NONE, NONE, NONE, NONE);
        return 1;
    }

    public int choice(int p, int what) {
        if (!held.has(PLACES, p)) {
            return RANGE;
        }
        switch (what) {
            case 0: return now.kinds[p];
            case 1: return now.firsts[p];
            case 2: return now.seconds[p];
            case 3: return now.thirds[p];
            default: return RANGE;
        }
    }

    public int bears(int p, int what) {
        if (!held.has(PLACES, p) || what < 0 || what > 4) {
            return RANGE;
        }
        if (what == 4) {
            return now.notes[p];
        }
        if (!now.isChosen(p)) {
            return NONE;
        }
        int has = now.traitsAt(p, held.wordTraits);
        switch (what) {
            case 0: return has;
            case 1: return held.lacksOf(p, has);
            case 2: return held.addsOf(p, has);
            default: return now.lostAt(p, held.wordTraits);
        }
    }

    public int note(int p, int traits) {
        if (!held.has(PLACES, p) || (traits & ~held.traitsOfNotionAt(p)) != 0) {
            return RANGE;
        }
        int all = now.noted() - Integer.bitCount(now.notes[p]) + Integer.bitCount(traits);
        if (all > held.setting(NOTES)) {
            return FULL;
        }
        now.notes[p] = traits;
        return all;
    }

    public int lost() {
        return now.lostOfAll(held.wordTraits);
    }

    public int clashes() {
        return now.clashBits();
    }

    public int bound(int p) {
        return held.has(PLACES, p) ? held.boundBy(p) : RANGE;
    }

    public int best(int set) {
        int size = Integer.bitCount(set);
        if (size < 1 || size > SET_OF_BEST || (set & ~held.allPlaces()) != 0) {
            return RANGE;
        }
        return search.putBest(now, set) ? now.lostOfAll(held.wordTraits) : NONE;
    }

    public int exchange() {
        boolean changed = true;
        for (int round = 0; round < ROUNDS && changed; round++) {
            changed = now.exchangeRound();
        }
        return now.lostOfAll(held.wordTraits);
    }

    public int one(int n) {
        if (!held.has(NOTIONS, n)) {
            return RANGE;
        }
        return now.oneWord(n);
    }

    public int price(int n) {
        if (!held.has(NOTIONS, n)) {
            return RANGE;
        }
        int word = now.oneWord(n);
        return word == NONE ? NONE : now.lostWithWord(n, word) - now.lostWithLeast(n);
    }

    public int swap(int n) {
        return held.has(NOTIONS, n) ? held.wordForAll(n) : RANGE;
    }

    public int mend(int n) {
        if (n < 0 || n > MOST_MENDED) {
            return RANGE;
        }
        int allowed = Math.min(n, held.setting(NOTES) - now.noted());
        int mended = 0;
        while (mended < allowed && now.mendOnce()) {
            mended++;
        }
        return mended;
    }

    // ---- hearers

    /** RANGE or NONE where a HEARER can't hear at a PLACE, 0 where they can. */
    private int whyNotHeard(int h, int p) {
        if (!held.has(HEARERS, h) || !held.has(PLACES, p)) {
            return RANGE;
        }
        return now.isChosen(p) ? 0 : NONE;
    }

    public int hears(int h, int p) {
        int why = whyNotHeard(h, p);
        return why != 0 ? why : now.heardAt(h, p);
    }

    public int back(int h, int p) {
        int why = whyNotHeard(h, p);
        return why != 0 ? why : held.toldBack(now.heardAt(h, p));
    }

    public int laughs(int h, int p) {
        int why = whyNotHeard(h, p);
        if (why != 0) {
            return why;
        }
        int at = held.hearerLaughs[h];
        return at != 0 && (at & ~now.traitsAt(p, held.wordTraits)) == 0 ? 1 : 0;
    }

    public int hits(int h) {
        return held.has(HEARERS, h) ? now.rightOf(h) : RANGE;
    }

    public int on(int h, int g, int p) {
        if (!held.has(HEARERS, g)) {
            return RANGE;
        }
        int why = whyNotHeard(h, p);
        if (why != 0) {
            return why;
        }
        int first = held.toldBack(now.heardAt(h, p));
        return held.toldBack(held.traitsSaidFor(first) & held.hearerKnows[g]);
    }

    public int keep(int slot) {
        if (slot < 0 || slot >= SLOTS) {
            return RANGE;
        }
        kept[slot].copyFrom(now);
        isKept[slot] = true;
        return now.lostOfAll(held.wordTraits);
    }

    public int take(int slot) {
        if (slot < 0 || slot >= SLOTS) {
            return RANGE;
        }
        if (!isKept[slot]) {
            return STATE;
        }
        now.copyFrom(kept[slot]);
        return now.lostOfAll(held.wordTraits);
    }

    public int nearer(int a, int b, int h) {
        if (a < 0 || a >= SLOTS || b < 0 || b >= SLOTS || !held.has(HEARERS, h)) {
            return RANGE;
        }
        if (!isKept[a] || !isKept[b]) {
            return STATE;
        }
        int more = kept[a].rightOf(h) - kept[b].rightOf(h);
        if (more == 0) {
            more = kept[b].lostOfAll(held.wordTraits) - kept[a].lostOfAll(held.wordTraits);
        }
        if (more == 0) {
            return NONE;
        }
        return more > 0 ? a : b;
    }

    public int gives(int v, int p, int w, int n) {
        if (v < 0 || v >= Four.VOICES || !held.has(PLACES, p) || !held.has(WORDS, w) || n < 0 || n > Four.MOST) {
            return RANGE;
        }
        return four.put(v, p, w, n);
    }

    public int agree(int p) {
        return held.has(PLACES, p) ? four.agreed(p, held.counts[WORDS]) : RANGE;
    }

    // ---- years

    public int moves(int w, int year, int traits) {
        if (!held.has(WORDS, w) || year < years.latestOf(w) || year > LAST_YEAR || (traits & ~ALL_TRAITS) != 0) {
            return RANGE;
        }
        return years.isFull() ? FULL : years.append(w, year, traits);
    }

    public int lostIn(int year) {
        return isYear(year) ? now.lostOfAll(years.wordsIn(year)) : RANGE;
    }

    public int turned(int year) {
        if (!isYear(year)) {
            return RANGE;
        }
        return year == 0 ? 0 : years.turns(now, year);
    }

    public int until(int n) {
        return n < 0 ? RANGE : years.firstAbove(now, n);
    }

    private static boolean isYear(int year) {
        return year >= 0 && year <= LAST_YEAR;
    }

    // ---- laughs

    public int heard(int told, int h, int p, int laugh) {
        if (!laughter.mayTell(told, laugh) || !held.has(HEARERS, h) || !held.has(PLACES, p)) {
            return RANGE;
        }
        if (!now.isChosen(p)) {
            return STATE;
        }
        return laughter.isFull() ? FULL : laughter.append(told, h, now.traitsAt(p, held.wordTraits), laugh);
    }

    public int right(int told, int k, int laugh) {
        if (!laughter.mayTell(told, laugh) || k < 0 || k >= laughter.size) {
            return RANGE;
        }
        return laughter.isFullOfRights() ? FULL : laughter.putRight(told, k, laugh);
    }

    public int fit(int h, int known) {
        return held.has(HEARERS, h) && isStep(known) ? laughter.gather(h, known) : RANGE;
    }

    public int surely(int h, int t, int known) {
        if (!held.has(HEARERS, h) || t < 0 || t >= TRAITS || !isStep(known)) {
            return RANGE;
        }
        int all = laughter.gather(h, known);
        if (all == 0) {
            return NONE;
        }
        int with = laughter.setsWith(1 << t);
        if (with == all) {
            return 1;
        }
        return with == 0 ? 0 : 2;
    }

    public int next(int h) {
        if (!held.has(HEARERS, h)) {
            return RANGE;
        }
        int all = laughter.gather(h, LAST_STEP);
        int least = all;
        int place = NONE;
        for (int p = 0; p < held.counts[PLACES]; p++) {
            if (now.isChosen(p)) {
                int laughing = laughter.setsWithin(now.traitsAt(p, held.wordTraits));
                int greater = Math.max(laughing, all - laughing);
                if (greater < least) {
                    least = greater;
                    place = p;
                }
            }
        }
        return place;
    }

    private static boolean isStep(int step) {
        return step >= 0 && step <= LAST_STEP;
    }

    public int count(int what) {
        switch (what) {
            case 0: return now.chosen();
            case 1: return now.noted();
            case 2: return years.size;
            case 3: return laughter.size;
            case 4: return laughter.rights;
            case 5: return tape.length;
            default: return NONE;
        }
    }

    /** THE TAPE: the bytes that were fed and not yet read. */
    private static final class Tape {
        static final int ROOM = 1200;
        static final int FED_AT_ONCE = 20;

        final byte[] bytes = new byte[ROOM];
        int length;

        boolean hasRoom() {
            return length <= ROOM - FED_AT_ONCE;
        }

        void append(int four) {
            for (int shift = 24; shift >= 0; shift -= 8) {
                if (length < ROOM) {
                    bytes[length] = (byte) (four >> shift);
                    length++;
                }
            }
        }
    }

    /** THE BOOK: what a text tells, and what follows from that alone. */
    private static final class Book {
        static final int HEAVIEST = 9;
        /** TRAITS are weighed in four groups of six, and a group has 64 sets. */
        static final int GROUP = 6;
        static final int SETS_OF_GROUP = 1 << GROUP;

        /** By NOTIONS .. HEARERS. */
        final int[] counts = new int[5];
        /** By LACK .. NOTES, less LACK. */
        final int[] settings = new int[5];
        final int[] weights = new int[TRAITS];
        /** What each set of each group weighs, so that no sum needs a look at every TRAIT. */
        private final int[] groupSums = new int[TRAITS / GROUP * SETS_OF_GROUP];
        final int[] notionTraits = new int[MOST_NOTIONS];
        final int[] wordTraits = new int[MOST_WORDS];
        final int[] placeNotion = new int[MOST_PLACES];
        final int[] placeBears = new int[MOST_PLACES];
        final int[] tieFirst = new int[MOST_TIES];
        final int[] tieSecond = new int[MOST_TIES];
        final int[] tieTraits = new int[MOST_TIES];
        final int[] hearerKnows = new int[MOST_HEARERS];
        final int[] hearerLaughs = new int[MOST_HEARERS];

        Book() {
            clear();
            sumGroups();
        }

        void clear() {
            Arrays.fill(counts, 0);
            settings[0] = 2;
            settings[ADD - LACK] = 1;
            settings[BORROW - LACK] = 5;
            settings[LONG - LACK] = 1;
            settings[NOTES - LACK] = 6;
            Arrays.fill(weights, 1);
        }

        void copyFrom(Book other) {
            System.arraycopy(other.counts, 0, counts, 0, counts.length);
            System.arraycopy(other.settings, 0, settings, 0, settings.length);
            System.arraycopy(other.weights, 0, weights, 0, TRAITS);
            sumGroups();
            System.arraycopy(other.notionTraits, 0, notionTraits, 0, MOST_NOTIONS);
            System.arraycopy(other.wordTraits, 0, wordTraits, 0, MOST_WORDS);
            System.arraycopy(other.placeNotion, 0, placeNotion, 0, MOST_PLACES);
            System.arraycopy(other.placeBears, 0, placeBears, 0, MOST_PLACES);
            System.arraycopy(other.tieFirst, 0, tieFirst, 0, MOST_TIES);
            System.arraycopy(other.tieSecond, 0, tieSecond, 0, MOST_TIES);
            System.arraycopy(other.tieTraits, 0, tieTraits, 0, MOST_TIES);
            System.arraycopy(other.hearerKnows, 0, hearerKnows, 0, MOST_HEARERS);
            System.arraycopy(other.hearerLaughs, 0, hearerLaughs, 0, MOST_HEARERS);
        }

        /** The most that there may be of one of NOTIONS .. HEARERS. */
        static int roomFor(int what) {
            switch (what) {
                case NOTIONS: return MOST_NOTIONS;
                case WORDS: return MOST_WORDS;
                case PLACES: return MOST_PLACES;
                case TIES: return MOST_TIES;
                case HEARERS: return MOST_HEARERS;
                default: return 0;
            }
        }

        boolean has(int what, int i) {
            return i >= 0 && i < counts[what];
        }

        int setting(int what) {
            return settings[what - LACK];
        }

        int allPlaces() {
            return (1 << counts[PLACES]) - 1;
        }

        void weigh(int set, int weight) {
            for (int t = 0; t < TRAITS; t++) {
                if ((set >> t & 1) != 0) {
                    weights[t] = weight;
                }
            }
        }

        /** A set weighs what it weighs without its highest TRAIT, and what this one weighs. */
        private void sumGroups() {
            for (int t = 0; t < TRAITS; t++) {
                int none = t / GROUP * SETS_OF_GROUP;
                int highest = 1 << t % GROUP;
                for (int rest = 0; rest < highest; rest++) {
                    groupSums[none + highest + rest] = groupSums[none + rest] + weights[t];
                }
            }
        }

        int weightsOf(int set) {
            int last = SETS_OF_GROUP - 1;
            return groupSums[set & last]
                + groupSums[SETS_OF_GROUP + (set >> GROUP & last)]
                + groupSums[2 * SETS_OF_GROUP + (set >> 2 * GROUP & last)]
                + groupSums[3 * SETS_OF_GROUP + (set >> 3 * GROUP & last)];
        }

        int traitsOfNotionAt(int p) {
            return notionTraits[placeNotion[p]];
        }

        int lacksOf(int p, int has) {
            return placeBears[p] & ~has;
        }

        int addsOf(int p, int has) {
            return has & ~traitsOfNotionAt(p);
        }

        /** What TRAITS at a PLACE lose, however many words they come from. */
        int lostByTraits(int p, int has, int noted) {
            return setting(LACK) * weightsOf(lacksOf(p, has) & ~noted)
                + setting(ADD) * weightsOf(addsOf(p, has));
        }

        /** Whether a TIE CLASHES between CHOICES with these TRAITS. */
        boolean wouldClash(int tie, int has, int otherHas, boolean bothBorrowed) {
            return (has & otherHas & tieTraits[tie]) == 0
                && !(bothBorrowed && placeNotion[tieFirst[tie]] == placeNotion[tieSecond[tie]]);
        }

        /** The other PLACE of a TIE, NONE when it doesn't lead from p. */
        int otherPlace(int tie, int p) {
            if (tieFirst[tie] == p) {
                return tieSecond[tie];
            }
            return tieSecond[tie] == p ? tieFirst[tie] : NONE;
        }

        int boundBy(int p) {
            int reached = 1 << p;
            int before = 0;
            for (int round = 0; round < MOST_PLACES && reached != before; round++) {
                before = reached;
                for (int t = 0; t < counts[TIES]; t++) {
                    int pair = 1 << tieFirst[t] | 1 << tieSecond[t];
                    if ((reached & pair) != 0) {
                        reached |= pair;
                    }
                }
            }
            return reached;
        }

        /** SWAP. */
        int wordForAll(int n) {
            int asked = 0;
            for (int p = 0; p < counts[PLACES]; p++) {
                if (placeNotion[p] == n) {
                    asked |= placeBears[p];
                }
            }
            for (int w = 0; w < counts[WORDS]; w++) {
                if ((asked & ~wordTraits[w]) == 0) {
                    return w;
                }
            }
            return NONE;
        }

        /** The NOTION that fits best to TRAITS that are heard. */
        int toldBack(int hearing) {
            int notion = NONE;
            int greatest = 0;
            for (int n = 0; n < counts[NOTIONS]; n++) {
                int has = notionTraits[n];
                int score = 2 * weightsOf(has & hearing) - weightsOf(has ^ hearing);
                if (notion == NONE || score > greatest) {
                    notion = n;
                    greatest = score;
                }
            }
            return notion;
        }

        /** The TRAITS of the PLAIN word by which a NOTION is told on. */
        int traitsSaidFor(int n) {
            int said = 0;
            int least = -1;
            for (int w = 0; w < counts[WORDS] && has(NOTIONS, n); w++) {
                int cost = setting(LACK) * weightsOf(notionTraits[n] & ~wordTraits[w])
                    + setting(ADD) * weightsOf(wordTraits[w] & ~notionTraits[n]);
                if (least < 0 || cost < least) {
                    least = cost;
                    said = wordTraits[w];
                }
            }
            return said;
        }
    }

    /** Names of one sort, as stretches of the text that is being read. */
    private static final class Names {
        final int[] starts = new int[MOST_WORDS];
        final int[] ends = new int[MOST_WORDS];
        int size;

        void append(int start, int end) {
            if (size < MOST_WORDS) {
                starts[size] = start;
                ends[size] = end;
                size++;
            }
        }

        int find(byte[] text, int start, int end) {
            for (int i = 0; i < size; i++) {
                if (ends[i] - starts[i] == end - start && isSame(text, starts[i], start, end - start)) {
                    return i;
                }
            }
            return NONE;
        }

        private static boolean isSame(byte[] text, int one, int other, int length) {
            for (int i = 0; i < length; i++) {
                if (text[one + i] != text[other + i]) {
                    return false;
                }
            }
            return true;
        }
    }

    /** Reads THE TAPE into a draft, so that a FAULT leaves THE BOOK as it is. */
    private static final class Reader {
        static final int SYNTAX = 1;
        static final int OUT_OF_RANGE = 2;
        static final int TWICE = 3;
        static final int ROOM = 4;
        static final int UNKNOWN = 5;
        static final int OUT = 6;

        static final int LONGEST_WORD = 24;
        static final int LONGEST_NUMBER = 3;

        final Book draft = new Book();
        final Names notionNames = new Names();
        final Names wordNames = new Names();
        final Names hearerNames = new Names();
        int faultKind = 0;
        int faultPlace = NONE;

        private byte[] text = new byte[0];
        private int length;
        private int start;
        private int end;
        /** What the latest TOKEN is: a for a WORD, 0 for an N, its own byte for ; and -, E at the end, ? if none. */
        private char token;
        private int set;
        private int number;
        private int toldOnce;

        /** How many clauses the text has, NONE with a FAULT. */
        int read(Tape tape) {
            begin(tape);
            for (int clauses = 0; clauses <= Tape.ROOM; clauses++) {
                advance();
                if (token == 'E') {
                    return clauses;
                }
                int what = keyword();
                if (!mayBegin(what) || !readBody(what) || !readSemicolon()) {
                    return NONE;
                }
            }
            return NONE;
        }

        private void begin(Tape tape) {
            draft.clear();
            notionNames.size = 0;
            wordNames.size = 0;
            hearerNames.size = 0;
            faultKind = 0;
            faultPlace = NONE;
            text = tape.bytes;
            length = tape.length;
            end = 0;
            toldOnce = 0;
        }

        /** Goes on to the next TOKEN: its first byte is at start, end is behind it. */
        private void advance() {
            start = end;
            while (start < length && (text[start] == ' ' || text[start] == '\n')) {
                start++;
            }
            if (start >= length) {
                end = start;
                token = 'E';
                return;
            }
            token = signOf(text[start]);
            end = start + 1;
            if (token == 'a' || token == '0') {
                while (end < length && signOf(text[end]) == token) {
                    end++;
                }
                if (end - start > (token == 'a' ? LONGEST_WORD : LONGEST_NUMBER)) {
                    token = '?';
                }
            }
        }

        private static char signOf(byte b) {
            if (b >= 'a' && b <= 'z') {
                return 'a';
            }
            if (b >= '0' && b <= '9') {
                return '0';
            }
            return b == ';' || b == '-' ? (char) b : '?';
        }

        private boolean refuse(int kind) {
            faultKind = kind;
            faultPlace = start;
            return false;
        }

        private boolean mayBegin(int what) {
            if (what == NONE) {
                return refuse(SYNTAX);
            }
            if (what >= LACK && what <= NOTES && (toldOnce >> what & 1) != 0) {
                return refuse(TWICE);
            }
            return what > HEARERS || draft.counts[what] < Book.roomFor(what) || refuse(ROOM);
        }

        private boolean readBody(int what) {
            switch (what) {
                case NOTIONS: return readTraits(notionNames, what, draft.notionTraits);
                case WORDS: return readTraits(wordNames, what, draft.wordTraits);
                case PLACES: return readPlace();
                case TIES: return readTie();
                case HEARERS: return readHearer();
                case WEIGHT: return readWeight();
                default: return readSetting(what);
            }
        }

        private int keyword() {
            if (token != 'a') {
                return NONE;
            }
            if (isWord("notion")) return NOTIONS;
            if (isWord("word")) return WORDS;
            if (isWord("place")) return PLACES;
            if (isWord("tie")) return TIES;
            if (isWord("hearer")) return HEARERS;
            if (isWord("lack")) return LACK;
            if (isWord("add")) return ADD;
            if (isWord("borrow")) return BORROW;
            if (isWord("long")) return LONG;
            if (isWord("notes")) return NOTES;
            return isWord("weight") ? WEIGHT : NONE;
        }

        private boolean isWord(String word) {
            if (word.length() != end - start) {
                return false;
            }
            for (int i = 0; i < word.length(); i++) {
                if (word.charAt(i) != text[start + i]) {
                    return false;
                }
            }
            return true;
        }

        private boolean readSemicolon() {
            advance();
            return token == ';' || refuse(SYNTAX);
        }

        /** A NOTION or a word: a new name and its TRAITS. */
        private boolean readTraits(Names names, int what, int[] into) {
            if (!readNewName(names) || !readSet()) {
                return false;
            }
            into[draft.counts[what]] = set;
            draft.counts[what]++;
            return true;
        }

        private boolean readPlace() {
            advance();
            if (token != 'a') {
                return refuse(SYNTAX);
            }
            int notion = notionNames.find(text, start, end);
            if (notion == NONE) {
                return refuse(UNKNOWN);
            }
            if (!readSet()) {
                return false;
            }
            if ((set & ~draft.notionTraits[notion]) != 0) {
                return refuse(OUT);
            }
            int p = draft.counts[PLACES];
            draft.placeNotion[p] = notion;
            draft.placeBears[p] = set;
            draft.counts[PLACES]++;
            return true;
        }

        private boolean readTie() {
            int last = draft.counts[PLACES] - 1;
            if (!readNumber(0, last)) {
                return false;
            }
            int first = number;
            if (!readNumber(0, last)) {
                return false;
            }
            if (number == first) {
                return refuse(TWICE);
            }
            int second = number;
            if (!readSet()) {
                return false;
            }
            int t = draft.counts[TIES];
            draft.tieFirst[t] = first;
            draft.tieSecond[t] = second;
            draft.tieTraits[t] = set;
            draft.counts[TIES]++;
            return true;
        }

        private boolean readHearer() {
            if (!readNewName(hearerNames) || !readSet()) {
                return false;
            }
            int knows = set;
            if (!readSet()) {
                return false;
            }
            int h = draft.counts[HEARERS];
            draft.hearerKnows[h] = knows;
            draft.hearerLaughs[h] = set;
            draft.counts[HEARERS]++;
            return true;
        }

        private boolean readWeight() {
            if (!readSet() || !readNumber(0, Book.HEAVIEST)) {
                return false;
            }
            draft.weigh(set, number);
            return true;
        }

        private boolean readSetting(int what) {
            toldOnce |= 1 << what;
            if (!readNumber(what == LACK ? 1 : 0, what == BORROW || what == NOTES ? 99 : 9)) {
                return false;
            }
            draft.settings[what - LACK] = number;
            return true;
        }

        private boolean readNewName(Names names) {
            advance();
            if (token != 'a') {
                return refuse(SYNTAX);
            }
            if (names.find(text, start, end) != NONE) {
                return refuse(TWICE);
            }
            names.append(start, end);
            return true;
        }

        private boolean readSet() {
            advance();
            set = 0;
            if (token == '-') {
                return true;
            }
            if (token != 'a') {
                return refuse(SYNTAX);
            }
            for (int i = start; i < end; i++) {
                int trait = text[i] - 'a';
                if (trait >= TRAITS) {
                    return refuse(OUT_OF_RANGE);
                }
                set |= 1 << trait;
            }
            return true;
        }

        private boolean readNumber(int low, int high) {
            advance();
            number = 0;
            if (token != '0') {
                return refuse(SYNTAX);
            }
            for (int i = start; i < end; i++) {
                number = number * 10 + text[i] - '0';
            }
            return number >= low && number <= high || refuse(OUT_OF_RANGE);
        }
    }

    /** A RENDERING: the CHOICES and NOTES of all PLACES. */
    private static final class Rendering {
        private final Book book;
        /** NONE where a PLACE has no CHOICE. */
        final int[] kinds = new int[MOST_PLACES];
        /** The words of a CHOICE; NONE for those that it hasn't. */
        final int[] firsts = new int[MOST_PLACES];
        final int[] seconds = new int[MOST_PLACES];
        final int[] thirds = new int[MOST_PLACES];
        final int[] notes = new int[MOST_PLACES];

        Rendering(Book book) {
            this.book = book;
            clear();
        }

        void clear() {
            Arrays.fill(kinds, NONE);
            Arrays.fill(firsts, NONE);
            Arrays.fill(seconds, NONE);
            Arrays.fill(thirds, NONE);
            Arrays.fill(notes, 0);
        }

        void copyFrom(Rendering other) {
            System.arraycopy(other.kinds, 0, kinds, 0, MOST_PLACES);
            System.arraycopy(other.firsts, 0, firsts, 0, MOST_PLACES);
            System.arraycopy(other.seconds, 0, seconds, 0, MOST_PLACES);
            System.arraycopy(other.thirds, 0, thirds, 0, MOST_PLACES);
            System.arraycopy(other.notes, 0, notes, 0, MOST_PLACES);
        }

        void put(int p, int kind, int a, int b, int c) {
            kinds[p] = kind;
            firsts[p] = a;
            seconds[p] = b;
            thirds[p] = c;
        }

        boolean isChosen(int p) {
            return kinds[p] != NONE;
        }

        boolean isBorrowed(int p) {
            return kinds[p] == BORROWED;
        }

        int chosen() {
            int sum = 0;
            for (int p = 0; p < MOST_PLACES; p++) {
                sum += isChosen(p) ? 1 : 0;
            }
            return sum;
        }

        int noted() {
            int sum = 0;
            for (int p = 0; p < MOST_PLACES; p++) {
                sum += Integer.bitCount(notes[p]);
            }
            return sum;
        }

        /** The TRAITS of a CHOICE when the words have those of the row words. */
        int traitsAt(int p, int[] words) {
            return traitsOf(firsts[p], words) | traitsOf(seconds[p], words) | traitsOf(thirds[p], words);
        }

        private static int traitsOf(int word, int[] words) {
            return word >= 0 && word < words.length ? words[word] : 0;
        }

        int lostAt(int p, int[] words) {
            if (!isChosen(p)) {
                return 0;
            }
            int behindFirst = (seconds[p] == NONE ? 0 : 1) + (thirds[p] == NONE ? 0 : 1);
            return book.lostByTraits(p, traitsAt(p, words), notes[p])
                + behindFirst * book.setting(LONG)
                + (isBorrowed(p) ? book.setting(BORROW) : 0);
        }

        int lostOfAll(int[] words) {
            int sum = 0;
            for (int p = 0; p < book.counts[PLACES]; p++) {
                sum += lostAt(p, words);
            }
            return sum;
        }

        int clashBits() {
            int bits = 0;
            for (int t = 0; t < book.counts[TIES]; t++) {
                int p = book.tieFirst[t];
                if (isChosen(p) && isClashing(t, p, traitsAt(p, book.wordTraits), isBorrowed(p))) {
                    bits |= 1 << t;
                }
            }
            return bits;
        }

        /** Whether a TIE would CLASH if its PLACE p had these TRAITS and its other PLACE stayed. */
        boolean isClashing(int tie, int p, int has, boolean borrowed) {
            int q = book.otherPlace(tie, p);
            return q != NONE && isChosen(q)
                && book.wouldClash(tie, has, traitsAt(q, book.wordTraits), borrowed && isBorrowed(q));
        }

        private int clashesAt(int p, int has, boolean borrowed) {
            int sum = 0;
            for (int t = 0; t < book.counts[TIES]; t++) {
                sum += isClashing(t, p, has, borrowed) ? 1 : 0;
            }
            return sum;
        }

        // An option is a word as PLAIN, or BORROWED, which stands behind the last word.

        boolean isBorrowedOption(int option) {
            return option == book.counts[WORDS];
        }

        int traitsOfOption(int option) {
            return isBorrowedOption(option) ? 0 : traitsOf(option, book.wordTraits);
        }

        int lostWithOption(int p, int option) {
            return book.lostByTraits(p, traitsOfOption(option), notes[p])
                + (isBorrowedOption(option) ? book.setting(BORROW) : 0);
        }

        void putOption(int p, int option) {
            if (isBorrowedOption(option)) {
                put(p, BORROWED, NONE, NONE, NONE);
            } else {
                put(p, PLAIN, option, NONE, NONE);
            }
        }

        /** One round of EXCHANGES: whether it changed anything. */
        boolean exchangeRound() {
            boolean changed = false;
            for (int p = 0; p < book.counts[PLACES]; p++) {
                if (isChosen(p) && exchangeAt(p)) {
                    changed = true;
                }
            }
            return changed;
        }

        /** All else stays alike, so what this PLACE and its TIES cost decides. */
        private boolean exchangeAt(int p) {
            int least = lostAt(p, book.wordTraits)
                + CLASH_COST * clashesAt(p, traitsAt(p, book.wordTraits), isBorrowed(p));
            int found = NONE;
            for (int option = 0; option <= book.counts[WORDS]; option++) {
                int cost = lostWithOption(p, option)
                    + CLASH_COST * clashesAt(p, traitsOfOption(option), isBorrowedOption(option));
                if (cost < least) {
                    least = cost;
                    found = option;
                }
            }
            if (found == NONE) {
                return false;
            }
            putOption(p, found);
            return true;
        }

        /** The sum of LOST at all PLACES of a NOTION with one PLAIN word. */
        int lostWithWord(int n, int word) {
            int sum = 0;
            for (int p = 0; p < book.counts[PLACES]; p++) {
                if (book.placeNotion[p] == n) {
                    sum += lostWithOption(p, word);
                }
            }
            return sum;
        }

        /** The sum of LOST at all PLACES of a NOTION with the best PLAIN word at each. */
        int lostWithLeast(int n) {
            int sum = 0;
            for (int p = 0; p < book.counts[PLACES]; p++) {
                if (book.placeNotion[p] == n && book.counts[WORDS] > 0) {
                    int least = lostWithOption(p, 0);
                    for (int w = 1; w < book.counts[WORDS]; w++) {
                        least = Math.min(least, lostWithOption(p, w));
                    }
                    sum += least;
                }
            }
            return sum;
        }

        int oneWord(int n) {
            int word = NONE;
            int least = 0;
            for (int w = 0; w < book.counts[WORDS]; w++) {
                int sum = lostWithWord(n, w);
                if (word == NONE || sum < least) {
                    word = w;
                    least = sum;
                }
            }
            return word;
        }

        /** Tells the next LACK in a NOTE; false if there is none of a weight above 0. */
        boolean mendOnce() {
            int heaviest = 0;
            int place = 0;
            int trait = 0;
            for (int p = 0; p < book.counts[PLACES]; p++) {
                int open = untoldLacks(p);
                for (int t = 0; t < TRAITS && open != 0; t++) {
                    if ((open >> t & 1) != 0 && book.weights[t] > heaviest) {
                        heaviest = book.weights[t];
                        place = p;
                        trait = t;
                    }
                }
            }
            if (heaviest == 0) {
                return false;
            }
            notes[place] |= 1 << trait;
            return true;
        }

        private int untoldLacks(int p) {
            return isChosen(p) ? book.lacksOf(p, traitsAt(p, book.wordTraits)) & ~notes[p] : 0;
        }

        int heardAt(int h, int p) {
            return (traitsAt(p, book.wordTraits) | notes[p]) & book.hearerKnows[h];
        }

        int rightOf(int h) {
            int sum = 0;
            for (int p = 0; p < book.counts[PLACES]; p++) {
                if (isChosen(p) && book.toldBack(heardAt(h, p)) == book.placeNotion[p]) {
                    sum++;
                }
            }
            return sum;
        }
    }

    /**
     * BEST. A level is one PLACE of the set, by rising PLACES; options are gone through by rising
     * numbers and only what loses less is taken, so the first row of the least LOST stays.
     */
    private static final class Search {
        static final int MOST_OPTIONS = MOST_WORDS + 1;
        /** More than any CHOICES can lose. */
        static final int NO_WAY = 1 << 24;

        private final Book book;
        private final int[] places = new int[SET_OF_BEST];
        private final int[][] lostWith = new int[SET_OF_BEST][MOST_OPTIONS];
        /** By level, later level and option: the options of the later level that clash not with it. */
        private final int[][] goesWith = new int[SET_OF_BEST * SET_OF_BEST][MOST_OPTIONS];
        /** By how many levels are settled, and level: the options that are left there. */
        private final int[][] left = new int[SET_OF_BEST + 1][SET_OF_BEST];
        private final int[] row = new int[SET_OF_BEST];
        private final int[] bestRow = new int[SET_OF_BEST];
        private int size;
        private int options;
        private int least;

        Search(Book book) {
            this.book = book;
        }

        boolean putBest(Rendering now, int set) {
            begin(now, set);
            for (int t = 0; t < book.counts[TIES]; t++) {
                obeyTie(now, t);
            }
            settle(0, 0);
            if (least == NO_WAY) {
                return false;
            }
            for (int level = 0; level < size; level++) {
                now.putOption(places[level], bestRow[level]);
            }
            return true;
        }

        private void begin(Rendering now, int set) {
            least = NO_WAY;
            options = book.counts[WORDS] + 1;
            size = 0;
            for (int p = 0; p < book.counts[PLACES]; p++) {
                if ((set >> p & 1) != 0 && size < SET_OF_BEST) {
                    places[size] = p;
                    for (int option = 0; option < options; option++) {
                        lostWith[size][option] = now.lostWithOption(p, option);
                    }
                    left[0][size] = (1 << options) - 1;
                    size++;
                }
            }
            for (int pair = 0; pair < SET_OF_BEST * SET_OF_BEST; pair++) {
                Arrays.fill(goesWith[pair], (1 << options) - 1);
            }
        }

        private int levelOf(int p) {
            for (int level = 0; level < size; level++) {
                if (places[level] == p) {
                    return level;
                }
            }
            return NONE;
        }

        /** Strikes out what the TIE forbids. */
        private void obeyTie(Rendering now, int tie) {
            int one = levelOf(book.tieFirst[tie]);
            int other = levelOf(book.tieSecond[tie]);
            if (one != NONE && other != NONE) {
                obeyInside(now, tie, Math.min(one, other), Math.max(one, other));
            } else if (one != NONE) {
                obeyOutside(now, tie, one);
            } else if (other != NONE) {
                obeyOutside(now, tie, other);
            }
        }

        private void obeyInside(Rendering now, int tie, int level, int later) {
            int[] goes = goesWith[level * SET_OF_BEST + later];
            for (int a = 0; a < options; a++) {
                int has = now.traitsOfOption(a);
                boolean borrowed = now.isBorrowedOption(a);
                for (int b = 0; b < options; b++) {
                    if (book.wouldClash(tie, has, now.traitsOfOption(b), borrowed && now.isBorrowedOption(b))) {
                        goes[a] &= ~(1 << b);
                    }
                }
            }
        }

        private void obeyOutside(Rendering now, int tie, int level) {
            for (int a = 0; a < options; a++) {
                if (now.isClashing(tie, places[level], now.traitsOfOption(a), now.isBorrowedOption(a))) {
                    left[0][level] &= ~(1 << a);
                }
            }
        }

        /** Goes through what is left at a level, the levels ahead of it being settled. */
        private void settle(int level, int lostAhead) {
            if (level >= size) {
                least = lostAhead;
                System.arraycopy(row, 0, bestRow, 0, SET_OF_BEST);
                return;
            }
            for (int option = 0; option < options; option++) {
                if ((left[level][level] >> option & 1) != 0) {
                    int sum = lostAhead + lostWith[level][option];
                    row[level] = option;
                    if (sum + narrow(level, option) < least) {
                        settle(level + 1, sum);
                    }
                }
            }
        }

        /** Leaves at later levels what goes with an option: the least that these can lose. */
        private int narrow(int level, int option) {
            int sum = 0;
            for (int later = level + 1; later < size; later++) {
                int open = left[level][later] & goesWith[level * SET_OF_BEST + later][option];
                left[level + 1][later] = open;
                sum += leastOf(later, open);
            }
            return sum;
        }

        private int leastOf(int level, int open) {
            int found = NO_WAY;
            for (int option = 0; option < options; option++) {
                if ((open >> option & 1) != 0) {
                    found = Math.min(found, lostWith[level][option]);
                }
            }
            return found;
        }
    }

    /** What each of the FOUR would give for a word at a PLACE. */
    private static final class Four {
        static final int VOICES = 4;
        static final int MOST = 99;

        private final byte[] given = new byte[MOST_PLACES * MOST_WORDS * VOICES];

        void clear() {
            Arrays.fill(given, (byte) 0);
        }

        private static int indexOf(int v, int p, int w) {
            return (p * MOST_WORDS + w) * VOICES + v;
        }

        int put(int v, int p, int w, int n) {
            int i = indexOf(v, p, w);
            int before = given[i];
            given[i] = (byte) n;
            return before;
        }

        int agreed(int p, int words) {
            int word = NONE;
            int leastCost = 0;
            for (int w = 0; w < words; w++) {
                int cost = costOf(p, w);
                if (word == NONE || cost < leastCost) {
                    word = w;
                    leastCost = cost;
                }
            }
            return word;
        }

        /** The greatest number decides, then the sum, which stays below 1000. */
        private int costOf(int p, int w) {
            int greatest = 0;
            int sum = 0;
            for (int v = 0; v < VOICES; v++) {
                int n = given[indexOf(v, p, w)];
                greatest = Math.max(greatest, n);
                sum += n;
            }
            return greatest * 1000 + sum;
        }
    }

    /** Words whose sense MOVES. */
    private static final class Years {
        static final int ROOM = 40;

        private final Book book;
        private final int[] movedWords = new int[ROOM];
        private final int[] fromYears = new int[ROOM];
        private final int[] movedTraits = new int[ROOM];
        private final int[] words = new int[MOST_WORDS];
        private final int[] lostBefore = new int[MOST_PLACES];
        int size;

        Years(Book book) {
            this.book = book;
        }

        void clear() {
            size = 0;
        }

        boolean isFull() {
            return size >= ROOM;
        }

        /** The year of a word's latest move, 0 ahead of any. */
        int latestOf(int w) {
            int latest = 0;
            for (int i = 0; i < size; i++) {
                if (movedWords[i] == w) {
                    latest = fromYears[i];
                }
            }
            return latest;
        }

        int append(int w, int year, int traits) {
            if (size < ROOM) {
                movedWords[size] = w;
                fromYears[size] = year;
                movedTraits[size] = traits;
                size++;
            }
            return size;
        }

        /** The words as they are in a year; the row is used again by the next such call. */
        int[] wordsIn(int year) {
            System.arraycopy(book.wordTraits, 0, words, 0, MOST_WORDS);
            for (int i = 0; i < size; i++) {
                if (fromYears[i] <= year) {
                    words[movedWords[i]] = movedTraits[i];
                }
            }
            return words;
        }

        int turns(Rendering now, int year) {
            int[] before = wordsIn(year - 1);
            for (int p = 0; p < book.counts[PLACES]; p++) {
                lostBefore[p] = now.lostAt(p, before);
            }
            int[] then = wordsIn(year);
            int sum = 0;
            for (int p = 0; p < book.counts[PLACES]; p++) {
                sum += now.lostAt(p, then) != lostBefore[p] ? 1 : 0;
            }
            return sum;
        }

        /** LOST is another one only in years of moves, so no other year but 0 need be looked at. */
        int firstAbove(Rendering now, int n) {
            if (now.lostOfAll(wordsIn(0)) > n) {
                return 0;
            }
            int first = NONE;
            for (int i = 0; i < size; i++) {
                int year = fromYears[i];
                if ((first == NONE || year < first) && now.lostOfAll(wordsIn(year)) > n) {
                    first = year;
                }
            }
            return first;
        }
    }

    /** What was HEARD and put RIGHT, and the sets of TRAITS that FIT to it. */
    private static final class Laughs {
        static final int ROOM = 30;
        static final int ROOM_OF_RIGHTS = 20;
        /** One or two of 24 TRAITS. */
        static final int MOST_SETS = 300;

        private final int[] hearers = new int[ROOM];
        private final int[] traitsThen = new int[ROOM];
        private final int[] laughed = new int[ROOM];
        private final int[] steps = new int[ROOM];
        private final int[] timesRight = new int[ROOM];
        private final int[] rightOnes = new int[ROOM_OF_RIGHTS];
        private final int[] rightLaughs = new int[ROOM_OF_RIGHTS];
        private final int[] rightSteps = new int[ROOM_OF_RIGHTS];
        private final int[] laughedAsKnown = new int[ROOM];
        private final int[] sets = new int[MOST_SETS];
        private int fitting;
        private int latest;
        int size;
        int rights;

        void clear() {
            size = 0;
            rights = 0;
            latest = 0;
        }

        boolean mayTell(int step, int laugh) {
            return step >= latest && step <= LAST_STEP && laugh >= 0 && laugh <= 1;
        }

        boolean isFull() {
            return size >= ROOM;
        }

        boolean isFullOfRights() {
            return rights >= ROOM_OF_RIGHTS;
        }

        int append(int step, int h, int has, int laugh) {
            int k = size;
            if (k < ROOM) {
                hearers[k] = h;
                traitsThen[k] = has;
                laughed[k] = laugh;
                steps[k] = step;
                timesRight[k] = 0;
                latest = step;
                size++;
            }
            return k;
        }

        int putRight(int step, int k, int laugh) {
            if (rights < ROOM_OF_RIGHTS) {
                rightOnes[rights] = k;
                rightLaughs[rights] = laugh;
                rightSteps[rights] = step;
                latest = step;
                timesRight[k]++;
                rights++;
            }
            return timesRight[k];
        }

        /** Finds FIT; how many sets these are. */
        int gather(int h, int known) {
            System.arraycopy(laughed, 0, laughedAsKnown, 0, ROOM);
            for (int r = 0; r < rights; r++) {
                if (rightSteps[r] <= known) {
                    laughedAsKnown[rightOnes[r]] = rightLaughs[r];
                }
            }
            fitting = 0;
            for (int t = 0; t < TRAITS; t++) {
                for (int u = t; u < TRAITS; u++) {
                    int set = 1 << t | 1 << u;
                    if (fitsAll(set, h, known) && fitting < MOST_SETS) {
                        sets[fitting] = set;
                        fitting++;
                    }
                }
            }
            return fitting;
        }

        private boolean fitsAll(int set, int h, int known) {
            for (int k = 0; k < size; k++) {
                if (hearers[k] == h && steps[k] <= known) {
                    int would = (set & ~traitsThen[k]) == 0 ? 1 : 0;
                    if (would != laughedAsKnown[k]) {
                        return false;
                    }
                }
            }
            return true;
        }

        /** How many sets of FIT, as gathered, have a TRAIT. */
        int setsWith(int trait) {
            int sum = 0;
            for (int i = 0; i < fitting; i++) {
                sum += (sets[i] & trait) != 0 ? 1 : 0;
            }
            return sum;
        }

        /** How many sets of FIT, as gathered, would laugh at TRAITS. */
        int setsWithin(int has) {
            int sum = 0;
            for (int i = 0; i < fitting; i++) {
                sum += (sets[i] & ~has) == 0 ? 1 : 0;
            }
            return sum;
        }
    }
}
