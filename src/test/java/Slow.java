import java.util.ArrayList;
import java.util.Arrays;
import java.util.HashMap;
import java.util.HashSet;
import java.util.List;
import java.util.Map;
import java.util.Set;
import java.util.TreeSet;
import java.util.function.IntPredicate;
import java.util.regex.Matcher;
import java.util.regex.Pattern;
import java.util.stream.IntStream;

/**
 * The document said a second time, with sets and lists and every case gone through one by one, for
 * random runs to be held against. It shares no code and no short cut with the class.
 */
final class Slow {
    static final int NONE = -1;
    static final int RANGE = -2;
    static final int FULL = -3;
    static final int STATE = -4;

    private static final List<String> SETTINGS = List.of("lack", "add", "borrow", "long", "notes");

    record Place(int notion, Set<Integer> bears) { }

    record Tie(int p, int q, Set<Integer> traits) { }

    record Hearer(Set<Integer> knows, Set<Integer> laughs) { }

    record Choice(int kind, List<Integer> words) { }

    record Move(int word, int year, Set<Integer> traits) { }

    record Heard(int step, int hearer, Set<Integer> traits, int laugh) { }

    record Right(int step, int k, int laugh) { }

    static final class Told {
        final List<String> notionNames = new ArrayList<>();
        final List<String> wordNames = new ArrayList<>();
        final List<String> hearerNames = new ArrayList<>();
        final List<Set<Integer>> notions = new ArrayList<>();
        final List<Set<Integer>> words = new ArrayList<>();
        final List<Place> places = new ArrayList<>();
        final List<Tie> ties = new ArrayList<>();
        final List<Hearer> hearers = new ArrayList<>();
        final Map<String, Integer> settings = new HashMap<>(Map.of("lack", 2, "add", 1, "borrow", 5, "long", 1, "notes", 6));
        final int[] weights = new int[24];
        final Set<String> toldOnce = new HashSet<>();

        Told() {
            Arrays.fill(weights, 1);
        }
    }

    private static final class Fault extends Exception {
        private static final long serialVersionUID = 1L;
        final int kind;
        final int place;

        Fault(int kind, int place) {
            this.kind = kind;
            this.place = place;
        }
    }

    record Token(String sign, int place) { }

    private String tape = "";
    private Told told = new Told();
    private int faultKind = 0;
    private int faultPlace = NONE;
    private Map<Integer, Choice> choices = new HashMap<>();
    private Map<Integer, Set<Integer>> notes = new HashMap<>();
    private final Map<Integer, Map<Integer, Choice>> keptChoices = new HashMap<>();
    private final Map<Integer, Map<Integer, Set<Integer>>> keptNotes = new HashMap<>();
    private final Map<List<Integer>, Integer> given = new HashMap<>();
    private final List<Move> moved = new ArrayList<>();
    private final List<Heard> laughs = new ArrayList<>();
    private final List<Right> rights = new ArrayList<>();
    private int step = 0;

    // ---- sets

    static Set<Integer> setOf(int bits) {
        Set<Integer> set = new TreeSet<>();
        for (int i = 0; i < 32; i++) {
            if ((bits & 1 << i) != 0) {
                set.add(i);
            }
        }
        return set;
    }

    static int bitsOf(Set<Integer> set) {
        return set.stream().mapToInt(t -> 1 << t).sum();
    }

    static Set<Integer> both(Set<Integer> a, Set<Integer> b) {
        Set<Integer> set = new TreeSet<>(a);
        set.retainAll(b);
        return set;
    }

    static Set<Integer> any(Set<Integer> a, Set<Integer> b) {
        Set<Integer> set = new TreeSet<>(a);
        set.addAll(b);
        return set;
    }

    static Set<Integer> less(Set<Integer> a, Set<Integer> b) {
        Set<Integer> set = new TreeSet<>(a);
        set.removeAll(b);
        return set;
    }

    private int weigh(Set<Integer> set) {
        return set.stream().mapToInt(t -> told.weights[t]).sum();
    }

    private static boolean in(int i, List<?> list) {
        return i >= 0 && i < list.size();
    }

    // ---- the book

    int feed(int... ints) {
        if (tape.length() + 20 > 1200) {
            return FULL;
        }
        StringBuilder more = new StringBuilder(tape);
        for (int i : ints) {
            more.append((char) (i >>> 24)).append((char) (i >>> 16 & 255)).append((char) (i >>> 8 & 255)).append((char) (i & 255));
        }
        tape = more.toString();
        return tape.length();
    }

    int end(int n) {
        if (n < 0 || n > tape.length()) {
            return NONE;
        }
        tape = tape.substring(0, n);
        return n;
    }

    private static List<Token> tokens(String text) {
        List<Token> list = new ArrayList<>();
        Matcher m = Pattern.compile("[ \\n]+|[a-z]+|[0-9]+|[^ \\n]", Pattern.DOTALL).matcher(text);
        while (m.find()) {
            if (!m.group().matches("[ \\n]+")) {
                list.add(new Token(m.group(), m.start()));
            }
        }
        list.add(new Token("", text.length()));
        return list;
    }

    int book() {
        String text = tape;
        tape = "";
        faultKind = 0;
        faultPlace = NONE;
        Told fresh = new Told();
        int clauses = 0;
        try {
            List<Token> rest = new ArrayList<>(tokens(text));
            while (!rest.get(0).sign.isEmpty()) {
                clause(fresh, rest);
                clauses++;
            }
        } catch (Fault f) {
            faultKind = f.kind;
            faultPlace = f.place;
            return NONE;
        }
        told = fresh;
        choices.clear();
        notes.clear();
        keptChoices.clear();
        keptNotes.clear();
        given.clear();
        moved.clear();
        laughs.clear();
        rights.clear();
        step = 0;
        return clauses;
    }

    private static Token word(List<Token> rest) throws Fault {
        Token t = rest.remove(0);
        if (!t.sign.matches("[a-z]{1,24}")) {
            throw new Fault(1, t.place);
        }
        return t;
    }

    private static int number(List<Token> rest, IntPredicate fits) throws Fault {
        Token t = rest.remove(0);
        if (!t.sign.matches("[0-9]{1,3}")) {
            throw new Fault(1, t.place);
        }
        if (!fits.test(Integer.parseInt(t.sign))) {
            throw new Fault(2, t.place);
        }
        return Integer.parseInt(t.sign);
    }

    private static Set<Integer> set(List<Token> rest) throws Fault {
        if (rest.get(0).sign.equals("-")) {
            rest.remove(0);
            return new TreeSet<>();
        }
        Token t = word(rest);
        Set<Integer> set = new TreeSet<>();
        t.sign.chars().forEach(c -> set.add(c - 'a'));
        if (set.contains(24) || set.contains(25)) {
            throw new Fault(2, t.place);
        }
        return set;
    }

    private static void name(List<Token> rest, List<String> names) throws Fault {
        Token t = word(rest);
        if (names.contains(t.sign)) {
            throw new Fault(3, t.place);
        }
        names.add(t.sign);
    }

    private static void room(Token t, List<?> list, int most) throws Fault {
        if (list.size() == most) {
            throw new Fault(4, t.place);
        }
    }

    private static void clause(Told b, List<Token> rest) throws Fault {
        Token key = word(rest);
        switch (key.sign) {
            case "notion" -> {
                room(key, b.notions, 12);
                name(rest, b.notionNames);
                b.notions.add(set(rest));
            }
            case "word" -> {
                room(key, b.words, 20);
                name(rest, b.wordNames);
                b.words.add(set(rest));
            }
            case "hearer" -> {
                room(key, b.hearers, 6);
                name(rest, b.hearerNames);
                b.hearers.add(new Hearer(set(rest), set(rest)));
            }
            case "place" -> {
                room(key, b.places, 24);
                Token t = word(rest);
                int n = b.notionNames.indexOf(t.sign);
                if (n < 0) {
                    throw new Fault(5, t.place);
                }
                int at = rest.get(0).place;
                Set<Integer> bears = set(rest);
                if (!b.notions.get(n).containsAll(bears)) {
                    throw new Fault(6, at);
                }
                b.places.add(new Place(n, bears));
            }
            case "tie" -> {
                room(key, b.ties, 20);
                int p = number(rest, n -> in(n, b.places));
                int at = rest.get(0).place;
                int q = number(rest, n -> in(n, b.places));
                if (p == q) {
                    throw new Fault(3, at);
                }
                b.ties.add(new Tie(p, q, set(rest)));
            }
            case "weight" -> {
                Set<Integer> set = set(rest);
                int n = number(rest, i -> i <= 9);
                set.forEach(t -> b.weights[t] = n);
            }
            case "lack", "add", "borrow", "long", "notes" -> {
                if (!b.toldOnce.add(key.sign)) {
                    throw new Fault(3, key.place);
                }
                int low = key.sign.equals("lack") ? 1 : 0;
                int high = List.of("borrow", "notes").contains(key.sign) ? 99 : 9;
                b.settings.put(key.sign, number(rest, n -> n >= low && n <= high));
            }
            default -> throw new Fault(1, key.place);
        }
        Token close = rest.remove(0);
        if (!close.sign.equals(";")) {
            throw new Fault(1, close.place);
        }
    }

    int fault(int what) {
        return what == 0 ? faultKind : what == 1 ? faultPlace : NONE;
    }

    int told(int what) {
        List<List<?>> lists = List.of(told.notions, told.words, told.places, told.ties, told.hearers);
        if (what >= 0 && what <= 4) {
            return lists.get(what).size();
        }
        if (what >= 5 && what <= 9) {
            return told.settings.get(SETTINGS.get(what - 5));
        }
        return what >= 20 && what <= 43 ? told.weights[what - 20] : NONE;
    }

    int traits(int kind, int i) {
        List<Set<Integer>> list = switch (kind) {
            case 0 -> told.notions;
            case 1 -> told.words;
            case 2 -> told.places.stream().map(Place::bears).toList();
            case 3 -> told.ties.stream().map(Tie::traits).toList();
            case 4 -> told.hearers.stream().map(Hearer::knows).toList();
            case 5 -> told.hearers.stream().map(Hearer::laughs).toList();
            default -> List.of();
        };
        return in(i, list) ? bitsOf(list.get(i)) : RANGE;
    }

    int notion(int p) {
        return in(p, told.places) ? told.places.get(p).notion : RANGE;
    }

    // ---- choices

    private Set<Integer> noted(int p) {
        return notes.getOrDefault(p, Set.of());
    }

    private Set<Integer> notionOf(int p) {
        return told.notions.get(told.places.get(p).notion);
    }

    private static Set<Integer> has(Choice c, List<Set<Integer>> words) {
        Set<Integer> set = new TreeSet<>();
        c.words.forEach(w -> set.addAll(words.get(w)));
        return set;
    }

    private int lostBy(int p, Choice c, List<Set<Integer>> words) {
        Set<Integer> has = has(c, words);
        int lost = told.settings.get("lack") * weigh(less(less(told.places.get(p).bears, has), noted(p)));
        lost += told.settings.get("add") * weigh(less(has, notionOf(p)));
        if (c.kind == 3) {
            return lost + told.settings.get("borrow");
        }
        return lost + told.settings.get("long") * (c.words.size() - 1);
    }

    private int all(List<Set<Integer>> words) {
        return choices.entrySet().stream().mapToInt(e -> lostBy(e.getKey(), e.getValue(), words)).sum();
    }

    int choose(int p, int kind, int a, int b, int c) {
        if (!in(p, told.places) || kind < 0 || kind > 3) {
            return RANGE;
        }
        List<Integer> row = switch (kind) {
            case 0 -> List.of(a);
            case 1 -> List.of(a, b);
            case 2 -> c == NONE ? List.of(a, b) : List.of(a, b, c);
            default -> List.of();
        };
        if (!row.stream().allMatch(w -> in(w, told.words)) || kind == 1 && a == b) {
            return RANGE;
        }
        choices.put(p, new Choice(kind, row));
        return lostBy(p, choices.get(p), told.words);
    }

    int leave(int p) {
        return !in(p, told.places) ? RANGE : choices.remove(p) == null ? 0 : 1;
    }

    int choice(int p, int what) {
        if (!in(p, told.places) || what < 0 || what > 3) {
            return RANGE;
        }
        Choice c = choices.get(p);
        if (c == null) {
            return NONE;
        }
        return what == 0 ? c.kind : what <= c.words.size() ? c.words.get(what - 1) : NONE;
    }

    int bears(int p, int what) {
        if (!in(p, told.places) || what < 0 || what > 4) {
            return RANGE;
        }
        Choice c = choices.get(p);
        if (what == 4) {
            return bitsOf(noted(p));
        }
        if (c == null) {
            return NONE;
        }
        Set<Integer> has = has(c, told.words);
        return switch (what) {
            case 0 -> bitsOf(has);
            case 1 -> bitsOf(less(told.places.get(p).bears, has));
            case 2 -> bitsOf(less(has, notionOf(p)));
            default -> lostBy(p, c, told.words);
        };
    }

    private int notedInAll() {
        return notes.values().stream().mapToInt(Set::size).sum();
    }

    int note(int p, int traits) {
        if (!in(p, told.places) || !notionOf(p).containsAll(setOf(traits))) {
            return RANGE;
        }
        Set<Integer> before = noted(p);
        notes.put(p, setOf(traits));
        if (notedInAll() > told.settings.get("notes")) {
            notes.put(p, before);
            return FULL;
        }
        return notedInAll();
    }

    int lost() {
        return all(told.words);
    }

    private boolean clashing(Tie t) {
        Choice a = choices.get(t.p);
        Choice b = choices.get(t.q);
        if (a == null || b == null || !both(both(has(a, told.words), has(b, told.words)), t.traits).isEmpty()) {
            return false;
        }
        return !(a.kind == 3 && b.kind == 3 && told.places.get(t.p).notion == told.places.get(t.q).notion);
    }

    int clashes() {
        return IntStream.range(0, told.ties.size()).filter(i -> clashing(told.ties.get(i))).map(i -> 1 << i).sum();
    }

    int bound(int p) {
        if (!in(p, told.places)) {
            return RANGE;
        }
        Set<Integer> seen = new TreeSet<>();
        walk(p, seen);
        return bitsOf(seen);
    }

    private void walk(int p, Set<Integer> seen) {
        if (seen.add(p)) {
            for (Tie t : told.ties) {
                if (t.p == p) {
                    walk(t.q, seen);
                }
                if (t.q == p) {
                    walk(t.p, seen);
                }
            }
        }
    }

    private List<Choice> options() {
        List<Choice> list = new ArrayList<>();
        for (int w = 0; w < told.words.size(); w++) {
            list.add(new Choice(0, List.of(w)));
        }
        list.add(new Choice(3, List.of()));
        return list;
    }

    int best(int bits) {
        List<Integer> places = new ArrayList<>(setOf(bits));
        if (places.isEmpty() || places.size() > 4 || !places.stream().allMatch(p -> in(p, told.places))) {
            return RANGE;
        }
        Map<Integer, Choice> before = new HashMap<>(choices);
        Map<Integer, Choice> found = null;
        int least = Integer.MAX_VALUE;
        List<Choice> options = options();
        int rows = (int) Math.pow(options.size(), places.size());
        for (int row = 0; row < rows; row++) {
            int rest = row;
            for (int i = places.size() - 1; i >= 0; i--) {
                choices.put(places.get(i), options.get(rest % options.size()));
                rest /= options.size();
            }
            int lost = lost();
            boolean clash = told.ties.stream().anyMatch(t -> (places.contains(t.p) || places.contains(t.q)) && clashing(t));
            if (lost < least && !clash) {
                least = lost;
                found = new HashMap<>(choices);
            }
        }
        choices = found == null ? before : found;
        return found == null ? NONE : least;
    }

    int exchange() {
        for (int round = 0; round < 10; round++) {
            boolean changed = false;
            for (int p = 0; p < told.places.size(); p++) {
                if (choices.containsKey(p)) {
                    Choice keep = choices.get(p);
                    int least = lost() + 100 * Integer.bitCount(clashes());
                    for (Choice c : options()) {
                        Choice before = choices.put(p, c);
                        int sum = lost() + 100 * Integer.bitCount(clashes());
                        if (sum < least) {
                            least = sum;
                            changed = true;
                            keep = c;
                        }
                        choices.put(p, before);
                    }
                    choices.put(p, keep);
                }
            }
            if (!changed) {
                break;
            }
        }
        return lost();
    }

    private List<Integer> placesOf(int n) {
        return IntStream.range(0, told.places.size()).filter(p -> told.places.get(p).notion == n).boxed().toList();
    }

    private int plain(int p, int w) {
        return lostBy(p, new Choice(0, List.of(w)), told.words);
    }

    int one(int n) {
        if (!in(n, told.notions)) {
            return RANGE;
        }
        int found = NONE;
        int least = Integer.MAX_VALUE;
        for (int w = 0; w < told.words.size(); w++) {
            int sum = 0;
            for (int p : placesOf(n)) {
                sum += plain(p, w);
            }
            if (sum < least) {
                least = sum;
                found = w;
            }
        }
        return found;
    }

    int price(int n) {
        int word = one(n);
        if (word < 0) {
            return word;
        }
        int price = 0;
        for (int p : placesOf(n)) {
            price += plain(p, word) - IntStream.range(0, told.words.size()).map(w -> plain(p, w)).min().getAsInt();
        }
        return price;
    }

    int swap(int n) {
        if (!in(n, told.notions)) {
            return RANGE;
        }
        return IntStream.range(0, told.words.size())
            .filter(w -> placesOf(n).stream().allMatch(p -> told.words.get(w).containsAll(told.places.get(p).bears)))
            .findFirst().orElse(NONE);
    }

    int mend(int n) {
        if (n < 0 || n > 99) {
            return RANGE;
        }
        int done = 0;
        while (done < n && notedInAll() < told.settings.get("notes")) {
            int weight = 0;
            int place = NONE;
            int trait = NONE;
            for (int p : new TreeSet<>(choices.keySet())) {
                for (int t : less(less(told.places.get(p).bears, has(choices.get(p), told.words)), noted(p))) {
                    if (told.weights[t] > weight) {
                        weight = told.weights[t];
                        place = p;
                        trait = t;
                    }
                }
            }
            if (place == NONE) {
                break;
            }
            notes.put(place, any(noted(place), Set.of(trait)));
            done++;
        }
        return done;
    }

    // ---- hearers

    private int cannot(int h, int p) {
        if (!in(h, told.hearers) || !in(p, told.places)) {
            return RANGE;
        }
        return choices.containsKey(p) ? 0 : NONE;
    }

    private Set<Integer> hearing(int h, int p) {
        return both(any(has(choices.get(p), told.words), noted(p)), told.hearers.get(h).knows);
    }

    private int backOf(Set<Integer> hearing) {
        int found = NONE;
        int greatest = Integer.MIN_VALUE;
        for (int n = 0; n < told.notions.size(); n++) {
            Set<Integer> has = told.notions.get(n);
            int sum = 2 * weigh(both(has, hearing)) - weigh(less(has, hearing)) - weigh(less(hearing, has));
            if (sum > greatest) {
                greatest = sum;
                found = n;
            }
        }
        return found;
    }

    int hears(int h, int p) {
        return cannot(h, p) != 0 ? cannot(h, p) : bitsOf(hearing(h, p));
    }

    int back(int h, int p) {
        return cannot(h, p) != 0 ? cannot(h, p) : backOf(hearing(h, p));
    }

    int laughs(int h, int p) {
        if (cannot(h, p) != 0) {
            return cannot(h, p);
        }
        Set<Integer> at = told.hearers.get(h).laughs;
        return !at.isEmpty() && has(choices.get(p), told.words).containsAll(at) ? 1 : 0;
    }

    int hits(int h) {
        return !in(h, told.hearers) ? RANGE
            : (int) choices.keySet().stream().filter(p -> backOf(hearing(h, p)) == told.places.get(p).notion).count();
    }

    int on(int h, int g, int p) {
        if (!in(h, told.hearers) || !in(g, told.hearers) || !in(p, told.places)) {
            return RANGE;
        }
        if (!choices.containsKey(p)) {
            return NONE;
        }
        Set<Integer> n = told.notions.get(back(h, p));
        Set<Integer> said = Set.of();
        int least = Integer.MAX_VALUE;
        for (Set<Integer> w : told.words) {
            int cost = told.settings.get("lack") * weigh(less(n, w)) + told.settings.get("add") * weigh(less(w, n));
            if (cost < least) {
                least = cost;
                said = w;
            }
        }
        return backOf(both(said, told.hearers.get(g).knows));
    }

    int keep(int slot) {
        if (slot < 0 || slot > 3) {
            return RANGE;
        }
        keptChoices.put(slot, new HashMap<>(choices));
        keptNotes.put(slot, new HashMap<>(notes));
        return lost();
    }

    int take(int slot) {
        if (slot < 0 || slot > 3) {
            return RANGE;
        }
        if (!keptChoices.containsKey(slot)) {
            return STATE;
        }
        choices = new HashMap<>(keptChoices.get(slot));
        notes = new HashMap<>(keptNotes.get(slot));
        return lost();
    }

    int nearer(int a, int b, int h) {
        if (a < 0 || a > 3 || b < 0 || b > 3 || !in(h, told.hearers)) {
            return RANGE;
        }
        if (!keptChoices.containsKey(a) || !keptChoices.containsKey(b)) {
            return STATE;
        }
        Map<Integer, Choice> choicesNow = choices;
        Map<Integer, Set<Integer>> notesNow = notes;
        take(a);
        int hitsA = hits(h);
        int lostA = lost();
        take(b);
        int hitsB = hits(h);
        int lostB = lost();
        choices = choicesNow;
        notes = notesNow;
        if (hitsA != hitsB) {
            return hitsA > hitsB ? a : b;
        }
        return lostA == lostB ? NONE : lostA < lostB ? a : b;
    }

    int gives(int v, int p, int w, int n) {
        if (v < 0 || v > 3 || !in(p, told.places) || !in(w, told.words) || n < 0 || n > 99) {
            return RANGE;
        }
        Integer before = given.put(List.of(v, p, w), n);
        return before == null ? 0 : before;
    }

    int agree(int p) {
        if (!in(p, told.places)) {
            return RANGE;
        }
        int found = NONE;
        int max = 0;
        int sum = 0;
        for (int w = 0; w < told.words.size(); w++) {
            int word = w;
            int[] four = IntStream.range(0, 4).map(v -> given.getOrDefault(List.of(v, p, word), 0)).toArray();
            int m = Arrays.stream(four).max().getAsInt();
            int s = Arrays.stream(four).sum();
            if (found == NONE || m < max || m == max && s < sum) {
                found = w;
                max = m;
                sum = s;
            }
        }
        return found;
    }

    // ---- years

    int moves(int w, int year, int traits) {
        if (!in(w, told.words) || year < 0 || year > 2000 || traits < 0 || traits >= 1 << 24
            || moved.stream().anyMatch(m -> m.word == w && m.year > year)) {
            return RANGE;
        }
        if (moved.size() == 40) {
            return FULL;
        }
        moved.add(new Move(w, year, setOf(traits)));
        return moved.size();
    }

    private List<Set<Integer>> wordsIn(int year) {
        List<Set<Integer>> words = new ArrayList<>(told.words);
        moved.stream().filter(m -> m.year <= year).forEach(m -> words.set(m.word, m.traits));
        return words;
    }

    int lostIn(int year) {
        return year < 0 || year > 2000 ? RANGE : all(wordsIn(year));
    }

    int turned(int year) {
        if (year < 0 || year > 2000) {
            return RANGE;
        }
        return year == 0 ? 0 : (int) choices.keySet().stream().filter(p ->
            lostBy(p, choices.get(p), wordsIn(year)) != lostBy(p, choices.get(p), wordsIn(year - 1))).count();
    }

    int until(int n) {
        if (n < 0) {
            return RANGE;
        }
        return IntStream.rangeClosed(0, 2000).filter(y -> lostIn(y) > n).findFirst().orElse(NONE);
    }

    // ---- laughs

    int heard(int at, int h, int p, int laugh) {
        if (at < step || at > 999 || !in(h, told.hearers) || !in(p, told.places) || laugh != 0 && laugh != 1) {
            return RANGE;
        }
        if (!choices.containsKey(p)) {
            return STATE;
        }
        if (laughs.size() == 30) {
            return FULL;
        }
        step = at;
        laughs.add(new Heard(at, h, has(choices.get(p), told.words), laugh));
        return laughs.size() - 1;
    }

    int right(int at, int k, int laugh) {
        if (at < step || at > 999 || !in(k, laughs) || laugh != 0 && laugh != 1) {
            return RANGE;
        }
        if (rights.size() == 20) {
            return FULL;
        }
        step = at;
        rights.add(new Right(at, k, laugh));
        return (int) rights.stream().filter(r -> r.k == k).count();
    }

    private List<Set<Integer>> fits(int h, int known) {
        List<Set<Integer>> list = new ArrayList<>();
        for (int bits = 1; bits < 1 << 24; bits = nextOfOneOrTwo(bits)) {
            Set<Integer> set = setOf(bits);
            boolean fits = true;
            for (int k = 0; k < laughs.size(); k++) {
                Heard x = laughs.get(k);
                int laugh = x.laugh;
                for (Right r : rights) {
                    if (r.k == k && r.step <= known) {
                        laugh = r.laugh;
                    }
                }
                if (x.hearer == h && x.step <= known && x.traits.containsAll(set) != (laugh == 1)) {
                    fits = false;
                }
            }
            if (fits) {
                list.add(set);
            }
        }
        return list;
    }

    private static int nextOfOneOrTwo(int bits) {
        int high = Integer.highestOneBit(bits);
        int low = bits ^ high;
        if (low == 0) {
            return high == 1 ? 2 : high | 1;
        }
        return low << 1 == high ? high << 1 : high | low << 1;
    }

    int fit(int h, int known) {
        return !in(h, told.hearers) || known < 0 || known > 999 ? RANGE : fits(h, known).size();
    }

    int surely(int h, int t, int known) {
        if (!in(h, told.hearers) || known < 0 || known > 999 || t < 0 || t > 23) {
            return RANGE;
        }
        List<Set<Integer>> sets = fits(h, known);
        if (sets.isEmpty()) {
            return NONE;
        }
        if (sets.stream().allMatch(s -> s.contains(t))) {
            return 1;
        }
        return sets.stream().noneMatch(s -> s.contains(t)) ? 0 : 2;
    }

    int next(int h) {
        if (!in(h, told.hearers)) {
            return RANGE;
        }
        List<Set<Integer>> sets = fits(h, 999);
        int found = NONE;
        int least = Integer.MAX_VALUE;
        for (int p : new TreeSet<>(choices.keySet())) {
            Set<Integer> has = has(choices.get(p), told.words);
            int yes = (int) sets.stream().filter(has::containsAll).count();
            int no = sets.size() - yes;
            if (yes > 0 && no > 0 && Math.max(yes, no) < least) {
                least = Math.max(yes, no);
                found = p;
            }
        }
        return found;
    }

    int count(int what) {
        return switch (what) {
            case 0 -> choices.size();
            case 1 -> notedInAll();
            case 2 -> moved.size();
            case 3 -> laughs.size();
            case 4 -> rights.size();
            case 5 -> tape.length();
            default -> NONE;
        };
    }
}
