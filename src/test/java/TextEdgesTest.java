/** The edges that the document names of a text and its FAULTS: the first of its terms, promises 4 and 5. */
public final class TextEdgesTest {
    private static final Check check = new Check();
    private static final int NONE = HeronBook.NONE;
    private static final int SYNTAX = 1;
    private static final int RANGE = 2;
    private static final int TWICE = 3;
    private static final int ROOM = 4;
    private static final int UNKNOWN = 5;
    private static final int OUT = 6;
    private static final String ALL = "abcdefghijklmnopqrstuvwx";
    private static final String[] SETTINGS = {"lack", "add", "borrow", "long", "notes"};
    private static final int[] UNTOLD = {2, 1, 5, 1, 6};

    private static String shown(String text) {
        return "\"" + (text.length() > 60 ? ".." + text.substring(text.length() - 60) : text) + "\"";
    }

    /** On an object that has something of everything: the FAULT is told, and all stays. */
    private static void fault(String text, int kind, int place) {
        HeronBook x = Twins.rich();
        check.due("book of " + shown(text), Check.read(x, text), NONE);
        check.due("KIND in " + shown(text), x.fault(0), kind);
        check.due("PLACE in " + shown(text), x.fault(1), place);
        check.due("bytes behind " + shown(text), x.count(5), 0);
        Twins.alikeButTape(check, "behind " + shown(text), Twins.rich(), x);
    }

    /** On an object that has something of everything: this text is THE BOOK, as it would be on a new one. */
    private static HeronBook sound(String text, int clauses) {
        HeronBook x = Twins.rich();
        check.due("book of " + shown(text), Check.read(x, text), clauses);
        check.due("KIND in " + shown(text), x.fault(0), 0);
        check.due("PLACE in " + shown(text), x.fault(1), NONE);
        HeronBook plain = new HeronBook();
        Check.read(plain, text);
        Twins.alike(check, "behind " + shown(text), plain, x);
        plain = new HeronBook();
        Check.read(plain, text);
        return plain;
    }

    private static String rows(String before, int n, String behind) {
        StringBuilder text = new StringBuilder();
        for (int i = 0; i < n; i++) {
            text.append(before).append((char) ('a' + i)).append(behind);
        }
        return text.toString();
    }

    private static void aText() {
        check.sentence("a text = {clause \";\"}: none, one, many");
        sound("", 0);
        sound(" ", 0);
        sound("\n", 0);
        sound("lack 1;", 1);
        sound("lack 1;add 1;", 2);
        sound("weight-1;".repeat(133), 133);
        fault(";", SYNTAX, 0);
        fault("lack 1;;", SYNTAX, 7);
        fault("lack 1;;add 1;", SYNTAX, 7);
        fault("lack 1", SYNTAX, 6);
        fault("lack 1;add 1", SYNTAX, 12);
        fault("lack 1 add 1;", SYNTAX, 7);
    }

    private static void everyByteBetween() {
        check.sentence("any blanks (32, 10) between TOKENS; a byte that is none of them is SYNTAX");
        for (int b = 0; b < 256; b++) {
            HeronBook x = new HeronBook();
            int answer = Check.read(x, "lack" + (char) b + "3;");
            if (b == 32 || b == 10 || b == '0') {
                check.due("byte " + b, answer, 1);
                check.due("lack", x.told(5), 3);
            } else {
                check.due("byte " + b, answer, NONE);
                boolean digit = b >= '1' && b <= '9';
                boolean letter = b >= 'a' && b <= 'z';
                check.due("KIND with byte " + b, x.fault(0), digit ? RANGE : SYNTAX);
                check.due("PLACE with byte " + b, x.fault(1), letter ? 0 : 4);
            }
        }
        check.sentence("blanks ahead of the first TOKEN and behind the last one, many of them, none");
        sound(" \n\n  lack   \n 3 \n ;\n \n", 1);
        sound("lack3;add4;borrow5;long6;notes7;", 5);
        sound("notion a-;word b-;place a-;place a-;tie0 1-;hearer h--;weight-0;", 7);
        check.sentence("a blank parts WORDS, and digits");
        fault("la ck 3;", SYNTAX, 0);
        fault("weight a 1 0;", SYNTAX, 11);
        fault("notion a b c;", SYNTAX, 11);
    }

    private static void everyByteOfAWord() {
        check.sentence("WORDS: small letters");
        for (int b = 0; b < 256; b++) {
            HeronBook x = new HeronBook();
            int answer = Check.read(x, "notion q" + (char) b + ";");
            boolean letter = b >= 'a' && b <= 'z';
            if (b == '-') {
                check.due("-", answer, 1);
            } else {
                check.due("byte " + b, answer, NONE);
                check.due("KIND with byte " + b, x.fault(0), SYNTAX);
                check.due("PLACE with byte " + b, x.fault(1), letter || b == 32 || b == 10 ? 9 : 8);
            }
        }
        check.sentence("N: digits");
        for (int b = 0; b < 256; b++) {
            HeronBook x = new HeronBook();
            int answer = Check.read(x, "borrow 1" + (char) b + ";");
            boolean fits = b >= '0' && b <= '9' || b == 32 || b == 10;
            check.due("byte " + b, answer, fits ? 1 : NONE);
            check.due("KIND with byte " + b, x.fault(0), fits ? 0 : SYNTAX);
            check.due("PLACE with byte " + b, x.fault(1), fits ? NONE : b == ';' ? 9 : 8);
            check.due("borrow", x.told(7), !fits ? 5 : b < '0' ? 1 : 10 + b - '0');
        }
    }

    private static void longRuns() {
        String longest = "abcdefghijklmnopqrstuvwx";
        String tooLong = "abcdefghijklmnopqrstuvwxy";
        String most = ALL;
        String tooMany = "a".repeat(25);
        check.sentence("WORDS: 24 at most, in each place of a clause");
        sound("notion " + longest + " a;place " + longest + " a;", 2);
        sound("word " + longest + " a;hearer " + longest + " a a;", 2);
        sound("notion a " + most + ";word a " + most + ";place a " + most + ";place a -;tie 0 1 " + most + ";", 5);
        sound("hearer a " + most + " " + most + ";weight " + most + " 9;", 2);
        fault("notion " + tooLong + " a;", SYNTAX, 7);
        fault("word " + tooLong + " a;", SYNTAX, 5);
        fault("hearer " + tooLong + " a a;", SYNTAX, 7);
        fault("notion a a;place " + tooLong + " a;", SYNTAX, 17);
        fault("notion a " + tooMany + ";", SYNTAX, 9);
        fault("word a " + tooMany + ";", SYNTAX, 7);
        fault("notion a a;place a " + tooMany + ";", SYNTAX, 19);
        fault("notion a a;place a a;place a a;tie 0 1 " + tooMany + ";", SYNTAX, 39);
        fault("hearer a " + tooMany + " a;", SYNTAX, 9);
        fault("hearer a a " + tooMany + ";", SYNTAX, 11);
        fault("weight " + tooMany + " 1;", SYNTAX, 7);
        fault("notion" + "a".repeat(19) + " a;", SYNTAX, 0);
        fault("notion" + "a".repeat(18) + " a;", SYNTAX, 0);
        check.sentence("a run that is too long is SYNTAX, whatever else would be");
        fault("notion a " + "z".repeat(25) + ";", SYNTAX, 9);
        fault("notion a a;place a " + "b".repeat(25) + ";", SYNTAX, 19);
        fault("a".repeat(1200), SYNTAX, 0);
        fault("lack " + "0".repeat(1195), SYNTAX, 5);
        check.sentence("N: 3 at most, in each place of a clause");
        sound("notion a -;place a -;place a -;tie 000 001 -;weight a 009;lack 001;add 000;borrow 099;long 009;notes 099;", 10);
        fault("notion a -;place a -;place a -;tie 0000 1 -;", SYNTAX, 35);
        fault("notion a -;place a -;place a -;tie 0 0001 -;", SYNTAX, 37);
        fault("weight a 0009;", SYNTAX, 9);
        for (String setting : SETTINGS) {
            fault(setting + " 0001;", SYNTAX, setting.length() + 1);
            fault(setting + " 9999;", SYNTAX, setting.length() + 1);
        }
        check.sentence("as many as there are: a run is one TOKEN");
        fault("notionab c;", SYNTAX, 0);
        fault("lacka 1;", SYNTAX, 0);
        fault("notion a -;place a -;place a -;tie 01 -;", SYNTAX, 38);
        check.due("two digits", sound("borrow 12;", 1).told(7), 12);
    }

    /** Each clause is cut behind each of its bytes: what fails is the WORD that begins it, or the text's end. */
    private static void cutAnywhere() {
        check.sentence("PLACE of a FAULT: a TOKEN's first byte; the text's length at its end");
        String ahead = "notion n a;place n a;place n a;";
        String[] clauses = {"notion m a;", "word w a;", "place n a;", "tie 0 1 a;", "hearer h a a;", "weight a 9;", "lack 1;", "add 0;", "borrow 0;", "long 0;",
            "notes 0;"};
        for (String clause : clauses) {
            int key = clause.indexOf(' ');
            for (int cut = 0; cut <= clause.length(); cut++) {
                String text = ahead + clause.substring(0, cut);
                HeronBook x = new HeronBook();
                int answer = Check.read(x, text);
                boolean whole = cut == 0 || cut == clause.length();
                check.due("book of " + text, answer, whole ? cut == 0 ? 3 : 4 : NONE);
                check.due("KIND in " + text, x.fault(0), whole ? 0 : SYNTAX);
                check.due("PLACE in " + text, x.fault(1), whole ? NONE : cut < key ? ahead.length() : text.length());
            }
        }
        fault("notion  ", SYNTAX, 8);
        fault("notion a\n\n\n", SYNTAX, 11);
        fault("  \n lack 0;", RANGE, 9);
        check.sentence("the PLACE may be 0, and 1199, and 1200");
        fault("?", SYNTAX, 0);
        fault(" ".repeat(1199) + "?", SYNTAX, 1199);
        fault("lack 3" + " ".repeat(1194), SYNTAX, 1200);
    }

    /** Whether a TOKEN may stand where a clause asks for W, S, N or ;. */
    private static boolean belongs(char asked, String token) {
        switch (asked) {
            case 'W': return token.equals("q");
            case 'S': return token.equals("q") || token.equals("-");
            case 'N': return token.equals("1");
            default: return token.equals(";");
        }
    }

    /** In each place of a clause each TOKEN that doesn't belong there. */
    private static void wrongTokens() {
        check.sentence("SYNTAX: a TOKEN with which no text goes on");
        String ahead = "notion n a;place n a;place n a;";
        String[] clauses = {"notion m a ;", "word w a ;", "place n a ;", "tie 0 1 a ;", "hearer h a - ;", "weight a 1 ;", "lack 1 ;", "add 1 ;", "borrow 1 ;",
            "long 1 ;", "notes 1 ;"};
        String[] asked = {"WS;", "WS;", "WS;", "NNS;", "WSS;", "SN;", "N;", "N;", "N;", "N;", "N;"};
        for (int i = 0; i < clauses.length; i++) {
            String[] parts = clauses[i].split(" ");
            String text = ahead + parts[0] + " ";
            for (int k = 0; k < asked[i].length(); k++) {
                for (String token : new String[] {"q", "-", "1", ";", "?"}) {
                    if (!belongs(asked[i].charAt(k), token)) {
                        HeronBook x = new HeronBook();
                        check.due("book of " + text + token, Check.read(x, text + token), NONE);
                        check.due("KIND in " + text + token, x.fault(0), SYNTAX);
                        check.due("PLACE in " + text + token, x.fault(1), text.length());
                    }
                }
                text += parts[k + 1] + " ";
            }
            sound(text, 4);
        }
        check.sentence("SYNTAX: a clause begins with one of eleven WORDS");
        for (String key : new String[] {"notio", "notions", "wor", "words", "plac", "places", "ti", "ties", "heare", "hearers", "weigh", "weights", "lac", "lacks",
            "ad", "adds", "borro", "borrows", "lon", "longs", "note", "notess", "a", "notiom", "motion", "told", "made", "borrowed"}) {
            fault(key + " 1;", SYNTAX, 0);
        }
        fault("1 a;", SYNTAX, 0);
        fault("- a;", SYNTAX, 0);
        fault("LACK 1;", SYNTAX, 0);
    }

    private static void sets() {
        check.sentence("a SET: a WORD of letters a .. x");
        HeronBook x = sound("notion n " + ALL + ";word w x;place n x;place n a;tie 0 1 x;hearer h x x;weight x 7;", 7);
        int last = 1 << 23;
        check.due("all", x.traits(0, 0), (1 << 24) - 1);
        for (int[] kind : new int[][] {{1, 0}, {2, 0}, {3, 0}, {4, 0}, {5, 0}}) {
            check.due("TRAIT 23 of kind " + kind[0], x.traits(kind[0], kind[1]), last);
        }
        check.due("TRAIT 0", x.traits(2, 1), 1);
        check.due("weight of x", x.told(43), 7);
        for (char trait = 'a'; trait <= 'x'; trait++) {
            check.due("TRAIT " + trait, Check.of("word w " + trait + ";").traits(1, 0), 1 << trait - 'a');
        }
        check.sentence("RANGE: a SET with y or z, in each place of a clause");
        String ahead = "notion n a;place n a;place n a;";
        for (String set : new String[] {"y", "z", "ay", "za", "xyz", "aaaaaaaaaaaaaaaaaaaaaaay"}) {
            fault("notion m " + set + ";", RANGE, 9);
            fault("word m " + set + ";", RANGE, 7);
            fault("hearer m " + set + " a;", RANGE, 9);
            fault("hearer m a " + set + ";", RANGE, 11);
            fault("weight " + set + " 1;", RANGE, 7);
            fault(ahead + "place n " + set + ";", RANGE, 39);
            fault(ahead + "tie 0 1 " + set + ";", RANGE, 39);
        }
        check.sentence("a SET: it doesn't matter if a TRAIT stands twice");
        Twins.alike(check, "aab and ab", Check.of("notion n ab;word w ca;place n a;weight ab 3;hearer h a b;"),
            Check.of("notion n aab;word w caca;place n aaa;weight bbaa 3;hearer h aa bb;"));
        check.sentence("a SET: - (no TRAIT), in each place of a clause");
        HeronBook none = sound("notion n -;word w -;place n -;place n -;tie 0 1 -;hearer h - -;weight - 9;", 7);
        for (int kind = 0; kind < 6; kind++) {
            check.due("kind " + kind, none.traits(kind, 0), 0);
        }
        check.due("no weight", none.told(20), 1);
        check.due("no weight", none.told(43), 1);
        fault("notion n --;", SYNTAX, 10);
        fault("notion n a-;", SYNTAX, 10);
        fault("notion n -a;", SYNTAX, 10);
    }

    private static void names() {
        check.sentence("W: any WORD");
        sound("notion notion a;word word a;place notion a;hearer hearer a a;notion y a;notion z a;place z a;", 7);
        sound("notion tie a;notion weight a;notion lack a;place lack a;", 4);
        check.sentence("TWICE: a name that a NOTION (word, HEARER) has");
        fault("notion n a;notion n b;", TWICE, 18);
        fault("word n a;word n b;", TWICE, 14);
        fault("hearer n a a;hearer n b b;", TWICE, 20);
        fault("notion abcdefghijklmnopqrstuvwx a;notion abcdefghijklmnopqrstuvwx", TWICE, 41);
        fault(rows("notion ", 11, " -;") + "notion k -;", TWICE, 128);
        fault(rows("word ", 19, " -;") + "word a -;", TWICE, 176);
        fault(rows("hearer ", 5, " - -;") + "hearer e - -;", TWICE, 72);
        check.sentence("a NOTION, a word and a HEARER may have one name; a name that begins alike is another one");
        sound("notion n a;word n a;hearer n a a;place n a;place n -;", 5);
        sound("notion n a;notion nn b;notion nnn c;notion m d;place nn b;place nnn c;", 6);
        sound("word ab a;word ac a;word bb a;word b a;word a a;", 5);
        check.sentence("a name is the same one behind whatever blanks");
        sound("notion n a;place\nn a;place  \n n a;", 3);
        fault("notion n a;notion\nn a;", TWICE, 18);
        fault("word\nn a;word n a;", TWICE, 14);
        fault("hearer n a a;hearer \nn a a;", TWICE, 21);
        check.sentence("a name of THE BOOK that was is none of the next one");
        HeronBook x = Check.of("notion n a;word n a;hearer n a a;lack 3;add 3;borrow 3;long 3;notes 3;");
        check.due("again", Check.read(x, "notion n a;word n a;hearer n a a;lack 3;add 3;borrow 3;long 3;notes 3;"), 8);
        check.due("without them", Check.read(x, "place n a;"), NONE);
        check.due("KIND", x.fault(0), UNKNOWN);
        check.sentence("a name told in a text with a FAULT is none of the next one");
        check.due("a FAULT", Check.read(x, "notion q a;lack 3;lack"), NONE);
        check.due("the next one", Check.read(x, "lack 4;notion q b;"), 2);
        check.due("its lack", x.told(5), 4);
    }

    private static void rooms() {
        String[] keys = {"notion ", "word ", "hearer "};
        String[] behind = {" -;", " -;", " - -;"};
        int[] most = {12, 20, 6};
        int[] what = {0, 1, 4};
        for (int i = 0; i < 3; i++) {
            check.sentence("at most " + most[i] + " of " + keys[i] + "; ROOM: one too many, at its first WORD");
            String full = rows(keys[i], most[i], behind[i]);
            HeronBook x = sound(full, most[i]);
            check.due("how many", x.told(what[i]), most[i]);
            check.due("one less", sound(rows(keys[i], most[i] - 1, behind[i]), most[i] - 1).told(what[i]), most[i] - 1);
            fault(rows(keys[i], most[i] + 1, behind[i]), ROOM, full.length());
            fault(full + keys[i].trim(), ROOM, full.length());
            fault(full + " \n" + keys[i] + "1;", ROOM, full.length() + 2);
            fault(full + keys[i] + "a y", ROOM, full.length());
            sound(full + "lack 1;", most[i] + 1);
        }
        String ahead = "notion n -;";
        check.sentence("PLACES, at most 24");
        check.due("24", sound(ahead + "place n -;".repeat(24), 25).told(2), 24);
        fault(ahead + "place n -;".repeat(25), ROOM, 251);
        fault(ahead + "place n -;".repeat(24) + "place", ROOM, 251);
        fault(ahead + "place n -;".repeat(24) + "place q", ROOM, 251);
        fault(ahead + "place n -;".repeat(23) + "place q", UNKNOWN, 247);
        check.sentence("TIES, at most 20");
        ahead = "notion n -;place n -;place n -;";
        check.due("20", sound(ahead + "tie 0 1 -;".repeat(20), 23).told(3), 20);
        fault(ahead + "tie 0 1 -;".repeat(21), ROOM, 231);
        fault(ahead + "tie 0 1 -;".repeat(20) + "tie", ROOM, 231);
        fault(ahead + "tie 0 1 -;".repeat(20) + "tie 9", ROOM, 231);
        fault(ahead + "tie 0 1 -;".repeat(19) + "tie 9", RANGE, 225);
        check.sentence("each has its own room");
        sound(AnyCallTest.fullBook(), 82);
        HeronBook x = Check.of(AnyCallTest.fullBook());
        int[] counts = {12, 20, 24, 20, 6};
        for (int i = 0; i < 5; i++) {
            check.due("told(" + i + ")", x.told(i), counts[i]);
        }
    }

    private static void placesAndTies() {
        check.sentence("A PLACE: its NOTION, told ahead of it; UNKNOWN: a W behind place that is no NOTION");
        sound("notion n a;place n a;", 2);
        fault("place n a;notion n a;", UNKNOWN, 6);
        fault("word n a;hearer n a a;place n a;", UNKNOWN, 28);
        fault("notion n a;place nn a;", UNKNOWN, 17);
        fault("notion nn a;place n a;", UNKNOWN, 18);
        fault("notion n a;place m", UNKNOWN, 17);
        fault("notion n a;place N a;", SYNTAX, 17);
        HeronBook x = sound(rows("notion ", 12, " -;") + "place l -;place a -;", 14);
        check.due("the last NOTION", x.notion(0), 11);
        check.due("the first NOTION", x.notion(1), 0);
        check.sentence("OUT: a SET of a place with a TRAIT that its NOTION has not");
        sound("notion n bc;notion m a;place n bc;place n b;place n -;place m a;", 6);
        fault("notion n bc;notion m a;place n abc;", OUT, 31);
        fault("notion n bc;notion m a;place n bcd;", OUT, 31);
        fault("notion n bc;notion m a;place n a;", OUT, 31);
        fault("notion n -;place n a", OUT, 19);
        fault("notion n abcdefghijklmnopqrstuvw;place n x;", OUT, 41);
        sound("notion n bcdefghijklmnopqrstuvwx;place n x;", 2);
        check.sentence("RANGE: a PLACE of a tie that is none; PLACES told ahead of it");
        String ahead = "notion n -;place n -;place n -;";
        sound(ahead + "tie 0 1 -;tie 1 0 -;", 5);
        fault(ahead + "tie 2 0 -;", RANGE, 35);
        fault(ahead + "tie 0 2 -;", RANGE, 37);
        fault(ahead + "tie 1 2 -;place n -;", RANGE, 37);
        sound(ahead + "place n -;tie 1 2 -;", 5);
        fault("tie 0 1 -;", RANGE, 4);
        fault("notion n -;place n -;tie 0 1 -;", RANGE, 27);
        fault("notion n -;place n -;tie 1 0 -;", RANGE, 25);
        String most = "notion n -;" + "place n -;".repeat(24);
        sound(most + "tie 23 0 -;tie 0 23 -;", 27);
        fault(most + "tie 24 0 -;", RANGE, 255);
        fault(most + "tie 0 24 -;", RANGE, 257);
        fault(most + "tie 999 0 -;", RANGE, 255);
        check.sentence("TWICE: the second PLACE of a tie that is its first; a TIE: two unlike PLACES");
        fault(ahead + "tie 0 0 -;", TWICE, 37);
        fault(ahead + "tie 1 001 -;", TWICE, 37);
        fault(most + "tie 23 23 -;", TWICE, 258);
        fault(ahead + "tie 1 1", TWICE, 37);
        check.sentence("a tie of the same PLACES again is another TIE");
        check.due("TIES", sound(ahead + "tie 0 1 a;tie 0 1 a;tie 1 0 a;", 6).told(3), 3);
    }

    private static void bounds() {
        int[] low = {1, 0, 0, 0, 0};
        int[] high = {9, 9, 99, 9, 99};
        for (int i = 0; i < 5; i++) {
            check.sentence(SETTINGS[i] + " " + low[i] + " .. " + high[i] + " (" + UNTOLD[i] + ")");
            int at = SETTINGS[i].length() + 1;
            check.due("the least", sound(SETTINGS[i] + " " + low[i] + ";", 1).told(5 + i), low[i]);
            check.due("the most", sound(SETTINGS[i] + " " + high[i] + ";", 1).told(5 + i), high[i]);
            fault(SETTINGS[i] + " " + (high[i] + 1) + ";", RANGE, at);
            fault(SETTINGS[i] + " 999;", RANGE, at);
            fault(SETTINGS[i] + " -1;", SYNTAX, at);
            check.due("what isn't told", sound("", 0).told(5 + i), UNTOLD[i]);
            for (int k = 0; k < 5; k++) {
                check.due("what isn't told", sound(SETTINGS[k] + " 7;", 1).told(5 + i), i == k ? 7 : UNTOLD[i]);
            }
            check.sentence("TWICE: " + SETTINGS[i] + " told again");
            fault(SETTINGS[i] + " 3;" + SETTINGS[i] + " 3;", TWICE, at + 2);
            fault(SETTINGS[i] + " 3;" + SETTINGS[i], TWICE, at + 2);
            fault(SETTINGS[i] + " 3;weight a 3;" + SETTINGS[i] + " 999;", TWICE, at + 13);
            fault(SETTINGS[i] + " " + UNTOLD[i] + ";" + SETTINGS[i] + " 1;", TWICE, at + 2);
        }
        fault("lack 0;", RANGE, 5);
        fault("lack 000;", RANGE, 5);
        sound("lack 1;add 1;borrow 1;long 1;notes 1;", 5);
        check.sentence("weight 0 .. 9 for each TRAIT of the SET (1)");
        HeronBook x = sound("weight ax 0;weight bw 9;", 2);
        int[] traits = {0, 1, 2, 21, 22, 23};
        int[] due = {0, 9, 1, 1, 9, 0};
        for (int i = 0; i < 6; i++) {
            check.due("weight " + traits[i], x.told(20 + traits[i]), due[i]);
        }
        fault("weight a 10;", RANGE, 9);
        fault("weight - 10;", RANGE, 9);
        fault("weight a 999;", RANGE, 9);
        fault("weight a 1", SYNTAX, 10);
        check.sentence("a weight may be told again: the later one is");
        HeronBook again = sound("weight abc 4;weight b 0;weight - 7;", 3);
        check.due("a", again.told(20), 4);
        check.due("b", again.told(21), 0);
        check.due("c", again.told(22), 4);
    }

    private static void theFirstAndTheLeast() {
        check.sentence("the first FAULT come to as TOKENS are read one by one");
        String out = "place n b;";
        String unknown = "place q y;";
        String range = "lack 0;";
        String twice = "notion n y;";
        fault("notion n a;" + out + "??", OUT, 19);
        fault("notion n a;" + unknown + out + "??", UNKNOWN, 17);
        fault("notion n a;" + twice + unknown, TWICE, 18);
        fault("notion n a;" + range + twice, RANGE, 16);
        fault("notion n a;?" + range, SYNTAX, 11);
        fault("notion n a;place n b?", OUT, 19);
        fault("notion n a;place q ?", UNKNOWN, 17);
        fault("hearer h y ?", RANGE, 9);
        fault("hearer h a z?", RANGE, 11);
        fault("notion n a;place n a;tie 1 1 y", RANGE, 25);
        fault("notion n a;place n a;tie 0 0 y", TWICE, 27);
        fault("weight z 10;", RANGE, 7);
        fault("lack 3;lack 0;", TWICE, 7);
        check.sentence("of one TOKEN the least KIND");
        fault("notion n a;place n yb;", RANGE, 19);
        fault("notion n a;place n by;", RANGE, 19);
        fault("notion n a;place n z;", RANGE, 19);
        fault("lack 0000;", SYNTAX, 5);
        fault("notion n a;place " + "q".repeat(25) + " a;", SYNTAX, 17);
        fault(rows("notion ", 12, " -;") + "notions", SYNTAX, 132);
    }

    private static void faultWhat() {
        check.sentence("fault: KIND, 0 without, and ahead of any; PLACE (NONE); NONE for another what");
        HeronBook x = new HeronBook();
        check.due("KIND ahead of any", x.fault(0), 0);
        check.due("PLACE ahead of any", x.fault(1), NONE);
        Check.read(x, " lack 0;");
        check.due("KIND", x.fault(0), RANGE);
        check.due("PLACE", x.fault(1), 6);
        for (int what : new int[] {-1, 2, 3, Integer.MIN_VALUE, Integer.MAX_VALUE}) {
            check.due("fault(" + what + ")", x.fault(what), NONE);
            Twins.refused(check, "fault(" + what + ")", y -> y.fault(what), NONE);
        }
        check.sentence("fault: of the latest book()");
        Check.read(x, "notion n");
        check.due("KIND", x.fault(0), SYNTAX);
        check.due("PLACE", x.fault(1), 8);
        x.feed(0x6c61636b, 0x20303b20, 0, 0, 0);
        x.end(6);
        check.due("KIND while the next one is fed", x.fault(0), SYNTAX);
        x.end(0);
        check.due("an empty text", x.book(), 0);
        check.due("KIND", x.fault(0), 0);
        check.due("PLACE", x.fault(1), NONE);
    }

    public static void main(String[] args) {
        aText();
        everyByteBetween();
        everyByteOfAWord();
        longRuns();
        cutAnywhere();
        wrongTokens();
        sets();
        names();
        rooms();
        placesAndTies();
        bounds();
        theFirstAndTheLeast();
        faultWhat();
        check.close("TextEdgesTest");
    }
}
