import java.util.ArrayList;
import java.util.List;

/** Promises 1 to 7 at their bounds: a new object, the text, what it tells. */
public final class HillEdgeTest {
    private static final int BAD = Edges.BAD;
    private static final int STATE = Edges.STATE;
    private static final int FULL = Edges.FULL;
    private static final int NONE = Edges.NONE;
    private static final int NO = Edges.NO;
    private static final Dues DUES = new Dues("HillEdgeTest");
    private static final Edges EDGES = new Edges(DUES);

    public static void main(String[] args) {
        nothingThere();
        everythingFull();
        typedBytes();
        typedOrder();
        textLength();
        typedBadAheadOfFull();
        clearTakesTheTextAlone();
        sixTerraces();
        numbersOfItems();
        songOfToldTerraces();
        numbersThatAreNone();
        twentyDays();
        toldOnce();
        songLength();
        blanks();
        eachByte();
        wordsThatAreNone();
        anotherSortOfToken();
        firstOfSeveralFaults();
        endsTooEarly();
        placesOfFaults();
        howManyItems();
        atFirst();
        readAnew();
        terraceBounds();
        dripBounds();
        songBounds();
        DUES.close();
    }

    private static void due(String what, long got, long want) {
        EDGES.due(what, got, want);
    }

    private static void reads(String text, int items) {
        DropDealers x = Edges.typed(new DropDealers(), text);
        due("4 hill of '" + text + "'", x.hill(), items);
        due("4 the text is empty behind '" + text + "'", x.count(5), 0);
    }

    /** The sign ^ stands ahead of the token that is the fault; it is no part of the text. */
    private static void fault(String marked) {
        int place = marked.indexOf('^');
        String text = marked.replace("^", "");
        EDGES.changesNothing("4 hill of '" + text + "'", () -> typedAnew(text), -10 - place, x -> x.hill());
    }

    private static DropDealers typedAnew(String text) {
        DropDealers x = Edges.busy();
        x.clear();
        return Edges.typed(x, text);
    }

    // "As told; no TERRACES, no DROPS."
    private static void nothingThere() {
        DropDealers x = new DropDealers();
        for (int t = -1; t <= 1; t++) {
            due("1 terrace", x.terrace(t, 0), BAD);
            due("1 give", x.give(t, 1), BAD);
            due("1 bird", x.bird(t), BAD);
            due("1 got", x.got(1, t, 0, 0), BAD);
            due("1 mark", x.mark(0, t), NO);
            due("1 saw", x.saw(0, t), BAD);
            due("1 today", x.today(t), t == -1 ? NONE : BAD);
            due("1 tried", x.tried(1, 1, t), NONE);
            due("1 back", x.back(t), t == -1 ? BAD : STATE);
            due("1 song", x.song(t), t == -1 ? BAD : t == 0 ? 0 : NONE);
        }
        for (int day = 0; day <= 99; day++) {
            due("1 drip", x.drip(day), 0);
        }
        for (int k = 1; k <= 20; k++) {
            due("1 least", x.least(k), 0);
        }
        for (int n = 1; n <= 12; n++) {
            due("1 could", x.could(n), 0);
            due("1 who", x.who(n, n - 1), 0);
        }
        due("1 safe", x.safe(), 40);
        due("1 deal", x.deal(), STATE);
        due("1 forget", x.forget(), 0);
        due("1 clear", x.clear(), 0);
        due("1 trace", x.trace(), 0);
        due("1 lot", x.lot(1), 1);
        EDGES.alike("1 all of this changed nothing", x, new DropDealers());
        due("1 an empty text", new DropDealers().hill(), 0);
        due("1 keep", new DropDealers().keep(1), 0);
        due("1 end", new DropDealers().end(), 0);
    }

    private static void everythingFull() {
        DropDealers x = Edges.full();
        int[] counts = {6, 20, 2, 9, 8, 300};
        for (int what = 0; what < counts.length; what++) {
            due("26 full " + what, x.count(what), counts[what]);
        }
        due("7 the eighth", x.song(7), 5);
        due("6 day 0", x.drip(0), 30);
        due("6 day 19", x.drip(19), 9);
        due("12 day 99", x.now(0), 99);
        EDGES.changesNothing("2 full", Edges::full, FULL, y -> y.type(0x20, 1));
        EDGES.changesNothing("11 full", Edges::full, STATE, y -> y.end());
        EDGES.changesNothing("19 full", Edges::full, FULL, y -> y.saw(8, 1));
        EDGES.changesNothing("8 full", Edges::full, STATE, y -> y.deal());
        due("4 read anew", x.hill(), 1);
        due("4 read anew", x.count(0), 0);
        due("2 there is room again", x.type(0x20, 1), 1);
    }

    // "The lowest n (1 .. 8) bytes of v"
    private static void typedBytes() {
        EDGES.bounds("2 type", Edges::busy, 1, 8, BAD, (x, n) -> x.type(0x20, n));
        long[] values = {0, -1, Long.MIN_VALUE, Long.MAX_VALUE};
        for (long v : values) {
            for (int n = 1; n <= 8; n++) {
                due("2 type " + v + " " + n, new DropDealers().type(v, n), n);
            }
        }
    }

    // "the highest of them first": the bytes above those n don't come.
    private static void typedOrder() {
        String eight = "drip 7 2";
        for (int n = 1; n <= 8; n++) {
            DropDealers x = new DropDealers();
            for (int at = 0; at < 8; at += n) {
                int part = Math.min(n, 8 - at);
                long v = -1;
                for (int i = at; i < at + part; i++) {
                    v = v << 8 | eight.charAt(i);
                }
                due("2 in parts of " + n, x.type(v, part), at + part);
            }
            x.type(0x203BL, 2);
            due("2 in parts of " + n, x.hill(), 1);
            due("2 in parts of " + n, x.drip(1), 7);
            due("2 in parts of " + n, x.count(1), 2);
        }
    }

    // "a text (300 bytes at most)", "FULL"
    private static void textLength() {
        for (int n = 1; n <= 8; n++) {
            int just = n;
            due("2 just 300 by " + n, filled(300 - n).type(0x2020202020202020L, n), 300);
            EDGES.changesNothing("2 301 by " + n, () -> filled(301 - just), FULL, x -> x.type(0x203B3B203B3B203BL, just));
            EDGES.changesNothing("2 full, by " + n, () -> filled(300), FULL, x -> x.type(0x203B3B203B3B203BL, just));
        }
        DropDealers x = filled(299);
        due("2 two more", x.type(0x2020, 2), FULL);
        due("2 one more", x.type(0x20, 1), 300);
        due("3 full", x.clear(), 300);
        due("2 empty again", x.type(0x20, 8), 8);
    }

    private static DropDealers filled(int bytes) {
        return Edges.typed(new DropDealers(), "law 2;" + " ".repeat(bytes - 6));
    }

    private static void typedBadAheadOfFull() {
        EDGES.changesNothing("2 BAD and FULL", () -> filled(300), BAD, x -> x.type(0x20, 9));
        EDGES.changesNothing("2 BAD and FULL", () -> filled(300), BAD, x -> x.type(0x20, Integer.MAX_VALUE));
        EDGES.changesNothing("2 BAD at 300", () -> filled(300), BAD, x -> x.type(0x20, 0));
        EDGES.changesNothing("2 BAD at 300", () -> filled(300), BAD, x -> x.type(0x20, Integer.MIN_VALUE));
    }

    // "THE TEXT is empty: how many bytes it had."
    private static void clearTakesTheTextAlone() {
        EDGES.changesNothing("3 of none", () -> typedAnew(""), 0, x -> x.clear());
        due("3 of one", typedAnew(";").clear(), 1);
        due("3 of 299", filled(299).clear(), 299);
        due("3 of 300", filled(300).clear(), 300);
        DropDealers x = typedAnew("slip 9;");
        due("3 of seven", x.clear(), 7);
        EDGES.alike("3 but for the text all stays", x, typedAnew(""));
    }

    // "TERRACES (6 at most)", "a seventh terrace"
    private static void sixTerraces() {
        for (int many = 0; many <= 6; many++) {
            reads(Edges.terraces(many), many);
            due("4 terraces", Dues.told(Edges.terraces(many)).count(0), many);
        }
        fault(Edges.terraces(6) + "^terrace 3 1 0;");
        fault(Edges.terraces(6) + "law 1; ^terrace 31 1 0;");
        fault(Edges.terraces(6) + "^terrace");
    }

    // "WATER (0 .. 30), a NEED a day (0 .. 9), DEW a day (0 .. 3)", "0 .. 30 each", "N days more, 1 .. 20"
    // "LAW: 0 .. 2", "SLIP: 0 .. 9": "a NUMBER beyond what it may be".
    private static void numbersOfItems() {
        numbers("terrace ", 0, 30, " 0 0;");
        numbers("terrace 0 ", 0, 9, " 0;");
        numbers("terrace 0 0 ", 0, 3, ";");
        numbers("drip ", 0, 30, " 1;");
        numbers("drip 0 ", 1, 20, ";");
        numbers("law ", 0, 2, ";");
        numbers("slip ", 0, 9, ";");
        due("5 water", Dues.told("terrace 30 9 3;").terrace(0, 0), 30);
        due("5 need", Dues.told("terrace 30 9 3;").terrace(0, 1), 9);
        due("5 dew", Dues.told("terrace 30 9 3;").terrace(0, 2), 3);
        due("26 days", Dues.told("drip 30 20;").count(1), 20);
    }

    private static void numbers(String ahead, int least, int most, String behind) {
        for (int number = 0; number <= 101; number++) {
            if (number < least || number > most) {
                fault(ahead + "^" + number + behind);
            } else {
                DUES.holds("4 hill of " + ahead + number + behind, typedAnew(ahead + number + behind).hill() > 0);
            }
        }
    }

    // "1 to 8 TERRACES that were told": ahead of the song, not behind it.
    private static void songOfToldTerraces() {
        for (int many = 0; many <= 6; many++) {
            numbers(Edges.terraces(many) + "song ", 0, many - 1, ";");
        }
        fault("terrace 3 1 0;song 0 ^1;terrace 3 1 0;");
        fault("song ^0;terrace 3 1 0;");
        reads("terrace 3 1 0;terrace 3 1 0;song 1;terrace 3 1 0;", 4);
    }

    // "a NUMBER above 99 or with a 0 ahead of others", also such as wrap around to 1
    private static void numbersThatAreNone() {
        String[] none = {
            "00", "01", "09", "000", "010", "0000000000001", "100", "101", "256", "257", "999", "1000", "65537", "2147483648",
            "4294967295", "4294967296", "4294967297", "18446744073709551616", "18446744073709551617", "1" + "0".repeat(200)
        };
        for (String number : none) {
            fault("terrace ^" + number + " 1 1;");
            fault("drip 1 ^" + number + ";");
            fault("law ^" + number + ";");
            fault("terrace 3 1 0;song 0 ^" + number + ";");
            fault("law 1 ^" + number + ";");
            fault("^" + number + ";");
        }
        reads("terrace 0 0 0;", 1);
        reads("terrace 10 0 0;terrace 20 0 0;terrace 30 0 0;", 3);
        due("4 two digits", Dues.told("terrace 19 0 0;").terrace(0, 0), 19);
    }

    // "20 days at most are told", "an N beyond what is left of 20 days"
    private static void twentyDays() {
        for (int first = 1; first <= 20; first++) {
            String told = "drip 5 " + first + ";";
            for (int more = 1; more <= 20; more++) {
                if (first + more > 20) {
                    fault(told + "drip 6 ^" + more + ";");
                } else {
                    due("4 days", Dues.told(told + "drip 6 " + more + ";").count(1), first + more);
                }
            }
            fault(told + "drip 6 ^0;");
        }
        reads("drip 1 1;".repeat(20), 20);
        fault("drip 1 1;".repeat(20) + "drip 1 ^1;");
        fault("drip 0 7;drip 0 7;drip 0 ^7;");
    }

    // "law K, slip E (once each at most)", "song .. (once at most)", "what is told again that may not"
    private static void toldOnce() {
        fault("law 0;^law 0;");
        fault("law 2;drip 1 1;^law 3;");
        fault("slip 0;^slip 0;");
        fault("slip 9; ^slip;");
        fault("terrace 3 1 0;song 0;^song 0;");
        fault("terrace 3 1 0;song 0;law 1;slip 1;^song 1;");
        fault("terrace 3 1 0;song 0;^song");
        reads("law 0;slip 0;", 2);
        reads("drip 1 1;drip 1 1;terrace 3 1 0;terrace 3 1 0;", 4);
        DropDealers x = Edges.typed(new DropDealers(), "terrace 3 1 0;law 1;slip 1;song 0;buzz");
        due("4 a fault behind them", x.hill(), -10 - 34);
        x.clear();
        Edges.typed(x, "terrace 3 1 0;law 2;slip 2;song 0;");
        due("4 what a faulty text told was not told", x.hill(), 4);
        Edges.typed(x, "terrace 3 1 0;law 1;slip 1;song 0;");
        due("4 each text may tell it", x.hill(), 4);
    }

    // "song and 1 to 8 TERRACES", "a ninth of a song"
    private static void songLength() {
        String told = Edges.terraces(3);
        fault(told + "song^;");
        fault(told + "song ^;");
        fault(told + "song ^law 1;");
        StringBuilder song = new StringBuilder(told + "song");
        for (int length = 1; length <= 8; length++) {
            song.append(' ').append(length % 3);
            DropDealers x = Dues.told(song + ";");
            for (int i = 0; i < length; i++) {
                due("7 song of " + length, x.song(i), (i + 1) % 3);
            }
            due("7 song of " + length, x.song(length), NONE);
        }
        String[] ninths = {"0;", "2;", "3;", "99;", "100;", "00;", "law 1;", "$;"};
        for (String ninth : ninths) {
            fault(song + " ^" + ninth);
        }
        fault(song + "^");
    }

    // "blanks (32) between TOKENS"
    private static void blanks() {
        reads("", 0);
        reads(" ", 0);
        reads(" ".repeat(300), 0);
        reads("   law   1   ;   slip   2   ;   ", 2);
        reads("law 1;slip 2;", 2);
        fault("^la w 1;");
        fault("terrace 1 0 0 ^0;");
        fault("slip 1 ^0;");
    }

    // "TOKENS are words of letters a .. z, NUMBERS and ;", "of a byte that begins none": each of the 256
    private static void eachByte() {
        for (int number = 0; number < 256; number++) {
            char sign = (char) number;
            boolean digit = sign >= '0' && sign <= '9';
            boolean letter = sign >= 'a' && sign <= 'z';
            readsOrNot(number == 32, "law 1;", 6, sign, "");
            readsOrNot(number == 32, "law", letter ? 0 : 3, sign, "1;");
            readsOrNot(sign == ';', "law 1", digit ? 4 : number == 32 ? 6 : 5, sign, "");
            readsOrNot(sign >= '0' && sign <= '2', "law ", number == 32 ? 5 : 4, sign, ";");
            readsOrNot(sign == 'w', "la", 0, sign, " 1;");
            readsOrNot(number == 32, "", 0, sign, "law 1;");
        }
    }

    private static void readsOrNot(boolean so, String ahead, int place, char sign, String behind) {
        String text = ahead + sign + behind;
        long want = so ? 1 : -10 - place;
        DropDealers x = Edges.typed(new DropDealers(), text);
        due("4 byte " + (int) sign + " behind '" + ahead + "'", x.hill(), want);
        due("4 byte " + (int) sign + " behind '" + ahead + "'", x.count(5), so ? 0 : text.length());
    }

    // "a word that is none of these": a letter too few, too many, or another one
    private static void wordsThatAreNone() {
        String[] words = {"terrace", "drip", "law", "slip", "song"};
        String[] behind = {" 0 0 0;", " 0 1;", " 0;", " 0;", " 0;"};
        for (int w = 0; w < words.length; w++) {
            String word = words[w];
            for (int i = 0; i < word.length(); i++) {
                String ahead = "terrace 3 1 0; ^" + word.substring(0, i);
                String rest = word.substring(i + 1) + behind[w];
                fault(ahead + rest);
                fault(ahead + "z" + rest);
                fault(ahead + Character.toUpperCase(word.charAt(i)) + rest);
            }
            fault("terrace 3 1 0; ^" + word + "s" + behind[w]);
            fault("terrace 3 1 0; ^s" + word + behind[w]);
            fault("terrace 3 1 0; ^" + word + word + behind[w]);
            reads("terrace 3 1 0; " + word + behind[w], 2);
        }
        fault("^" + "z".repeat(300));
        fault("law ^one;");
        fault("law ^law;");
    }

    // "TOKEN that can't stand there": a word, a NUMBER or ; in the stead of another sort, or a TOKEN left out
    private static void anotherSortOfToken() {
        String[] items = {"terrace 3 1 0 ;", "drip 4 5 ;", "law 1 ;", "slip 2 ;", "song 0 ;"};
        String[] others = {"terrace", "drip", "law", "slip", "song", ";", "1"};
        for (String item : items) {
            String ahead = item.startsWith("song") ? "terrace 1 1 1;terrace 1 1 1;" : "";
            String[] tokens = item.split(" ");
            for (int at = 0; at < tokens.length; at++) {
                for (String other : others) {
                    if (!sort(other).equals(sort(tokens[at])) && !(item.startsWith("song") && other.equals("1"))) {
                        fault(ahead + joined(tokens, 0, at) + "^" + other + " " + joined(tokens, at + 1, tokens.length));
                    }
                }
                boolean next = at + 1 < tokens.length && !sort(tokens[at]).equals(sort(tokens[at + 1]));
                if (next) {
                    fault(ahead + joined(tokens, 0, at) + "^" + joined(tokens, at + 1, tokens.length));
                }
            }
        }
    }

    private static String sort(String token) {
        return token.replaceAll("[a-z]+", "word").replaceAll("[0-9]+", "number");
    }

    private static String joined(String[] tokens, int from, int to) {
        StringBuilder text = new StringBuilder();
        for (int i = from; i < to; i++) {
            text.append(tokens[i]).append(' ');
        }
        return text.toString();
    }

    // "the first TOKEN that can't stand there"
    private static void firstOfSeveralFaults() {
        fault("terrace ^31 10 4;");
        fault("terrace 30 ^10 4");
        fault("terrace 30 9 ^4 $");
        fault("^buzz 100;");
        fault("law ^3;law 3;");
        fault("law 1;^law 3;$");
        fault("drip ^31 0;");
        fault("drip 30 ^0");
        fault("^;;");
        fault("law 1;^;");
        fault("law 1 ^1 1;");
        fault("terrace 3 1^;$");
        fault("terrace 3 1 0 ^0;");
        fault(Edges.terraces(6) + "^terrace 100 $;");
    }

    // "the text's length, if it ends too early": each beginning of a text, also with blanks behind it
    private static void endsTooEarly() {
        String text = "terrace 3 1 0;drip 4 5;law 1;slip 2;song 0 0;";
        List<String> words = List.of("terrace", "drip", "law", "slip", "song");
        for (int length = 0; length <= text.length(); length++) {
            String part = text.substring(0, length);
            String item = part.substring(part.lastIndexOf(';') + 1);
            boolean broken = item.matches("[a-z]+") && !words.contains(item);
            for (String blanks : new String[] {"", " ", "    "}) {
                if (item.isEmpty()) {
                    reads(part + blanks, (int) part.chars().filter(sign -> sign == ';').count());
                } else if (broken) {
                    fault(part.substring(0, length - item.length()) + "^" + item + blanks);
                } else {
                    fault(part + blanks + "^");
                }
            }
        }
    }

    // "-10 less FAULT": from the first place to behind the last one
    private static void placesOfFaults() {
        fault("^;");
        fault(" ^;");
        fault(" ".repeat(299) + "^;");
        fault("law" + " ".repeat(297) + "^");
        fault(" ".repeat(295) + "law 1^");
        fault(" ".repeat(297) + "^lax");
        due("4 at place 299", typedAnew(" ".repeat(299) + ";").hill(), -309);
        due("4 at place 300", typedAnew("law" + " ".repeat(297)).hill(), -310);
    }

    // "how many ITEMS"
    private static void howManyItems() {
        due("4 a text of 300 bytes", Edges.FULL_TEXT.length(), 300);
        reads(Edges.FULL_TEXT, 29);
        reads("law 1;", 1);
        reads("terrace 3 1 0;drip 9 20;", 2);
    }

    // "LAW .. (0 at first)", "SLIP .. 0 at first", "just 0, if none is told"
    private static void atFirst() {
        DropDealers x = Dues.told(Edges.terraces(2) + "drip 9 1;");
        due("26 law at first", x.count(2), 0);
        due("26 slip at first", x.count(3), 0);
        due("7 the song at first", x.song(0), 0);
        due("7 it is not so long", x.song(1), NONE);
        due("13 the lot at first", x.lot(1), 1);
        due("12 all drops as it begins", x.now(1), 9);
    }

    // "Read anew: DAY 0, all as told, nothing SEEN, IMAGES are gone; THE LOT, 1 at first, stays."
    private static void readAnew() {
        List<String> texts = new ArrayList<>(List.of("", " ", "law 1;", "drip 3 20;", "terrace 1 2 3;", Edges.FULL_TEXT));
        texts.add("terrace 1 1 1;terrace 2 2 2;slip 1;song 1;");
        for (String text : texts) {
            DropDealers used = used();
            used.lot(-77);
            Edges.typed(used, text).hill();
            DropDealers fresh = new DropDealers();
            fresh.lot(-77);
            Edges.typed(fresh, text).hill();
            EDGES.alike("4 read anew: '" + text + "'", used, fresh);
        }
        DropDealers x = Edges.busy();
        long trace = x.trace();
        x.hill();
        due("27 the trace goes on", x.trace(), trace);
        due("25 the images are gone", x.back(0), STATE);
        due("25 the images are gone", x.back(1), STATE);
    }

    private static DropDealers used() {
        DropDealers x = Dues.told("terrace 5 0 1;terrace 9 0 2;terrace 0 9 0;drip 7 3;law 2;slip 3;song 1 0 2;");
        x.deal();
        x.saw(1, 3);
        x.keep(0);
        x.end();
        x.deal();
        x.keep(1);
        x.today(0);
        for (int i = 0; i <= 2; i++) {
            due("18 the last of all songs", x.tried(3, 1, i), 2);
        }
        return x;
    }

    // "Of a TERRACE: 0 WATER, 1 NEED, 2 DEW, 3 what LACKED. BAD."
    private static void terraceBounds() {
        for (int many = 0; many <= 6; many++) {
            String text = Edges.terraces(many);
            for (int what = 0; what <= 3; what++) {
                int which = what;
                EDGES.bounds("5 t", () -> Dues.told(text), 0, many - 1, BAD, (x, t) -> x.terrace(t, which));
            }
        }
        EDGES.bounds("5 what", Edges::busy, 0, 3, BAD, (x, what) -> x.terrace(0, what));
        EDGES.changesNothing("5 both", Edges::busy, BAD, x -> x.terrace(3, 4));
        EDGES.changesNothing("5 both", Edges::busy, BAD, x -> x.terrace(-1, -1));
    }

    // "DROPS of a DAY (0 .. 99), as told.", "behind them 0"
    private static void dripBounds() {
        EDGES.bounds("6 day", Edges::busy, 0, 99, BAD, (x, day) -> x.drip(day));
        for (int days = 1; days <= 20; days++) {
            DropDealers x = Dues.told("drip 30 " + days + ";");
            due("6 the last that is told", x.drip(days - 1), 30);
            due("6 the first behind them", x.drip(days), 0);
            due("6 the last day", x.drip(99), 0);
        }
        DropDealers x = Dues.told("terrace 0 0 0;drip 2 1;drip 3 1;");
        x.deal();
        x.end();
        due("6 as told, also if some are dealt", x.drip(0), 2);
        x.give(0, 3);
        due("6 as told, also if all are given", x.drip(1), 3);
    }

    // "The i-th TERRACE of THE SONG; NONE: it is not so long. BAD (i below 0)."
    private static void songBounds() {
        for (int i : new int[] {-1, -2, -256, Integer.MIN_VALUE, Integer.MIN_VALUE + 1}) {
            EDGES.changesNothing("7 below 0", Edges::busy, BAD, x -> x.song(i));
        }
        for (int i : new int[] {3, 4, 8, 256, 65536, Integer.MAX_VALUE}) {
            EDGES.changesNothing("7 not so long", Edges::busy, NONE, x -> x.song(i));
        }
        due("7 the last", Edges.busy().song(2), 2);
    }
}
