/** Each promise by itself: ordinary inputs, the edges that the document names, wrong inputs. */
public final class PromiseTest {
    private static final int BAD = -1;
    private static final int STATE = -2;
    private static final int FULL = -3;
    private static final int NONE = -9;
    private static final int NO = -1000000;
    private static final Dues DUES = new Dues("PromiseTest");

    public static void main(String[] args) {
        constants();
        newObject();
        type();
        clear();
        hill();
        hillFaults();
        hillAnew();
        terrace();
        drip();
        song();
        dealRound();
        dealThirst();
        dealSong();
        dealSlipped();
        give();
        bird();
        end();
        now();
        lot();
        safe();
        least();
        today();
        got();
        tried();
        saw();
        forget();
        could();
        who();
        mark();
        keep();
        back();
        count();
        trace();
        DUES.close();
    }

    private static void due(String call, long got, long want) {
        DUES.due(call, got, want);
    }

    private static void constants() {
        due("BAD", DropDealers.BAD, -1);
        due("STATE", DropDealers.STATE, -2);
        due("FULL", DropDealers.FULL, -3);
        due("NONE", DropDealers.NONE, -9);
        due("NO", DropDealers.NO, -1000000);
    }

    private static void newObject() {
        DropDealers x = new DropDealers();
        for (int what = 0; what <= 5; what++) {
            due("1 count", x.count(what), 0);
        }
        for (int what = 0; what <= 4; what++) {
            due("1 now", x.now(what), 0);
        }
        due("1 drip", x.drip(0), 0);
        due("1 song", x.song(0), 0);
        due("1 song", x.song(1), NONE);
        due("1 lot", x.lot(1), 1);
        due("1 trace", x.trace(), 0);
        due("1 deal", x.deal(), STATE);
        due("1 no image", x.back(0), STATE);
        due("1 safe", x.safe(), 40);
        due("1 could", x.could(1), 0);
    }

    private static void type() {
        DropDealers x = new DropDealers();
        due("2 none", x.type(0x3B, 0), BAD);
        due("2 nine", x.type(0x3B, 9), BAD);
        due("2 below 0", x.type(0x3B, -1), BAD);
        due("2 nothing came", x.count(5), 0);
        // The bytes above the lowest n don't count, and the highest of those n is the first.
        due("2 three", x.type(0x7F7F7F7F7F6C6177L, 3), 3);
        due("2 two", x.type(0x2031L, 2), 5);
        due("2 one", x.type(0x1020304050607F3BL, 1), 6);
        due("2 read", x.hill(), 1);
        due("2 read as", x.count(2), 1);
        for (int i = 1; i <= 37; i++) {
            due("2 eight", x.type(0x2020202020202020L, 8), 8 * i);
        }
        due("2 full", x.type(0x2020202020L, 5), FULL);
        due("2 nothing came", x.count(5), 296);
        due("2 BAD goes ahead of FULL", x.type(0, 9), BAD);
        due("2 just full", x.type(0x20202020L, 4), 300);
        due("2 full", x.type(0x20, 1), FULL);
        due("2 full", x.count(5), 300);
        due("2 300 blanks", x.hill(), 0);
    }

    private static void clear() {
        DropDealers x = new DropDealers();
        due("3 empty", x.clear(), 0);
        Dues.type(x, "terrace 1 1 1;");
        due("3 clear", x.clear(), 14);
        due("3 empty", x.count(5), 0);
        due("3 cleared", x.clear(), 0);
        due("3 nothing told", x.hill(), 0);
        due("3 nothing told", x.count(0), 0);
    }

    private static void reads(String text, int want) {
        DropDealers x = new DropDealers();
        Dues.type(x, text);
        due("4 hill of '" + text + "'", x.hill(), want);
        due("4 text behind '" + text + "'", x.count(5), want < 0 ? text.length() : 0);
    }

    private static void hill() {
        reads("", 0);
        reads("   ", 0);
        reads("terrace 30 9 3;", 1);
        reads("  terrace  0   0 0  ;  ", 1);
        reads("drip 30 20;", 1);
        reads("drip 0 1;drip 1 19;", 2);
        reads("law 2;slip 9;", 2);
        reads("slip 0 ; law 0 ;", 2);
        reads("terrace 1 1 1;song 0 0 0 0 0 0 0 0;", 2);
        reads("terrace 1 1 1;song 0;terrace 1 1 1;", 3);
        reads("terrace1 1 1;law2;drip 7 7;", 3);
        DropDealers x = Dues.told("slip 4;terrace 7 8 2;drip 5 2;law 1;terrace 30 0 0;song 1 0;drip 9 1;");
        due("4 terraces", x.count(0), 2);
        due("4 days", x.count(1), 3);
        due("4 law", x.count(2), 1);
        due("4 slip", x.count(3), 4);
        due("4 text", x.count(5), 0);
        due("4 water", x.terrace(0, 0), 7);
        due("4 need", x.terrace(0, 1), 8);
        due("4 dew", x.terrace(0, 2), 2);
        due("4 water", x.terrace(1, 0), 30);
        due("4 drip", x.drip(1), 5);
        due("4 drip", x.drip(2), 9);
        due("4 left", x.now(1), 5);
        due("4 song", x.song(0), 1);
        due("4 song", x.song(1), 0);
        due("4 song", x.song(2), NONE);
    }

    private static void hillFaults() {
        reads(";", -10);
        reads("  5", -12);
        reads("terrace", -17);
        reads("terrace  ", -19);
        reads("terrac 1 1 1;", -10);
        reads("terraces 1 1 1;", -10);
        reads("berrace 1 1 1;", -10);
        reads("trip 1 1;", -10);
        reads("saw 1;", -10);
        reads("flip 1;", -10);
        reads("terrace 1 1 1;long 0;", -24);
        reads("buzz 1;", -10);
        reads("Terrace 1 1 1;", -10);
        reads("terracE 1 1 1;", -10);
        reads("terrace 31 0 0;", -18);
        reads("terrace 0 10 0;", -20);
        reads("terrace 0 0 4;", -22);
        reads("terrace 0 0;", -21);
        reads("terrace 0 0 0 0;", -24);
        reads("terrace 0 0 0", -23);
        reads("terrace 0 0 0 law 1;", -24);
        reads("terrace 00 0 0;", -18);
        reads("terrace 01 0 0;", -18);
        reads("terrace 100 0 0;", -18);
        reads("terrace 4294967296 0 0;", -18);
        reads("terrace 1 1 1a;", -23);
        reads("terrace 1 -1 1;", -20);
        reads("terrace 1 1 1;" + (char) 200, -24);
        reads("law 1;" + (char) 0, -16);
        reads("law 1;\n", -16);
        String six = "terrace 1 1 1;".repeat(6);
        reads(six, 6);
        reads(six + "terrace 1 1 1;", -94);
        reads(six + "song 5;song 5;", -101);
        reads(six + "song 6;", -99);
        reads("drip 31 1;", -15);
        reads("drip 1 0;", -17);
        reads("drip 1 21;", -17);
        reads("drip 1 19;drip 1 2;", -27);
        reads("drip 1 20;drip 1 1;", -27);
        reads("drip 1 20;drip 31 1;", -25);
        reads("drip 1;", -16);
        reads("law 3;", -14);
        reads("law;", -13);
        reads("law 1", -15);
        reads("law 0;law 0;", -16);
        reads("slip 10;", -15);
        reads("slip 0;slip 0;", -17);
        reads("song;", -14);
        reads("song 0;", -15);
        reads("song 0;terrace 1 1 1;", -15);
        reads("terrace 1 1 1;song;", -28);
        reads("terrace 1 1 1;song 1;terrace 1 1 1;", -29);
        reads("terrace 1 1 1;song 0 law 1;", -31);
        reads("terrace 1 1 1;song 0 0 0 0 0 0 0 0 0;", -45);
        reads("terrace 1 1 1;song 0 0", -32);
    }

    private static void hillAnew() {
        DropDealers x = Dues.told("terrace 1 2 0;terrace 5 0 0;drip 4 2;slip 9;law 2;song 1 0;");
        x.deal();
        x.deal();
        x.end();
        x.saw(3, 2);
        x.keep(0);
        x.mark(0, 0);
        int lot = x.lot(5);
        due("4 the lot went on", lot == 1 ? 1 : 0, 0);
        Dues.type(x, "law 7;");
        due("4 a fault", x.hill(), -14);
        due("4 nothing changes", x.now(0), 1);
        due("4 nothing changes", x.now(4), 2);
        due("4 nothing changes", x.count(0), 2);
        due("4 nothing changes", x.count(2), 2);
        due("4 nothing changes", x.count(3), 9);
        due("4 nothing changes", x.count(4), 1);
        due("4 nothing changes", x.song(1), 0);
        due("4 nothing changes", x.back(0), 1);
        due("4 nothing changes", x.clear(), 6);
        x.lot(5);
        Dues.type(x, "terrace 9 1 1;drip 7 1;");
        due("4 anew", x.hill(), 2);
        due("4 day", x.now(0), 0);
        due("4 left", x.now(1), 7);
        due("4 water", x.now(2), 9);
        due("4 lacked", x.now(3), 0);
        due("4 turn", x.now(4), 0);
        due("4 seen", x.count(4), 0);
        due("4 law", x.count(2), 0);
        due("4 slip", x.count(3), 0);
        due("4 song", x.song(0), 0);
        due("4 song", x.song(1), NONE);
        due("4 drip", x.drip(1), 0);
        due("4 images are gone", x.back(0), STATE);
        due("4 the lot stays", x.lot(1), 5);
        due("4 the trace stays", x.trace(), 1);
    }

    private static void terrace() {
        DropDealers x = Dues.told("terrace 3 9 2;terrace 4 1 0;");
        x.end();
        due("5 water", x.terrace(0, 0), 0);
        due("5 need", x.terrace(0, 1), 9);
        due("5 dew", x.terrace(0, 2), 2);
        due("5 lacked", x.terrace(0, 3), 4);
        due("5 water", x.terrace(1, 0), 3);
        due("5 lacked", x.terrace(1, 3), 0);
        x.end();
        due("5 lacked is added up", x.terrace(0, 3), 11);
        due("5 no such terrace", x.terrace(2, 0), BAD);
        due("5 no such terrace", x.terrace(-1, 0), BAD);
        due("5 no such number", x.terrace(0, 4), BAD);
        due("5 no such number", x.terrace(0, -1), BAD);
    }

    private static void drip() {
        DropDealers x = Dues.told("terrace 0 0 0;drip 3 2;drip 30 18;");
        x.deal();
        due("6 as told", x.drip(0), 3);
        due("6 as told", x.drip(1), 3);
        due("6 as told", x.drip(2), 30);
        due("6 the last told", x.drip(19), 30);
        due("6 behind them", x.drip(20), 0);
        due("6 the last day", x.drip(99), 0);
        due("6 beyond", x.drip(100), BAD);
        due("6 below", x.drip(-1), BAD);
    }

    private static void song() {
        DropDealers x = Dues.told("terrace 0 0 0;terrace 0 0 0;song 1 0 0 1 0 1 1 1;");
        int[] want = {1, 0, 0, 1, 0, 1, 1, 1};
        for (int i = 0; i < 8; i++) {
            due("7 song", x.song(i), want[i]);
        }
        due("7 not so long", x.song(8), NONE);
        due("7 not so long", x.song(Integer.MAX_VALUE), NONE);
        due("7 below", x.song(-1), BAD);
    }

    private static void deals(DropDealers x, int... terraces) {
        for (int t : terraces) {
            due("8 deal", x.deal(), t);
        }
    }

    private static void dealRound() {
        DropDealers x = Dues.told("terrace 0 0 0;terrace 0 0 0;terrace 0 0 0;drip 4 2;");
        deals(x, 0, 1, 2, 0, STATE);
        due("8 water", x.terrace(0, 0), 2);
        due("8 left", x.now(1), 0);
        x.end();
        due("8 given is not dealt", x.give(0, 1), 3);
        deals(x, 1, 2, 0, STATE);
        due("8 turn", x.now(4), 7);
        due("8 the lot stands", x.lot(1), 1);
        DropDealers none = Dues.told("drip 5 5;");
        due("8 no terraces", none.deal(), STATE);
        due("8 nothing changes", none.now(1), 5);
    }

    private static void dealThirst() {
        DropDealers x = Dues.told("law 1;terrace 5 1 0;terrace 9 6 3;terrace 4 1 0;drip 9 1;");
        deals(x, 1, 2, 0, 1, 2, 0, 1);
    }

    private static void dealSong() {
        DropDealers x = Dues.told("law 2;terrace 0 0 0;terrace 0 0 0;song 1 1 0;drip 4 2;");
        deals(x, 1, 1, 0, 1, STATE);
        x.end();
        deals(x, 1, 0, 1, 1, STATE);
        DropDealers untold = Dues.told("law 2;terrace 0 0 0;terrace 0 0 0;drip 2 1;");
        deals(untold, 0, 0);
    }

    private static void dealSlipped() {
        DropDealers x = Dues.told("law 2;slip 5;terrace 0 0 0;terrace 0 0 0;song 1;drip 30 1;");
        int lot = 1;
        for (int i = 0; i < 30; i++) {
            lot = lot * 1103515245 + 12345;
            due("8 slipped or not", x.deal(), (lot >>> 16) % 10 < 5 ? 0 : 1);
        }
        due("8 the lot", x.lot(0), lot);
        due("8 turn", x.now(4), 30);
        DropDealers one = Dues.told("slip 9;terrace 0 0 0;drip 5 1;");
        deals(one, 0, 0, 0, 0, 0, STATE);
        due("8 the lot goes on", one.lot(0) == 1 ? 1 : 0, 0);
    }

    private static void give() {
        DropDealers x = Dues.told("terrace 30 0 0;terrace 1 0 0;drip 30 1;drip 5 1;");
        due("9 no such terrace", x.give(2, 1), BAD);
        due("9 no such terrace", x.give(-1, 1), BAD);
        due("9 none", x.give(0, 0), BAD);
        due("9 too much", x.give(0, 31), BAD);
        due("9 all", x.give(0, 30), 60);
        due("9 left", x.now(1), 0);
        due("9 no more", x.give(1, 1), STATE);
        due("9 BAD goes ahead", x.give(2, 1), BAD);
        x.end();
        due("9 too many", x.give(1, 6), STATE);
        due("9 nothing changes", x.now(1), 5);
        due("9 some", x.give(1, 2), 3);
        due("9 left", x.now(1), 3);
        due("9 turn", x.now(4), 0);
    }

    private static void bird() {
        DropDealers x = Dues.told("terrace 2 0 0;terrace 0 0 0;");
        due("10 bird", x.bird(0), 1);
        due("10 bird", x.bird(0), 0);
        due("10 dry", x.bird(0), STATE);
        due("10 dry", x.bird(1), STATE);
        due("10 nothing changes", x.now(2), 0);
        due("10 nothing lacks", x.now(3), 0);
        due("10 no such terrace", x.bird(2), BAD);
        due("10 no such terrace", x.bird(-1), BAD);
    }

    private static void end() {
        DropDealers x = Dues.told("terrace 0 3 3;terrace 5 9 1;terrace 1 2 0;drip 3 1;drip 8 1;");
        due("11 lacked", x.end(), 4);
        due("11 dew comes ahead of need", x.terrace(0, 3), 0);
        due("11 lacked", x.terrace(1, 3), 3);
        due("11 lacked", x.terrace(2, 3), 1);
        due("11 day", x.now(0), 1);
        due("11 what was left is lost", x.now(1), 8);
        due("11 lacked", x.end(), 10);
        due("11 lacked ever", x.now(3), 14);
        for (int day = 3; day <= 99; day++) {
            due("11 lacked", x.end(), 10);
        }
        due("11 day 99", x.end(), STATE);
        due("11 nothing changes", x.now(0), 99);
        due("11 nothing changes", x.now(3), 14 + 97 * 10);
    }

    private static void now() {
        DropDealers x = Dues.told("terrace 4 6 0;terrace 7 1 0;drip 3 1;drip 6 1;");
        x.end();
        x.deal();
        x.give(0, 1);
        due("12 day", x.now(0), 1);
        due("12 left", x.now(1), 4);
        due("12 water", x.now(2), 8);
        due("12 lacked", x.now(3), 2);
        due("12 turn", x.now(4), 1);
        due("12 beyond", x.now(5), BAD);
        due("12 below", x.now(-1), BAD);
    }

    private static void lot() {
        DropDealers x = new DropDealers();
        due("13 at first", x.lot(Integer.MIN_VALUE), 1);
        due("13 any", x.lot(-1), Integer.MIN_VALUE);
        due("13 any", x.lot(0), -1);
        Dues.type(x, "terrace 0 0 0;terrace 0 0 0;slip 1;drip 9 1;");
        x.hill();
        // 0 goes on to 12345: the draw is 0, less than 1.
        due("13 it is what he draws by", x.deal(), 1);
        due("13 it went on", x.lot(0), 12345);
    }

    private static void safe() {
        due("14 none told", new DropDealers().safe(), 40);
        due("14 never lacks", Dues.told("terrace 0 3 3;").safe(), 40);
        due("14 lacks at once", Dues.told("terrace 0 4 3;").safe(), 0);
        due("14 a drop a day", Dues.told("terrace 0 4 3;drip 1 20;").safe(), 20);
        due("14 kept from the first day", Dues.told("terrace 0 4 3;drip 30 1;").safe(), 30);
        due("14 forty at most", Dues.told("terrace 30 4 3;drip 30 1;").safe(), 40);
        due("14 its own stays its own", Dues.told("terrace 30 0 0;terrace 0 1 0;").safe(), 0);
        due("14 not ahead of its day", Dues.told("terrace 0 1 0;drip 0 1;drip 9 1;").safe(), 0);
        due("14 to whom it will lack", Dues.told("terrace 0 1 0;terrace 2 1 0;drip 6 1;").safe(), 4);
        DropDealers x = Dues.told("terrace 0 1 0;drip 3 2;");
        x.deal();
        x.bird(0);
        due("14 what is left", x.safe(), 5);
        due("14 nothing is changed", x.now(1), 2);
        due("14 nothing is changed", x.now(2), 0);
        x.end();
        due("14 from now", x.safe(), 3);
    }

    private static void least() {
        DropDealers x = Dues.told("terrace 0 5 0;terrace 3 1 0;drip 4 2;drip 0 1;drip 30 1;");
        due("15 a day", x.least(1), 1);
        due("15 two days", x.least(2), 2);
        due("15 three days", x.least(3), 7);
        due("15 four days", x.least(4), 7);
        due("15 what came may be kept", x.least(8), 7);
        due("15 twenty days", x.least(20), 7 + 17 * 6 - 30);
        due("15 too few", x.least(0), BAD);
        due("15 too many", x.least(21), BAD);
        due("15 below", x.least(-1), BAD);
        due("15 nothing is changed", x.now(3), 0);
        due("15 none told", new DropDealers().least(20), 0);
    }

    private static void todays(String text, int... want) {
        DropDealers x = Dues.told(text);
        for (int t = 0; t < want.length; t++) {
            due("16 today " + (t - 1) + " of " + text, x.today(t - 1), want[t]);
        }
        due("16 nothing is changed", x.now(1), x.drip(0));
    }

    private static void today() {
        todays("terrace 0 5 0;terrace 0 4 0;drip 6 1;", 3, 2, 4);
        todays("terrace 0 5 0;terrace 0 4 0;drip 9 1;", 0, 5, 4);
        todays("terrace 0 5 0;terrace 0 4 0;drip 10 1;", 0, 5, 5);
        todays("terrace 0 5 0;terrace 0 4 0;drip 11 1;", 0, 6, 5);
        todays("terrace 9 0 0;terrace 3 0 1;terrace 6 1 0;drip 4 1;", 0, 0, 2, 2);
        todays("terrace 9 0 0;terrace 3 0 1;terrace 6 1 0;drip 3 1;", 0, 0, 2, 1);
        todays("terrace 0 9 0;terrace 30 0 0;drip 0 1;", 9, 0, 0);
        todays("terrace 0 9 3;drip 12 1;", 0, 12);
        todays("drip 5 1;", NONE);
        DropDealers x = Dues.told("terrace 1 1 1;drip 13 1;");
        due("16 too many", x.today(-1), STATE);
        due("16 too many", x.today(0), STATE);
        due("16 BAD goes ahead", x.today(1), BAD);
        due("16 below", x.today(-2), BAD);
        x.deal();
        due("16 not too many", x.today(0), 12);
        due("16 no terraces, no such terrace", new DropDealers().today(0), BAD);
        todayWithoutTerraces();
    }

    private static void todayWithoutTerraces() {
        due("16 nothing told", new DropDealers().today(-1), NONE);
        todays("drip 0 1;", NONE, BAD);
        todays("drip 12 1;", NONE, BAD);
        todays("drip 13 1;", STATE, BAD);
        todays("drip 30 1;", STATE, BAD);
        DropDealers x = Dues.told("drip 13 1;drip 12 1;drip 13 1;");
        due("16 BAD goes ahead of STATE without terraces", x.today(-2), BAD);
        due("16 the first day", x.today(-1), STATE);
        x.end();
        due("16 the second day", x.today(-1), NONE);
        x.end();
        due("16 the third day", x.today(-1), STATE);
        x.end();
        due("16 behind the days told", x.today(-1), NONE);
    }

    private static void gots(DropDealers x, int n, int t, int k, long upper, long lower) {
        due("17 upper " + n + " " + t + " " + k, x.got(n, t, k, 0), upper);
        due("17 lower " + n + " " + t + " " + k, x.got(n, t, k, 1), lower);
    }

    private static void got() {
        DropDealers x = Dues.told("terrace 0 0 0;terrace 0 0 0;terrace 0 0 0;slip 4;song 0 2;drip 1 2;");
        gots(x, 1, 0, 1, 3, 5);
        gots(x, 1, 1, 1, 2, 5);
        gots(x, 1, 2, 1, 0, 1);
        gots(x, 2, 0, 2, 6, 25);
        gots(x, 2, 0, 1, 13, 25);
        gots(x, 2, 0, 0, 6, 25);
        x.deal();
        gots(x, 1, 0, 1, 2, 5);
        gots(x, 1, 2, 1, 3, 5);
        gots(x, 12, 1, 6, 64, 15625);
        DropDealers sure = Dues.told("terrace 0 0 0;terrace 0 0 0;song 1;law 1;");
        gots(sure, 12, 1, 12, 1, 1);
        gots(sure, 12, 0, 0, 1, 1);
        gots(sure, 12, 1, 11, 0, 1);
        DropDealers one = Dues.told("terrace 0 0 0;slip 7;");
        gots(one, 12, 0, 12, 1, 1);
        due("17 none", x.got(0, 0, 0, 0), BAD);
        due("17 too many", x.got(13, 0, 0, 0), BAD);
        due("17 no such terrace", x.got(1, 3, 0, 0), BAD);
        due("17 no such terrace", x.got(1, -1, 0, 0), BAD);
        due("17 no such number", x.got(1, 0, 0, 2), BAD);
        due("17 no such number", x.got(1, 0, 0, -1), BAD);
        due("17 fewer than none", x.got(1, 0, -1, 0), BAD);
        due("17 fewer than none, lower", x.got(12, 0, -1, 1), BAD);
        due("17 fewest of all", x.got(12, 2, Integer.MIN_VALUE, 0), BAD);
        for (int n = 1; n <= 12; n++) {
            gots(sure, n, 1, n, 1, 1);
            for (int k = n + 1; k <= 12; k++) {
                gots(sure, n, 1, k, 0, 1);
                gots(x, n, 0, k, 0, 1);
            }
            gots(x, n, 0, 13, BAD, BAD);
        }
        gots(x, 1, 0, 64, BAD, BAD);
        gots(x, 12, 2, Integer.MAX_VALUE, BAD, BAD);
        due("17 nothing is changed", x.now(4), 1);
    }

    private static void tries(DropDealers x, int m, int d, int... want) {
        for (int i = 0; i < want.length; i++) {
            due("18 tried " + m + " " + d + " " + (i - 1), x.tried(m, d, i - 1), want[i]);
        }
    }

    private static void tried() {
        DropDealers x = Dues.told("terrace 0 2 0;terrace 9 0 0;terrace 0 1 0;slip 9;drip 3 3;law 1;");
        tries(x, 1, 1, 1, 0, -5, -5);
        tries(x, 2, 1, 0, 0, 2, -5);
        tries(x, 3, 1, 0, 0, 0, 2);
        tries(x, 2, 2, 1, 0, 2, -5);
        tries(x, 3, 3, 0, 0, 0, 2);
        tries(x, 3, 9, 18, 0, 0, 0);
        tries(Dues.told("terrace 1 9 0;drip 4 1;"), 3, 2, 13, 0, 0, 0);
        x.give(1, 1);
        tries(x, 1, 1, 1, 0, -5, -5);
        tries(x, 2, 1, 1, 0, 0, -5);
        due("18 nothing is changed", x.now(4), 0);
        due("18 nothing is changed", x.now(1), 2);
        due("18 no song", x.tried(0, 1, 0), BAD);
        due("18 too long", x.tried(4, 1, 0), BAD);
        due("18 no day", x.tried(1, 0, 0), BAD);
        due("18 too many days", x.tried(1, 10, 0), BAD);
        due("18 below", x.tried(1, 1, -2), BAD);
        due("18 beyond", x.tried(3, 1, 3), BAD);
        due("18 no terraces", new DropDealers().tried(1, 1, -1), NONE);
        due("18 no terraces", new DropDealers().tried(1, 1, 0), NONE);
        due("18 BAD goes ahead", new DropDealers().tried(1, 1, 3), BAD);
    }

    private static void saw() {
        DropDealers x = Dues.told("terrace 0 0 0;terrace 0 0 0;terrace 0 0 0;");
        due("19 turn below", x.saw(-1, 1), BAD);
        due("19 turn beyond", x.saw(20, 1), BAD);
        due("19 no terrace", x.saw(0, 0), BAD);
        due("19 no such terrace", x.saw(0, 8), BAD);
        due("19 no such terrace", x.saw(0, 9), BAD);
        due("19 below", x.saw(0, -1), BAD);
        due("19 below", x.saw(0, Integer.MIN_VALUE), BAD);
        for (int i = 1; i <= 7; i++) {
            due("19 saw", x.saw(19, 7), i);
        }
        due("19 the last", x.saw(0, 4), 8);
        due("19 full", x.saw(0, 4), FULL);
        due("19 BAD goes ahead", x.saw(20, 4), BAD);
        due("19 nothing changes", x.count(4), 8);
        due("19 none told", new DropDealers().saw(0, 1), BAD);
    }

    private static void forget() {
        DropDealers x = Dues.told("terrace 0 0 0;terrace 0 0 0;");
        due("20 nothing", x.forget(), 0);
        x.saw(0, 1);
        x.saw(0, 2);
        due("20 could", x.could(1), 0);
        due("20 two", x.forget(), 2);
        due("20 could", x.could(1), 2);
        due("20 count", x.count(4), 0);
        due("20 nothing", x.forget(), 0);
    }

    private static void could() {
        DropDealers x = Dues.told("terrace 0 0 0;terrace 0 0 0;terrace 0 0 0;song 0 2;drip 9 1;");
        due("21 all", x.could(1), 2);
        due("21 all", x.could(12), 4096);
        x.saw(1, 1);
        due("21 slipped", x.could(2), 2);
        due("21 not of these", x.could(1), 2);
        x.saw(1, 3);
        due("21 heard twice", x.could(2), 2);
        x.saw(1, 6);
        due("21 can't be", x.could(2), 0);
        due("21 not of these", x.could(1), 2);
        x.deal();
        due("21 whatever was dealt", x.could(1), 2);
        due("21 none", x.could(0), BAD);
        due("21 too many", x.could(13), BAD);
        due("21 below", x.could(-1), BAD);
    }

    private static void who() {
        DropDealers x = Dues.told("terrace 0 0 0;terrace 0 0 0;terrace 0 0 0;song 0 2;slip 0;law 1;");
        due("22 either", x.who(12, 0), 3);
        due("22 round", x.who(12, 11), 5);
        x.saw(2, 6);
        due("22 slipped", x.who(3, 2), 2);
        due("22 another", x.who(3, 1), 5);
        x.saw(4, 4);
        due("22 not of these", x.who(3, 2), 2);
        due("22 can't be", x.who(5, 2), 0);
        due("22 not below n", x.who(3, 3), BAD);
        due("22 below", x.who(3, -1), BAD);
        due("22 none", x.who(0, 0), BAD);
        due("22 too many", x.who(13, 0), BAD);
        due("22 one terrace", Dues.told("terrace 0 0 0;").who(1, 0), 1);
        due("22 none told", new DropDealers().who(1, 0), 0);
    }

    private static DropDealers marked() {
        DropDealers x = Dues.told("terrace 9 9 0;terrace 0 9 2;drip 8 2;");
        x.end();
        x.give(1, 8);
        return x;
    }

    private static void mark() {
        DropDealers x = marked();
        due("23 terrace", x.mark(0, 1), 8);
        due("23 beans", x.mark(1, 1), -1);
        due("23 maize", x.mark(2, 1), 10);
        due("23 old", x.mark(3, 1), -2);
        due("23 high", x.mark(4, 1), 11);
        due("23 moss", x.mark(5, 1), 1);
        due("23 no such kind", x.mark(6, 1), NO);
        due("23 no such kind", x.mark(-1, 1), NO);
        due("23 no such terrace", x.mark(0, 2), NO);
        due("23 no such terrace", x.mark(0, -1), NO);
    }

    private static void keep() {
        DropDealers x = Dues.told("terrace 0 0 0;drip 3 3;");
        due("24 below", x.keep(-1), BAD);
        due("24 beyond", x.keep(2), BAD);
        due("24 day 0", x.keep(0), 0);
        x.end();
        due("24 day 1", x.keep(1), 1);
        x.end();
        due("24 the other", x.back(0), 0);
        due("24 the other", x.back(1), 1);
        x.end();
        due("24 kept over it", x.keep(0), 2);
        due("24 kept over it", x.back(1), 1);
        due("24 kept over it", x.back(0), 2);
    }

    private static void back() {
        DropDealers x = Dues.told("terrace 3 4 0;terrace 2 0 0;drip 5 9;slip 3;");
        due("25 below", x.back(-1), BAD);
        due("25 beyond", x.back(2), BAD);
        due("25 none kept", x.back(1), STATE);
        x.end();
        x.deal();
        x.saw(0, 1);
        x.saw(1, 3);
        int water = x.terrace(0, 0);
        int all = x.now(2);
        int lot = x.lot(77);
        x.lot(lot);
        x.keep(1);
        x.mark(0, 0);
        Dues.type(x, "law");
        x.deal();
        x.bird(1);
        x.end();
        x.forget();
        x.saw(0, 2);
        x.lot(5);
        due("25 back", x.back(1), 1);
        due("25 day", x.now(0), 1);
        due("25 left", x.now(1), 4);
        due("25 water", x.now(2), all);
        due("25 water", x.terrace(0, 0), water);
        due("25 lacked", x.terrace(0, 3), 1);
        due("25 turn", x.now(4), 1);
        due("25 seen", x.count(4), 2);
        due("25 seen", x.who(1, 0), 1);
        due("25 the lot", x.lot(lot), lot);
        due("25 not the trace", x.trace(), 1);
        due("25 not the text", x.count(5), 3);
        x.give(0, 4);
        x.saw(5, 1);
        due("25 again", x.back(1), 1);
        due("25 an image is not changed", x.now(1), 4);
        due("25 an image is not changed", x.count(4), 2);
    }

    private static void count() {
        DropDealers x = Dues.told("terrace 0 0 0;terrace 0 0 0;drip 1 7;law 2;slip 6;");
        x.saw(0, 1);
        Dues.type(x, "song");
        due("26 terraces", x.count(0), 2);
        due("26 days", x.count(1), 7);
        due("26 law", x.count(2), 2);
        due("26 slip", x.count(3), 6);
        due("26 seen", x.count(4), 1);
        due("26 bytes", x.count(5), 4);
        due("26 beyond", x.count(6), BAD);
        due("26 below", x.count(-1), BAD);
    }

    private static void trace() {
        long[] want = {1, 11, 101, 1011, 10101, 100001};
        for (int kind = 0; kind < 6; kind++) {
            DropDealers x = marked();
            due("27 at first", x.trace(), 0);
            x.mark(kind, 0);
            due("27 once", x.trace(), want[kind]);
            x.mark(kind, 1);
            due("27 twice", x.trace(), 2 * want[kind]);
            x.mark(kind, 2);
            x.mark(6, 0);
            due("27 refused", x.trace(), 2 * want[kind]);
        }
    }
}
