/** Promises 14 to 18 at their bounds: SAFE, LEAST, TODAY, GOT, TRIED. */
public final class CanBeEdgeTest {
    private static final int BAD = Edges.BAD;
    private static final int STATE = Edges.STATE;
    private static final int NONE = Edges.NONE;
    private static final Dues DUES = new Dues("CanBeEdgeTest");
    private static final Edges EDGES = new Edges(DUES);

    public static void main(String[] args) {
        nothingIsChanged();
        nothingOfAnotherHill();
        safeFortyAtMost();
        safeThisDayFirst();
        safeNotAheadOfItsDay();
        safeFromNow();
        ownStaysOwn();
        safeOnTheLastDay();
        leastBounds();
        leastDayByDay();
        leastMost();
        todayBounds();
        todayTwelveDrops();
        todayNoTerraces();
        todayEnoughOrNot();
        todayOfSeveral();
        todayWhatIsLeft();
        gotBounds();
        gotRefusalsMeet();
        gotFromNow();
        gotBehindTheLast();
        gotInLeastTerms();
        gotMoreThanFall();
        gotAsManyAsAsked();
        triedBounds();
        triedNoTerraces();
        triedNotSoLong();
        triedTheFirst();
        triedGoesRoundOverDays();
        triedDays();
        triedFromNow();
        DUES.close();
    }

    private static void due(String what, long got, long want) {
        EDGES.due(what, got, want);
    }

    // "(From NOW; nothing is changed. ..)"
    private static void nothingIsChanged() {
        DropDealers x = Edges.busy();
        EDGES.changesNothing("14 safe", Edges::busy, x.safe(), y -> y.safe());
        EDGES.changesNothing("15 least", Edges::busy, x.least(20), y -> y.least(20));
        EDGES.changesNothing("16 today", Edges::busy, x.today(-1), y -> y.today(-1));
        EDGES.changesNothing("16 today", Edges::busy, x.today(2), y -> y.today(2));
        EDGES.changesNothing("17 got", Edges::busy, x.got(12, 1, 6, 1), y -> y.got(12, 1, 6, 1));
        EDGES.changesNothing("18 tried", Edges::busy, x.tried(3, 9, -1), y -> y.tried(3, 9, -1));
        EDGES.changesNothing("18 tried", Edges::busy, x.tried(3, 9, 2), y -> y.tried(3, 9, 2));
    }

    // "Read anew: .. all as told": what was looked at on a hill with more terraces is gone
    private static void nothingOfAnotherHill() {
        for (int many = 1; many <= 6; many++) {
            for (int fewer = 0; fewer <= many; fewer++) {
                DropDealers x = Dues.told("terrace 30 0 0;".repeat(many - 1) + "terrace 0 9 0;drip 12 9;");
                due("18 the last one's song", x.tried(3, 9, 2), many - 1);
                due("16 the last one's drops", x.today(many - 1) > 0 ? 1 : 0, 1);
                due("15 nothing need lack", x.least(9), 0);
                due("14 nothing need lack", x.safe(), 12);
                String anew = "terrace 1 3 0;".repeat(fewer) + "drip 4 2;";
                due("4 anew", Edges.typed(x, anew).hill(), fewer + 1);
                EDGES.alike(many + " terraces, then " + fewer, x, Dues.told(anew));
            }
        }
    }

    // "40 at most"
    private static void safeFortyAtMost() {
        int[] want = {38, 39, 40, 40, 40};
        for (int i = 0; i < want.length; i++) {
            due("14 of 38 + " + i, Dues.told("terrace 30 1 0;drip " + (8 + i) + " 1;").safe(), want[i]);
        }
        due("14 for ever", Dues.told("terrace 0 3 3;".repeat(6)).safe(), 40);
        due("14 all there can be", Dues.told("terrace 30 0 3;drip 30 20;").safe(), 40);
        due("14 none told", new DropDealers().safe(), 40);
        due("14 drops, but no terraces", Dues.told("drip 30 20;").safe(), 40);
        due("14 39 days by drops", Dues.told("terrace 0 1 0;drip 30 1;drip 9 1;").safe(), 39);
        due("14 40 days by drops", Dues.told("terrace 0 1 0;drip 30 1;drip 10 1;").safe(), 40);
        due("14 40 days by drops", Dues.told("terrace 0 1 0;drip 30 1;drip 11 1;").safe(), 40);
    }

    // "(this one the first ..)"
    private static void safeThisDayFirst() {
        due("14 not this day", Dues.told("terrace 0 1 0;").safe(), 0);
        due("14 this day alone", Dues.told("terrace 1 1 0;").safe(), 1);
        due("14 this day by a drop", Dues.told("terrace 0 1 0;drip 1 1;").safe(), 1);
        due("14 one too few", Dues.told("terrace 0 9 3;drip 5 1;").safe(), 0);
        due("14 just enough", Dues.told("terrace 0 9 3;drip 6 1;").safe(), 1);
        due("14 one too few for all", Dues.told("terrace 0 9 0;terrace 0 9 0;terrace 0 9 0;drip 26 1;").safe(), 0);
        due("14 just enough for all", Dues.told("terrace 0 9 0;terrace 0 9 0;terrace 0 9 0;drip 27 1;").safe(), 1);
    }

    // "those of days to come, may be given .. all as they come": on their day and later, not ahead of it
    private static void safeNotAheadOfItsDay() {
        for (int day = 1; day <= 19; day++) {
            String drops = "drip 0 " + day + ";drip 5 1;";
            due("14 just in time", Dues.told("terrace " + day + " 1 0;" + drops).safe(), day + 5);
            due("14 a day too late", Dues.told("terrace " + (day - 1) + " 1 0;" + drops).safe(), day - 1);
        }
    }

    // "From NOW": what is left today, not what was told; what is lost is lost
    private static void safeFromNow() {
        DropDealers x = Dues.told("terrace 0 1 0;terrace 30 0 0;drip 3 2;");
        due("14 six drops", x.safe(), 6);
        x.give(1, 1);
        due("14 one was given away", x.safe(), 5);
        x.give(0, 1);
        due("14 one is its own", x.safe(), 5);
        x.bird(0);
        due("14 a bird drank it", x.safe(), 4);
        x.end();
        due("14 one was lost, and it lacked", x.safe(), 3);
        x.end();
        due("14 all were lost", x.safe(), 0);
        for (int day = 0; day <= 21; day++) {
            DropDealers late = Edges.ended(Dues.told("terrace 0 1 0;drip 1 20;"), day);
            due("14 from day " + day, late.safe(), Math.max(0, 20 - day));
        }
    }

    // "what one has stays its own"
    private static void ownStaysOwn() {
        due("14 its own", Dues.told("terrace 30 0 3;terrace 0 1 0;").safe(), 0);
        due("15 its own", Dues.told("terrace 30 0 3;terrace 0 1 0;").least(20), 20);
        due("14 its dew", Dues.told("terrace 0 0 3;terrace 1 1 0;").safe(), 1);
        due("15 a drop where it lacks", Dues.told("terrace 30 0 3;terrace 0 1 0;drip 1 20;").least(20), 0);
        due("14 kept for another's day", Dues.told("terrace 0 1 0;terrace 5 1 0;drip 10 1;").safe(), 7);
    }

    // Days behind DAY 99 are like those behind the days told: no drops.
    private static void safeOnTheLastDay() {
        DropDealers x = Edges.ended(Dues.told("terrace 0 0 1;"), 99);
        due("14 day 99", x.safe(), 40);
        due("15 day 99", x.least(20), 0);
        DropDealers dry = Edges.ended(Dues.told("terrace 5 1 0;terrace 9 0 0;drip 30 20;"), 99);
        due("14 dry on day 99", dry.safe(), 0);
        due("15 dry on day 99", dry.least(1), 1);
        due("15 dry on day 99", dry.least(20), 20);
        due("18 dry on day 99", dry.tried(3, 9, -1), 9);
    }

    // "LEAST by k days (1 .. 20)"
    private static void leastBounds() {
        EDGES.bounds("15 k", Edges::busy, 1, 20, BAD, (x, k) -> x.least(k));
        EDGES.bounds("15 k", DropDealers::new, 1, 20, BAD, (x, k) -> x.least(k));
        EDGES.bounds("15 k", Edges::full, 1, 20, BAD, (x, k) -> x.least(k));
    }

    // "the least that must LACK in these together": each day of the k, and none behind them
    private static void leastDayByDay() {
        for (int k = 1; k <= 20; k++) {
            due("15 all lacks", Dues.told("terrace 0 1 0;").least(k), k);
            due("15 nothing lacks", Dues.told("terrace " + k + " 1 0;").least(k), 0);
            due("15 one lacks", Dues.told("terrace " + (k - 1) + " 1 0;").least(k), 1);
            String drops = k == 1 ? "drip 9 1;" : "drip 0 " + (k - 1) + ";drip 9 1;";
            due("15 a drop on the last day", Dues.told("terrace 0 1 0;" + drops).least(k), k - 1);
            if (k < 20) {
                due("15 a drop behind the last day", Dues.told("terrace 0 1 0;drip 0 " + k + ";drip 9 1;").least(k), k);
            }
        }
        DropDealers x = Dues.told("terrace 0 5 0;terrace 0 5 0;drip 9 1;drip 10 1;drip 11 1;drip 9 1;");
        int[] want = {1, 1, 1, 1, 11};
        for (int k = 1; k <= want.length; k++) {
            due("15 by " + k + " days", x.least(k), want[k - 1]);
        }
    }

    private static void leastMost() {
        due("15 the most", Dues.told("terrace 0 9 0;".repeat(6)).least(20), 20 * 54);
        due("15 the most, but a drop", Dues.told("terrace 0 9 0;".repeat(6) + "drip 1 1;").least(20), 20 * 54 - 1);
        due("15 with all drops", Dues.told("terrace 0 9 0;".repeat(6) + "drip 30 20;").least(20), 20 * 24);
        due("15 no terraces", Dues.told("drip 30 20;").least(20), 0);
    }

    // "what LACKS (t = -1), what a TERRACE gets; NONE. BAD; STATE."
    private static void todayBounds() {
        for (int many = 1; many <= 6; many++) {
            String text = Edges.terraces(many) + "drip 12 1;";
            EDGES.bounds("16 t", () -> Dues.told(text), -1, many - 1, BAD, (x, t) -> x.today(t));
        }
        Edges.Made tooMany = () -> Dues.told(Edges.terraces(2) + "drip 13 1;");
        for (int t : new int[] {-2, 2, 6, Integer.MIN_VALUE, Integer.MAX_VALUE}) {
            EDGES.changesNothing("16 BAD and STATE", tooMany, BAD, x -> x.today(t));
        }
        for (int t = -1; t <= 1; t++) {
            int one = t;
            EDGES.changesNothing("16 STATE", tooMany, STATE, x -> x.today(one));
        }
    }

    // "more than 12 DROPS are left: STATE"
    private static void todayTwelveDrops() {
        for (int drops = 0; drops <= 30; drops++) {
            DropDealers x = Dues.told("terrace 0 0 0;drip " + drops + " 1;");
            due("16 lacks, of " + drops, x.today(-1), drops > 12 ? STATE : 0);
            due("16 gets, of " + drops, x.today(0), drops > 12 ? STATE : drops);
        }
        DropDealers x = Dues.told("terrace 0 0 0;drip 14 2;");
        x.deal();
        due("16 13 are left", x.today(0), STATE);
        x.give(0, 1);
        due("16 12 are left", x.today(0), 12);
        x.end();
        due("16 14 are left", x.today(0), STATE);
        x.end();
        due("16 none is left", x.today(0), 0);
    }

    // "No TERRACES: NONE": only where nothing refuses the call
    private static void todayNoTerraces() {
        for (int drops : new int[] {0, 1, 12, 13, 30}) {
            Edges.Made made = () -> Dues.told("drip " + drops + " 1;");
            EDGES.changesNothing("16 no terraces, " + drops, made, drops > 12 ? STATE : NONE, x -> x.today(-1));
            EDGES.bounds("16 no terraces", made, -1, -1, BAD, (x, t) -> x.today(t));
        }
    }

    private static void todays(String text, int... want) {
        DropDealers x = Dues.told(text);
        for (int t = 0; t < want.length; t++) {
            due("16 today(" + (t - 1) + ") of " + text, x.today(t - 1), want[t]);
        }
    }

    // "that by which the least LACKS": one drop too few, just enough, one more
    private static void todayEnoughOrNot() {
        todays("terrace 0 5 0;terrace 0 4 0;drip 0 1;", 9, 0, 0);
        todays("terrace 0 5 0;terrace 0 4 0;drip 8 1;", 1, 4, 4);
        todays("terrace 0 5 0;terrace 0 4 0;drip 9 1;", 0, 5, 4);
        todays("terrace 0 5 0;terrace 0 4 0;drip 10 1;", 0, 5, 5);
        todays("terrace 0 5 0;terrace 30 4 0;drip 4 1;", 1, 4, 0);
        todays("terrace 0 5 0;terrace 30 4 0;drip 5 1;", 0, 5, 0);
        todays("terrace 0 5 0;terrace 30 4 0;drip 6 1;", 0, 6, 0);
        todays("terrace 0 9 0;".repeat(6) + "drip 12 1;", 42, 0, 0, 0, 0, 3, 9);
        todays("terrace 0 9 3;terrace 0 9 0;drip 12 1;", 3, 3, 9);
        todays("terrace 0 3 3;terrace 0 0 0;drip 0 1;", 0, 0, 0);
    }

    // "the least WATER any TERRACE has then is the greatest", "of these the first .. (less ahead of more)"
    private static void todayOfSeveral() {
        todays("terrace 0 0 0;terrace 0 0 0;drip 1 1;", 0, 0, 1);
        todays("terrace 0 0 0;terrace 0 0 0;drip 2 1;", 0, 1, 1);
        todays("terrace 0 0 0;terrace 0 0 0;drip 3 1;", 0, 1, 2);
        todays("terrace 0 0 0;".repeat(6) + "drip 5 1;", 0, 0, 0, 0, 0, 0, 5);
        todays("terrace 0 0 0;".repeat(6) + "drip 6 1;", 0, 1, 1, 1, 1, 1, 1);
        todays("terrace 0 0 0;".repeat(6) + "drip 11 1;", 0, 1, 1, 1, 1, 1, 6);
        todays("terrace 0 0 0;".repeat(6) + "drip 12 1;", 0, 2, 2, 2, 2, 2, 2);
        todays("terrace 0 0 0;terrace 30 0 0;drip 12 1;", 0, 12, 0);
        todays("terrace 18 0 0;terrace 30 0 0;drip 12 1;", 0, 12, 0);
        todays("terrace 19 0 0;terrace 30 0 0;drip 12 1;", 0, 11, 1);
        todays("terrace 30 0 0;terrace 18 0 0;drip 12 1;", 0, 0, 12);
        todays("terrace 5 0 3;terrace 9 1 0;drip 1 1;", 0, 0, 1);
        todays("terrace 5 0 2;terrace 9 1 0;drip 1 1;", 0, 1, 0);
        todays("terrace 30 9 0;", 0, 0);
    }

    // "to give all DROPS that are left", with what each has now
    private static void todayWhatIsLeft() {
        DropDealers x = Dues.told("terrace 0 4 0;terrace 0 4 0;drip 8 2;law 2;song 1;slip 0;");
        due("16 all", x.today(0), 4);
        x.deal();
        due("16 one less", x.today(0), 4);
        due("16 one less", x.today(1), 3);
        x.bird(1);
        due("16 a bird", x.today(-1), 1);
        due("16 a bird", x.today(0), 3);
        x.give(1, 7);
        due("16 none is left", x.today(-1), 4);
        due("16 none is left", x.today(0), 0);
        due("16 none is left", x.today(1), 0);
    }

    private static void gots(String what, DropDealers x, int n, int t, int k, long upper, long lower) {
        due("17 " + what + ", upper", x.got(n, t, k, 0), upper);
        due("17 " + what + ", lower", x.got(n, t, k, 1), lower);
    }

    // "GOT by n (1 .. 12) DROPS", "upper (what = 0), lower number (1)"
    private static void gotBounds() {
        for (int what = 0; what <= 1; what++) {
            int part = what;
            EDGES.bounds("17 n", Edges::busy, 1, 12, BAD, (x, n) -> x.got(n, 0, 0, part));
            EDGES.bounds("17 k", Edges::busy, 0, 12, BAD, (x, k) -> x.got(12, 0, k, part));
            EDGES.bounds("17 k of one", Edges::busy, 0, 12, BAD, (x, k) -> x.got(1, 0, k, part));
            for (int many = 0; many <= 6; many++) {
                String text = Edges.terraces(many) + "slip 4;";
                EDGES.bounds("17 t", () -> Dues.told(text), 0, many - 1, BAD, (x, t) -> x.got(5, t, 5, part));
            }
        }
        EDGES.bounds("17 what", Edges::busy, 0, 1, BAD, (x, what) -> x.got(3, 1, 2, what));
    }

    private static void gotRefusalsMeet() {
        EDGES.changesNothing("17 n and t", Edges::busy, BAD, x -> x.got(0, 3, 0, 0));
        EDGES.changesNothing("17 n and k", Edges::busy, BAD, x -> x.got(13, 0, 13, 0));
        EDGES.changesNothing("17 k and what", Edges::busy, BAD, x -> x.got(1, 0, -1, 2));
        EDGES.changesNothing("17 all", Edges::busy, BAD, x -> x.got(0, -1, -1, -1));
        EDGES.changesNothing("17 no terraces", DropDealers::new, BAD, x -> x.got(1, 0, 0, 0));
    }

    // "DROPS by SONG from now on": from the TURN on, round, whatever LAW is
    private static void gotFromNow() {
        for (int law = 0; law <= 2; law++) {
            DropDealers x = Dues.told(Edges.terraces(3) + "song 0 1 2 1 0 2 2 1;slip 0;drip 10 1;law " + law + ";");
            int[] song = {0, 1, 2, 1, 0, 2, 2, 1};
            for (int turn = 0; turn <= 10; turn++) {
                for (int t = 0; t < 3; t++) {
                    due("17 the next, from turn " + turn, x.got(1, t, 1, 0), song[turn % 8] == t ? 1 : 0);
                }
                x.deal();
            }
        }
        DropDealers x = Dues.told(Edges.terraces(2) + "song 1 0;slip 0;drip 10 1;");
        x.give(0, 1);
        due("17 a given one is no turn", x.got(1, 1, 1, 0), 1);
        x.deal();
        due("17 a dealt one is a turn", x.got(1, 1, 1, 0), 0);
    }

    // A slipped drop falls on the next one, behind the last one on 0.
    private static void gotBehindTheLast() {
        for (int many = 2; many <= 6; many++) {
            DropDealers x = Dues.told(Edges.terraces(many) + "slip 3;song " + (many - 1) + ";");
            gots("as it says", x, 1, many - 1, 1, 7, 10);
            gots("behind the last", x, 1, 0, 1, 3, 10);
            gots("behind the last, none", x, 1, 0, 0, 7, 10);
            if (many > 2) {
                gots("another", x, 1, 1, 1, 0, 1);
                gots("another", x, 12, 1, 0, 1, 1);
            }
        }
        DropDealers one = Dues.told("terrace 0 0 0;slip 9;");
        for (int n = 1; n <= 12; n++) {
            gots("the only one gets all", one, n, 0, n, 1, 1);
            gots("the only one gets all", one, n, 0, n - 1, 0, 1);
        }
    }

    // "in least terms"
    private static void gotInLeastTerms() {
        DropDealers half = Dues.told(Edges.terraces(2) + "slip 5;");
        gots("a half of a half ..", half, 12, 0, 12, 1, 4096);
        gots("924 of 4096", half, 12, 1, 6, 231, 1024);
        gots("12 of 4096", half, 12, 1, 1, 3, 1024);
        DropDealers most = Dues.told(Edges.terraces(2) + "slip 3;");
        gots("the greatest lower number", most, 12, 0, 12, 13841287201L, 1000000000000L);
        gots("the greatest lower number", most, 12, 1, 12, 531441, 1000000000000L);
        DropDealers nine = Dues.told(Edges.terraces(2) + "slip 9;");
        gots("9 of 10", nine, 12, 1, 12, 282429536481L, 1000000000000L);
        gots("1 of 10", nine, 12, 0, 12, 1, 1000000000000L);
        gots("none slipped", Dues.told(Edges.terraces(2) + "slip 0;"), 12, 0, 12, 1, 1);
        gots("all slipped, never", Dues.told(Edges.terraces(2) + "slip 0;"), 12, 1, 12, 0, 1);
        int[] lowers = {10, 5, 10, 5, 2, 5, 10, 5, 10};
        for (int slip = 1; slip <= 9; slip++) {
            DropDealers x = Dues.told(Edges.terraces(2) + "slip " + slip + ";");
            due("17 lower of slip " + slip, x.got(1, 1, 1, 1), lowers[slip - 1]);
        }
    }

    // "just k of them": more than all that fall can't be, so the odds are 0
    private static void gotMoreThanFall() {
        DropDealers x = Dues.told(Edges.terraces(2) + "slip 0;song 1;");
        for (int n = 1; n <= 12; n++) {
            for (int k = 0; k <= 12; k++) {
                due("17 upper of " + n + " " + k, x.got(n, 1, k, 0), k == n ? 1 : 0);
            }
            due("17 lower of " + n, x.got(n, 1, 12, 1), 1);
        }
    }

    // "(as many as are asked for)": also where fewer are left, or none
    private static void gotAsManyAsAsked() {
        DropDealers x = Dues.told(Edges.terraces(2) + "slip 0;song 0 1;drip 1 1;");
        gots("one is left", x, 12, 0, 6, 1, 1);
        x.give(0, 1);
        gots("none is left", x, 12, 0, 6, 1, 1);
        gots("day 99", Edges.ended(x, 99), 12, 0, 6, 1, 1);
    }

    // "TRIED by m (1 .. 3) and d days (1 .. 9)", "the i-th of the song (0 .. 2)", "what LACKS (i = -1)"
    private static void triedBounds() {
        EDGES.bounds("18 m", Edges::busy, 1, 3, BAD, (x, m) -> x.tried(m, 1, -1));
        EDGES.bounds("18 m", Edges::busy, 1, 3, BAD, (x, m) -> x.tried(m, 9, 2));
        EDGES.bounds("18 d", Edges::busy, 1, 9, BAD, (x, d) -> x.tried(1, d, -1));
        EDGES.bounds("18 d", Edges::busy, 1, 9, BAD, (x, d) -> x.tried(3, d, 2));
        for (int m = 1; m <= 3; m++) {
            int length = m;
            EDGES.bounds("18 i", Edges::busy, -1, 2, BAD, (x, i) -> x.tried(length, 1, i));
        }
        EDGES.changesNothing("18 m and d", Edges::busy, BAD, x -> x.tried(0, 0, 0));
        EDGES.changesNothing("18 m and i", Edges::busy, BAD, x -> x.tried(4, 1, 3));
        EDGES.changesNothing("18 all", Edges::busy, BAD, x -> x.tried(4, 10, -2));
    }

    // "NONE: no TERRACES": only where nothing refuses the call
    private static void triedNoTerraces() {
        Edges.Made made = () -> Dues.told("drip 30 20;");
        for (int m = 1; m <= 3; m++) {
            for (int i = -1; i <= 2; i++) {
                int length = m;
                int which = i;
                EDGES.changesNothing("18 no terraces", made, NONE, x -> x.tried(length, 9, which));
            }
        }
        EDGES.bounds("18 no terraces, m", made, 1, 3, BAD, (x, m) -> x.tried(m, 1, 0));
        EDGES.bounds("18 no terraces, d", made, 1, 9, BAD, (x, d) -> x.tried(1, d, 0));
        EDGES.bounds("18 no terraces, i", made, -1, 2, BAD, (x, i) -> x.tried(1, 1, i));
    }

    private static void tries(String text, int m, int d, int... want) {
        DropDealers x = Dues.told(text);
        for (int i = 0; i < want.length; i++) {
            due("18 tried(" + m + ", " + d + ", " + (i - 1) + ") of " + text, x.tried(m, d, i - 1), want[i]);
        }
    }

    // "-5: it is not so long"
    private static void triedNotSoLong() {
        tries(Edges.terraces(2), 1, 1, 0, 0, -5, -5);
        tries(Edges.terraces(2), 2, 1, 0, 0, 0, -5);
        tries(Edges.terraces(2), 3, 1, 0, 0, 0, 0);
    }

    // "of several the first"
    private static void triedTheFirst() {
        tries("terrace 0 9 0;".repeat(6), 3, 9, 6 * 9 * 9, 0, 0, 0);
        tries("terrace 0 0 0;".repeat(5) + "terrace 0 9 0;drip 9 9;", 1, 9, 0, 5, -5, -5);
        tries("terrace 0 0 0;".repeat(5) + "terrace 0 9 0;drip 9 9;", 3, 9, 0, 5, 5, 5);
        tries("terrace 9 0 0;terrace 0 1 0;drip 3 1;", 3, 1, 0, 0, 0, 1);
        tries("terrace 9 0 0;terrace 0 2 0;drip 3 1;", 3, 1, 0, 0, 1, 1);
        tries("terrace 9 0 0;terrace 0 1 0;drip 2 1;", 3, 1, 0, 0, 1, 0);
        tries("terrace 9 0 0;terrace 0 1 0;drip 1 1;", 3, 1, 0, 1, 0, 0);
        tries("terrace 9 0 0;terrace 0 1 0;drip 0 1;", 3, 1, 1, 0, 0, 0);
        tries("terrace 0 1 0;".repeat(6) + "drip 3 1;", 3, 1, 3, 0, 1, 2);
    }

    // "sung anew from their beginning": once for all the days, and round
    private static void triedGoesRoundOverDays() {
        tries("terrace 1 1 0;terrace 0 1 0;drip 1 2;", 2, 2, 1, 0, 1, -5);
        tries("terrace 0 4 0;terrace 0 0 0;drip 4 1;", 2, 1, 0, 0, 0, -5);
        tries("terrace 0 2 0;terrace 0 2 0;drip 4 1;", 2, 1, 0, 0, 1, -5);
        tries("terrace 0 3 0;terrace 0 1 0;drip 4 1;", 3, 1, 0, 0, 0, 1);
        tries("terrace 0 1 0;terrace 0 2 0;drip 3 3;", 3, 3, 0, 0, 1, 1);
        tries("terrace 0 9 0;terrace 0 9 3;drip 30 9;", 2, 9, 0, 0, 1, -5);
    }

    // "with all DROPS of these days", "in d days together": the d-th day, and none behind it
    private static void triedDays() {
        for (int d = 1; d <= 9; d++) {
            due("18 all lacks", Dues.told("terrace 0 1 0;").tried(1, d, -1), d);
            due("18 enough", Dues.told("terrace " + d + " 1 0;").tried(1, d, -1), 0);
            due("18 one lacks", Dues.told("terrace " + (d - 1) + " 1 0;").tried(1, d, -1), 1);
            String drops = d == 1 ? "drip 9 1;" : "drip 0 " + (d - 1) + ";drip 9 1;";
            due("18 drops on the last day", Dues.told("terrace 0 1 0;" + drops).tried(3, d, -1), d - 1);
            due("18 drops behind the last day", Dues.told("terrace 0 1 0;drip 0 " + d + ";drip 9 1;").tried(3, d, -1), d);
        }
        tries("terrace 30 9 3;".repeat(6) + "drip 30 20;", 3, 9, 72, 0, 1, 2);
    }

    // "(this one with what is left)", "without SLIPS", whatever TURN and LAW are
    private static void triedFromNow() {
        DropDealers x = Dues.told("terrace 0 2 0;terrace 0 2 0;drip 5 1;slip 9;law 2;song 1 1 0;");
        due("18 five are left", x.tried(2, 1, -1), 0);
        due("18 five are left", x.tried(2, 1, 0), 0);
        x.deal();
        x.bird(x.terrace(0, 0) > 0 ? 0 : 1);
        due("18 four are left", x.tried(2, 1, -1), 0);
        due("18 four are left", x.tried(2, 1, 0), 0);
        due("18 four are left", x.tried(2, 1, 1), 1);
        x.give(0, 1);
        due("18 three are left", x.tried(2, 1, -1), 0);
        due("18 three are left, one has one", x.tried(2, 1, 0), 1);
        due("18 three are left, one has one", x.tried(2, 1, 1), 0);
        x.give(0, 2);
        due("18 one is left", x.tried(1, 1, -1), 1);
        due("18 one is left", x.tried(1, 1, 0), 1);
        x.give(0, 1);
        due("18 none is left", x.tried(3, 1, -1), 2);
        due("18 none is left", x.tried(3, 1, 0), 0);
    }
}
