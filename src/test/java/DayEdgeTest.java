/** Promises 8 to 13 at their bounds: drops dealt and given, birds, the days' ends, the lot. */
public final class DayEdgeTest {
    private static final int BAD = Edges.BAD;
    private static final int STATE = Edges.STATE;
    private static final int TIMES = 1103515245;
    private static final int MORE = 12345;
    private static final Dues DUES = new Dues("DayEdgeTest");
    private static final Edges EDGES = new Edges(DUES);

    public static void main(String[] args) {
        dealTheLast();
        dealWithoutTerraces();
        roundGoesRound();
        thirstOfSeveral();
        songGoesRound();
        givenIsNotDealt();
        slipsBehindTheLast();
        drawAndSlip();
        lotStandsStill();
        lotWraps();
        giveBounds();
        giveTheLast();
        giveRefusalsMeet();
        birdBounds();
        birdTheLast();
        lastDay();
        dropsOfEachDay();
        dewThenNeed();
        lacksAddUp();
        waterHasNoTop();
        nowBounds();
        lotBounds();
        DUES.close();
    }

    private static void due(String what, long got, long want) {
        EDGES.due(what, got, want);
    }

    private static void deals(String what, DropDealers x, int... terraces) {
        for (int t : terraces) {
            due(what, x.deal(), t);
        }
    }

    // "STATE: none is left"
    private static void dealTheLast() {
        DropDealers x = Dues.told(Edges.terraces(2) + "slip 9;drip 2 1;");
        x.deal();
        DUES.holds("8 the last one", x.deal() >= 0);
        due("8 none is left then", x.now(1), 0);
        EDGES.changesNothing("8 none is left", () -> dealt(2), STATE, y -> y.deal());
        Edges.Made dryDay = () -> Dues.told("terrace 3 1 0;slip 9;drip 0 1;");
        EDGES.changesNothing("8 none on a day without", dryDay, STATE, y -> y.deal());
        Edges.Made noDay = () -> Dues.told("terrace 3 1 0;slip 9;");
        EDGES.changesNothing("8 none behind the days told", noDay, STATE, y -> y.deal());
    }

    private static DropDealers dealt(int drops) {
        DropDealers x = Dues.told(Edges.terraces(2) + "slip 9;drip " + drops + " 1;");
        for (int i = 0; i < drops; i++) {
            x.deal();
        }
        return x;
    }

    // "or there are no TERRACES": also where both are so
    private static void dealWithoutTerraces() {
        EDGES.changesNothing("8 no terraces", () -> Dues.told("drip 30 1;slip 9;law 0;"), STATE, x -> x.deal());
        EDGES.changesNothing("8 no terraces", () -> Dues.told("drip 30 1;slip 9;law 1;"), STATE, x -> x.deal());
        EDGES.changesNothing("8 no terraces", () -> Dues.told("drip 30 1;slip 9;law 2;"), STATE, x -> x.deal());
        EDGES.changesNothing("8 neither", () -> Dues.told("drip 0 1;slip 9;"), STATE, x -> x.deal());
        EDGES.changesNothing("8 a new object", DropDealers::new, STATE, x -> x.deal());
    }

    // "ROUND: 0, 1, .. in turn, over all days"
    private static void roundGoesRound() {
        for (int many = 1; many <= 6; many++) {
            DropDealers x = Dues.told(Edges.terraces(many) + "law 0;drip 5 4;");
            for (int turn = 0; turn < 20; turn++) {
                due("12 turn", x.now(4), turn);
                due("8 round of " + many, x.deal(), turn % many);
                if (turn % 5 == 4) {
                    x.end();
                }
            }
            due("12 turn", x.now(4), 20);
        }
    }

    // "THIRST: that with the least WATER less NEED, of several the least"
    private static void thirstOfSeveral() {
        deals("8 of all the least", Dues.told(Edges.terraces(6) + "law 1;drip 7 1;"), 0, 1, 2, 3, 4, 5, 0);
        deals("8 of two the least", Dues.told("terrace 4 1 0;terrace 3 1 0;terrace 9 7 0;law 1;drip 4 1;"), 1, 2, 0, 1);
        deals("8 one less", Dues.told("terrace 4 1 0;terrace 3 1 0;law 1;drip 1 1;"), 1);
        deals("8 one less, below 0", Dues.told("terrace 0 8 0;terrace 0 9 0;law 1;drip 2 1;"), 1, 0);
        deals("8 dew does not count", Dues.told("terrace 0 5 3;terrace 0 4 0;law 1;drip 1 1;"), 0);
        DropDealers lacked = Dues.told("terrace 0 0 0;terrace 0 9 3;terrace 0 9 0;law 1;drip 1 2;");
        lacked.end();
        deals("8 what lacked does not count", lacked, 1);
        deals("8 the only one", Dues.told("terrace 30 0 0;law 1;drip 2 1;"), 0, 0, STATE);
    }

    // "SONG: the next one of THE SONG, round, over all days"
    private static void songGoesRound() {
        String song = "song";
        for (int length = 1; length <= 8; length++) {
            song += " " + (length * length % 5);
            DropDealers x = Dues.told(Edges.terraces(5) + "law 2;drip 3 7;" + song + ";");
            for (int turn = 0; turn < 21; turn++) {
                int i = turn % length + 1;
                due("8 song of " + length, x.deal(), i * i % 5);
                if (turn % 3 == 2) {
                    x.end();
                }
            }
        }
        deals("8 just 0, if none is told", Dues.told(Edges.terraces(3) + "law 2;drip 3 1;"), 0, 0, 0, STATE);
    }

    // "The TURN: how many were dealt by LAW ever."
    private static void givenIsNotDealt() {
        DropDealers x = Dues.told(Edges.terraces(3) + "law 2;song 2 1 0;drip 6 2;");
        deals("8 the song", x, 2);
        x.give(0, 3);
        due("12 a given one is no turn", x.now(4), 1);
        deals("8 the song goes on", x, 1);
        due("8 one is left", x.now(1), 1);
        x.end();
        due("12 a lost one is no turn", x.now(4), 2);
        deals("8 the song goes on", x, 0, 2);
        x.give(0, 4);
        deals("8 none is left", x, STATE);
        due("12 a refused one is no turn", x.now(4), 4);
    }

    // "to the next one (behind the last one 0)"
    private static void slipsBehindTheLast() {
        for (int many = 1; many <= 6; many++) {
            for (int law = 0; law <= 2; law++) {
                DropDealers x = Dues.told(Edges.terraces(many) + "slip 9;drip 6 1;law " + law + ";song " + (many - 1) + ";");
                int first = law == 2 ? many - 1 : 0;
                x.lot(before(0));
                due("8 slipped of " + many + " by " + law, x.deal(), (first + 1) % many);
                due("8 its water", x.terrace((first + 1) % many, 0), 4);
            }
            DropDealers last = Dues.told(Edges.terraces(many) + "slip 9;drip 6 1;");
            for (int t = 0; t < many; t++) {
                last.lot(before(0));
                due("8 round, slipped", last.deal(), (t + 1) % many);
            }
        }
    }

    // THE LOT that goes on to this one: TIMES is odd, so it has an inverse by which all wraps back.
    private static int before(int lot) {
        int inverse = 1;
        for (int i = 0; i < 6; i++) {
            inverse *= 2 - TIMES * inverse;
        }
        return (lot - MORE) * inverse;
    }

    // "he SLIPS, if the DRAW is less than SLIP", "DRAW: its upper 16 bits, left over by 10"
    private static void drawAndSlip() {
        int[] uppers = {0, 1, 8, 9, 10, 11, 19, 20, 32767, 32768, 32769, 65529, 65530, 65534, 65535};
        for (int slip = 1; slip <= 9; slip++) {
            for (int upper : uppers) {
                for (int lower : new int[] {0, 1, 65535}) {
                    DropDealers x = Dues.told(Edges.terraces(3) + "law 2;song 1;drip 1 1;slip " + slip + ";");
                    int then = upper << 16 | lower;
                    x.lot(before(then));
                    due("8 draw " + upper % 10 + " of slip " + slip, x.deal(), upper % 10 < slip ? 2 : 1);
                    due("13 the lot went on", x.lot(0), then);
                }
            }
        }
    }

    // "each time, if SLIP is above 0"
    private static void lotStandsStill() {
        for (int law = 0; law <= 2; law++) {
            DropDealers still = Dues.told(Edges.terraces(2) + "drip 9 1;slip 0;law " + law + ";");
            still.deal();
            due("13 slip 0", still.lot(1), 1);
            DropDealers goes = Dues.told(Edges.terraces(2) + "drip 9 1;slip 1;law " + law + ";");
            goes.give(0, 1);
            due("13 given", goes.lot(1), 1);
            goes.deal();
            due("13 once", goes.lot(1), TIMES + MORE);
            goes.deal();
            goes.deal();
            due("13 twice", goes.lot(1), (TIMES + MORE) * TIMES + MORE);
            goes.end();
            due("13 a day ends", goes.lot(1), 1);
        }
        DropDealers alone = Dues.told("terrace 0 0 0;drip 1 1;slip 1;");
        alone.deal();
        due("13 also of one terrace", alone.lot(1), TIMES + MORE);
    }

    // "times 1103515245 and 12345, wrapped"
    private static void lotWraps() {
        int[] lots = {0, 1, -1, 2, 77, Integer.MAX_VALUE, Integer.MIN_VALUE, Integer.MIN_VALUE + 1, 65535, 65536};
        for (int lot : lots) {
            DropDealers x = Dues.told("terrace 0 0 0;terrace 0 0 0;slip 5;drip 30 1;");
            x.lot(lot);
            long want = lot;
            for (int turn = 0; turn < 30; turn++) {
                want = want * TIMES + MORE & 0xFFFFFFFFL;
                int slipped = (want >> 16) % 10 < 5 ? 1 : 0;
                due("8 from " + lot, x.deal(), (turn + slipped) % 2);
            }
            due("13 from " + lot, x.lot(0), (int) want);
        }
    }

    // "n DROPS (1 .. 30) are GIVEN to a TERRACE", "GIVEN: one DROP to a told TERRACE"
    private static void giveBounds() {
        Edges.Made made = () -> Dues.told(Edges.terraces(4) + "drip 30 1;");
        EDGES.bounds("9 n", made, 1, 30, BAD, (x, n) -> x.give(0, n));
        for (int many = 0; many <= 6; many++) {
            String text = Edges.terraces(many) + "drip 30 1;";
            EDGES.bounds("9 t", () -> Dues.told(text), 0, many - 1, BAD, (x, t) -> x.give(t, 1));
        }
        for (int n = 1; n <= 30; n++) {
            DropDealers x = made.one();
            due("9 its water", x.give(3, n), 3 + n);
            due("9 its water", x.terrace(3, 0), 3 + n);
            due("9 another's", x.terrace(2, 0), 3);
            due("9 left", x.now(1), 30 - n);
        }
    }

    // "STATE: not so many are left"
    private static void giveTheLast() {
        for (int left = 0; left <= 30; left++) {
            String text = "terrace 0 0 0;terrace 0 0 0;drip " + left + " 1;";
            if (left > 0) {
                DropDealers x = Dues.told(text);
                due("9 all that are left", x.give(1, left), left);
                due("9 none is left", x.now(1), 0);
            }
            if (left < 30) {
                int more = left + 1;
                EDGES.changesNothing("9 one more", () -> Dues.told(text), STATE, x -> x.give(1, more));
                EDGES.changesNothing("9 thirty", () -> Dues.told(text), STATE, x -> x.give(0, 30));
            }
        }
    }

    private static void giveRefusalsMeet() {
        Edges.Made made = () -> Dues.told(Edges.terraces(2) + "drip 3 1;");
        EDGES.changesNothing("9 BAD t and STATE", made, BAD, x -> x.give(2, 4));
        EDGES.changesNothing("9 BAD t and STATE", made, BAD, x -> x.give(-1, 30));
        EDGES.changesNothing("9 BAD n and STATE", made, BAD, x -> x.give(0, 31));
        EDGES.changesNothing("9 BAD n and STATE", made, BAD, x -> x.give(0, Integer.MAX_VALUE));
        EDGES.changesNothing("9 BAD both", made, BAD, x -> x.give(2, 0));
        Edges.Made none = () -> Dues.told(Edges.terraces(2));
        EDGES.changesNothing("9 none is left, none asked for", none, BAD, x -> x.give(0, 0));
        EDGES.changesNothing("9 none is left", none, STATE, x -> x.give(0, 1));
        EDGES.changesNothing("9 none is left, no such terrace", none, BAD, x -> x.give(2, 1));
    }

    // "A BIRD: WATER. BAD"
    private static void birdBounds() {
        for (int many = 0; many <= 6; many++) {
            String text = Edges.terraces(many);
            EDGES.bounds("10 t", () -> Dues.told(text), 0, many - 1, BAD, (x, t) -> x.bird(t));
        }
    }

    // "STATE: there is none", "1 less"
    private static void birdTheLast() {
        DropDealers x = Dues.told("terrace 30 0 0;terrace 1 0 0;terrace 0 0 0;");
        due("10 of 30", x.bird(0), 29);
        due("10 of 1", x.bird(1), 0);
        due("10 then", x.terrace(1, 0), 0);
        due("10 another's", x.terrace(0, 0), 29);
        due("10 nothing lacked", x.now(3), 0);
        EDGES.changesNothing("10 of 0", () -> Dues.told("terrace 30 0 0;terrace 0 9 3;"), STATE, y -> y.bird(1));
        EDGES.changesNothing("10 BAD, and all are dry", () -> Dues.told("terrace 0 0 0;"), BAD, y -> y.bird(1));
        EDGES.changesNothing("10 BAD, and all are dry", () -> Dues.told("terrace 0 0 0;"), BAD, y -> y.bird(-1));
    }

    // "A DAY (0 at first, 99 at most)", "STATE: it is DAY 99."
    private static void lastDay() {
        String[] texts = {"", "drip 9 20;", "terrace 9 0 0;", "terrace 9 5 3;terrace 0 1 0;drip 30 20;slip 9;law 1;"};
        for (String text : texts) {
            DropDealers x = Dues.told(text);
            for (int day = 0; day < 99; day++) {
                due("12 day", x.now(0), day);
                DUES.holds("11 not the last day", x.end() >= 0);
            }
            due("12 the last day", x.now(0), 99);
            EDGES.changesNothing("11 day 99", () -> Edges.ended(Dues.told(text), 99), STATE, y -> y.end());
        }
        DropDealers x = Edges.ended(Dues.told("terrace 9 0 0;"), 98);
        due("11 day 98", x.end(), 0);
        due("11 day 99", x.end(), STATE);
        due("11 day 99", x.end(), STATE);
        due("10 a bird on day 99", x.bird(0), 8);
    }

    // "so many DROPS left to deal (all as it begins)", "what is left of its DROPS is lost", "behind them 0"
    private static void dropsOfEachDay() {
        DropDealers x = Dues.told("terrace 0 0 0;drip 1 1;drip 30 2;drip 0 1;drip 7 16;");
        int[] first = {1, 30, 30, 0};
        for (int day = 0; day <= 25; day++) {
            int drops = day < 4 ? first[day] : day < 20 ? 7 : 0;
            due("12 as day " + day + " begins", x.now(1), drops);
            due("6 day " + day, x.drip(day), drops);
            if (day % 2 == 1) {
                x.deal();
            }
            x.end();
        }
    }

    // "each TERRACE has DEW more, then NEED less; what it has too little LACKS, and it has 0"
    private static void dewThenNeed() {
        for (int water = 0; water <= 10; water++) {
            for (int dew = 0; dew <= 3; dew++) {
                for (int need = 0; need <= 9; need++) {
                    DropDealers x = Dues.told("terrace " + water + " " + need + " " + dew + ";");
                    int then = water + dew - need;
                    due("11 lacked", x.end(), Math.max(0, -then));
                    due("5 water", x.terrace(0, 0), Math.max(0, then));
                    due("5 lacked", x.terrace(0, 3), Math.max(0, -then));
                }
            }
        }
    }

    // "what it has too little LACKS (added up for it)": the day's answer is that day's alone
    private static void lacksAddUp() {
        DropDealers x = Dues.told("terrace 0 9 0;terrace 1 1 0;terrace 0 2 3;");
        int[] days = {9, 10, 10};
        int[] second = {0, 1, 2};
        for (int day = 0; day < days.length; day++) {
            due("11 lacked this day", x.end(), days[day]);
            due("5 lacked, the first", x.terrace(0, 3), 9 * (day + 1));
            due("5 lacked, the second", x.terrace(1, 3), second[day]);
            due("5 lacked, the third", x.terrace(2, 3), 0);
            due("12 lacked of all", x.now(3), 9 * (day + 1) + second[day]);
        }
        DropDealers most = Edges.ended(Dues.told("terrace 0 9 0;".repeat(6)), 99);
        due("12 the most that can lack", most.now(3), 99 * 54);
        due("5 the most that can lack", most.terrace(5, 3), 99 * 9);
    }

    // WATER is 0 .. 30 as it is told; drops and dew come above that.
    private static void waterHasNoTop() {
        DropDealers x = Dues.told("terrace 30 0 3;drip 30 20;");
        for (int day = 0; day < 20; day++) {
            due("9 its water", x.give(0, 30), 60 + 33 * day);
            x.end();
        }
        Edges.ended(x, 79);
        due("5 the most water", x.terrace(0, 0), 30 + 600 + 297);
        due("12 the most water", x.now(2), 30 + 600 + 297);
    }

    private static void nowBounds() {
        EDGES.bounds("12 what", Edges::busy, 0, 4, BAD, (x, what) -> x.now(what));
        EDGES.bounds("12 what", DropDealers::new, 0, 4, BAD, (x, what) -> x.now(what));
        DropDealers x = Dues.told("terrace 30 0 0;".repeat(6));
        due("12 water of all", x.now(2), 180);
        x.bird(5);
        due("12 water of all", x.now(2), 179);
    }

    // "THE LOT becomes v: what it was."
    private static void lotBounds() {
        DropDealers x = new DropDealers();
        int was = 1;
        for (int v : new int[] {0, -1, Integer.MAX_VALUE, Integer.MIN_VALUE, 1, BAD, STATE}) {
            due("13 what it was", x.lot(v), was);
            was = v;
        }
        DropDealers busy = Edges.busy();
        int lot = busy.lot(5);
        busy.lot(lot);
        EDGES.alike("13 nothing else changes", busy, Edges.busy());
    }
}
