/** Promises 19 to 22 at their bounds: what was heard, and what can have been. */
public final class HeardEdgeTest {
    private static final int BAD = Edges.BAD;
    private static final int FULL = Edges.FULL;
    private static final Dues DUES = new Dues("HeardEdgeTest");
    private static final Edges EDGES = new Edges(DUES);

    public static void main(String[] args) {
        sawTurns();
        sawTerraces();
        sawEightAtMost();
        sawRefusalsMeet();
        sawChangesWhatIsSeenAlone();
        forgetAll();
        couldBounds();
        couldNothingChanges();
        couldAllWays();
        couldOfTheseTurns();
        couldOfTurnsBehind();
        couldOneTerrace();
        couldNoTerraces();
        couldWhateverSlipAndLaw();
        couldHeardSeveralTimes();
        whoBounds();
        whoRefusalsMeet();
        whoBehindTheLast();
        whoRound();
        whoNoneIfItCanNotBe();
        DUES.close();
    }

    private static void due(String what, long got, long want) {
        EDGES.due(what, got, want);
    }

    // "the DROP of TURN i (0 .. 19)"
    private static void sawTurns() {
        EDGES.bounds("19 i", () -> Dues.told(Edges.terraces(3)), 0, 19, BAD, (x, i) -> x.saw(i, 1));
        EDGES.bounds("19 i", () -> Dues.told(Edges.terraces(6)), 0, 19, BAD, (x, i) -> x.saw(i, 63));
    }

    // "bits of TERRACES there are, one at least"
    private static void sawTerraces() {
        for (int many = 0; many <= 6; many++) {
            String text = Edges.terraces(many);
            EDGES.bounds("19 set", () -> Dues.told(text), 1, (1 << many) - 1, BAD, (x, set) -> x.saw(0, set));
            for (int bit = many; bit < 32; bit++) {
                int alone = 1 << bit;
                int besideAll = alone | (1 << many) - 1;
                EDGES.changesNothing("19 no such terrace", () -> Dues.told(text), BAD, x -> x.saw(0, alone));
                EDGES.changesNothing("19 beside such as are", () -> Dues.told(text), BAD, x -> x.saw(0, besideAll));
            }
        }
    }

    private static DropDealers heard(int many) {
        DropDealers x = Dues.told(Edges.terraces(3) + "drip 9 2;");
        for (int i = 0; i < many; i++) {
            due("19 how much there is", x.saw(i, 3), i + 1);
        }
        return x;
    }

    // "SEEN (8 at most)", "FULL"
    private static void sawEightAtMost() {
        due("19 the eighth", heard(7).saw(19, 7), 8);
        EDGES.changesNothing("19 a ninth", () -> heard(8), FULL, x -> x.saw(8, 7));
        EDGES.changesNothing("19 a ninth of a turn that was heard", () -> heard(8), FULL, x -> x.saw(0, 3));
        EDGES.changesNothing("19 a ninth that tells nothing", () -> heard(8), FULL, x -> x.saw(19, 7));
        DropDealers x = heard(8);
        due("26 eight", x.count(4), 8);
        due("20 eight", x.forget(), 8);
        due("19 there is room again", x.saw(0, 1), 1);
        DropDealers same = Dues.told(Edges.terraces(3));
        for (int i = 1; i <= 8; i++) {
            due("19 the same again is one more", same.saw(19, 7), i);
        }
        due("19 full of the same", same.saw(19, 7), FULL);
    }

    private static void sawRefusalsMeet() {
        EDGES.changesNothing("19 BAD i and FULL", () -> heard(8), BAD, x -> x.saw(20, 1));
        EDGES.changesNothing("19 BAD i and FULL", () -> heard(8), BAD, x -> x.saw(-1, 1));
        EDGES.changesNothing("19 BAD set and FULL", () -> heard(8), BAD, x -> x.saw(0, 0));
        EDGES.changesNothing("19 BAD set and FULL", () -> heard(8), BAD, x -> x.saw(0, 8));
        EDGES.changesNothing("19 BAD both", () -> heard(3), BAD, x -> x.saw(20, 0));
        EDGES.changesNothing("19 no terraces", DropDealers::new, BAD, x -> x.saw(0, 1));
    }

    private static void sawChangesWhatIsSeenAlone() {
        DropDealers x = heard(2);
        x.saw(2, 1);
        x.forget();
        x.saw(0, 3);
        x.saw(1, 3);
        EDGES.alike("19 nothing but what is seen", x, heard(2));
    }

    // "Nothing was SEEN: how much there was."
    private static void forgetAll() {
        for (int many = 0; many <= 8; many++) {
            DropDealers x = heard(many);
            due("20 how much there was", x.forget(), many);
            due("20 nothing then", x.forget(), 0);
            due("26 nothing then", x.count(4), 0);
            EDGES.alike("20 nothing else changes", x, heard(0));
        }
        EDGES.changesNothing("20 of nothing", () -> heard(0), 0, x -> x.forget());
        DropDealers x = Dues.told(Edges.terraces(3));
        x.saw(0, 4);
        due("20 it can't be", x.could(1), 0);
        x.forget();
        due("20 it can be again", x.could(1), 2);
        x.saw(5, 7);
        due("20 what was forgotten stays so", x.could(1), 2);
    }

    // "COULD by n (1 .. 12)"
    private static void couldBounds() {
        EDGES.bounds("21 n", Edges::busy, 1, 12, BAD, (x, n) -> x.could(n));
        EDGES.bounds("21 n", Edges::full, 1, 12, BAD, (x, n) -> x.could(n));
        EDGES.bounds("21 n", DropDealers::new, 1, 12, BAD, (x, n) -> x.could(n));
    }

    private static void couldNothingChanges() {
        EDGES.changesNothing("21 could", () -> heard(8), 4096, x -> x.could(12));
        EDGES.changesNothing("22 who", () -> heard(8), 3, x -> x.who(12, 11));
    }

    // "in how many ways (each as THE SONG says, or SLIPPED ..)"
    private static void couldAllWays() {
        for (int many = 1; many <= 6; many++) {
            DropDealers x = Dues.told(Edges.terraces(many));
            for (int n = 1; n <= 12; n++) {
                due("21 all ways", x.could(n), 1 << n);
            }
        }
        DropDealers x = Dues.told(Edges.terraces(3));
        for (int i = 0; i < 8; i++) {
            x.saw(i, 2);
            due("21 each but one", x.could(12), 1 << 11 - i);
            due("21 just one", x.could(i + 1), 1);
        }
    }

    // "the DROPS of TURNS 0 to n less 1 .. so that all that was SEEN of these is so"
    private static void couldOfTheseTurns() {
        for (int i = 0; i <= 11; i++) {
            DropDealers half = Dues.told(Edges.terraces(3));
            half.saw(i, 1);
            DropDealers none = Dues.told(Edges.terraces(3));
            none.saw(i, 4);
            for (int n = 1; n <= 12; n++) {
                due("21 turn " + i + " of " + n, half.could(n), n > i ? 1 << n - 1 : 1 << n);
                due("21 can't be, turn " + i + " of " + n, none.could(n), n > i ? 0 : 1 << n);
            }
        }
    }

    // Turns 12 to 19 may be heard, but are none of these.
    private static void couldOfTurnsBehind() {
        DropDealers x = Dues.told(Edges.terraces(3));
        for (int i = 12; i <= 19; i++) {
            x.saw(i, 4);
        }
        due("26 eight", x.count(4), 8);
        for (int n = 1; n <= 12; n++) {
            due("21 none of these", x.could(n), 1 << n);
            due("22 none of these", x.who(n, n - 1), 3);
        }
    }

    // Slipped or not, it falls on the only one: two ways all the same.
    private static void couldOneTerrace() {
        DropDealers x = Dues.told(Edges.terraces(1));
        for (int i = 0; i < 8; i++) {
            x.saw(i, 1);
        }
        due("21 one terrace", x.could(1), 2);
        due("21 one terrace", x.could(12), 4096);
        for (int i = 0; i < 12; i++) {
            due("22 one terrace", x.who(12, i), 1);
        }
    }

    private static void couldNoTerraces() {
        for (int n = 1; n <= 12; n++) {
            due("21 no terraces", Dues.told("drip 9 9;slip 5;law 2;").could(n), 0);
            due("22 no terraces", Dues.told("drip 9 9;slip 5;law 2;").who(n, 0), 0);
        }
    }

    // "whatever SLIP and LAW are", and whatever was dealt
    private static void couldWhateverSlipAndLaw() {
        for (int law = 0; law <= 2; law++) {
            for (int slip : new int[] {0, 1, 9}) {
                DropDealers x = Dues.told(Edges.terraces(3) + "drip 9 1;song 2 1;law " + law + ";slip " + slip + ";");
                x.saw(1, 6);
                x.saw(2, 2);
                for (int dealt = 0; dealt <= 3; dealt++) {
                    due("21 can be", x.could(2), 4);
                    due("21 can't be", x.could(3), 0);
                    due("22 as it says or slipped", x.who(2, 1), 6);
                    due("22 behind the last", x.who(2, 0), 5);
                    x.deal();
                }
            }
        }
    }

    // "all that was SEEN of these is so"
    private static void couldHeardSeveralTimes() {
        DropDealers x = Dues.told(Edges.terraces(4) + "song 1;");
        x.saw(0, 7);
        due("22 one of three", x.who(1, 0), 6);
        x.saw(0, 14);
        due("22 of both", x.who(1, 0), 6);
        x.saw(0, 5);
        due("22 of all three", x.who(1, 0), 4);
        due("21 one way", x.could(1), 1);
        x.saw(0, 11);
        due("21 it can't be", x.could(1), 0);
        x.saw(0, 15);
        due("21 it can't be", x.could(1), 0);
    }

    // "WHO (i below n), as bits. BAD."
    private static void whoBounds() {
        for (int n = 1; n <= 12; n++) {
            int turns = n;
            EDGES.bounds("22 i of " + n, Edges::busy, 0, n - 1, BAD, (x, i) -> x.who(turns, i));
        }
        EDGES.bounds("22 n", Edges::busy, 1, 12, BAD, (x, n) -> x.who(n, 0));
        EDGES.bounds("22 n", Edges::full, 12, 12, BAD, (x, n) -> x.who(n, 11));
        EDGES.bounds("22 n", DropDealers::new, 1, 12, BAD, (x, n) -> x.who(n, 0));
    }

    private static void whoRefusalsMeet() {
        EDGES.changesNothing("22 n and i", Edges::busy, BAD, x -> x.who(0, 0));
        EDGES.changesNothing("22 n and i", Edges::busy, BAD, x -> x.who(13, 13));
        EDGES.changesNothing("22 n and i", Edges::busy, BAD, x -> x.who(13, 12));
        EDGES.changesNothing("22 n and i", Edges::busy, BAD, x -> x.who(-1, -2));
        EDGES.changesNothing("22 n alone", Edges::busy, BAD, x -> x.who(20, 19));
        EDGES.changesNothing("22 i alone", Edges::busy, BAD, x -> x.who(12, 19));
    }

    private static void whoBehindTheLast() {
        for (int many = 1; many <= 6; many++) {
            for (int t = 0; t < many; t++) {
                DropDealers x = Dues.told(Edges.terraces(many) + "song " + t + ";");
                int next = (t + 1) % many;
                due("22 both", x.who(1, 0), 1 << t | 1 << next);
                x.saw(0, 1 << next);
                due("22 slipped", x.who(1, 0), 1 << next);
                due("21 slipped", x.could(1), many == 1 ? 2 : 1);
                x.forget();
                x.saw(0, 1 << t);
                due("22 as it says", x.who(1, 0), 1 << t);
            }
        }
    }

    // THE SONG goes round over the turns.
    private static void whoRound() {
        String song = "song";
        for (int length = 1; length <= 8; length++) {
            song += " " + length * length % 5;
            DropDealers x = Dues.told(Edges.terraces(6) + song + ";");
            for (int i = 0; i < 12; i++) {
                int turn = i % length + 1;
                due("22 turn " + i + " of a song of " + length, x.who(12, i), 3 << turn * turn % 5);
            }
        }
    }

    // "(none, if COULD is 0)"
    private static void whoNoneIfItCanNotBe() {
        DropDealers x = Dues.told(Edges.terraces(3));
        x.saw(5, 4);
        for (int n = 1; n <= 12; n++) {
            for (int i = 0; i < n; i++) {
                due("22 turn " + i + " of " + n, x.who(n, i), n > 5 ? 0 : 3);
            }
        }
    }
}
