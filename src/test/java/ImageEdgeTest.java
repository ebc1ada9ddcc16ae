/** Promises 23 to 27 at their bounds: marks, images, counts, the trace. */
public final class ImageEdgeTest {
    private static final int BAD = Edges.BAD;
    private static final int STATE = Edges.STATE;
    private static final int NO = Edges.NO;
    private static final long[] TRACES = {1, 11, 101, 1011, 10101, 100001};
    private static final Dues DUES = new Dues("ImageEdgeTest");
    private static final Edges EDGES = new Edges(DUES);

    public static void main(String[] args) {
        markBounds();
        markRefusalsMeet();
        markBelowNone();
        markOfEachTerrace();
        markLeavesTheTraceAlone();
        traceAddsUp();
        traceStays();
        traceOfAllCalls();
        keepBounds();
        keepDays();
        keepChangesNothing();
        backBounds();
        backNoneKept();
        backRefusalsMeet();
        backAll();
        backNothingElse();
        backAgain();
        imagesApart();
        imagesGone();
        countBounds();
        DUES.close();
    }

    private static void due(String what, long got, long want) {
        EDGES.due(what, got, want);
    }

    // "MARK. NO: BAD.", KINDS 0 .. 5
    private static void markBounds() {
        EDGES.bounds("23 kind", Edges::busy, 0, 5, NO, (x, kind) -> x.mark(kind, 0));
        for (int many = 0; many <= 6; many++) {
            for (int kind = 0; kind <= 5; kind++) {
                String text = Edges.terraces(many);
                int one = kind;
                EDGES.bounds("23 t", () -> Dues.told(text), 0, many - 1, NO, (x, t) -> x.mark(one, t));
            }
        }
    }

    private static void markRefusalsMeet() {
        EDGES.changesNothing("23 both", Edges::busy, NO, x -> x.mark(6, 3));
        EDGES.changesNothing("23 both", Edges::busy, NO, x -> x.mark(-1, -1));
        EDGES.changesNothing("23 no terraces", DropDealers::new, NO, x -> x.mark(0, 0));
        EDGES.changesNothing("23 no terraces", DropDealers::new, NO, x -> x.mark(5, -1));
    }

    private static void marks(DropDealers x, int t, int... want) {
        for (int kind = 0; kind < want.length; kind++) {
            due("23 kind " + kind + " of " + t, x.mark(kind, t), want[kind]);
        }
    }

    // "NO: What none is, where a number may be below 0": also -1, -2, -3 and -9 are marks.
    private static void markBelowNone() {
        marks(Dues.told("terrace 0 0 0;"), 0, 0, 0, 0, 0, 0, 0);
        marks(Dues.told("terrace 0 1 0;"), 0, 0, -1, 0, -2, 0, 0);
        marks(Dues.told("terrace 1 1 3;"), 0, 1, 0, 4, 0, 4, 1);
        marks(Dues.told("terrace 0 9 3;"), 0, 0, -9, 3, -18, 3, 0);
        marks(Dues.told("terrace 30 0 3;"), 0, 30, 30, 33, 60, 33, 30);
        marks(Edges.ended(Dues.told("terrace 0 1 0;"), 1), 0, 0, -1, 0, -2, 0, -1);
        marks(Edges.ended(Dues.told("terrace 0 9 0;"), 99), 0, 0, -9, 0, -18, 0, -99 * 9);
    }

    // "HIGH up, and its number"
    private static void markOfEachTerrace() {
        DropDealers x = Dues.told("terrace 9 2 1;".repeat(6));
        for (int t = 0; t < 6; t++) {
            marks(x, t, 9, 7, 10, 14, 10 + t, 9);
        }
        x.give(0, 1);
        x.bird(5);
        marks(x, 5, 8, 6, 9, 12, 14, 8);
        x.end();
        marks(x, 5, 7, 5, 8, 10, 13, 7);
    }

    private static void markLeavesTheTraceAlone() {
        DropDealers x = Edges.busy();
        DropDealers other = Edges.busy();
        for (int kind = 0; kind <= 5; kind++) {
            x.mark(kind, 2);
            other.mark(5 - kind, 0);
        }
        EDGES.alike("23 which terrace, and in which order, is not seen", x, other);
    }

    // "come to THE TRACE as often as mark() asks that body"
    private static void traceAddsUp() {
        DropDealers x = Dues.told("terrace 3 1 0;");
        long sum = 0;
        due("27 at first", x.trace(), 0);
        for (int time = 1; time <= 12; time++) {
            for (int kind = 0; kind <= 5; kind++) {
                x.mark(kind, 0);
                sum += TRACES[kind];
                due("27 kind " + kind, x.trace(), sum);
            }
        }
        due("27 asking leaves nothing", x.trace(), sum);
        x.mark(0, 1);
        x.mark(6, 0);
        x.mark(-1, 0);
        due("27 refused", x.trace(), sum);
    }

    // IMAGES keep "nothing else", so THE TRACE goes on; what others ask is not what mark() asks.
    private static void traceStays() {
        DropDealers x = Dues.told("terrace 3 1 0;drip 9 9;");
        x.keep(0);
        x.mark(4, 0);
        x.back(0);
        due("27 an image", x.trace(), 10101);
        x.deal();
        x.end();
        x.terrace(0, 0);
        x.today(0);
        due("27 other calls", x.trace(), 10101);
        Edges.typed(x, "law 1;").hill();
        due("27 read anew", x.trace(), 10101);
    }

    // "An object is used for at most 512 calls": the last of them answers, too
    private static void traceOfAllCalls() {
        DropDealers x = new DropDealers();
        x.type(0x7465727261636520L, 8);
        x.type(0x3320312030203BL, 7);
        x.hill();
        for (int call = 4; call < 512; call++) {
            due("23 call " + call, x.mark(5, 0), 3);
        }
        due("27 call 512", x.trace(), 508L * 100001);
    }

    // "An IMAGE is kept: the DAY. BAD.", "IMAGES 0, 1"
    private static void keepBounds() {
        EDGES.bounds("24 image", Edges::busy, 0, 1, BAD, (x, image) -> x.keep(image));
        EDGES.bounds("24 image", DropDealers::new, 0, 1, BAD, (x, image) -> x.keep(image));
    }

    private static void keepDays() {
        DropDealers x = Dues.told("terrace 3 1 0;");
        for (int day = 0; day <= 99; day++) {
            due("24 the day", x.keep(day % 2), day);
            x.end();
        }
        due("25 the day", x.back(0), 98);
        due("25 the day", x.back(1), 99);
        due("11 it is day 99 again", x.end(), STATE);
        x.back(0);
        due("11 day 98 again", x.now(0), 98);
        due("11 day 98 again", x.end(), 1);
        due("24 with nothing told", new DropDealers().keep(0), 0);
    }

    private static void keepChangesNothing() {
        DropDealers x = Edges.busy();
        DropDealers other = Edges.busy();
        x.keep(0);
        x.keep(1);
        other.keep(1);
        other.keep(0);
        other.back(0);
        other.back(1);
        EDGES.alike("24 now stays as it is", x, other);
    }

    // "All of that becomes as an IMAGE has it: the DAY. BAD; STATE"
    private static void backBounds() {
        EDGES.bounds("25 image", Edges::busy, 0, 1, BAD, (x, image) -> x.back(image));
        EDGES.bounds("25 image", DropDealers::new, 0, 1, BAD, (x, image) -> x.back(image));
    }

    // "STATE: none was kept."
    private static void backNoneKept() {
        for (int image = 0; image <= 1; image++) {
            int one = image;
            EDGES.changesNothing("25 none was kept", DropDealers::new, STATE, x -> x.back(one));
            EDGES.changesNothing("25 none was kept", () -> keptOnly(1 - one), STATE, x -> x.back(one));
            due("25 one was kept", keptOnly(image).back(image), 1);
        }
    }

    private static DropDealers keptOnly(int image) {
        DropDealers x = Dues.told("terrace 3 1 0;drip 9 9;slip 3;");
        x.deal();
        x.end();
        x.keep(image);
        x.deal();
        x.end();
        return x;
    }

    private static void backRefusalsMeet() {
        EDGES.changesNothing("25 BAD, and none was kept", () -> Dues.told("terrace 3 1 0;"), BAD, x -> x.back(2));
        EDGES.changesNothing("25 BAD, and none was kept", () -> Dues.told("terrace 3 1 0;"), BAD, x -> x.back(-1));
        EDGES.changesNothing("24 a refused keep keeps none", () -> Dues.told("terrace 3 1 0;"), BAD, x -> x.keep(2));
    }

    // "IMAGES keep NOW (DAY, DROPS left, WATER, LACKS, the TURN, THE LOT, what was SEEN)": each by itself
    private static void backAll() {
        Edges.Call[] changes = {
            x -> x.deal(), x -> x.give(0, 1), x -> x.give(2, 4), x -> x.bird(2), x -> x.end(), x -> x.lot(123456),
            x -> x.saw(2, 4), x -> x.forget(), x -> Edges.ended(x, 97).now(0), x -> x.back(0), x -> heardOtherwise(x)
        };
        for (int change = 0; change < changes.length; change++) {
            DropDealers x = Edges.busy();
            x.keep(1);
            long answer = changes[change].on(x);
            DUES.holds("25 change " + change + " was refused: " + answer, answer >= 0);
            due("25 the day", x.back(1), 2);
            DropDealers other = Edges.busy();
            other.keep(1);
            EDGES.alike("25 change " + change + " is undone", x, other);
        }
    }

    // As much as an image has of what was SEEN, but of other turns and other terraces.
    private static long heardOtherwise(DropDealers x) {
        x.forget();
        x.saw(3, 1);
        return x.saw(4, 2);
    }

    // "nothing else": the text, the trace, the other image
    private static void backNothingElse() {
        DropDealers x = Dues.told("terrace 3 1 0;drip 9 9;");
        x.keep(0);
        Edges.typed(x, "law 1");
        x.mark(5, 0);
        x.end();
        x.keep(1);
        due("25 back", x.back(0), 0);
        due("26 the text stays", x.count(5), 5);
        due("27 the trace stays", x.trace(), 100001);
        due("25 the other image stays", x.back(1), 1);
        Edges.typed(x, ";");
        due("4 the text stays", x.hill(), 1);
        due("26 as it told", x.count(2), 1);
    }

    // An image stays as it is, whatever is done behind it.
    private static void backAgain() {
        DropDealers x = keptOnly(0);
        for (int time = 0; time < 4; time++) {
            due("25 the day", x.back(0), 1);
            due("25 left", x.now(1), 9);
            due("25 turn", x.now(4), 1);
            due("25 seen", x.count(4), 0);
            due("25 water", x.now(2), 3);
            x.deal();
            x.saw(time, 1);
            x.give(0, 3);
            x.end();
            x.end();
        }
        EDGES.changesNothing("25 as it is", () -> backed(), 1, y -> y.back(0));
    }

    private static DropDealers backed() {
        DropDealers x = keptOnly(0);
        x.back(0);
        return x;
    }

    private static void imagesApart() {
        DropDealers x = Dues.told("terrace 3 1 0;drip 9 9;");
        x.keep(0);
        x.deal();
        x.saw(0, 1);
        x.keep(1);
        x.end();
        x.back(0);
        due("25 the first", x.now(4), 0);
        due("25 the first", x.count(4), 0);
        x.back(1);
        due("25 the second", x.now(4), 1);
        due("25 the second", x.count(4), 1);
        x.end();
        due("24 kept over the first", x.keep(0), 1);
        due("25 the second stays", x.back(1), 0);
        due("25 kept over the first", x.back(0), 1);
    }

    // "IMAGES are gone", as the text is read; not, if it has a fault, or is only typed
    private static void imagesGone() {
        for (int image = 0; image <= 1; image++) {
            DropDealers x = keptOnly(image);
            Edges.typed(x, "terrace 9 9 3");
            due("25 a text is typed", x.back(image), 1);
            due("4 a fault", x.hill(), -10 - 13);
            due("25 a fault", x.back(image), 1);
            Edges.typed(x, ";");
            due("4 read", x.hill(), 1);
            due("25 gone", x.back(image), STATE);
            due("24 kept anew", x.keep(image), 0);
            due("25 kept anew", x.back(image), 0);
            due("25 the other is gone", x.back(1 - image), STATE);
        }
    }

    // "0 TERRACES, 1 days told, 2 LAW, 3 SLIP, 4 SEEN, 5 bytes of THE TEXT. BAD."
    private static void countBounds() {
        EDGES.bounds("26 what", Edges::busy, 0, 5, BAD, (x, what) -> x.count(what));
        EDGES.bounds("26 what", Edges::full, 0, 5, BAD, (x, what) -> x.count(what));
        EDGES.bounds("26 what", DropDealers::new, 0, 5, BAD, (x, what) -> x.count(what));
        DropDealers x = Edges.busy();
        int[] want = {3, 3, 2, 3, 2, 6};
        for (int what = 0; what < want.length; what++) {
            due("26 count " + what, x.count(what), want[what]);
        }
        Edges.ended(x, 50);
        due("26 days told, not days gone", x.count(1), 3);
    }
}
