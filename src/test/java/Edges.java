import java.util.TreeSet;

/** What the edge tests share: refusals that change nothing, numbers at their bounds, objects to ask. */
final class Edges {
    static final int BAD = -1;
    static final int STATE = -2;
    static final int FULL = -3;
    static final int NONE = -9;
    static final int NO = -1000000;

    /** Makes an object, each time in the same way. */
    interface Made {
        DropDealers one();
    }

    interface Call {
        long on(DropDealers x);
    }

    interface NumberCall {
        long on(DropDealers x, int number);
    }

    private final Dues dues;

    Edges(Dues dues) {
        this.dues = dues;
    }

    void due(String what, long got, long want) {
        dues.due(what, got, want);
    }

    /** The call has this answer, and the object is then like one that was not asked. */
    void changesNothing(String what, Made made, long answer, Call call) {
        DropDealers asked = made.one();
        due(what, call.on(asked), answer);
        alike(what + ": nothing changes", asked, made.one());
    }

    void alike(String what, DropDealers one, DropDealers other) {
        dues.holds(what, View.of(one).equals(View.of(other)));
    }

    /** The numbers from least to most are not refused, all others are, and change nothing then. */
    void bounds(String what, Made made, int least, int most, int refusal, NumberCall call) {
        for (int number = least; number <= most; number++) {
            long answer = call.on(made.one(), number);
            dues.holds(what + " of " + number + " is as told, but answered " + answer, answer != refusal);
        }
        for (int number : beyond(least, most)) {
            changesNothing(what + " of " + number, made, refusal, x -> call.on(x, number));
        }
    }

    // Next to the bounds, far off, and such as come between them if bits are lost.
    private static TreeSet<Integer> beyond(int least, int most) {
        int[] all = {
            least - 1, least - 2, most + 1, most + 2, Integer.MIN_VALUE, Integer.MIN_VALUE + 1, Integer.MIN_VALUE + least,
            Integer.MIN_VALUE + most, Integer.MAX_VALUE, Integer.MAX_VALUE - 1, least + 256, most + 256, least + 65536,
            most + 65536, least - 256, most - 65536, -1, 32, 64
        };
        TreeSet<Integer> numbers = new TreeSet<>();
        for (int number : all) {
            if (number < least || number > most) {
                numbers.add(number);
            }
        }
        return numbers;
    }

    static DropDealers typed(DropDealers x, String text) {
        Dues.type(x, text);
        return x;
    }

    static DropDealers ended(DropDealers x, int days) {
        for (int i = 0; i < days; i++) {
            x.end();
        }
        return x;
    }

    static String terraces(int many) {
        return "terrace 3 1 0;".repeat(many);
    }

    /** An object in the midst of all: dealt, given, lacked, heard, kept twice, with a text half told. */
    static DropDealers busy() {
        DropDealers x = Dues.told("terrace 5 3 1;terrace 0 4 0;terrace 9 0 2;drip 7 3;law 2;slip 3;song 1 0 2;");
        x.deal();
        x.saw(1, 3);
        x.keep(0);
        x.end();
        x.deal();
        x.give(2, 2);
        x.mark(3, 1);
        x.keep(1);
        x.saw(0, 6);
        x.bird(0);
        x.end();
        x.deal();
        return typed(x, "law 1;");
    }

    /** All that is bound is at its bound: 6 terraces, 20 days, 29 items, 8 seen, 300 bytes, day 99. */
    static DropDealers full() {
        DropDealers x = Dues.told(FULL_TEXT);
        for (int i = 0; i < 8; i++) {
            x.saw(i, 63);
        }
        x.keep(0);
        ended(x, 99);
        x.keep(1);
        return typed(x, "law 2;" + " ".repeat(294));
    }

    /** 300 bytes. */
    static final String FULL_TEXT = "terrace 30 9 3;" + "terrace 9 9 3;".repeat(5) + "drip 30 1;"
        + "drip 9 1;".repeat(19) + "law 2;slip 9;song 5 4 3 2 1 0 0 5;";
}
