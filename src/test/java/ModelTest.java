import java.util.ArrayList;
import java.util.List;
import java.util.Random;

/** Long runs of calls, wrong ones too, each answered by the class and by the plain model as well. */
public final class ModelTest {
    private static final int RUNS = 500;
    // Of an object's 512: a text told or a look at all may still begin with the last of these.
    private static final int CALLS = 400;
    private static final Dues DUES = new Dues("ModelTest");

    private final Random random;
    private final DropDealers real = new DropDealers();
    private final PlainModel model = new PlainModel();
    private final List<String> done = new ArrayList<>();
    private int calls;

    private ModelTest(long seed) {
        random = new Random(seed);
    }

    public static void main(String[] args) {
        for (int run = 0; run < RUNS && !DUES.anyWrong(); run++) {
            ModelTest test = new ModelTest(run);
            test.run();
            if (DUES.anyWrong()) {
                System.out.println("run " + run + ": " + String.join(" ", test.done));
            }
        }
        DUES.close();
    }

    private void run() {
        tell(texts().good());
        while (calls < CALLS && !DUES.anyWrong()) {
            if (random.nextInt(60) == 0) {
                tell(random.nextInt(3) == 0 ? texts().good() : texts().spoilt());
            } else {
                anyCall();
            }
            if (random.nextInt(40) == 0) {
                lookAtAll();
            }
        }
    }

    private RandomText texts() {
        return new RandomText(random);
    }

    private void same(String call, long got, long want) {
        calls++;
        done.add(call + "=" + got);
        DUES.due(call, got, want);
    }

    private void tell(String text) {
        if (random.nextInt(8) > 0) {
            same("clear()", real.clear(), model.clear());
        }
        int at = 0;
        while (at < text.length()) {
            int n = 1 + random.nextInt(8);
            long v = random.nextLong();
            n = Math.min(n, text.length() - at);
            for (int i = 0; i < n; i++) {
                v = v << 8 | text.charAt(at + i);
            }
            same("type(" + v + "," + n + ")", real.type(v, n), model.type(v, n));
            at += n;
        }
        same("hill()", real.hill(), model.hill());
    }

    private void lookAtAll() {
        for (int what = -1; what <= 6; what++) {
            same("now(" + what + ")", real.now(what), model.now(what));
            same("count(" + what + ")", real.count(what), model.count(what));
        }
        for (int t = 0; t < model.terraces(); t++) {
            same("terrace(" + t + ",0)", real.terrace(t, 0), model.terrace(t, 0));
            same("terrace(" + t + ",3)", real.terrace(t, 3), model.terrace(t, 3));
        }
        same("trace()", real.trace(), model.trace());
    }

    // Mostly as told, now and then a little beyond.
    private int from(int least, int most) {
        if (random.nextInt(25) == 0) {
            int[] odd = {least - 1, most + 1, Integer.MIN_VALUE, Integer.MAX_VALUE, -1, 0};
            return odd[random.nextInt(odd.length)];
        }
        return least + random.nextInt(Math.max(1, most - least + 1));
    }

    private int aTerrace() {
        return from(0, Math.max(0, model.terraces() - 1));
    }

    private void anyCall() {
        switch (random.nextInt(7)) {
            case 0: callOfHill(); break;
            case 1: case 2: case 3: callOfDay(); break;
            case 4: callOfWhatCanBe(); break;
            case 5: callOfWhatWasHeard(); break;
            default: callOfKinds(); break;
        }
    }

    private void callOfHill() {
        int t = aTerrace();
        int what = from(0, 3);
        int day = from(0, 22);
        int i = from(0, 8);
        same("terrace(" + t + "," + what + ")", real.terrace(t, what), model.terrace(t, what));
        same("drip(" + day + ")", real.drip(day), model.drip(day));
        same("song(" + i + ")", real.song(i), model.song(i));
    }

    private void callOfDay() {
        int t = aTerrace();
        switch (random.nextInt(10)) {
            case 0:
                same("end()", real.end(), model.end());
                break;
            case 1:
                same("bird(" + t + ")", real.bird(t), model.bird(t));
                break;
            case 2:
                int n = random.nextInt(3) == 0 ? from(1, 30) : from(1, 4);
                same("give(" + t + "," + n + ")", real.give(t, n), model.give(t, n));
                break;
            case 3:
                int what = from(0, 4);
                same("now(" + what + ")", real.now(what), model.now(what));
                break;
            case 4:
                int v = random.nextInt(4) == 0 ? random.nextInt() : random.nextInt(100);
                same("lot(" + v + ")", real.lot(v), model.lot(v));
                break;
            default:
                same("deal()", real.deal(), model.deal());
                break;
        }
    }

    private void callOfWhatCanBe() {
        int t = random.nextInt(3) == 0 ? -1 : aTerrace();
        switch (random.nextInt(5)) {
            case 0:
                same("safe()", real.safe(), model.safe());
                break;
            case 1:
                int k = from(1, 20);
                same("least(" + k + ")", real.least(k), model.least(k));
                break;
            case 2:
                same("today(" + t + ")", real.today(t), model.today(t));
                break;
            case 3:
                int n = from(1, 12);
                int just = from(-2, 15);
                int what = from(0, 1);
                String got = "got(" + n + "," + t + "," + just + "," + what + ")";
                same(got, real.got(n, t, just, what), model.got(n, t, just, what));
                break;
            default:
                int m = from(1, 3);
                int d = from(1, 9);
                int i = from(-1, 2);
                same("tried(" + m + "," + d + "," + i + ")", real.tried(m, d, i), model.tried(m, d, i));
                break;
        }
    }

    private void callOfWhatWasHeard() {
        int i = random.nextInt(3) == 0 ? from(0, 19) : from(0, 5);
        int n = from(1, 12);
        switch (random.nextInt(6)) {
            case 0: case 1:
                int set = from(1, (1 << model.terraces()) - 1);
                same("saw(" + i + "," + set + ")", real.saw(i, set), model.saw(i, set));
                break;
            case 2:
                if (random.nextInt(4) == 0) {
                    same("forget()", real.forget(), model.forget());
                }
                break;
            case 3:
                same("could(" + n + ")", real.could(n), model.could(n));
                break;
            default:
                same("who(" + n + "," + i + ")", real.who(n, i), model.who(n, i));
                break;
        }
    }

    private void callOfKinds() {
        int image = from(0, 1);
        switch (random.nextInt(5)) {
            case 0:
                same("keep(" + image + ")", real.keep(image), model.keep(image));
                break;
            case 1:
                same("back(" + image + ")", real.back(image), model.back(image));
                break;
            case 2:
                int what = from(0, 5);
                same("count(" + what + ")", real.count(what), model.count(what));
                break;
            default:
                int kind = from(0, 5);
                int t = aTerrace();
                same("mark(" + kind + "," + t + ")", real.mark(kind, t), model.mark(kind, t));
                same("trace()", real.trace(), model.trace());
                break;
        }
    }
}
