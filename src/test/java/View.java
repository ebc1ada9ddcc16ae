/**
 * All that can be seen of an object, as a text: two objects that look alike are alike.
 *
 * Looking uses the object up (it goes back to its images and reads its text in the end), by 266 calls:
 * who makes it has the other 246 of its 512 calls.
 */
final class View {
    private final DropDealers x;
    private final StringBuilder text = new StringBuilder();

    private View(DropDealers x) {
        this.x = x;
    }

    static String of(DropDealers x) {
        View view = new View(x);
        view.lookAtHill();
        view.lookAtMoment();
        view.add(x.trace());
        view.lookAtImages();
        view.add(x.hill());
        view.lookAtHill();
        view.lookAtMoment();
        view.add(x.back(0));
        view.add(x.back(1));
        return view.text.toString();
    }

    private void add(long answer) {
        text.append(answer).append(' ');
    }

    private void lookAtHill() {
        text.append("hill ");
        for (int what = 0; what <= 5; what++) {
            add(x.count(what));
        }
        for (int t = 0; t < 6; t++) {
            add(x.terrace(t, 1));
            add(x.terrace(t, 2));
        }
        for (int day = 0; day <= 20; day++) {
            add(x.drip(day));
        }
        for (int i = 0; i <= 8; i++) {
            add(x.song(i));
        }
    }

    private void lookAtMoment() {
        text.append("moment ");
        for (int what = 0; what <= 4; what++) {
            add(x.now(what));
        }
        for (int t = 0; t < 6; t++) {
            add(x.terrace(t, 0));
            add(x.terrace(t, 3));
        }
        int lot = x.lot(0);
        x.lot(lot);
        add(lot);
        add(x.count(4));
        for (int i = 0; i < 12; i++) {
            add(x.who(i + 1, i));
        }
        lookAhead();
    }

    // What can be is told by the rest; an object that has looked ahead before must not show it here.
    private void lookAhead() {
        add(x.safe());
        add(x.least(20));
        add(x.today(-1));
        add(x.today(0));
        add(x.got(12, 0, 6, 0));
        for (int i = -1; i <= 2; i++) {
            add(x.tried(3, 9, i));
        }
    }

    private void lookAtImages() {
        for (int image = 0; image <= 1; image++) {
            add(x.back(image));
            lookAtMoment();
        }
    }
}
