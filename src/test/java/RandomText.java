import java.util.Random;

/** Texts that tell a hill, and such texts spoilt in one place or several. */
final class RandomText {
    private final Random random;
    private int terraces;

    RandomText(Random random) {
        this.random = random;
    }

    String good() {
        StringBuilder text = new StringBuilder();
        int many = random.nextInt(8) == 0 ? 0 : 1 + random.nextInt(6);
        int days = 20;
        boolean dry = random.nextBoolean();
        boolean law = false;
        boolean slip = false;
        boolean song = false;
        for (int item = 0; item < 14; item++) {
            int sort = random.nextInt(6);
            if (sort < 2 && terraces < many) {
                text.append(item("terrace", random.nextInt(dry ? 5 : 31), random.nextInt(10), random.nextInt(4)));
                terraces++;
            } else if (sort == 2 && days > 0) {
                int n = 1 + random.nextInt(Math.min(days, 5));
                text.append(item("drip", random.nextInt(random.nextBoolean() ? 13 : 31), n));
                days -= n;
            } else if (sort == 3 && !law) {
                text.append(item("law", random.nextInt(3)));
                law = true;
            } else if (sort == 4 && !slip) {
                text.append(item("slip", random.nextInt(10)));
                slip = true;
            } else if (sort == 5 && !song && terraces > 0) {
                text.append(item("song", singers()));
                song = true;
            }
        }
        return text.toString();
    }

    private int[] singers() {
        int[] song = new int[1 + random.nextInt(8)];
        for (int i = 0; i < song.length; i++) {
            song[i] = random.nextInt(terraces);
        }
        return song;
    }

    private String item(String word, int... numbers) {
        StringBuilder text = new StringBuilder(word);
        for (int number : numbers) {
            text.append(" ".repeat(random.nextInt(9) == 0 ? 2 : 1)).append(number);
        }
        return text.append(random.nextInt(9) == 0 ? " ; " : ";").toString();
    }

    String spoilt() {
        StringBuilder text = new StringBuilder(good());
        String[] pieces = {
            " ", ";", "0", "1", "9", "10", "31", "100", "00", "a", "z", "A", "-", "\u00c8", "\n", "\0", "`", "{", "/", ":",
            "law", "slip", "song", "drip", "terrace", "law 1;", "slip 2;", "song 0;", "drip 1 20;", "terrace 1 2 3;"
        };
        int times = 1 + random.nextInt(2);
        for (int i = 0; i < times; i++) {
            int at = random.nextInt(text.length() + 1);
            if (random.nextInt(3) == 0) {
                text.delete(at, Math.min(text.length(), at + 1 + random.nextInt(6)));
            } else if (random.nextInt(6) == 0) {
                text.setLength(at);
            } else {
                text.insert(at, pieces[random.nextInt(pieces.length)]);
            }
        }
        return text.toString();
    }
}
