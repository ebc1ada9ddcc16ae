import java.util.Arrays;

/**
 * Terraces under one drip, and a boy who deals its drops.
 *
 * Everything that a call needs is made once, in the constructors: no call makes an object.
 */
public final class DropDealers {
    public static final int BAD = -1, STATE = -2, FULL = -3, NONE = -9;
    public static final int NO = -1000000;

    private static final int MOST_TERRACES = 6;
    private static final int MOST_WATER = 30;
    private static final int MOST_NEED = 9;
    private static final int MOST_DEW = 3;
    private static final int MOST_DROPS = 30;
    private static final int DAYS_TOLD = 20;
    private static final int LAST_DAY = 99;
    private static final int MOST_SLIP = 9;
    private static final int SLIP_OF = 10;
    private static final int MOST_SONG = 8;
    private static final int MOST_BYTES = 300;

    private static final int ROUND = 0;
    private static final int THIRST = 1;
    private static final int SONG = 2;

    private static final int MOST_SAFE = 40;
    private static final int MOST_LEAST = 20;
    private static final int MOST_TODAY = 12;
    private static final int MOST_GOT = 12;
    private static final int MOST_TRIED = 3;
    private static final int MOST_TRIED_DAYS = 9;
    private static final int NOT_SO_LONG = -5;
    private static final int MORE_THAN_ALL = 1000000;

    private static final int MOST_SEEN = 8;
    private static final int TURNS_SEEN = 20;
    private static final int MOST_COULD = 12;
    private static final int IMAGES = 2;

    private final Reader reader = new Reader();
    private final Hill told = new Hill();
    private final Hill draft = new Hill();
    private final Now present = new Now();
    private final Now[] images = new Now[] {new Now(), new Now()};
    private final boolean[] kept = new boolean[IMAGES];
    private final Foresight foresight = new Foresight();
    private final SongOdds odds = new SongOdds();
    private final Kind[] kinds = new Kind[] {
        new Kind(), new Beans(), new Maize(), new Old(), new High(), new Moss()
    };

    public DropDealers() {
    }

    // ---- the hill

    public int type(long v, int n) {
        if (n < 1 || n > 8) {
            return BAD;
        }
        return reader.append(v, n) ? reader.size() : FULL;
    }

    public int clear() {
        int had = reader.size();
        reader.empty();
        return had;
    }

    public int hill() {
        int answer = reader.read(draft);
        if (answer >= 0) {
            told.become(draft);
            present.begin(told);
            forgetImages();
            reader.empty();
        }
        return answer;
    }

    private void forgetImages() {
        for (int image = 0; image < kept.length; image++) {
            kept[image] = false;
        }
    }

    public int terrace(int t, int what) {
        if (!told.has(t)) {
            return BAD;
        }
        switch (what) {
            case 0: return present.water[t];
            case 1: return told.need[t];
            case 2: return told.dew[t];
            case 3: return present.lacked[t];
            default: return BAD;
        }
    }

    public int drip(int day) {
        return day < 0 || day > LAST_DAY ? BAD : told.dropsOn(day);
    }

    public int song(int i) {
        if (i < 0) {
            return BAD;
        }
        return i < told.songLength ? told.sung(i) : NONE;
    }

    // ---- a day

    public int deal() {
        return present.left < 1 || told.terraces < 1 ? STATE : present.dealOne(told);
    }

    public int give(int t, int n) {
        if (!told.has(t) || n < 1 || n > MOST_DROPS) {
            return BAD;
        }
        if (n > present.left) {
            return STATE;
        }
        present.left -= n;
        present.water[t] += n;
        return present.water[t];
    }

    public int bird(int t) {
        if (!told.has(t)) {
            return BAD;
        }
        if (present.water[t] < 1) {
            return STATE;
        }
        present.water[t]--;
        return present.water[t];
    }

    public int end() {
        return present.day >= LAST_DAY ? STATE : present.endDay(told);
    }

    public int now(int what) {
        switch (what) {
            case 0: return present.day;
            case 1: return present.left;
            case 2: return sumOf(present.water);
            case 3: return sumOf(present.lacked);
            case 4: return present.turn;
            default: return BAD;
        }
    }

    private int sumOf(int[] row) {
        int sum = 0;
        for (int t = 0; t < told.terraces && t < row.length; t++) {
            sum += row[t];
        }
        return sum;
    }

    public int lot(int v) {
        int was = present.lot;
        present.lot = v;
        return was;
    }

    // ---- what can be

    public int safe() {
        return foresight.from(told, present).safeDays();
    }

    public int least(int k) {
        return k < 1 || k > MOST_LEAST ? BAD : foresight.from(told, present).leastLack(k);
    }

    public int today(int t) {
        if (t != -1 && !told.has(t)) {
            return BAD;
        }
        // NONE is an answer, so what refuses the call goes ahead of it.
        if (present.left > MOST_TODAY) {
            return STATE;
        }
        if (told.terraces < 1) {
            return NONE;
        }
        int lack = foresight.from(told, present).shareOut();
        return t == -1 ? lack : foresight.share[t];
    }

    public long got(int n, int t, int k, int what) {
        // k is bound by what n may be, not by n: more than all that fall is got by odds of 0.
        if (n < 1 || n > MOST_GOT || !told.has(t) || k < 0 || k > MOST_GOT || what < 0 || what > 1) {
            return BAD;
        }
        long ways = odds.waysToGet(told, present.turn, n, t, k);
        long all = odds.waysInAll(n);
        return (what == 0 ? ways : all) / odds.greatestDivisor(ways, all);
    }

    public int tried(int m, int d, int i) {
        if (m < 1 || m > MOST_TRIED || d < 1 || d > MOST_TRIED_DAYS || i < -1 || i >= MOST_TRIED) {
            return BAD;
        }
        if (told.terraces < 1) {
            return NONE;
        }
        if (i >= m) {
            return NOT_SO_LONG;
        }
        int lack = foresight.from(told, present).trySongs(m, d);
        return i == -1 ? lack : foresight.song[i];
    }

    // ---- what was heard

    public int saw(int i, int set) {
        if (i < 0 || i >= TURNS_SEEN || set < 1 || set > told.allBits()) {
            return BAD;
        }
        return present.hear(i, set) ? present.seen : FULL;
    }

    public int forget() {
        int was = present.seen;
        present.seen = 0;
        return was;
    }

    public int could(int n) {
        return n < 1 || n > MOST_COULD ? BAD : odds.waysHeard(told, present, n);
    }

    public int who(int n, int i) {
        return n < 1 || n > MOST_COULD || i < 0 || i >= n ? BAD : odds.placesHeard(told, present, n, i);
    }

    // ---- kinds, images

    public int mark(int kind, int t) {
        if (kind < 0 || kind >= kinds.length || !told.has(t)) {
            return NO;
        }
        return kinds[kind].marked(told, present, t);
    }

    public int keep(int image) {
        if (image < 0 || image >= IMAGES) {
            return BAD;
        }
        images[image].become(present);
        kept[image] = true;
        return present.day;
    }

    public int back(int image) {
        if (image < 0 || image >= IMAGES) {
            return BAD;
        }
        if (!kept[image]) {
            return STATE;
        }
        present.become(images[image]);
        return present.day;
    }

    public int count(int what) {
        switch (what) {
            case 0: return told.terraces;
            case 1: return told.days;
            case 2: return told.law;
            case 3: return told.slip;
            case 4: return present.seen;
            case 5: return reader.size();
            default: return BAD;
        }
    }

    public long trace() {
        long sum = 0;
        for (int kind = 0; kind < kinds.length; kind++) {
            sum += kinds[kind].traced();
        }
        return sum;
    }

    /** What a text tells; days that go by do not change it. */
    private static final class Hill {
        private final int[] water = new int[MOST_TERRACES];
        private final int[] need = new int[MOST_TERRACES];
        private final int[] dew = new int[MOST_TERRACES];
        private final int[] drops = new int[DAYS_TOLD];
        private final int[] song = new int[MOST_SONG];
        private int terraces;
        private int days;
        private int law = ROUND;
        private int slip;
        private int songLength = 1;

        void untell() {
            terraces = 0;
            days = 0;
            law = ROUND;
            slip = 0;
            song[0] = 0;
            songLength = 1;
        }

        void become(Hill other) {
            System.arraycopy(other.water, 0, water, 0, MOST_TERRACES);
            System.arraycopy(other.need, 0, need, 0, MOST_TERRACES);
            System.arraycopy(other.dew, 0, dew, 0, MOST_TERRACES);
            System.arraycopy(other.drops, 0, drops, 0, DAYS_TOLD);
            System.arraycopy(other.song, 0, song, 0, MOST_SONG);
            terraces = other.terraces;
            days = other.days;
            law = other.law;
            slip = other.slip;
            songLength = other.songLength;
        }

        void addTerrace(int itsWater, int itsNeed, int itsDew) {
            if (terraces < MOST_TERRACES) {
                water[terraces] = itsWater;
                need[terraces] = itsNeed;
                dew[terraces] = itsDew;
                terraces++;
            }
        }

        void addDays(int dropsEach, int howMany) {
            for (int i = 0; i < howMany && days < DAYS_TOLD; i++) {
                drops[days] = dropsEach;
                days++;
            }
        }

        void sing(int i, int t) {
            if (i >= 0 && i < MOST_SONG) {
                song[i] = t;
                songLength = i + 1;
            }
        }

        boolean has(int t) {
            return t >= 0 && t < terraces;
        }

        int allBits() {
            return (1 << terraces) - 1;
        }

        int dropsOn(int day) {
            return day >= 0 && day < days ? drops[day] : 0;
        }

        int sung(int turn) {
            return turn >= 0 && songLength > 0 ? song[turn % songLength] : 0;
        }

        int nextTo(int t) {
            return t + 1 < terraces ? t + 1 : 0;
        }
    }

    /** What goes on: all that an image keeps, and nothing else. */
    private static final class Now {
        private final int[] water = new int[MOST_TERRACES];
        private final int[] lacked = new int[MOST_TERRACES];
        private final int[] seenTurn = new int[MOST_SEEN];
        private final int[] seenSet = new int[MOST_SEEN];
        private int day;
        private int left;
        private int turn;
        private int lot = 1;
        private int seen;

        void begin(Hill hill) {
            System.arraycopy(hill.water, 0, water, 0, MOST_TERRACES);
            Arrays.fill(lacked, 0);
            day = 0;
            left = hill.dropsOn(0);
            turn = 0;
            seen = 0;
        }

        void become(Now other) {
            System.arraycopy(other.water, 0, water, 0, MOST_TERRACES);
            System.arraycopy(other.lacked, 0, lacked, 0, MOST_TERRACES);
            System.arraycopy(other.seenTurn, 0, seenTurn, 0, MOST_SEEN);
            System.arraycopy(other.seenSet, 0, seenSet, 0, MOST_SEEN);
            day = other.day;
            left = other.left;
            turn = other.turn;
            lot = other.lot;
            seen = other.seen;
        }

        int dealOne(Hill hill) {
            int t = byLaw(hill);
            if (slips(hill.slip)) {
                t = hill.nextTo(t);
            }
            left--;
            turn++;
            if (hill.has(t)) {
                water[t]++;
            }
            return t;
        }

        private int byLaw(Hill hill) {
            switch (hill.law) {
                case THIRST: return thirstiest(hill);
                case SONG: return hill.sung(turn);
                default: return hill.terraces > 0 ? turn % hill.terraces : 0;
            }
        }

        private int thirstiest(Hill hill) {
            int found = 0;
            for (int t = 1; t < hill.terraces; t++) {
                if (water[t] - hill.need[t] < water[found] - hill.need[found]) {
                    found = t;
                }
            }
            return found;
        }

        // The lot stands still where nobody can slip.
        private boolean slips(int slip) {
            if (slip < 1) {
                return false;
            }
            lot = lot * 1103515245 + 12345;
            return (lot >>> 16) % SLIP_OF < slip;
        }

        int endDay(Hill hill) {
            int lack = 0;
            for (int t = 0; t < hill.terraces; t++) {
                int after = water[t] + hill.dew[t] - hill.need[t];
                water[t] = Math.max(0, after);
                lacked[t] += Math.max(0, -after);
                lack += Math.max(0, -after);
            }
            day++;
            left = hill.dropsOn(day);
            return lack;
        }

        boolean hear(int i, int set) {
            if (seen >= MOST_SEEN) {
                return false;
            }
            seenTurn[seen] = i;
            seenSet[seen] = set;
            seen++;
            return true;
        }

        // One turn may have been heard several times: all of it must be so.
        int heardOf(int i, int all) {
            int set = all;
            for (int s = 0; s < seen; s++) {
                if (seenTurn[s] == i) {
                    set &= seenSet[s];
                }
            }
            return set;
        }
    }

    /** The text, and the reading of it token by token. */
    private static final class Reader {
        private static final int END = 0;
        private static final int WORD = 1;
        private static final int NUMBER = 2;
        private static final int SEMICOLON = 3;
        private static final int WRONG = 4;
        private static final int MOST_NUMBER = 99;

        private final byte[] bytes = new byte[MOST_BYTES];
        private int length;
        private int place;
        private int start;
        private int token;
        private int value;
        private boolean lawTold;
        private boolean slipTold;
        private boolean songTold;

        int size() {
            return length;
        }

        void empty() {
            length = 0;
        }

        boolean append(long v, int n) {
            if (n > MOST_BYTES - length) {
                return false;
            }
            for (int i = n - 1; i >= 0; i--) {
                bytes[length] = (byte) (v >>> (8 * i));
                length++;
            }
            return true;
        }

        /** How many items the text tells to the hill, or -10 less the fault. */
        int read(Hill into) {
            into.untell();
            lawTold = false;
            slipTold = false;
            songTold = false;
            place = 0;
            advance();
            for (int items = 0; items <= MOST_BYTES; items++) {
                if (token == END) {
                    return items;
                }
                if (!readItem(into)) {
                    break;
                }
            }
            return -10 - start;
        }

        // Where a reading of an item answers false, the token at hand is the fault.
        private boolean readItem(Hill into) {
            if (token != WORD) {
                return false;
            }
            if (isWord("terrace")) {
                return readTerrace(into);
            }
            if (isWord("drip")) {
                return readDrip(into);
            }
            if (isWord("law")) {
                return readLaw(into);
            }
            if (isWord("slip")) {
                return readSlip(into);
            }
            return isWord("song") && readSong(into);
        }

        // The token at hand reaches from start to place.
        private boolean isWord(String word) {
            if (place - start != word.length()) {
                return false;
            }
            for (int i = 0; i < word.length(); i++) {
                if (bytes[start + i] != word.charAt(i)) {
                    return false;
                }
            }
            return true;
        }

        private boolean readTerrace(Hill into) {
            if (into.terraces >= MOST_TERRACES) {
                return false;
            }
            advance();
            int water = takeNumber(0, MOST_WATER);
            if (water < 0) {
                return false;
            }
            int need = takeNumber(0, MOST_NEED);
            if (need < 0) {
                return false;
            }
            int dew = takeNumber(0, MOST_DEW);
            if (dew < 0) {
                return false;
            }
            into.addTerrace(water, need, dew);
            return takeSemicolon();
        }

        private boolean readDrip(Hill into) {
            advance();
            int drops = takeNumber(0, MOST_DROPS);
            if (drops < 0) {
                return false;
            }
            int days = takeNumber(1, DAYS_TOLD - into.days);
            if (days < 0) {
                return false;
            }
            into.addDays(drops, days);
            return takeSemicolon();
        }

        private boolean readLaw(Hill into) {
            if (lawTold) {
                return false;
            }
            lawTold = true;
            advance();
            into.law = takeNumber(ROUND, SONG);
            return into.law >= 0 && takeSemicolon();
        }

        private boolean readSlip(Hill into) {
            if (slipTold) {
                return false;
            }
            slipTold = true;
            advance();
            into.slip = takeNumber(0, MOST_SLIP);
            return into.slip >= 0 && takeSemicolon();
        }

        private boolean readSong(Hill into) {
            if (songTold) {
                return false;
            }
            songTold = true;
            advance();
            for (int i = 0; i < MOST_SONG; i++) {
                if (i > 0 && token == SEMICOLON) {
                    break;
                }
                int t = takeNumber(0, into.terraces - 1);
                if (t < 0) {
                    return false;
                }
                into.sing(i, t);
            }
            return takeSemicolon();
        }

        // -1, and the token stays at hand, if it is no number from least to most.
        private int takeNumber(int least, int most) {
            if (token != NUMBER || value < least || value > most) {
                return -1;
            }
            int taken = value;
            advance();
            return taken;
        }

        private boolean takeSemicolon() {
            if (token != SEMICOLON) {
                return false;
            }
            advance();
            return true;
        }

        private void advance() {
            while (place < length && bytes[place] == ' ') {
                place++;
            }
            start = place;
            if (place >= length) {
                token = END;
            } else if (isLetter(place)) {
                token = wordAtPlace();
            } else if (isDigit(place)) {
                token = numberAtPlace();
            } else {
                token = bytes[place] == ';' ? SEMICOLON : WRONG;
                place++;
            }
        }

        private boolean isLetter(int at) {
            return at >= 0 && at < length && bytes[at] >= 'a' && bytes[at] <= 'z';
        }

        private boolean isDigit(int at) {
            return at >= 0 && at < length && bytes[at] >= '0' && bytes[at] <= '9';
        }

        private int wordAtPlace() {
            while (place < length && isLetter(place)) {
                place++;
            }
            return WORD;
        }

        private int numberAtPlace() {
            value = 0;
            while (place < length && isDigit(place)) {
                // Held down, so that 300 digits do not wrap round to a small number.
                value = Math.min(MOST_NUMBER + 1, value * 10 + bytes[place] - '0');
                place++;
            }
            boolean zeroAhead = place - start > 1 && bytes[start] == '0';
            return zeroAhead || value > MOST_NUMBER ? WRONG : NUMBER;
        }
    }

    /** What drops can do from now on: it looks at all once, and then works on rows of its own. */
    private static final class Foresight {
        private final int[] water = new int[MOST_TERRACES];
        private final int[] gain = new int[MOST_TERRACES];
        private final int[] drops = new int[MOST_SAFE];
        private final int[] level = new int[MOST_TERRACES];
        private final int[] share = new int[MOST_TERRACES];
        private final int[] song = new int[MOST_TRIED];
        private int terraces;
        private int pool;

        Foresight from(Hill hill, Now now) {
            terraces = hill.terraces;
            for (int t = 0; t < terraces; t++) {
                water[t] = now.water[t];
                gain[t] = hill.dew[t] - hill.need[t];
            }
            drops[0] = now.left;
            for (int day = 1; day < MOST_SAFE; day++) {
                drops[day] = hill.dropsOn(now.day + day);
            }
            return this;
        }

        int safeDays() {
            startDays();
            for (int day = 0; day < MOST_SAFE; day++) {
                if (lackOfDay(day) > 0) {
                    return day;
                }
            }
            return MOST_SAFE;
        }

        int leastLack(int days) {
            startDays();
            int lack = 0;
            for (int day = 0; day < days && day < MOST_SAFE; day++) {
                lack += lackOfDay(day);
            }
            return lack;
        }

        private void startDays() {
            System.arraycopy(water, 0, level, 0, MOST_TERRACES);
            pool = 0;
        }

        // Who knows all days ahead gives each drop to where it will lack first. So drops are one
        // pool for what own water and dew leave open, and each is best spent as early as it can be.
        private int lackOfDay(int day) {
            pool += drops[day];
            int open = passDay();
            int met = Math.min(pool, open);
            pool -= met;
            return open - met;
        }

        private int passDay() {
            int lack = 0;
            for (int t = 0; t < terraces; t++) {
                int after = level[t] + gain[t];
                level[t] = Math.max(0, after);
                lack += Math.max(0, -after);
            }
            return lack;
        }

        /** Puts what each gets today to share: what lacks then. */
        int shareOut() {
            int open = costOfAll(0);
            if (open > drops[0]) {
                shareTooFew();
                return open - drops[0];
            }
            shareEnough();
            return 0;
        }

        // How many drops it takes so that each has so much as the day ends.
        private int costOfAll(int height) {
            int cost = 0;
            for (int t = 0; t < terraces; t++) {
                cost += costOf(t, height);
            }
            return cost;
        }

        private int costOf(int t, int height) {
            return Math.max(0, height - water[t] - gain[t]);
        }

        // One at least will have nothing, so the order alone counts: the last ones drink first.
        private void shareTooFew() {
            int rest = drops[0];
            for (int t = terraces - 1; t >= 0; t--) {
                share[t] = Math.min(rest, costOf(t, 0));
                rest -= share[t];
            }
        }

        // Each has what it takes to be as high as all can be, and the last one the rest.
        private void shareEnough() {
            int height = greatestHeight();
            int rest = drops[0];
            for (int t = 0; t < terraces; t++) {
                share[t] = t == terraces - 1 ? rest : costOf(t, height);
                rest -= share[t];
            }
        }

        // From the least one upwards, each step takes a drop or more.
        private int greatestHeight() {
            int height = leastAfterDay();
            for (int step = 0; step < MOST_TODAY && costOfAll(height + 1) <= drops[0]; step++) {
                height++;
            }
            return height;
        }

        private int leastAfterDay() {
            int least = MORE_THAN_ALL;
            for (int t = 0; t < terraces; t++) {
                least = Math.min(least, Math.max(0, water[t] + gain[t]));
            }
            return least;
        }

        /** Puts the best song of m terraces to song: what lacks by it. */
        int trySongs(int m, int days) {
            int songs = songsOf(m);
            int least = MORE_THAN_ALL;
            int best = 0;
            for (int number = 0; number < songs && least > 0; number++) {
                spell(number, m);
                int lack = lackBySong(m, days, least);
                if (lack < least) {
                    least = lack;
                    best = number;
                }
            }
            spell(best, m);
            return least;
        }

        private int songsOf(int m) {
            int songs = 1;
            for (int i = 0; i < m; i++) {
                songs *= terraces;
            }
            return songs;
        }

        // Songs are numbered in their order: a number's digits, to the base of the terraces.
        private void spell(int number, int m) {
            int rest = number;
            for (int i = Math.min(m, MOST_TRIED) - 1; i >= 0 && terraces > 0; i--) {
                song[i] = rest % terraces;
                rest /= terraces;
            }
        }

        // A song that is no better than the least so far need not be sung to its end.
        private int lackBySong(int m, int days, int least) {
            startDays();
            int sung = 0;
            int lack = 0;
            for (int day = 0; day < days && day < MOST_SAFE && lack < least; day++) {
                singDay(m, sung, drops[day]);
                sung += drops[day];
                lack += passDay();
            }
            return lack;
        }

        // The day's drop j and each m-th one behind it fall on the same terrace.
        private void singDay(int m, int sung, int dropsToday) {
            for (int j = 0; j < m && m <= MOST_TRIED; j++) {
                level[song[(sung + j) % m]] += (dropsToday - j + m - 1) / m;
            }
        }
    }

    /** Where drops that are dealt by the song can fall, slipped or not. */
    private static final class SongOdds {
        private final long[] ways = new long[MOST_GOT + 1];

        long waysInAll(int n) {
            long all = 1;
            for (int i = 0; i < n; i++) {
                all *= SLIP_OF;
            }
            return all;
        }

        // Each drop falls in 10 ways that are alike, SLIP of them slipped.
        long waysToGet(Hill hill, int turn, int n, int t, int k) {
            if (n > MOST_GOT || k < 0 || k > n) {
                return 0;
            }
            Arrays.fill(ways, 0L);
            ways[0] = 1;
            for (int i = 0; i < n; i++) {
                addDrop(i, hitsOf(hill, turn + i, t));
            }
            return ways[k];
        }

        private void addDrop(int before, long hits) {
            for (int k = before + 1; k > 0; k--) {
                ways[k] = ways[k] * (SLIP_OF - hits) + ways[k - 1] * hits;
            }
            ways[0] *= SLIP_OF - hits;
        }

        private static int hitsOf(Hill hill, int turn, int t) {
            int first = hill.sung(turn);
            int hits = first == t ? SLIP_OF - hill.slip : 0;
            return hill.nextTo(first) == t ? hits + hill.slip : hits;
        }

        // Never below 1, so that it may divide; a hundred steps are more than two longs need.
        long greatestDivisor(long a, long b) {
            long x = a;
            long y = b;
            for (int step = 0; step < 100 && y != 0; step++) {
                long over = x % y;
                x = y;
                y = over;
            }
            return Math.max(1L, x);
        }

        int waysHeard(Hill hill, Now now, int n) {
            int product = 1;
            for (int i = 0; i < n; i++) {
                product *= waysOfTurn(hill, now, i);
            }
            return product;
        }

        // As the song says and slipped are two ways, even where both fall on the only terrace.
        private static int waysOfTurn(Hill hill, Now now, int i) {
            int heard = now.heardOf(i, hill.allBits());
            int first = hill.sung(i);
            return (heard >> first & 1) + (heard >> hill.nextTo(first) & 1);
        }

        int placesHeard(Hill hill, Now now, int n, int i) {
            if (waysHeard(hill, now, n) == 0) {
                return 0;
            }
            int first = hill.sung(i);
            return now.heardOf(i, hill.allBits()) & (1 << first | 1 << hill.nextTo(first));
        }
    }

    /** The kind over all: a terrace. Each body leaves its number in the trace when it is asked. */
    private static class Kind {
        private long trace;

        final void leave(int number) {
            trace += number;
        }

        final long traced() {
            return trace;
        }

        int marked(Hill hill, Now now, int t) {
            leave(1);
            return now.water[t];
        }
    }

    private static class Beans extends Kind {
        int marked(Hill hill, Now now, int t) {
            leave(10);
            return super.marked(hill, now, t) - hill.need[t];
        }
    }

    private static class Maize extends Kind {
        int marked(Hill hill, Now now, int t) {
            leave(100);
            return super.marked(hill, now, t) + hill.dew[t];
        }
    }

    private static final class Old extends Beans {
        int marked(Hill hill, Now now, int t) {
            leave(1000);
            return super.marked(hill, now, t) * 2;
        }
    }

    private static final class High extends Maize {
        int marked(Hill hill, Now now, int t) {
            leave(10000);
            return super.marked(hill, now, t) + t;
        }
    }

    private static final class Moss extends Kind {
        int marked(Hill hill, Now now, int t) {
            leave(100000);
            return super.marked(hill, now, t) - now.lacked[t];
        }
    }
}
