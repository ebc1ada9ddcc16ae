import java.util.ArrayList;
import java.util.Arrays;
import java.util.HashMap;
import java.util.List;
import java.util.Map;
import java.util.regex.Matcher;
import java.util.regex.Pattern;

/** The document in its plainest form: it tries all ways, where the class counts. */
final class PlainModel {
    private static final int BAD = -1;
    private static final int STATE = -2;
    private static final int FULL = -3;
    private static final int NONE = -9;
    private static final int NO = -1000000;

    /** What a text tells. */
    private static final class Told {
        final List<int[]> terraces = new ArrayList<>();
        final List<Integer> drops = new ArrayList<>();
        final List<Integer> song = new ArrayList<>();
        Integer law;
        Integer slip;
    }

    /** What an image keeps. */
    private static final class Moment {
        int day;
        int left;
        int turn;
        int lot = 1;
        int[] water = new int[0];
        int[] lacked = new int[0];
        List<int[]> seen = new ArrayList<>();

        Moment copy() {
            Moment other = new Moment();
            other.day = day;
            other.left = left;
            other.turn = turn;
            other.lot = lot;
            other.water = water.clone();
            other.lacked = lacked.clone();
            other.seen = new ArrayList<>(seen);
            return other;
        }
    }

    private String text = "";
    private Told told = new Told();
    private Moment now = new Moment();
    private final Moment[] images = new Moment[2];
    private long trace;

    int terraces() {
        return told.terraces.size();
    }

    private boolean has(int t) {
        return t >= 0 && t < terraces();
    }

    private int need(int t) {
        return told.terraces.get(t)[1];
    }

    private int dew(int t) {
        return told.terraces.get(t)[2];
    }

    private int slip() {
        return told.slip == null ? 0 : told.slip;
    }

    private int dropsOf(int day) {
        return day < told.drops.size() ? told.drops.get(day) : 0;
    }

    private List<Integer> songNow() {
        return told.song.isEmpty() ? List.of(0) : told.song;
    }

    // ---- the hill

    int type(long v, int n) {
        if (n < 1 || n > 8) {
            return BAD;
        }
        if (text.length() + n > 300) {
            return FULL;
        }
        for (int i = n - 1; i >= 0; i--) {
            text += (char) (v >> 8 * i & 0xFF);
        }
        return text.length();
    }

    int clear() {
        int was = text.length();
        text = "";
        return was;
    }

    private static final Pattern TOKEN = Pattern.compile("[a-z]+|[0-9]+|;|[^ ]", Pattern.DOTALL);

    private List<String> tokens;
    private List<Integer> places;

    int hill() {
        tokens = new ArrayList<>();
        places = new ArrayList<>();
        Matcher matcher = TOKEN.matcher(text);
        while (matcher.find()) {
            tokens.add(matcher.group());
            places.add(matcher.start());
        }
        Told fresh = new Told();
        int items = 0;
        int at = 0;
        while (at < tokens.size()) {
            int behind = item(fresh, at);
            if (behind < 0) {
                int fault = -1 - behind;
                return -10 - (fault < tokens.size() ? places.get(fault) : text.length());
            }
            at = behind;
            items++;
        }
        begin(fresh);
        return items;
    }

    private void begin(Told fresh) {
        int lot = now.lot;
        told = fresh;
        now = new Moment();
        now.lot = lot;
        now.left = dropsOf(0);
        now.water = new int[terraces()];
        now.lacked = new int[terraces()];
        for (int t = 0; t < terraces(); t++) {
            now.water[t] = told.terraces.get(t)[0];
        }
        images[0] = null;
        images[1] = null;
        text = "";
    }

    // The token behind an item, or -1 less the token that can't stand there.
    private int item(Told fresh, int at) {
        int[][] ranges;
        switch (tokens.get(at)) {
            case "terrace": ranges = new int[][] {{0, 30}, {0, 9}, {0, 3}}; break;
            case "drip": ranges = new int[][] {{0, 30}, {1, 20 - fresh.drops.size()}}; break;
            case "law": ranges = new int[][] {{0, 2}}; break;
            case "slip": ranges = new int[][] {{0, 9}}; break;
            case "song": ranges = songRanges(fresh, at); break;
            default: return -1 - at;
        }
        boolean again = tokens.get(at).equals("terrace") && fresh.terraces.size() == 6
            || tokens.get(at).equals("law") && fresh.law != null
            || tokens.get(at).equals("slip") && fresh.slip != null
            || tokens.get(at).equals("song") && !fresh.song.isEmpty();
        if (again) {
            return -1 - at;
        }
        int[] numbers = new int[ranges.length];
        for (int i = 0; i < ranges.length; i++) {
            int place = at + 1 + i;
            if (place >= tokens.size() || !isNumber(tokens.get(place))) {
                return -1 - place;
            }
            numbers[i] = Integer.parseInt(tokens.get(place));
            if (numbers[i] < ranges[i][0] || numbers[i] > ranges[i][1]) {
                return -1 - place;
            }
        }
        int close = at + 1 + ranges.length;
        if (close >= tokens.size() || !tokens.get(close).equals(";")) {
            return -1 - close;
        }
        tell(fresh, tokens.get(at), numbers);
        return close + 1;
    }

    private static boolean isNumber(String token) {
        return token.matches("0|[1-9][0-9]?");
    }

    // As many as numbers stand there, one at least and eight at most.
    private int[][] songRanges(Told fresh, int at) {
        int many = 0;
        while (many < 8 && at + 1 + many < tokens.size() && isNumber(tokens.get(at + 1 + many))) {
            many++;
        }
        int[][] ranges = new int[Math.max(1, many)][];
        Arrays.fill(ranges, new int[] {0, fresh.terraces.size() - 1});
        return ranges;
    }

    private static void tell(Told fresh, String word, int[] numbers) {
        switch (word) {
            case "terrace":
                fresh.terraces.add(numbers);
                break;
            case "drip":
                for (int i = 0; i < numbers[1]; i++) {
                    fresh.drops.add(numbers[0]);
                }
                break;
            case "law":
                fresh.law = numbers[0];
                break;
            case "slip":
                fresh.slip = numbers[0];
                break;
            default:
                for (int t : numbers) {
                    fresh.song.add(t);
                }
                break;
        }
    }

    int terrace(int t, int what) {
        if (!has(t) || what < 0 || what > 3) {
            return BAD;
        }
        return new int[] {now.water[t], need(t), dew(t), now.lacked[t]}[what];
    }

    int drip(int day) {
        return day < 0 || day > 99 ? BAD : dropsOf(day);
    }

    int song(int i) {
        return i < 0 ? BAD : i < songNow().size() ? songNow().get(i) : NONE;
    }

    // ---- a day

    int deal() {
        if (now.left == 0 || terraces() == 0) {
            return STATE;
        }
        int t = songNow().get(now.turn % songNow().size());
        if (told.law == null || told.law == 0) {
            t = now.turn % terraces();
        } else if (told.law == 1) {
            t = 0;
            for (int other = 0; other < terraces(); other++) {
                if (now.water[other] - need(other) < now.water[t] - need(t)) {
                    t = other;
                }
            }
        }
        if (slip() > 0) {
            now.lot = (int) ((long) now.lot * 1103515245L + 12345L);
            if ((now.lot >> 16 & 0xFFFF) % 10 < slip()) {
                t = (t + 1) % terraces();
            }
        }
        now.turn++;
        now.left--;
        now.water[t]++;
        return t;
    }

    int give(int t, int n) {
        if (!has(t) || n < 1 || n > 30) {
            return BAD;
        }
        if (n > now.left) {
            return STATE;
        }
        now.left -= n;
        return now.water[t] += n;
    }

    int bird(int t) {
        return !has(t) ? BAD : now.water[t] == 0 ? STATE : --now.water[t];
    }

    int end() {
        if (now.day == 99) {
            return STATE;
        }
        int lack = night(now.water, now.lacked);
        now.day++;
        now.left = dropsOf(now.day);
        return lack;
    }

    private int night(int[] water, int[] lacked) {
        int all = 0;
        for (int t = 0; t < water.length; t++) {
            water[t] += dew(t);
            water[t] -= need(t);
            if (water[t] < 0) {
                all -= water[t];
                lacked[t] -= water[t];
                water[t] = 0;
            }
        }
        return all;
    }

    int now(int what) {
        switch (what) {
            case 0: return now.day;
            case 1: return now.left;
            case 2: return Arrays.stream(now.water).sum();
            case 3: return Arrays.stream(now.lacked).sum();
            case 4: return now.turn;
            default: return BAD;
        }
    }

    int lot(int v) {
        int was = now.lot;
        now.lot = v;
        return was;
    }

    // ---- what can be

    int safe() {
        for (int days = 1; days <= 40; days++) {
            if (leastBy(days) > 0) {
                return days - 1;
            }
        }
        return 40;
    }

    int least(int k) {
        return k < 1 || k > 20 ? BAD : leastBy(k);
    }

    private int dropsIn(int day) {
        return day == 0 ? now.left : dropsOf(now.day + day);
    }

    // Few ways are tried all; where they are many, the most of the need that a flow can meet.
    private int leastBy(int days) {
        double ways = 1;
        for (int day = 0; day < days; day++) {
            ways *= Math.pow(1 + dropsIn(day), Math.max(0, terraces() - 1));
        }
        if (ways <= 3000) {
            return tryAllGifts(now.water.clone(), 0, days, new HashMap<>());
        }
        return leastByFlow(days);
    }

    private int tryAllGifts(int[] water, int day, int days, Map<String, Integer> known) {
        if (day == days) {
            return 0;
        }
        String key = day + Arrays.toString(water);
        if (!known.containsKey(key)) {
            int best = Integer.MAX_VALUE;
            for (int[] gift : gifts(dropsIn(day), terraces())) {
                int[] then = water.clone();
                for (int t = 0; t < then.length; t++) {
                    then[t] += gift[t];
                }
                int lack = night(then, new int[then.length]);
                best = Math.min(best, lack + tryAllGifts(then, day + 1, days, known));
            }
            known.put(key, best);
        }
        return known.get(key);
    }

    // All ways to give so many drops, in order; with no terraces one way, to nobody.
    private static List<int[]> gifts(int drops, int terraces) {
        List<int[]> all = new ArrayList<>();
        fill(all, new int[terraces], 0, drops);
        return all;
    }

    private static void fill(List<int[]> all, int[] gift, int t, int left) {
        if (t >= gift.length - 1) {
            if (gift.length > 0) {
                gift[t] = left;
            }
            all.add(gift.clone());
            return;
        }
        for (int n = 0; n <= left; n++) {
            gift[t] = n;
            fill(all, gift, t + 1, left - n);
        }
    }

    // Supplies: per terrace and day its own, per day the drops. Needs: per terrace and day.
    private int leastByFlow(int days) {
        int many = terraces();
        int supplies = (many + 1) * days;
        int[] stock = new int[supplies];
        int[] open = new int[many * days];
        int lack = 0;
        for (int day = 0; day < days; day++) {
            for (int t = 0; t < many; t++) {
                stock[t * days + day] = dew(t) + (day == 0 ? now.water[t] : 0);
                open[t * days + day] = need(t);
                lack += need(t);
            }
            stock[many * days + day] = dropsIn(day);
        }
        int[][] flow = new int[supplies][many * days];
        for (int s = 0; s < supplies; s++) {
            while (stock[s] > 0 && push(s, days, flow, open, new boolean[supplies])) {
                stock[s]--;
                lack--;
            }
        }
        return lack;
    }

    private boolean push(int s, int days, int[][] flow, int[] open, boolean[] been) {
        been[s] = true;
        for (int place = 0; place < open.length; place++) {
            boolean reaches = place % days >= s % days && (s / days == terraces() || s / days == place / days);
            if (!reaches) {
                continue;
            }
            if (open[place] > 0) {
                open[place]--;
                flow[s][place]++;
                return true;
            }
            for (int other = 0; other < flow.length; other++) {
                if (!been[other] && flow[other][place] > 0 && push(other, days, flow, open, been)) {
                    flow[other][place]--;
                    flow[s][place]++;
                    return true;
                }
            }
        }
        return false;
    }

    int today(int t) {
        if (t < -1 || t >= terraces()) {
            return BAD;
        }
        if (now.left > 12) {
            return STATE;
        }
        if (terraces() == 0) {
            return NONE;
        }
        int bestLack = Integer.MAX_VALUE;
        int bestWater = -1;
        int[] best = null;
        for (int[] gift : gifts(now.left, terraces())) {
            int[] then = now.water.clone();
            for (int i = 0; i < then.length; i++) {
                then[i] += gift[i];
            }
            int lack = night(then, new int[then.length]);
            int water = Arrays.stream(then).min().getAsInt();
            if (lack < bestLack || lack == bestLack && water > bestWater) {
                bestLack = lack;
                bestWater = water;
                best = gift;
            }
        }
        return t == -1 ? bestLack : best[t];
    }

    private int fallen(int turn, boolean slipped) {
        int t = songNow().get(turn % songNow().size());
        return slipped ? (t + 1) % terraces() : t;
    }

    long got(int n, int t, int k, int what) {
        if (n < 1 || n > 12 || !has(t) || k < 0 || k > 12 || what < 0 || what > 1) {
            return BAD;
        }
        long upper = 0;
        long lower = (long) Math.pow(10, n);
        for (int slips = 0; slips < 1 << n; slips++) {
            int hits = 0;
            long weight = 1;
            for (int i = 0; i < n; i++) {
                boolean slipped = (slips >> i & 1) == 1;
                weight *= slipped ? slip() : 10 - slip();
                hits += fallen(now.turn + i, slipped) == t ? 1 : 0;
            }
            upper += hits == k ? weight : 0;
        }
        for (int prime : new int[] {2, 5}) {
            while (upper % prime == 0 && lower % prime == 0) {
                upper /= prime;
                lower /= prime;
            }
        }
        return what == 0 ? upper : lower;
    }

    int tried(int m, int d, int i) {
        if (m < 1 || m > 3 || d < 1 || d > 9 || i < -1 || i > 2) {
            return BAD;
        }
        if (terraces() == 0) {
            return NONE;
        }
        if (i >= m) {
            return -5;
        }
        int least = Integer.MAX_VALUE;
        int[] best = null;
        for (int[] song : songs(m)) {
            int lack = lackBy(song, d);
            if (lack < least) {
                least = lack;
                best = song;
            }
        }
        return i == -1 ? least : best[i];
    }

    private List<int[]> songs(int m) {
        List<int[]> all = new ArrayList<>();
        all.add(new int[0]);
        for (int i = 0; i < m; i++) {
            List<int[]> longer = new ArrayList<>();
            for (int[] song : all) {
                for (int t = 0; t < terraces(); t++) {
                    int[] more = Arrays.copyOf(song, i + 1);
                    more[i] = t;
                    longer.add(more);
                }
            }
            all = longer;
        }
        return all;
    }

    private int lackBy(int[] song, int days) {
        int[] water = now.water.clone();
        int sung = 0;
        int lack = 0;
        for (int day = 0; day < days; day++) {
            for (int drop = 0; drop < dropsIn(day); drop++) {
                water[song[sung % song.length]]++;
                sung++;
            }
            lack += night(water, new int[water.length]);
        }
        return lack;
    }

    // ---- what was heard

    int saw(int i, int set) {
        if (i < 0 || i > 19 || set < 1 || set >= 1 << terraces()) {
            return BAD;
        }
        if (now.seen.size() == 8) {
            return FULL;
        }
        now.seen.add(new int[] {i, set});
        return now.seen.size();
    }

    int forget() {
        int was = now.seen.size();
        now.seen.clear();
        return was;
    }

    int could(int n) {
        return n < 1 || n > 12 ? BAD : heard(n, 0)[0];
    }

    int who(int n, int i) {
        return n < 1 || n > 12 || i < 0 || i >= n ? BAD : heard(n, i)[1];
    }

    private int[] heard(int n, int i) {
        int ways = 0;
        int places = 0;
        for (int slips = 0; slips < 1 << n && terraces() > 0; slips++) {
            boolean so = true;
            for (int[] one : now.seen) {
                if (one[0] < n) {
                    so &= (one[1] >> fallen(one[0], (slips >> one[0] & 1) == 1) & 1) == 1;
                }
            }
            if (so) {
                ways++;
                places |= 1 << fallen(i, (slips >> i & 1) == 1);
            }
        }
        return new int[] {ways, places};
    }

    // ---- kinds, images

    int mark(int kind, int t) {
        if (kind < 0 || kind > 5 || !has(t)) {
            return NO;
        }
        int water = now.water[t];
        switch (kind) {
            case 0: trace += 1; return water;
            case 1: trace += 11; return water - need(t);
            case 2: trace += 101; return water + dew(t);
            case 3: trace += 1011; return (water - need(t)) * 2;
            case 4: trace += 10101; return water + dew(t) + t;
            default: trace += 100001; return water - now.lacked[t];
        }
    }

    int keep(int image) {
        if (image < 0 || image > 1) {
            return BAD;
        }
        images[image] = now.copy();
        return now.day;
    }

    int back(int image) {
        if (image < 0 || image > 1) {
            return BAD;
        }
        if (images[image] == null) {
            return STATE;
        }
        now = images[image].copy();
        return now.day;
    }

    int count(int what) {
        switch (what) {
            case 0: return terraces();
            case 1: return told.drops.size();
            case 2: return told.law == null ? 0 : told.law;
            case 3: return slip();
            case 4: return now.seen.size();
            case 5: return text.length();
            default: return BAD;
        }
    }

    long trace() {
        return trace;
    }
}
