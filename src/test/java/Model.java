import java.util.ArrayList;
import java.util.Arrays;
import java.util.Comparator;
import java.util.HashMap;
import java.util.List;
import java.util.Map;
import java.util.regex.Matcher;
import java.util.regex.Pattern;

/** The document once more, written another way, to run beside PaperPays. */
final class Model {
    static final int BAD = -1, STATE = -2, FULL = -3, NONE = -9, NO = -1000000;

    static final class Fault extends RuntimeException {
        private static final long serialVersionUID = 1;
        final int place;

        Fault(int place) {
            this.place = place;
        }
    }

    static final class Who {
        String law;
        int n, firstCoins, firstSheets;
        int coins, sheets, seen, error, often;
        Integer said;

        Who copy() {
            Who w = new Who();
            w.law = law;
            w.n = n;
            w.firstCoins = firstCoins;
            w.firstSheets = firstSheets;
            w.coins = coins;
            w.sheets = sheets;
            w.seen = seen;
            w.error = error;
            w.often = often;
            w.said = said;
            return w;
        }
    }

    static final class Market {
        Map<String, Integer> told;
        List<Who> people = new ArrayList<>();
        List<Integer> prices = new ArrayList<>();
        int sales, paid, lot;

        int n() {
            return told.get("rounds");
        }

        int round() {
            return prices.size() - 1;
        }

        int price() {
            return prices.get(prices.size() - 1);
        }

        int prev() {
            return prices.get(Math.max(0, prices.size() - 2));
        }

        boolean over() {
            return round() == n();
        }

        Market copy() {
            Market m = new Market();
            m.told = new HashMap<>(told);
            for (Who w : people) {
                m.people.add(w.copy());
            }
            m.prices = new ArrayList<>(prices);
            m.sales = sales;
            m.paid = paid;
            m.lot = lot;
            return m;
        }

        Market anew() {
            Market m = copy();
            m.prices = new ArrayList<>(List.of(told.get("start")));
            m.sales = 0;
            m.paid = 0;
            for (Who w : m.people) {
                w.coins = w.firstCoins;
                w.sheets = w.firstSheets;
                w.said = null;
            }
            return m;
        }

        int worth(int r) {
            return (int) Math.floor((n() - r) * (told.get("A") + told.get("B")) / 2.0 + told.get("end"));
        }

        int halves(int r) {
            return (n() - r) * (told.get("A") + told.get("B")) + 2 * told.get("end");
        }

        int value(Who w) {
            boolean changed = w.seen > 0 && (w.law.equals("rising") || w.law.equals("fresh"));
            String law = changed ? "riding" : w.law;
            int n = changed ? 2 * w.seen : w.n;
            int v;
            if (law.equals("worth")) {
                v = worth(round());
            } else if (law.equals("rising")) {
                v = price() + (int) ((double) (n * (price() - prev())) / 10.0);
            } else if (law.equals("riding")) {
                int left = n() - round();
                v = left > n ? Math.max(worth(round()), price()) + 1 : 0;
            } else if (law.equals("mistaken")) {
                v = n;
            } else {
                v = Math.floorDiv(price() + worth(round()), 2) + n;
            }
            int lid = told.get("lid") == 0 ? 999 : told.get("lid");
            return v < 0 ? 0 : v > lid ? lid : v;
        }

        void step() {
            int size = people.size();
            int[] value = new int[size];
            for (int i = 0; i < size; i++) {
                value[i] = value(people.get(i));
            }
            int[] buys = new int[size];
            int[] sells = new int[size];
            int last = price();
            for (int s = 0; s < told.get("sales"); s++) {
                List<Integer> buyers = new ArrayList<>();
                for (int i = 0; i < size; i++) {
                    if (buys[i] < 2 && people.get(i).coins + told.get("lent") >= value[i] + told.get("fee")) {
                        buyers.add(i);
                    }
                }
                if (buyers.isEmpty()) {
                    break;
                }
                buyers.sort(Comparator.comparingInt((Integer i) -> -value[i]).thenComparingInt(i -> i));
                int b = buyers.get(0);
                List<Integer> sellers = new ArrayList<>();
                for (int i = 0; i < size; i++) {
                    if (i != b && sells[i] < 2 && people.get(i).sheets + told.get("short") > 0) {
                        sellers.add(i);
                    }
                }
                if (sellers.isEmpty()) {
                    break;
                }
                sellers.sort(Comparator.comparingInt((Integer i) -> value[i]).thenComparingInt(i -> i));
                int a = sellers.get(0);
                int bid = value[b];
                int ask = value[a] + 1;
                if (bid < ask) {
                    break;
                }
                last = (bid + ask) / 2;
                people.get(b).coins -= last + told.get("fee");
                people.get(a).coins += last;
                people.get(b).sheets += 1;
                people.get(a).sheets -= 1;
                buys[b]++;
                sells[a]++;
                sales++;
            }
            prices.add(last);
            lot = lot * 1103515245 + 12345;
            pay(told.get(((lot >> 16) & 0xffff) % 2 == 0 ? "A" : "B"));
            for (Who w : people) {
                if (w.said != null) {
                    w.error += Math.max(last - w.said, w.said - last);
                    w.often++;
                    w.said = null;
                }
            }
            if (over()) {
                pay(told.get("end"));
            }
        }

        void pay(int each) {
            paid += each;
            for (Who w : people) {
                w.coins += each * w.sheets;
            }
        }

        void finish() {
            while (!over()) {
                step();
            }
        }

        int peak() {
            return prices.stream().skip(1).mapToInt(i -> i).max().orElse(0);
        }

        int peakRound() {
            return round() == 0 ? NONE : prices.subList(1, prices.size()).indexOf(peak());
        }

        int fall() {
            List<Integer> falls = new ArrayList<>();
            for (int r = 0; r < round(); r++) {
                falls.add(prices.get(r) - prices.get(r + 1));
            }
            int most = falls.stream().mapToInt(i -> i).max().orElse(0);
            return most > 0 ? falls.indexOf(most) : NONE;
        }

        int bubble() {
            int sum = 0;
            for (int r = 0; r < round(); r++) {
                int over = 2 * prices.get(r + 1) - halves(r);
                sum += over > 0 ? over : 0;
            }
            return sum;
        }
    }

    private StringBuilder text = new StringBuilder();
    private Market room = new Market();
    private final Market[] images = new Market[2];
    private final int[] ride = {30, 5, 10};
    private final int[] holds = new int[10];
    private final List<Integer> clues = new ArrayList<>();
    private long trace = 0;

    Model() {
        holds[9] = 10;
        room.lot = 1;
        room.told = usual();
        settle(room.told);
        room = room.anew();
    }

    private static Map<String, Integer> usual() {
        Map<String, Integer> told = new HashMap<>();
        told.put("rounds", 15);
        told.put("A", 1);
        told.put("B", 3);
        told.put("end", 0);
        told.put("lent", 0);
        told.put("short", 0);
        told.put("lid", 0);
        told.put("fee", 0);
        told.put("sales", 5);
        return told;
    }

    private static void settle(Map<String, Integer> told) {
        if (!told.containsKey("start")) {
            told.put("start", told.get("rounds") * (told.get("A") + told.get("B")) / 2 + told.get("end"));
        }
    }

    private static boolean in(int v, int a, int b) {
        return a <= v && v <= b;
    }

    int type(long v, int n) {
        if (!in(n, 1, 8)) {
            return BAD;
        }
        if (text.length() + n > 400) {
            return FULL;
        }
        for (int i = n; i > 0; i--) {
            text.append((char) (v >>> 8 * (i - 1) & 255));
        }
        return text.length();
    }

    int clear() {
        int had = text.length();
        text = new StringBuilder();
        return had;
    }

    private static final Pattern TOKEN = Pattern.compile("[a-z]+|[0-9]+|;|[^ ]", Pattern.DOTALL);

    private final class Tokens {
        final List<String> words = new ArrayList<>();
        final List<Integer> places = new ArrayList<>();
        int at = 0;

        Tokens() {
            Matcher m = TOKEN.matcher(text);
            while (m.find()) {
                words.add(m.group());
                places.add(m.start());
            }
            places.add(text.length());
        }

        Fault fault() {
            return new Fault(places.get(at));
        }

        boolean more() {
            return at < words.size();
        }

        String word(List<String> of) {
            if (!more() || !of.contains(words.get(at))) {
                throw fault();
            }
            return words.get(at++);
        }

        int number(int least, int most) {
            if (!more() || !words.get(at).matches("0|[1-9][0-9]?")) {
                throw fault();
            }
            int v = Integer.parseInt(words.get(at));
            if (!in(v, least, most)) {
                throw fault();
            }
            at++;
            return v;
        }
    }

    int rules() {
        Tokens t = new Tokens();
        Map<String, Integer> told = usual();
        List<Who> people = new ArrayList<>();
        int items = 0;
        List<String> still = new ArrayList<>(List.of(
            "rounds", "pays", "end", "start", "lent", "short", "lid", "fee", "sales", "person"));
        try {
            while (t.more()) {
                if (people.size() == 9) {
                    still.remove("person");
                }
                String w = t.word(still);
                if (w.equals("person")) {
                    people.add(who(t));
                } else {
                    still.remove(w);
                    item(t, w, told);
                }
                t.word(List.of(";"));
                items++;
            }
        } catch (Fault f) {
            return -10 - f.place;
        }
        settle(told);
        Market m = new Market();
        m.told = told;
        m.people = people;
        m.lot = room.lot;
        room = m.anew();
        Arrays.fill(images, null);
        clear();
        return items;
    }

    private static Who who(Tokens t) {
        Who w = new Who();
        w.law = t.word(List.of("worth", "rising", "riding", "mistaken", "fresh"));
        if (!w.law.equals("worth")) {
            w.n = t.number(1, w.law.equals("mistaken") ? 99 : 9);
        }
        w.firstCoins = t.number(0, 99);
        w.firstSheets = t.number(0, 9);
        return w;
    }

    private static void item(Tokens t, String w, Map<String, Integer> told) {
        switch (w) {
            case "rounds": told.put(w, t.number(3, 20)); break;
            case "pays":
                told.put("A", t.number(0, 9));
                told.put("B", t.number(0, 9));
                break;
            case "start":
            case "lid": told.put(w, t.number(1, 99)); break;
            case "end":
            case "lent": told.put(w, t.number(0, 99)); break;
            case "short":
            case "fee": told.put(w, t.number(0, 9)); break;
            default: told.put(w, t.number(1, 9));
        }
    }

    int rule(int what) {
        String[] names = {"rounds", "A", "B", "end", "start", "lent", "short", "lid", "fee", "sales"};
        return in(what, 0, 9) ? room.told.get(names[what]) : BAD;
    }

    private boolean person(int p) {
        return in(p, 0, room.people.size() - 1);
    }

    int person(int p, int what) {
        if (!person(p) || !in(what, 0, 5)) {
            return NO;
        }
        Who w = room.people.get(p);
        int law = List.of("worth", "rising", "riding", "mistaken", "fresh").indexOf(w.law);
        return new int[] {law, w.n, w.coins, w.sheets, room.value(w), w.seen}[what];
    }

    int worth(int r, int what) {
        if (!in(r, 0, room.n()) || !in(what, 0, 1)) {
            return BAD;
        }
        return what == 0 ? room.worth(r) : room.halves(r);
    }

    int odds(int r, int k) {
        if (!in(r, 0, room.n()) || !in(k, 0, 279)) {
            return BAD;
        }
        int[] rows = new int[280];
        rows[room.told.get("end")] = 1;
        for (int dice = r; dice < room.n(); dice++) {
            int[] next = new int[280];
            for (int sum = 0; sum < 280; sum++) {
                if (rows[sum] > 0) {
                    next[sum + room.told.get("A")] += rows[sum];
                    next[sum + room.told.get("B")] += rows[sum];
                }
            }
            rows = next;
        }
        return rows[k];
    }

    int go(int n) {
        if (!in(n, 1, 20)) {
            return BAD;
        }
        if (room.over()) {
            return STATE;
        }
        int went = 0;
        for (int i = 0; i < n; i++) {
            if (!room.over()) {
                room.step();
                went++;
            }
        }
        return went;
    }

    int now(int what) {
        int[] all = {room.round(), room.price(), room.prev(), room.sales, room.paid, room.over() ? 1 : 0};
        return in(what, 0, 5) ? all[what] : BAD;
    }

    int board(int r) {
        return in(r, 0, room.round() - 1) ? room.prices.get(r + 1) : BAD;
    }

    int high(int what) {
        int[] all = {room.peak(), room.peakRound(), room.fall(), room.bubble()};
        return in(what, 0, 3) ? all[what] : BAD;
    }

    int gain(int p) {
        if (!person(p) || !room.over()) {
            return NO;
        }
        Who w = room.people.get(p);
        return w.coins - w.firstCoins - w.firstSheets * room.paid;
    }

    int again() {
        if (!room.over()) {
            return STATE;
        }
        room = room.anew();
        room.people.forEach(w -> w.seen++);
        return 1;
    }

    int renew(int p) {
        if (!person(p)) {
            return BAD;
        }
        int had = room.people.get(p).seen;
        room.people.get(p).seen = 0;
        return had;
    }

    int revive(int x) {
        if (!in(x, 0, 999)) {
            return BAD;
        }
        for (int k = 0; k <= room.people.size(); k++) {
            Market m = room.anew();
            m.people.subList(0, k).forEach(w -> w.seen = 0);
            m.finish();
            if (m.peak() >= x) {
                return k;
            }
        }
        return NONE;
    }

    int would(int rule, int v, int what) {
        if (!in(rule, 0, 4) || !in(what, 0, 2)) {
            return BAD;
        }
        int[][] may = {{0, 99}, {0, 9}, {0, 99}, {0, 9}, {1, 9}};
        if (!in(v, may[rule][0], may[rule][1])) {
            return BAD;
        }
        Market m = room.anew();
        m.told.put(new String[] {"lent", "short", "lid", "fee", "sales"}[rule], v);
        m.finish();
        return new int[] {m.peak(), m.bubble(), m.sales}[what];
    }

    int lot(int v) {
        int had = room.lot;
        room.lot = v;
        return had;
    }

    int ride(int what, int v) {
        if (!in(what, 0, 2) || !in(v, 0, 99)) {
            return BAD;
        }
        int had = ride[what];
        ride[what] = v;
        return had;
    }

    private int has(List<Integer> outs, int i) {
        int first = outs.stream().mapToInt(r -> r).min().getAsInt();
        long together = outs.stream().filter(r -> r == first).count();
        return outs.get(i) == first ? (int) ((ride[0] + ride[1] * first) / together) : ride[2];
    }

    private void rows(int m, int r, List<Integer> row, List<List<Integer>> all) {
        if (row.size() == m) {
            all.add(new ArrayList<>(row));
            return;
        }
        for (int k = 0; k <= r; k++) {
            row.add(k);
            rows(m, r, row, all);
            row.remove(row.size() - 1);
        }
    }

    private boolean rest(List<Integer> outs, int r) {
        for (int i = 0; i < outs.size(); i++) {
            for (int k = 0; k <= r; k++) {
                List<Integer> other = new ArrayList<>(outs);
                other.set(i, k);
                if (has(other, i) > has(outs, i)) {
                    return false;
                }
            }
        }
        return true;
    }

    int rests(int m, int r, int what) {
        if (!in(m, 2, 3) || !in(r, 1, 8) || !in(what, 0, 1)) {
            return BAD;
        }
        List<List<Integer>> all = new ArrayList<>();
        rows(m, r, new ArrayList<>(), all);
        all.removeIf(outs -> !rest(outs, r));
        if (what == 0) {
            return all.size();
        }
        return all.isEmpty() ? NONE : all.get(0).stream().reduce(0, (a, b) -> 10 * a + b);
    }

    int hold(int from, int to, int tenths) {
        if (!in(from, 0, 9) || !in(to, 0, 9) || !in(tenths, 0, holds[from])) {
            return BAD;
        }
        for (int i = 0; i < tenths; i++) {
            holds[from]--;
            holds[to]++;
        }
        return holds[to];
    }

    int out(int what) {
        if (!in(what, 0, 1)) {
            return BAD;
        }
        int round = 0;
        int most = -1;
        for (int r = 0; r < 10; r++) {
            int sum = 0;
            for (int o = 0; o < 10; o++) {
                for (int i = 0; i < holds[o]; i++) {
                    sum += r > o ? 2 * ride[2] : (ride[0] + r * ride[1]) * (r == o ? 1 : 2);
                }
            }
            if (sum > most) {
                most = sum;
                round = r;
            }
        }
        return what == 0 ? round : most;
    }

    int clue(int price) {
        if (!in(price, 0, 999)) {
            return BAD;
        }
        if (clues.size() == 12) {
            return FULL;
        }
        clues.add(price);
        return clues.size();
    }

    int fit(int v, int what) {
        if (!in(v, 0, 99) || !in(what, 0, 3)) {
            return BAD;
        }
        if (clues.size() < 3) {
            return STATE;
        }
        List<int[]> all = new ArrayList<>();
        for (int a = 0; a <= 10; a++) {
            for (int b = 0; a + b <= 10; b++) {
                int c = 10 - a - b;
                int errors = 0;
                for (int i = 2; i < clues.size(); i++) {
                    int worth = room.worth(i > room.n() ? room.n() : i);
                    int rising = clues.get(i - 1) + clues.get(i - 1) - clues.get(i - 2);
                    errors += Math.abs(a * worth + b * rising + c * v - 10 * clues.get(i));
                }
                all.add(new int[] {a, b, c, errors});
            }
        }
        all.sort(Comparator.comparingInt((int[] s) -> s[3]).thenComparingInt(s -> -s[0]).thenComparingInt(s -> -s[1]));
        return all.get(0)[what];
    }

    int say(int p, int price) {
        if (!person(p) || !in(price, 0, 999)) {
            return BAD;
        }
        if (room.over()) {
            return STATE;
        }
        Who w = room.people.get(p);
        int had = w.said == null ? NONE : w.said;
        w.said = price;
        return had;
    }

    int said(int p, int what) {
        if (!person(p) || !in(what, 0, 1)) {
            return BAD;
        }
        return what == 0 ? room.people.get(p).error : room.people.get(p).often;
    }

    int truest() {
        int best = NONE;
        double least = Double.MAX_VALUE;
        for (int p = 0; p < room.people.size(); p++) {
            Who w = room.people.get(p);
            if (w.often > 0 && (double) w.error / w.often < least) {
                best = p;
                least = (double) w.error / w.often;
            }
        }
        return best;
    }

    int mark(int kind, int p) {
        if (!in(kind, 0, 6) || !person(p)) {
            return NO;
        }
        Who w = room.people.get(p);
        trace += (long) Math.pow(10, kind);
        switch (kind) {
            case 0: return w.coins;
            case 1: return mark(0, p) + w.sheets * room.worth(room.round());
            case 2: return mark(0, p) + room.price();
            case 3: return mark(0, p) - room.round();
            case 4: return 2 * mark(0, p);
            case 5: return mark(3, p) + w.seen;
            default: return mark(2, p) - w.sheets;
        }
    }

    int keep(int image) {
        if (!in(image, 0, 1)) {
            return BAD;
        }
        images[image] = room.copy();
        return room.round();
    }

    int back(int image) {
        if (!in(image, 0, 1)) {
            return BAD;
        }
        if (images[image] == null) {
            return STATE;
        }
        room = images[image].copy();
        return room.round();
    }

    int count(int what) {
        switch (what) {
            case 0: return room.people.size();
            case 1: return room.people.stream().mapToInt(w -> w.sheets).sum();
            case 2: return room.people.stream().mapToInt(w -> w.coins).sum();
            case 3: return clues.size();
            case 4: return text.length();
            default: return BAD;
        }
    }

    long trace() {
        return trace;
    }
}
