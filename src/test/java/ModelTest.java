import java.nio.charset.StandardCharsets;

/** Long mixed runs of calls, each beside the model; the same runs each time. */
public final class ModelTest {
    private static final int RUNS = 1500;
    /** Those of a text that may still come behind them, and all is told within 512 calls. */
    private static final int CALLS = 430;
    private static final String[] LAWS = {"worth", "rising", "riding", "mistaken", "fresh"};
    private static final String[] STRAY = {";", "x", "0", "100", "07", "person", "rounds 2", "\t", "A", " ", "lid", "9"};

    private static long seed;
    private static int calls;
    private static final Checks CHECKS = new Checks("ModelTest");

    private ModelTest() {
    }

    public static void main(String[] args) {
        for (int run = 0; run < RUNS; run++) {
            seed = 7919L * run + 5;
            calls = 0;
            oneRun(run);
        }
        CHECKS.end();
    }

    private static int below(int n) {
        seed = seed * 6364136223846793005L + 1442695040888963407L;
        return (int) Long.remainderUnsigned(seed >>> 24, n);
    }

    private static int from(int a, int b) {
        return a + below(b - a + 1);
    }

    /** Mostly within, now and then one beyond or far beyond. */
    private static int near(int a, int b) {
        int kind = below(24);
        if (kind == 0) {
            return a - 1;
        }
        if (kind == 1) {
            return b + 1;
        }
        if (kind == 2 && below(8) == 0) {
            return below(2) == 0 ? Integer.MIN_VALUE + below(5) : Integer.MAX_VALUE - below(5);
        }
        return from(a, b);
    }

    private static String gap() {
        int kind = below(8);
        return kind == 0 ? "   " : " ";
    }

    private static String text() {
        StringBuilder t = new StringBuilder();
        String[] names = {"rounds", "pays", "end", "start", "lent", "short", "lid", "fee", "sales"};
        int[][] may = {{3, 20}, {0, 9}, {0, 99}, {1, 99}, {0, 99}, {0, 9}, {1, 99}, {0, 9}, {1, 9}};
        for (int i = 0; i < names.length; i++) {
            if (below(3) == 0) {
                t.append(names[i]).append(below(4) == 0 ? "" : gap()).append(near(may[i][0], may[i][1]));
                if (i == 1) {
                    t.append(gap()).append(near(0, 9));
                }
                t.append(below(5) == 0 ? " ; " : ";");
            }
        }
        int people = below(30) == 0 ? 10 : from(0, 9);
        for (int p = 0; p < people; p++) {
            int law = below(5);
            t.append("person").append(gap()).append(LAWS[law]);
            if (law > 0) {
                t.append(gap()).append(near(1, law == 3 ? 99 : 9));
            }
            t.append(gap()).append(near(0, 99)).append(gap()).append(near(0, 9)).append(";");
        }
        if (below(6) == 0 && t.length() > 0) {
            int place = below(t.length());
            if (below(2) == 0) {
                t.insert(place, STRAY[below(STRAY.length)]);
            } else {
                t.deleteCharAt(place);
            }
        }
        if (below(20) == 0) {
            t.setLength(below(t.length() + 1));
        }
        return t.toString().replace("-", below(2) == 0 ? "" : "-");
    }

    private static void due(int run, String call, long got, long want) {
        calls++;
        CHECKS.due("run " + run + ", call " + calls + ", " + call, got, want);
    }

    private static void tell(int run, PaperPays x, Model y) {
        if (below(3) > 0) {
            due(run, "clear()", x.clear(), y.clear());
        }
        byte[] bytes = text().getBytes(StandardCharsets.ISO_8859_1);
        for (int from = 0; from < bytes.length; ) {
            int n = Math.min(from(6, 8), bytes.length - from);
            long v = Checks.packed(bytes, from, n) | (n < 8 ? (long) below(100) << 8 * n : 0);
            due(run, "type(" + v + ", " + n + ")", x.type(v, n), y.type(v, n));
            from += n;
        }
        due(run, "rules()", x.rules(), y.rules());
    }

    private static void oneRun(int run) {
        PaperPays x = new PaperPays();
        Model y = new Model();
        if (below(10) > 0) {
            tell(run, x, y);
        }
        while (calls < CALLS) {
            int kind = below(100);
            if (kind == 0) {
                tell(run, x, y);
            } else if (kind < 45) {
                act(run, kind % 15, x, y);
            } else {
                ask(run, kind % 16, x, y);
            }
        }
    }

    private static void act(int run, int kind, PaperPays x, Model y) {
        int a = near(0, 8);
        int b = near(0, 99);
        switch (kind) {
            case 0:
            case 1: {
                int n = below(5) == 0 ? near(1, 20) : near(1, 5);
                due(run, "go(" + n + ")", x.go(n), y.go(n));
                break;
            }
            case 2: due(run, "again()", x.again(), y.again()); break;
            case 3: due(run, "renew(" + a + ")", x.renew(a), y.renew(a)); break;
            case 4: due(run, "lot", x.lot(b * 77777), y.lot(b * 77777)); break;
            case 5: due(run, "ride(" + a % 3 + ", " + b + ")", x.ride(a % 3, b), y.ride(a % 3, b)); break;
            case 6: {
                int to = near(0, 9);
                int from = below(2) == 0 ? 9 : near(0, 9);
                int tenths = near(0, 3);
                String call = "hold(" + from + ", " + to + ", " + tenths + ")";
                due(run, call, x.hold(from, to, tenths), y.hold(from, to, tenths));
                break;
            }
            case 7: {
                int price = below(3) == 0 ? near(0, 999) : from(20, 50);
                due(run, "clue(" + price + ")", x.clue(price), y.clue(price));
                break;
            }
            case 8:
            case 9:
            case 10: due(run, "say(" + a + ", " + b + ")", x.say(a, b), y.say(a, b)); break;
            case 11: due(run, "keep(" + a % 2 + ")", x.keep(a % 2), y.keep(a % 2)); break;
            case 12: due(run, "back(" + a % 2 + ")", x.back(a % 2), y.back(a % 2)); break;
            case 13: {
                int k = near(0, 6);
                due(run, "mark(" + k + ", " + a + ")", x.mark(k, a), y.mark(k, a));
                due(run, "trace()", x.trace(), y.trace());
                break;
            }
            default: {
                int n = near(1, 20);
                due(run, "go(" + n + ")", x.go(n), y.go(n));
            }
        }
    }

    private static void ask(int run, int kind, PaperPays x, Model y) {
        int p = near(0, 8);
        int six = near(0, 5);
        int three = near(0, 2);
        switch (kind) {
            case 0: due(run, "rule", x.rule(p), y.rule(p)); break;
            case 1:
            case 2: due(run, "person(" + p + ", " + six + ")", x.person(p, six), y.person(p, six)); break;
            case 3: {
                int r = near(0, 20);
                int two = near(0, 1);
                due(run, "worth(" + r + ", " + two + ")", x.worth(r, two), y.worth(r, two));
                break;
            }
            case 4: {
                int r = near(0, 20);
                int k = below(3) == 0 ? near(0, 279) : near(0, 50);
                due(run, "odds(" + r + ", " + k + ")", x.odds(r, k), y.odds(r, k));
                break;
            }
            case 5:
            case 6: due(run, "now(" + six + ")", x.now(six), y.now(six)); break;
            case 7: {
                int r = near(0, 10);
                due(run, "board(" + r + ")", x.board(r), y.board(r));
                break;
            }
            case 8: {
                int four = near(0, 3);
                due(run, "high(" + four + ")", x.high(four), y.high(four));
                break;
            }
            case 9: due(run, "gain(" + p + ")", x.gain(p), y.gain(p)); break;
            case 10: {
                int v = below(2) == 0 ? near(20, 60) : near(0, 999);
                due(run, "revive(" + v + ")", x.revive(v), y.revive(v));
                break;
            }
            case 11: {
                int v = below(2) == 0 ? near(0, 9) : near(0, 99);
                int rule = near(0, 4);
                String call = "would(" + rule + ", " + v + ", " + three + ")";
                due(run, call, x.would(rule, v, three), y.would(rule, v, three));
                break;
            }
            case 12: askRiders(run, x, y); break;
            case 13: {
                int v = near(0, 99);
                int four = near(0, 3);
                due(run, "fit(" + v + ", " + four + ")", x.fit(v, four), y.fit(v, four));
                break;
            }
            case 14: {
                int two = near(0, 1);
                due(run, "said(" + p + ", " + two + ")", x.said(p, two), y.said(p, two));
                due(run, "truest()", x.truest(), y.truest());
                break;
            }
            default: due(run, "count(" + six + ")", x.count(six), y.count(six));
        }
    }

    private static void askRiders(int run, PaperPays x, Model y) {
        int what = near(0, 1);
        if (below(2) == 0) {
            due(run, "out(" + what + ")", x.out(what), y.out(what));
            return;
        }
        int m = near(2, 3);
        int r = below(4) == 0 ? near(1, 8) : near(1, 3);
        due(run, "rests(" + m + ", " + r + ", " + what + ")", x.rests(m, r, what), y.rests(m, r, what));
    }
}
