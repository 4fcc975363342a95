import java.util.ArrayList;
import java.util.List;
import java.util.function.Consumer;
import java.util.function.Supplier;
import java.util.function.ToLongFunction;

/**
 * Objects made by the same calls. One more call on some of them: did it change anything? All that an object can
 * tell is asked, what shows only by further calls too, each kind of asking on an object of its own.
 */
final class Twins {
    private static final int MOST_CALLS = 512;

    private final Checks checks;
    private final String name;
    private final Supplier<PaperPays> scene;
    private final List<String> untouched;

    Twins(Checks checks, String name, Supplier<PaperPays> scene) {
        this.checks = checks;
        this.name = name;
        this.scene = scene;
        untouched = stateBehind(x -> { });
    }

    /** The call answers as due and changes nothing. */
    void refuses(String call, long due, ToLongFunction<PaperPays> asked) {
        checks.due(name + ": " + call, asked.applyAsLong(scene.get()), due);
        changesNothing(call, asked::applyAsLong);
    }

    void changesNothing(String call, Consumer<PaperPays> asked) {
        String change = firstChange(asked);
        checks.due(name + ": " + call + " changed '" + change + "'", change.length(), 0);
    }

    /** What the calls change, told as the first answer that is another one; empty: nothing. */
    String firstChange(Consumer<PaperPays> asked) {
        List<String> now = stateBehind(asked);
        for (int i = 0; i < now.size(); i++) {
            if (!now.get(i).equals(untouched.get(i))) {
                return untouched.get(i) + " became " + now.get(i);
            }
        }
        return "";
    }

    private List<String> stateBehind(Consumer<PaperPays> asked) {
        List<String> state = new ArrayList<>();
        List<Consumer<Answers>> ways = List.of(Twins::askRules, Twins::askRoom, Twins::askPeople, Twins::askTried,
            Twins::askRiders, Twins::askSaid, Twins::askImages, Twins::askMarkets, Twins::askText, Twins::askClues);
        for (Consumer<Answers> way : ways) {
            PaperPays x = scene.get();
            asked.accept(x);
            way.accept(new Answers(x, state));
        }
        return state;
    }

    private static final class Answers {
        private final PaperPays x;
        private final List<String> state;
        private int calls = 0;

        Answers(PaperPays x, List<String> state) {
            this.x = x;
            this.state = state;
        }

        void put(String call, long answer) {
            calls++;
            if (calls > MOST_CALLS) {
                throw new IllegalStateException("too many calls of one object");
            }
            state.add(call + " = " + answer);
        }
    }

    private static void askRules(Answers a) {
        for (int what = 0; what <= 9; what++) {
            a.put("rule(" + what + ")", a.x.rule(what));
        }
        for (int r = 0; r <= 20; r++) {
            a.put("worth(" + r + ", 0)", a.x.worth(r, 0));
            a.put("worth(" + r + ", 1)", a.x.worth(r, 1));
            a.put("odds(" + r + ", 30)", a.x.odds(r, 30));
        }
        a.put("trace()", a.x.trace());
        for (int what = 0; what <= 4; what++) {
            a.put("count(" + what + ")", a.x.count(what));
        }
    }

    private static void askRoom(Answers a) {
        for (int what = 0; what <= 5; what++) {
            a.put("now(" + what + ")", a.x.now(what));
        }
        for (int r = 0; r < 20; r++) {
            a.put("board(" + r + ")", a.x.board(r));
        }
        for (int what = 0; what <= 3; what++) {
            a.put("high(" + what + ")", a.x.high(what));
        }
        a.put("truest()", a.x.truest());
        a.put("lot(5)", a.x.lot(5));
    }

    private static void askPeople(Answers a) {
        for (int p = 0; p < 9; p++) {
            for (int what = 0; what <= 5; what++) {
                a.put("person(" + p + ", " + what + ")", a.x.person(p, what));
            }
            a.put("gain(" + p + ")", a.x.gain(p));
            a.put("said(" + p + ", 0)", a.x.said(p, 0));
            a.put("said(" + p + ", 1)", a.x.said(p, 1));
            a.put("renew(" + p + ")", a.x.renew(p));
        }
    }

    private static void askTried(Answers a) {
        for (int x = 8; x < 30; x++) {
            a.put("revive(" + x + ")", a.x.revive(x));
        }
        int[] rules = {50, 4, 15, 3, 2};
        for (int rule = 0; rule < rules.length; rule++) {
            for (int what = 0; what <= 2; what++) {
                a.put("would(" + rule + ", " + rules[rule] + ", " + what + ")", a.x.would(rule, rules[rule], what));
            }
        }
    }

    private static void askRiders(Answers a) {
        for (int r = 0; r <= 9; r++) {
            a.put("hold(" + r + ", " + r + ", 0)", a.x.hold(r, r, 0));
        }
        a.put("out(0)", a.x.out(0));
        a.put("out(1)", a.x.out(1));
        a.put("rests(2, 4, 0)", a.x.rests(2, 4, 0));
        a.put("rests(3, 4, 0)", a.x.rests(3, 4, 0));
        for (int what = 0; what <= 2; what++) {
            a.put("ride(" + what + ", 1)", a.x.ride(what, 1));
        }
    }

    /** What was said for the round to come shows when it is said again, and by the errors behind the round. */
    private static void askSaid(Answers a) {
        for (int p = 0; p < 9; p += 2) {
            a.put("say(" + p + ", 500)", a.x.say(p, 500));
        }
        a.put("go(1)", a.x.go(1));
        askRoom(a);
        askPeople(a);
    }

    private static void askImages(Answers a) {
        for (int image = 0; image <= 1; image++) {
            a.put("back(" + image + ")", a.x.back(image));
            askRoom(a);
            askPeople(a);
            a.put("back(" + image + ")", a.x.back(image));
            a.put("say(0, 3)", a.x.say(0, 3));
        }
    }

    private static void askMarkets(Answers a) {
        a.put("go(20)", a.x.go(20));
        askRoom(a);
        a.put("again()", a.x.again());
        a.put("go(3)", a.x.go(3));
        askRoom(a);
        askPeople(a);
    }

    private static void askText(Answers a) {
        a.put("type(;)", a.x.type(';', 1));
        a.put("rules()", a.x.rules());
        askRules(a);
        a.put("clear()", a.x.clear());
        a.put("rules()", a.x.rules());
        askRules(a);
        askPeople(a);
    }

    private static void askClues(Answers a) {
        for (int what = 0; what <= 3; what++) {
            a.put("fit(17, " + what + ")", a.x.fit(17, what));
        }
        a.put("clue(3)", a.x.clue(3));
        a.put("clue(9)", a.x.clue(9));
        a.put("clue(40)", a.x.clue(40));
        for (int what = 0; what <= 3; what++) {
            a.put("fit(60, " + what + ")", a.x.fit(60, what));
        }
    }
}
