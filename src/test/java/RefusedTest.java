import java.util.List;
import java.util.function.ToLongFunction;

/** Refused calls: what they answer, the first of BAD, STATE, FULL, and that nothing changes. */
public final class RefusedTest {
    private static final Checks C = new Checks("RefusedTest");
    private static final int LEAST = Integer.MIN_VALUE, MOST = Integer.MAX_VALUE;
    private static final long BAD = -1, STATE = -2, FULL = -3, NO = -1000000;

    private static final Twins NEW = new Twins(C, "new", PaperPays::new);
    private static final Twins MIDDLE = new Twins(C, "on the way", RefusedTest::middle);
    private static final Twins OVER = new Twins(C, "over", RefusedTest::over);
    private static final Twins CROWDED = new Twins(C, "full", RefusedTest::crowded);
    private static final List<Twins> ALL = List.of(NEW, MIDDLE, OVER, CROWDED);

    private RefusedTest() {
    }

    public static void main(String[] args) {
        twinsSeeWhatChanges();
        badRules();
        badRoom();
        badTried();
        badRiders();
        badClues();
        badKinds();
        ofState();
        ofFull();
        faults();
        askingChangesNothing();
        C.end();
    }

    /** People of each law who have seen one market, three rounds into the next; all else is told, too. */
    private static PaperPays middle() {
        PaperPays x = Checks.with("rounds 8;pays 1 4;end 5;start 12;lent 6;short 1;lid 40;fee 1;sales 4;"
            + "person fresh 9 99 2;person worth 20 5;person rising 5 60 1;person riding 2 50 3;person mistaken 17 70 2;");
        x.lot(31);
        x.go(20);
        x.again();
        x.renew(2);
        x.say(0, 14);
        x.go(1);
        x.say(1, 9);
        x.keep(0);
        x.say(1, 20);
        x.say(2, 3);
        x.go(2);
        x.mark(5, 1);
        x.ride(0, 20);
        x.ride(1, 15);
        x.ride(2, 25);
        x.hold(9, 3, 4);
        x.hold(9, 6, 1);
        x.clue(15);
        x.clue(18);
        x.clue(16);
        x.clue(19);
        Checks.type(x, "fee 7;end 3");
        x.say(3, 33);
        x.say(0, 21);
        return x;
    }

    private static PaperPays over() {
        PaperPays x = middle();
        x.go(20);
        x.keep(1);
        return x;
    }

    /** Nine people, a text of 400 bytes, twelve clues. */
    private static PaperPays crowded() {
        StringBuilder nine = new StringBuilder("rounds 5;");
        for (int i = 1; i <= 9; i++) {
            nine.append("person mistaken ").append(5 * i).append(" 60 2;");
        }
        PaperPays x = Checks.with(nine.toString());
        x.go(2);
        for (int i = 0; i < 12; i++) {
            x.clue(20 + i * i);
        }
        Checks.type(x, " ".repeat(394) + "fee 3;");
        return x;
    }

    /** The tests below hang on this: that twins tell what a call changes. */
    private static void twinsSeeWhatChanges() {
        sees("type", x -> x.type('x', 1));
        sees("clear", PaperPays::clear);
        sees("rules", x -> x.type(';', 1) + x.rules());
        sees("go", x -> x.go(1));
        sees("renew", x -> x.renew(1));
        sees("lot", x -> x.lot(1));
        sees("ride 0", x -> x.ride(0, 21));
        sees("ride 1", x -> x.ride(1, 16));
        sees("ride 2", x -> x.ride(2, 26));
        sees("hold", x -> x.hold(9, 8, 1));
        sees("clue", x -> x.clue(16));
        sees("say what was said", x -> x.say(0, 22));
        sees("say", x -> x.say(4, 22));
        sees("say of one whose say isn't asked", x -> x.say(1, 22));
        sees("mark", x -> x.mark(0, 0));
        sees("keep 0", x -> x.keep(0));
        sees("keep 1", x -> x.keep(1));
        sees("back", x -> x.back(0));
        C.due("over: again is seen", OVER.firstChange(PaperPays::again).length() > 0 ? 1 : 0, 1);
    }

    private static void sees(String call, ToLongFunction<PaperPays> asked) {
        C.due(call + " is seen", MIDDLE.firstChange(asked::applyAsLong).length() > 0 ? 1 : 0, 1);
    }

    private static void bad(String call, ToLongFunction<PaperPays> asked) {
        everywhere(call, BAD, asked);
    }

    private static void no(String call, ToLongFunction<PaperPays> asked) {
        everywhere(call, NO, asked);
    }

    /** Comes ahead of STATE and FULL, so it is the same in every scene. */
    private static void everywhere(String call, long due, ToLongFunction<PaperPays> asked) {
        for (Twins twins : ALL) {
            twins.refuses(call, due, asked);
        }
    }

    private static void badRules() {
        for (int n : new int[] {LEAST, -1, 0, 9, MOST}) {
            bad("type(59, " + n + ")", x -> x.type(59, n));
        }
        for (int what : new int[] {LEAST, -1, 10, MOST}) {
            bad("rule(" + what + ")", x -> x.rule(what));
        }
        for (int p : new int[] {LEAST, -1, 9, 10, MOST}) {
            no("person(" + p + ", 0)", x -> x.person(p, 0));
        }
        no("person(one more, 2)", x -> x.person(x.count(0), 2));
        for (int what : new int[] {LEAST, -1, 6, MOST}) {
            no("person(0, " + what + ")", x -> x.person(0, what));
        }
        for (int r : new int[] {LEAST, -1, 21, MOST}) {
            bad("worth(" + r + ", 0)", x -> x.worth(r, 0));
            bad("worth(" + r + ", 1)", x -> x.worth(r, 1));
            bad("odds(" + r + ", 0)", x -> x.odds(r, 0));
        }
        bad("worth(N and 1, 0)", x -> x.worth(x.rule(0) + 1, 0));
        bad("odds(N and 1, 0)", x -> x.odds(x.rule(0) + 1, 0));
        for (int what : new int[] {LEAST, -1, 2, MOST}) {
            bad("worth(0, " + what + ")", x -> x.worth(0, what));
        }
        for (int k : new int[] {LEAST, -1, 280, MOST}) {
            bad("odds(0, " + k + ")", x -> x.odds(0, k));
        }
    }

    private static void badRoom() {
        for (int n : new int[] {LEAST, -1, 0, 21, MOST}) {
            bad("go(" + n + ")", x -> x.go(n));
        }
        for (int what : new int[] {LEAST, -1, 6, MOST}) {
            bad("now(" + what + ")", x -> x.now(what));
        }
        for (int r : new int[] {LEAST, -1, 20, MOST}) {
            bad("board(" + r + ")", x -> x.board(r));
        }
        bad("board(ROUND)", x -> x.board(x.now(0)));
        for (int what : new int[] {LEAST, -1, 4, MOST}) {
            bad("high(" + what + ")", x -> x.high(what));
        }
        for (int p : new int[] {LEAST, -1, 9, MOST}) {
            no("gain(" + p + ")", x -> x.gain(p));
            bad("renew(" + p + ")", x -> x.renew(p));
        }
        no("gain(one more)", x -> x.gain(x.count(0)));
        bad("renew(one more)", x -> x.renew(x.count(0)));
    }

    private static void badTried() {
        for (int v : new int[] {LEAST, -1, 1000, MOST}) {
            bad("revive(" + v + ")", x -> x.revive(v));
        }
        int[] most = {99, 9, 99, 9, 9};
        for (int rule = 0; rule < most.length; rule++) {
            int number = rule;
            int below = rule == 4 ? 0 : -1;
            for (int v : new int[] {LEAST, below, most[rule] + 1, MOST}) {
                bad("would(" + number + ", " + v + ", 0)", x -> x.would(number, v, 0));
            }
            for (int what : new int[] {LEAST, -1, 3, MOST}) {
                bad("would(" + number + ", 1, " + what + ")", x -> x.would(number, 1, what));
            }
        }
        for (int rule : new int[] {LEAST, -1, 5, MOST}) {
            bad("would(" + rule + ", 1, 0)", x -> x.would(rule, 1, 0));
        }
    }

    private static void badRiders() {
        for (int what : new int[] {LEAST, -1, 3, MOST}) {
            bad("ride(" + what + ", 1)", x -> x.ride(what, 1));
        }
        for (int v : new int[] {LEAST, -1, 100, MOST}) {
            for (int what = 0; what <= 2; what++) {
                int number = what;
                bad("ride(" + what + ", " + v + ")", x -> x.ride(number, v));
            }
        }
        for (int m : new int[] {LEAST, -1, 0, 1, 4, MOST}) {
            bad("rests(" + m + ", 2, 0)", x -> x.rests(m, 2, 0));
        }
        for (int r : new int[] {LEAST, -1, 0, 9, MOST}) {
            bad("rests(2, " + r + ", 0)", x -> x.rests(2, r, 0));
            bad("rests(3, " + r + ", 1)", x -> x.rests(3, r, 1));
        }
        for (int what : new int[] {LEAST, -1, 2, MOST}) {
            bad("rests(2, 2, " + what + ")", x -> x.rests(2, 2, what));
            bad("out(" + what + ")", x -> x.out(what));
        }
        for (int r : new int[] {LEAST, -1, 10, MOST}) {
            bad("hold(" + r + ", 1, 0)", x -> x.hold(r, 1, 0));
            bad("hold(9, " + r + ", 1)", x -> x.hold(9, r, 1));
        }
        for (int tenths : new int[] {LEAST, -1, 11, MOST}) {
            bad("hold(9, 1, " + tenths + ")", x -> x.hold(9, 1, tenths));
            bad("hold(9, 9, " + tenths + ")", x -> x.hold(9, 9, tenths));
        }
        for (int r = 0; r <= 9; r++) {
            int from = r;
            bad("hold(" + r + ", 2, one more)", x -> x.hold(from, 2, x.hold(from, from, 0) + 1));
        }
    }

    private static void badClues() {
        for (int price : new int[] {LEAST, -1, 1000, MOST}) {
            bad("clue(" + price + ")", x -> x.clue(price));
            bad("say(0, " + price + ")", x -> x.say(0, price));
        }
        for (int v : new int[] {LEAST, -1, 100, MOST}) {
            bad("fit(" + v + ", 0)", x -> x.fit(v, 0));
        }
        for (int what : new int[] {LEAST, -1, 4, MOST}) {
            bad("fit(9, " + what + ")", x -> x.fit(9, what));
        }
        for (int p : new int[] {LEAST, -1, 9, MOST}) {
            bad("say(" + p + ", 5)", x -> x.say(p, 5));
            bad("said(" + p + ", 0)", x -> x.said(p, 0));
        }
        bad("say(one more, 5)", x -> x.say(x.count(0), 5));
        bad("said(one more, 1)", x -> x.said(x.count(0), 1));
        for (int what : new int[] {LEAST, -1, 2, MOST}) {
            bad("said(0, " + what + ")", x -> x.said(0, what));
        }
    }

    private static void badKinds() {
        for (int kind : new int[] {LEAST, -1, 7, MOST}) {
            no("mark(" + kind + ", 0)", x -> x.mark(kind, 0));
        }
        for (int p : new int[] {LEAST, -1, 9, MOST}) {
            for (int kind = 0; kind <= 6; kind++) {
                int asked = kind;
                no("mark(" + kind + ", " + p + ")", x -> x.mark(asked, p));
            }
        }
        no("mark(6, one more)", x -> x.mark(6, x.count(0)));
        for (int image : new int[] {LEAST, -1, 2, MOST}) {
            bad("keep(" + image + ")", x -> x.keep(image));
            bad("back(" + image + ")", x -> x.back(image));
        }
        for (int what : new int[] {LEAST, -1, 5, MOST}) {
            bad("count(" + what + ")", x -> x.count(what));
        }
    }

    private static void ofState() {
        OVER.refuses("go(1)", STATE, x -> x.go(1));
        OVER.refuses("go(20)", STATE, x -> x.go(20));
        OVER.refuses("say(0, 0)", STATE, x -> x.say(0, 0));
        OVER.refuses("say(4, 999)", STATE, x -> x.say(4, 999));
        for (Twins twins : List.of(NEW, MIDDLE, CROWDED)) {
            twins.refuses("again()", STATE, PaperPays::again);
        }
        MIDDLE.refuses("gain(0)", NO, x -> x.gain(0));
        CROWDED.refuses("gain(8)", NO, x -> x.gain(8));
        NEW.refuses("back(0)", STATE, x -> x.back(0));
        NEW.refuses("back(1)", STATE, x -> x.back(1));
        MIDDLE.refuses("back(1)", STATE, x -> x.back(1));
        CROWDED.refuses("back(0)", STATE, x -> x.back(0));
        for (int what = 0; what <= 3; what++) {
            int asked = what;
            NEW.refuses("fit(9, " + what + ")", STATE, x -> x.fit(9, asked));
        }
        Twins two = new Twins(C, "two clues", () -> {
            PaperPays x = new PaperPays();
            x.clue(30);
            x.clue(28);
            return x;
        });
        two.refuses("fit(0, 0)", STATE, x -> x.fit(0, 0));
        two.refuses("fit(99, 3)", STATE, x -> x.fit(99, 3));
    }

    private static void ofFull() {
        for (int n = 1; n <= 8; n++) {
            int bytes = n;
            CROWDED.refuses("type(.., " + n + ")", FULL, x -> x.type(0x2020202020202020L, bytes));
        }
        CROWDED.refuses("clue(0)", FULL, x -> x.clue(0));
        CROWDED.refuses("clue(999)", FULL, x -> x.clue(999));
        for (int had = 393; had <= 399; had++) {
            int bytes = had;
            Twins nearly = new Twins(C, had + " bytes", () -> {
                PaperPays x = new PaperPays();
                Checks.type(x, "fee 2;" + " ".repeat(bytes - 6));
                return x;
            });
            nearly.refuses("type to 401", FULL, x -> x.type(0x2020202020202020L, 401 - bytes));
            nearly.refuses("type to more", FULL, x -> x.type(0x2020202020202020L, 8));
        }
    }

    /** Texts that don't stand, with the FAULT that is due; those ahead of it would change much. */
    private static void faults() {
        fault("rounds 9;person worth 1 1;x", 26);
        fault("rounds 9;person worth 1 1;rounds 8;", 26);
        fault("pays 3 3;end 1;start 2;lent 3;short 4;lid 5;fee 6;sales 10;", 56);
        fault("person worth 1 1;person rising 2 3 4", 36);
        fault("lid 0;", 4);
    }

    private static void fault(String text, int place) {
        Twins told = new Twins(C, "'" + text + "'", () -> {
            PaperPays x = middle();
            x.clear();
            Checks.type(x, text);
            return x;
        });
        told.refuses("rules()", -10 - place, PaperPays::rules);
    }

    private static void asked(String call, ToLongFunction<PaperPays> asked) {
        for (Twins twins : ALL) {
            twins.changesNothing(call, asked::applyAsLong);
        }
    }

    private static void askingChangesNothing() {
        asked("rule(0)", x -> x.rule(0));
        for (int what = 0; what <= 5; what++) {
            int number = what;
            asked("person(1, " + what + ")", x -> x.person(1, number));
            asked("now(" + what + ")", x -> x.now(number));
            asked("high(" + what + ")", x -> x.high(number));
            asked("count(" + what + ")", x -> x.count(number));
            asked("fit(40, " + what + ")", x -> x.fit(40, number));
        }
        asked("worth(1, 0)", x -> x.worth(1, 0));
        asked("odds(1, 9)", x -> x.odds(1, 9));
        asked("board(0)", x -> x.board(0));
        asked("gain(0)", x -> x.gain(0));
        asked("revive(0)", x -> x.revive(0));
        asked("revive(20)", x -> x.revive(20));
        asked("revive(999)", x -> x.revive(999));
        int[] otherwise = {70, 5, 11, 5, 1};
        for (int rule = 0; rule < otherwise.length; rule++) {
            int number = rule;
            asked("would(" + rule + ")", x -> x.would(number, otherwise[number], 0));
        }
        asked("rests(2, 8, 0)", x -> x.rests(2, 8, 0));
        asked("rests(3, 8, 1)", x -> x.rests(3, 8, 1));
        asked("hold(4, 4, 0)", x -> x.hold(4, 4, 0));
        asked("out(0)", x -> x.out(0));
        asked("out(1)", x -> x.out(1));
        asked("said(1, 0)", x -> x.said(1, 0));
        asked("truest()", PaperPays::truest);
        asked("trace()", PaperPays::trace);
    }
}
