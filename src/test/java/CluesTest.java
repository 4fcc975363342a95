/** Promises 23 to 27: clues, fit, what is said and who is truest. */
public final class CluesTest {
    private static final Checks C = new Checks("CluesTest");

    private CluesTest() {
    }

    public static void main(String[] args) {
        clue();
        fit();
        fitOfSeveral();
        say();
        said();
        truest();
        C.end();
    }

    private static PaperPays clues(String rules, int... prices) {
        PaperPays x = Checks.with(rules);
        for (int price : prices) {
            x.clue(price);
        }
        return x;
    }

    private static void fits(String of, PaperPays x, int v, int... due) {
        for (int what = 0; what < due.length; what++) {
            C.due(of + ": fit(" + v + ", " + what + ")", x.fit(v, what), due[what]);
        }
    }

    private static void clue() {
        PaperPays x = new PaperPays();
        C.due("clue(-1)", x.clue(-1), -1);
        C.due("clue(1000)", x.clue(1000), -1);
        for (int i = 1; i <= 12; i++) {
            C.due("clue " + i, x.clue(i == 1 ? 999 : 0), i);
        }
        C.due("clue 13", x.clue(5), -3);
        C.due("clue 13, BAD", x.clue(-1), -1);
        C.due("clue 13, BAD", x.clue(1000), -1);
        C.due("count(3)", x.count(3), 12);
    }

    private static void fit() {
        PaperPays x = clues("", 30, 28);
        C.due("fit of two", x.fit(0, 0), -2);
        C.due("fit of two, BAD", x.fit(-1, 0), -1);
        C.due("fit of two, BAD", x.fit(0, 4), -1);
        x.clue(26);
        // WORTH in ROUND 2 is 26, and so is twice 28 less 30.
        fits("all three", x, 26, 10, 0, 0, 0);
        fits("worth or rising", x, 9, 10, 0, 0, 0);
        C.due("fit(100, 0)", x.fit(100, 0), -1);
        C.due("fit(-1, 0)", x.fit(-1, 0), -1);
        C.due("fit(0, -1)", x.fit(0, -1), -1);
        C.due("fit(0, 4)", x.fit(0, 4), -1);
        x = clues("", 5, 5, 77, 77);
        // Only 77 fits 77: ROUND 2: 26 and 5; ROUND 3: 24 and 149.
        fits("mistaken", x, 77, 0, 0, 10, 0);
        x = clues("", 10, 20, 30, 40);
        fits("rising", x, 99, 0, 10, 0, 0);
        x = clues("rounds 3;pays 0 0;end 20;", 0, 0, 10, 10, 10);
        // WORTH is 20 in ROUND 2 and 3, and beyond: ROUND 4. V 0. ROUND 2: 20 a less 100.
        // ROUND 3 (20 ahead) and 4 (10 ahead): a 5 would leave 20 b and 10 b.
        fits("beyond the rounds", x, 0, 5, 0, 5, 0);
        // 20 a less 100, 20 a and 20 b less 100, 20 a and 10 b less 100: by 5 and 5 0, 100, 50.
        fits("a greater V", x, 30, 5, 5, 0, 150);
    }

    private static void fitOfSeveral() {
        PaperPays x = clues("pays 0 0;rounds 3;end 10;", 10, 10, 10);
        fits("all fit: the greatest a", x, 10, 10, 0, 0, 0);
        x = clues("pays 0 0;rounds 3;end 0;", 10, 10, 10);
        fits("rising and V: the greatest b", x, 10, 0, 10, 0, 0);
        x = clues("pays 0 0;rounds 3;end 1;", 0, 0, 9);
        // 1 a less 90, nothing by rising, 99 c: a 9, c 1: 18; c 1 alone: 9; a 1 c 1: 10.
        fits("the size of errors", x, 99, 0, 9, 1, 9);
        x = clues("pays 0 0;rounds 3;end 9;", 999, 0, 0);
        // By rising -999 each: best with none: 0 of worth and 10 of V 0.
        fits("below 0", x, 0, 0, 0, 10, 0);
        // 111 a less 999 b .. with no V: nothing at all is nearest.
        fits("below 0, V 50", x, 50, 10, 0, 0, 90);
    }

    private static void say() {
        PaperPays x = Checks.with("rounds 3;person worth 1 1;person worth 1 1;");
        C.due("say(0, 5)", x.say(0, 5), -9);
        C.due("say(0, 0)", x.say(0, 0), 5);
        C.due("say(0, 999)", x.say(0, 999), 0);
        C.due("say(1, 9)", x.say(1, 9), -9);
        C.due("say(0, 1000)", x.say(0, 1000), -1);
        C.due("say(0, -1)", x.say(0, -1), -1);
        C.due("say(2, 5)", x.say(2, 5), -1);
        C.due("say(-1, 5)", x.say(-1, 5), -1);
        x.go(1);
        C.due("said for the round that was", x.say(0, 7), -9);
        x.go(2);
        C.due("say over", x.say(0, 5), -2);
        C.due("say over, BAD", x.say(0, 1000), -1);
        C.due("say over, BAD", x.say(5, 5), -1);
        x.again();
        C.due("say anew", x.say(0, 5), -9);
    }

    /** The price is 20, 19, 19 behind the rounds. */
    private static void said() {
        PaperPays x = Checks.with("rounds 3;pays 2 2;end 4;person mistaken 30 90 0;person worth 10 3;");
        C.due("said(0, 0)", x.said(0, 0), 0);
        C.due("said(0, 1)", x.said(0, 1), 0);
        x.say(0, 3);
        x.say(0, 25);
        C.due("said(0, 1) ahead", x.said(0, 1), 0);
        x.say(1, 12);
        x.go(1);
        C.due("too much", x.said(0, 0), 5);
        C.due("too little", x.said(1, 0), 8);
        C.due("once", x.said(0, 1), 1);
        x.say(1, 0);
        x.go(2);
        C.due("of one round only", x.said(1, 0), 27);
        C.due("twice", x.said(1, 1), 2);
        C.due("said nothing more", x.said(0, 0), 5);
        C.due("still once", x.said(0, 1), 1);
        C.due("said(2, 0)", x.said(2, 0), -1);
        C.due("said(-1, 0)", x.said(-1, 0), -1);
        C.due("said(0, 2)", x.said(0, 2), -1);
        C.due("said(0, -1)", x.said(0, -1), -1);
    }

    private static void truest() {
        PaperPays x = Checks.with("rounds 20;start 50;person worth 0 0;person worth 0 0;person worth 0 0;");
        C.due("none has said", x.truest(), -9);
        x.say(2, 60);
        C.due("none is behind", x.truest(), -9);
        x.go(1);
        C.due("the only one", x.truest(), 2);
        x.say(1, 40);
        x.go(1);
        C.due("as true: the first", x.truest(), 1);
        x.say(2, 51);
        x.go(1);
        // 10 by 1 against 11 by 2.
        C.due("by how often", x.truest(), 2);
        x.say(0, 55);
        x.go(1);
        C.due("less in the mean: 5 against 5.5", x.truest(), 0);
        x.say(0, 57);
        x.go(1);
        C.due("6 against 5.5", x.truest(), 2);
        x.say(1, 50);
        x.go(1);
        C.due("10 by 2 against 11 by 2", x.truest(), 1);
        x.go(20);
        x.again();
        C.due("errors stay", x.truest(), 1);
    }
}
