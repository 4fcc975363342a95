/** Promises 23 to 27: each boundary that a sentence of the document names. */
public final class EdgesOfCluesTest {
    private static final Checks C = new Checks("EdgesOfCluesTest");
    private static final String STEADY = "rounds 5;pays 0 0;start 40;person worth 0 0;person worth 0 0;person worth 0 0;";

    private EdgesOfCluesTest() {
    }

    public static void main(String[] args) {
        cluesUntilFull();
        cluesOfEachPrice();
        cluesStay();
        fitOfThreeAtLeast();
        fitFromTheThirdOn();
        fitOfAllTwelve();
        fitBeyondTheLastRound();
        fitOfEndsOfV();
        fitTogetherTen();
        fitOfSeveralTheGreatest();
        fitByTheSize();
        fitByTheRules();
        sayForThisRound();
        sayAgain();
        sayUntilItIsOver();
        sayOfEachPrice();
        errorIsTheSize();
        errorOfTheLastSaid();
        errorOfOneRound();
        truestByHowOften();
        truestOfSeveralTheFirst();
        truestOfThoseWhoSaid();
        C.end();
    }

    private static PaperPays clues(String rules, int... prices) {
        PaperPays x = Checks.with(rules);
        for (int price : prices) {
            x.clue(price);
        }
        return x;
    }

    private static void fits(String of, PaperPays x, int v, int... due) {
        for (int what = 0; what < due.length; what++) {
            C.due(of + ": fit(" + v + ", " + what + ")", x.fit(v, what), due[what]);
        }
    }

    /** "(12 at most ..)": "how many there are. BAD; FULL." */
    private static void cluesUntilFull() {
        PaperPays x = new PaperPays();
        for (int i = 1; i <= 12; i++) {
            C.due("clue(-1) as " + i, x.clue(-1), -1);
            C.due("clue(1000) as " + i, x.clue(1000), -1);
            C.due("clue " + i, x.clue(i), i);
            C.due("count(3) of " + i, x.count(3), i);
        }
        C.due("a 13th", x.clue(1), -3);
        C.due("a 13th, BAD", x.clue(-1), -1);
        C.due("a 13th, BAD", x.clue(1000), -1);
        C.due("count(3)", x.count(3), 12);
    }

    /** "0 .. 999". */
    private static void cluesOfEachPrice() {
        for (int price : new int[] {0, 1, 998, 999}) {
            PaperPays x = clues("rounds 3;pays 0 0;", 0, 0);
            C.due("clue(" + price + ")", x.clue(price), 3);
            // Nothing by any of the three: all of it is error.
            C.due("its error", x.fit(0, 3), 10 * price);
        }
    }

    private static void cluesStay() {
        PaperPays x = clues("", 10, 20, 30);
        x.go(20);
        x.again();
        C.due("behind again()", x.count(3), 3);
        Checks.rules(x, "rounds 3;");
        C.due("behind rules()", x.count(3), 3);
        fits("as told", x, 0, 0, 10, 0, 0);
    }

    /** "STATE with fewer than 3"; BAD is ahead of it. */
    private static void fitOfThreeAtLeast() {
        PaperPays x = new PaperPays();
        for (int had = 0; had < 3; had++) {
            for (int what = 0; what <= 3; what++) {
                C.due("fit(0, " + what + ") of " + had, x.fit(0, what), -2);
            }
            C.due("fit(100, 0) of " + had, x.fit(100, 0), -1);
            C.due("fit(-1, 0) of " + had, x.fit(-1, 0), -1);
            C.due("fit(0, 4) of " + had, x.fit(0, 4), -1);
            C.due("fit(0, -1) of " + had, x.fit(0, -1), -1);
            x.clue(26);
        }
        fits("of 3", x, 0, 10, 0, 0, 0);
        C.due("fit(100, 0)", x.fit(100, 0), -1);
        C.due("fit(-1, 0)", x.fit(-1, 0), -1);
        C.due("fit(0, 4)", x.fit(0, 4), -1);
        C.due("fit(0, -1)", x.fit(0, -1), -1);
    }

    /** "from the third CLUE on (CLUE i, i 2 ..)": the first two are only ahead of others. */
    private static void fitFromTheThirdOn() {
        fits("whatever is ahead", clues("", 999, 0, 26), 0, 10, 0, 0, 0);
        fits("whatever is ahead", clues("", 0, 999, 26), 0, 10, 0, 0, 0);
        // The ROUND of the third is 2 (26), then 3 (24).
        fits("26, 24", clues("", 7, 7, 26, 24), 0, 10, 0, 0, 0);
        // Twice the CLUE ahead less the one ahead of it.
        fits("5, 9, 13, 17", clues("", 5, 9, 13, 17), 0, 0, 10, 0, 0);
        fits("9, 5, 1", clues("pays 9 9;", 9, 5, 1), 0, 0, 10, 0, 0);
    }

    private static void fitOfAllTwelve() {
        PaperPays x = clues("", 0, 0, 26, 24, 22, 20, 18, 16, 14, 12, 10);
        fits("eleven", x, 0, 10, 0, 0, 0);
        C.due("the twelfth", x.clue(18), 12);
        // 8 in ROUND 11; by rising 8, too.
        fits("twelve", x, 0, 10, 0, 0, 100);
    }

    /** "(WORTH beyond ROUND N: that of N.)" */
    private static void fitBeyondTheLastRound() {
        fits("beyond 3", clues("rounds 3;pays 2 2;end 50;", 0, 0, 52, 50, 50, 50, 50, 50, 50, 50, 50, 50), 0, 10, 0, 0, 0);
        fits("up to 11", clues("rounds 11;pays 2 2;end 50;", 0, 0, 68, 66, 64, 62, 60, 58, 56, 54, 52, 50), 0, 10, 0, 0, 0);
        fits("up to 12", clues("rounds 12;pays 2 2;end 50;", 0, 0, 70, 68, 66, 64, 62, 60, 58, 56, 54, 52), 0, 10, 0, 0, 0);
        fits("beyond 10", clues("rounds 10;pays 2 2;end 50;", 0, 0, 66, 64, 62, 60, 58, 56, 54, 52, 50, 50), 0, 10, 0, 0, 0);
    }

    /** "V (0 .. 99)". */
    private static void fitOfEndsOfV() {
        PaperPays x = clues("pays 0 0;end 50;", 200, 10, 99);
        fits("V 99", x, 99, 0, 0, 10, 0);
        fits("V 98", x, 98, 0, 0, 10, 10);
        x = clues("pays 0 0;end 50;", 10, 200, 0);
        fits("V 0", x, 0, 0, 0, 10, 0);
        fits("V 1", x, 1, 0, 0, 10, 10);
    }

    /** "shares a, b, c (10 together)": by WORTH 50, rising 0, V 90, so that 50 a and 90 c are to be met. */
    private static void fitTogetherTen() {
        for (int a = 0; a <= 10; a++) {
            for (int c = 0; a + c <= 10; c++) {
                PaperPays x = clues("pays 0 0;end 50;", 100, 50, 5 * a + 9 * c);
                // Nine of 50 are five of 90: then the greater a is the answer, if there is room for it.
                int more = c >= 5 && a + c <= 6 ? 1 : 0;
                int dueA = a + 9 * more;
                int dueC = c - 5 * more;
                fits("shares " + a + ", " + c, x, 90, dueA, 10 - dueA - dueC, dueC, 0);
            }
        }
        fits("5, 0, 5", clues("pays 0 0;end 50;", 0, 90, 70, 70), 90, 5, 0, 5, 0);
        fits("3, 3, 4", clues("pays 0 0;end 40;", 0, 100, 76), 10, 3, 3, 4, 0);
    }

    /** "of several the greatest a, then b". */
    private static void fitOfSeveralTheGreatest() {
        fits("all fit", clues("pays 0 0;end 20;", 20, 20, 20), 20, 10, 0, 0, 0);
        fits("rising and V", clues("pays 0 0;end 90;", 20, 20, 20), 20, 0, 10, 0, 0);
        fits("worth and V", clues("pays 0 0;end 20;", 80, 20, 20), 20, 10, 0, 0, 0);
        fits("worth and rising", clues("pays 0 0;end 20;", 20, 20, 20), 80, 10, 0, 0, 0);
        // 20 a, 40 b, 0 c: 100 by 5 0 5, 3 1 6, 1 2 7; the greatest a is 5.
        fits("of three", clues("pays 0 0;end 20;", 20, 30, 10), 0, 5, 0, 5, 0);
        // 20 a, 40 b, 30 c: 300 whenever a is b.
        fits("the greatest a", clues("pays 0 0;end 20;", 20, 30, 30), 30, 5, 5, 0, 0);
        // 0 a, 10 b, 10 c: none of worth, and the greatest b.
        fits("the greatest b", clues("pays 0 0;end 0;", 10, 10, 10), 10, 0, 10, 0, 0);
        fits("as far off", clues("pays 0 0;end 0;", 0, 0, 5), 10, 5, 0, 5, 0);
    }

    /** "less 10 times CLUE i, its size": too much and too little are added alike. */
    private static void fitByTheSize() {
        // WORTH 20 always: 10 too much, 10 too little. By V 20 or rising it is no better.
        fits("over and under", clues("pays 0 0;end 20;", 20, 20, 10, 30), 20, 10, 0, 0, 200);
        fits("under and over", clues("pays 0 0;end 20;", 20, 20, 30, 10), 20, 10, 0, 0, 200);
        fits("over", clues("pays 0 0;end 20;", 20, 20, 10), 20, 10, 0, 0, 100);
        fits("under", clues("pays 0 0;end 20;", 20, 20, 30), 20, 10, 0, 0, 100);
        fits("the most", clues("pays 0 0;end 0;", 0, 0, 999), 0, 10, 0, 0, 9990);
    }

    private static void fitByTheRules() {
        PaperPays x = clues("pays 0 0;end 20;", 9, 9, 20);
        fits("as told", x, 0, 10, 0, 0, 0);
        Checks.rules(x, "pays 0 0;end 30;");
        // 300, 90 or nothing by a tenth each: 200 by 5 5 0 is 195, by 6 0 4 180; 5 a and 5 b: 5 short.
        C.due("told anew: errors", x.fit(0, 3), leastErrors(30, 9, 0, 200));
        x.go(9);
        C.due("on the way: errors", x.fit(0, 3), leastErrors(30, 9, 0, 200));
    }

    private static int leastErrors(int worth, int rising, int v, int clue) {
        int least = Integer.MAX_VALUE;
        for (int a = 0; a <= 10; a++) {
            for (int b = 0; a + b <= 10; b++) {
                least = Math.min(least, Math.abs(a * worth + b * rising + (10 - a - b) * v - clue));
            }
        }
        return least;
    }

    /** "what was said for this ROUND already (NONE)". */
    private static void sayForThisRound() {
        PaperPays x = Checks.with(STEADY);
        for (int r = 0; r < 5; r++) {
            C.due("nothing said yet in " + r, x.say(1, 10 + r), -9);
            C.due("said in " + r, x.say(1, 20 + r), 10 + r);
            C.due("said again in " + r, x.say(1, 30 + r), 20 + r);
            C.due("of another one", x.say(0, 7), -9);
            x.go(1);
        }
    }

    /** "(said again, what is later counts)": said once more than 0, and 0 at last. */
    private static void sayAgain() {
        PaperPays x = Checks.with(STEADY);
        x.say(0, 39);
        x.say(0, 0);
        x.say(1, 0);
        x.say(1, 39);
        x.go(1);
        C.due("the later one", x.said(0, 0), 40);
        C.due("once", x.said(0, 1), 1);
        C.due("the later one", x.said(1, 0), 1);
        C.due("once", x.said(1, 1), 1);
    }

    /** "STATE: it is over". */
    private static void sayUntilItIsOver() {
        PaperPays x = Checks.with(STEADY);
        x.go(4);
        C.due("ahead of the last", x.say(0, 44), -9);
        x.go(1);
        C.due("over", x.say(0, 44), -2);
        C.due("over, BAD price", x.say(0, 1000), -1);
        C.due("over, BAD person", x.say(3, 44), -1);
        C.due("the last one is counted", x.said(0, 0), 4);
        x.again();
        C.due("anew", x.say(0, 44), -9);
    }

    private static void sayOfEachPrice() {
        PaperPays x = Checks.with(STEADY);
        int was = -9;
        for (int price : new int[] {0, 1, 998, 999, 0}) {
            C.due("say(2, -1)", x.say(2, -1), -1);
            C.due("say(2, 1000)", x.say(2, 1000), -1);
            C.due("say(2, " + price + ")", x.say(2, price), was);
            was = price;
        }
        C.due("say(3, 0)", x.say(3, 0), -1);
        C.due("say(-1, 0)", x.say(-1, 0), -1);
    }

    /** "the size of what it is off is added to the person's ERROR, and one to how often". */
    private static void errorIsTheSize() {
        PaperPays x = Checks.with(STEADY);
        x.say(0, 38);
        x.say(1, 43);
        x.say(2, 40);
        C.due("not yet", x.said(0, 0) + x.said(0, 1), 0);
        x.go(1);
        int[] errors = {2, 3, 0};
        for (int p = 0; p < 3; p++) {
            C.due("error of " + p, x.said(p, 0), errors[p]);
            C.due("how often " + p, x.said(p, 1), 1);
        }
        x.say(0, 999);
        x.say(1, 0);
        x.go(1);
        C.due("959 more", x.said(0, 0), 961);
        C.due("40 more", x.said(1, 0), 43);
        C.due("twice", x.said(0, 1), 2);
        C.due("once", x.said(2, 1), 1);
        C.due("said(3, 0)", x.said(3, 0), -1);
        C.due("said(-1, 0)", x.said(-1, 0), -1);
        C.due("said(0, 2)", x.said(0, 2), -1);
        C.due("said(0, -1)", x.said(0, -1), -1);
    }

    /** By the PRICE behind the ROUND, not the one ahead of it. */
    private static void errorOfTheLastSaid() {
        PaperPays x = Checks.with("rounds 3;pays 0 0;start 50;person mistaken 20 99 0;person mistaken 9 0 1;");
        x.say(0, 50);
        x.say(1, 15);
        x.go(1);
        C.due("50 for 15", x.said(0, 0), 35);
        C.due("15 for 15", x.said(1, 0), 0);
    }

    /** Of one ROUND only: of many that go by at once the first. */
    private static void errorOfOneRound() {
        PaperPays x = Checks.with(STEADY);
        x.say(0, 30);
        x.go(5);
        C.due("once", x.said(0, 1), 1);
        C.due("10", x.said(0, 0), 10);
        x.again();
        x.go(5);
        C.due("still once", x.said(0, 1), 1);
        C.due("nothing of who said nothing", x.said(1, 1), 0);
    }

    private static void said(PaperPays x, int... prices) {
        for (int p = 0; p < prices.length; p++) {
            if (prices[p] >= 0) {
                x.say(p, prices[p]);
            }
        }
        x.go(1);
    }

    /** "the one with the least ERROR by how often". */
    private static void truestByHowOften() {
        PaperPays x = Checks.with(STEADY);
        said(x, 37, 42);
        C.due("3, 2", x.truest(), 1);
        said(x, 40);
        C.due("3 by 2, 2", x.truest(), 0);
        said(x, -1, 41);
        C.due("3 by 2, 3 by 2", x.truest(), 0);
        said(x, -1, 41);
        C.due("3 by 2, 4 by 3", x.truest(), 1);
        said(x, 41, -1, 41);
        C.due("4 by 3, 4 by 3, 1", x.truest(), 2);
        x.again();
        C.due("anew", x.truest(), 2);
        said(x, 40, 40, 50);
        C.due("4 by 4, 4 by 4, 11 by 2", x.truest(), 0);
    }

    /** "of several the first". */
    private static void truestOfSeveralTheFirst() {
        PaperPays x = Checks.with(STEADY);
        said(x, -1, 45, 35);
        C.due("5, 5", x.truest(), 1);
        said(x, 35);
        C.due("5, 5, 5", x.truest(), 0);
        said(x, 35, 45, 45);
        C.due("10 by 2 each", x.truest(), 0);
        said(x, -1, -1, 45);
        C.due("10 by 2, 10 by 2, 15 by 3", x.truest(), 0);
        said(x, 46, 44, 45);
        C.due("16 by 3, 14 by 3, 20 by 4", x.truest(), 1);
        x = Checks.with(STEADY);
        said(x, 40, 40, 40);
        C.due("none is off", x.truest(), 0);
    }

    /** "NONE": nobody has said anything that came. */
    private static void truestOfThoseWhoSaid() {
        C.due("no people", new PaperPays().truest(), -9);
        PaperPays x = Checks.with(STEADY);
        C.due("nothing said", x.truest(), -9);
        x.go(1);
        C.due("nothing said in a ROUND", x.truest(), -9);
        x.say(2, 999);
        C.due("said, not come", x.truest(), -9);
        x.go(1);
        C.due("far off, alone", x.truest(), 2);
        Checks.rules(x, STEADY);
        C.due("rules anew", x.truest(), -9);
    }
}
