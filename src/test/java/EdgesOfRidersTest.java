/** Promises 19 to 22: each boundary that a sentence of the document names. */
public final class EdgesOfRidersTest {
    private static final Checks C = new Checks("EdgesOfRidersTest");

    private EdgesOfRidersTest() {
    }

    public static void main(String[] args) {
        rideAnswersWhatItWas();
        ridersAreTwoOrThree();
        roundsUpToR();
        asMuchIsNotMore();
        shareIsRoundedDown();
        leftOfTheOthers();
        firstByRounds();
        thereIsAlwaysARest();
        holdGoesAcross();
        holdMoreThanThereAre();
        holdOfEachRound();
        outOfEachRound();
        outOfSeveralTheFirst();
        outInTheMean();
        halfIsNotRounded();
        C.end();
    }

    private static PaperPays riders(int base, int step, int left) {
        PaperPays x = new PaperPays();
        x.ride(0, base);
        x.ride(1, step);
        x.ride(2, left);
        return x;
    }

    private static void rests(PaperPays x, int m, int r, int many, int first) {
        C.due("rests(" + m + ", " + r + ", 0)", x.rests(m, r, 0), many);
        C.due("rests(" + m + ", " + r + ", 1)", x.rests(m, r, 1), first);
    }

    /** "becomes v: what it was (30, 5, 10 at first)", v 0 .. 99. */
    private static void rideAnswersWhatItWas() {
        int[] first = {30, 5, 10};
        for (int what = 0; what <= 2; what++) {
            PaperPays x = new PaperPays();
            int was = first[what];
            for (int v : new int[] {0, 99, 1, 98, 50, 0}) {
                C.due("ride(" + what + ", " + v + ")", x.ride(what, v), was);
                C.due("ride(" + what + ", 100)", x.ride(what, 100), -1);
                C.due("ride(" + what + ", -1)", x.ride(what, -1), -1);
                was = v;
            }
            for (int other = 0; other <= 2; other++) {
                C.due("the others stay", x.ride(other, 3), other == what ? 0 : first[other]);
            }
            C.due("ride(3, 3)", x.ride(3, 3), -1);
            C.due("ride(-1, 3)", x.ride(-1, 3), -1);
        }
    }

    /** "m (2, 3) of them". */
    private static void ridersAreTwoOrThree() {
        PaperPays x = riders(0, 0, 0);
        for (int m = -1; m <= 5; m++) {
            int all = m == 2 ? 9 : 27;
            C.due("rests(" + m + ", 2, 0)", x.rests(m, 2, 0), m == 2 || m == 3 ? all : -1);
            C.due("rests(" + m + ", 2, 1)", x.rests(m, 2, 1), m == 2 || m == 3 ? 0 : -1);
        }
        for (int what = -1; what <= 2; what++) {
            C.due("rests(2, 2, " + what + ")", x.rests(2, 2, what), what == 0 ? 9 : what == 1 ? 0 : -1);
        }
    }

    /** "ROUNDS 0 .. R (R 1 .. 8)". */
    private static void roundsUpToR() {
        PaperPays x = riders(0, 0, 0);
        for (int r = -1; r <= 10; r++) {
            boolean may = r >= 1 && r <= 8;
            C.due("rests(2, " + r + ", 0)", x.rests(2, r, 0), may ? (r + 1) * (r + 1) : -1);
            C.due("rests(3, " + r + ", 0)", x.rests(3, r, 0), may ? (r + 1) * (r + 1) * (r + 1) : -1);
        }
        // PRICE 99 a ROUND, nothing left: 0 0; 1 1 (49 each; 0 ahead); 2 2 (99 each, 99 ahead); not 3 3 (148, 198).
        x = riders(0, 99, 0);
        for (int r = 1; r <= 8; r++) {
            rests(x, 2, r, r == 1 ? 2 : 3, 0);
            // Three: 0 0 0, two of them in 0 and one later, 1 1 1.
            rests(x, 3, r, 2 + 3 * r, 0);
        }
    }

    /** "none would have more": as much is no reason to go. */
    private static void asMuchIsNotMore() {
        rests(riders(20, 0, 9), 2, 1, 1, 0);
        // 0 0 (10 each, or 10 left), 0 1, 1 0.
        rests(riders(20, 0, 10), 2, 1, 3, 0);
        // 0 1, 1 0.
        rests(riders(20, 0, 11), 2, 1, 2, 1);
        // 0 1, 1 0, 1 1: 10 each, as much as alone in 0.
        rests(riders(10, 10, 6), 2, 1, 3, 1);
        rests(riders(10, 10, 5), 2, 1, 4, 0);
        rests(riders(10, 10, 4), 2, 1, 2, 0);
        // 0 1: who is alone in 0 has 11, in 1 half of 21.
        rests(riders(11, 10, 6), 2, 1, 2, 1);
    }

    /** "PRICE by how many, rounded down". */
    private static void shareIsRoundedDown() {
        // Half of 21 is 10, no more than what is left; nor a third of 31, 32.
        rests(riders(21, 0, 10), 2, 1, 3, 0);
        rests(riders(22, 0, 10), 2, 1, 1, 0);
        rests(riders(31, 0, 10), 3, 1, 4, 0);
        rests(riders(32, 0, 10), 3, 1, 4, 0);
        rests(riders(33, 0, 10), 3, 1, 1, 0);
    }

    /** "each other one has LEFT". */
    private static void leftOfTheOthers() {
        // One gets out at 50, the others have 50 or more: it may be anyone, in any but the last ROUND.
        rests(riders(50, 0, 99), 2, 1, 2, 1);
        rests(riders(50, 0, 99), 3, 1, 3, 11);
        rests(riders(50, 0, 0), 2, 1, 1, 0);
        // Half of 50 is no less than 25: 0 0 0 has 16 each, two in 0 25 each, one in 0 leaves 25.
        rests(riders(50, 0, 25), 3, 1, 6, 1);
        rests(riders(50, 0, 26), 3, 1, 3, 11);
    }

    /** "the first by ROUNDS (told as figures of ten, the first rider's the highest)". */
    private static void firstByRounds() {
        C.due("0 1", riders(20, 0, 11).rests(2, 8, 1), 1);
        C.due("0 0 1", riders(99, 0, 40).rests(3, 8, 1), 1);
        C.due("1 1", riders(0, 99, 1).rests(2, 8, 1), 11);
        C.due("1 1 1", riders(0, 99, 1).rests(3, 8, 1), 111);
        C.due("7 8", riders(10, 1, 99).rests(2, 8, 1), 78);
        C.due("7 8 8", riders(90, 1, 99).rests(3, 8, 1), 788);
        C.due("1 2", riders(10, 1, 99).rests(2, 2, 1), 12);
    }

    /** NONE goes with 0; for all BASES, STEPS and LEFTS there was at least one REST, so it doesn't come. */
    private static void thereIsAlwaysARest() {
        for (int base = 0; base <= 99; base += 11) {
            for (int step = 0; step <= 99; step += 9) {
                for (int left = 0; left <= 99; left += 11) {
                    PaperPays x = riders(base, step, left);
                    for (int m = 2; m <= 3; m++) {
                        int many = x.rests(m, 4, 0);
                        int first = x.rests(m, 4, 1);
                        C.due("a rest of " + base + ", " + step + ", " + left, many > 0 && first >= 0 ? 1 : 0, 1);
                    }
                }
            }
        }
    }

    /** "Tenths of HOLDS go from one ROUND to another: those of the other one then." */
    private static void holdGoesAcross() {
        PaperPays x = new PaperPays();
        C.due("1 to 0", x.hold(9, 0, 1), 1);
        C.due("9 to 0", x.hold(9, 0, 9), 10);
        C.due("none is left", x.hold(9, 0, 1), -1);
        C.due("all back", x.hold(0, 9, 10), 10);
        C.due("3 to 4", x.hold(9, 4, 3), 3);
        C.due("2 of these", x.hold(4, 8, 2), 2);
        C.due("1 is left", x.hold(4, 8, 2), -1);
        C.due("that one", x.hold(4, 8, 1), 3);
        C.due("7 to 8", x.hold(9, 8, 7), 10);
        C.due("to itself", x.hold(8, 8, 10), 10);
        C.due("to itself, none", x.hold(3, 3, 0), 0);
        C.due("none goes", x.hold(8, 2, 0), 0);
        C.due("nothing has gone", x.hold(8, 8, 0), 10);
    }

    /** "BAD: more than there are, too." */
    private static void holdMoreThanThereAre() {
        for (int there = 0; there <= 10; there++) {
            PaperPays x = new PaperPays();
            x.hold(9, 5, there);
            C.due("one more than " + there, x.hold(5, 1, there + 1), -1);
            C.due("one more than " + there + " to itself", x.hold(5, 5, there + 1), -1);
            C.due("-1 of " + there, x.hold(5, 1, -1), -1);
            C.due("all stay", x.hold(5, 5, there), there);
            C.due("all go", x.hold(5, 1, there), there);
            C.due("none is there now", x.hold(5, 1, 1), -1);
        }
    }

    /** "ROUNDS 0 .. 9 (10 together; 10 in ROUND 9 at first)". */
    private static void holdOfEachRound() {
        for (int r = 0; r <= 9; r++) {
            PaperPays x = new PaperPays();
            C.due("at first in " + r, x.hold(r, r, 0), r == 9 ? 10 : 0);
            C.due("hold(9, " + r + ", 10)", x.hold(9, r, 10), 10);
            int together = 0;
            for (int other = 0; other <= 9; other++) {
                together += x.hold(other, other, 0);
            }
            C.due("together", together, 10);
            C.due("hold(" + r + ", 10, 1)", x.hold(r, 10, 1), -1);
            C.due("hold(" + r + ", -1, 1)", x.hold(r, -1, 1), -1);
        }
        PaperPays x = new PaperPays();
        C.due("hold(10, 9, 0)", x.hold(10, 9, 0), -1);
        C.due("hold(-1, 9, 0)", x.hold(-1, 9, 0), -1);
    }

    private static void outs(String of, PaperPays x, int round, int much) {
        C.due(of + ": out(0)", x.out(0), round);
        C.due(of + ": out(1)", x.out(1), much);
    }

    /** "the ROUND 0 .. 9 in which what one has in the mean is the greatest". */
    private static void outOfEachRound() {
        // The other one is sure to get out in r: just ahead of it is best, in 0 together.
        for (int r = 0; r <= 9; r++) {
            PaperPays x = new PaperPays();
            x.hold(9, r, 10);
            outs("the other in " + r, x, Math.max(0, r - 1), r == 0 ? 300 : 20 * (30 + 5 * (r - 1)));
            // With much left it is best to be late: the ROUND behind that of the other one.
            x = riders(10, 5, 99);
            x.hold(9, r, 10);
            outs("the other in " + r + ", 99 left", x, r < 9 ? r + 1 : 8, r < 9 ? 1980 : 1000);
        }
        PaperPays x = new PaperPays();
        C.due("out(-1)", x.out(-1), -1);
        C.due("out(2)", x.out(2), -1);
    }

    /** "of several the first". */
    private static void outOfSeveralTheFirst() {
        PaperPays x = riders(50, 0, 50);
        outs("all as good but together", x, 0, 1000);
        x = riders(50, 0, 25);
        x.hold(9, 0, 10);
        outs("together as good as left", x, 0, 500);
        x = riders(50, 0, 26);
        x.hold(9, 0, 10);
        outs("left in any ROUND", x, 1, 520);
        outs("nothing", riders(0, 0, 0), 0, 0);
        x = riders(40, 10, 0);
        x.hold(9, 5, 10);
        // 80 alone in 4; in 5 half of 90.
        outs("ahead", x, 4, 1600);
        x = riders(40, 0, 0);
        x.hold(9, 5, 10);
        outs("none grows", x, 0, 800);
    }

    /** By tenths: what is held of ROUNDS 2 and 7. */
    private static void outInTheMean() {
        for (int tenths = 0; tenths <= 10; tenths++) {
            PaperPays x = riders(10, 10, 5);
            x.hold(9, 7, 10);
            x.hold(7, 2, tenths);
            // In 1: 20 for sure. In 6: 70 by 10 less the tenths, 5 by these.
            int late = 2 * (70 * (10 - tenths) + 5 * tenths);
            outs("tenths " + tenths, x, tenths <= 7 ? 6 : 1, Math.max(late, 400));
        }
    }

    /** "how much, times 20 (a half of PRICE not rounded)". */
    private static void halfIsNotRounded() {
        for (int base = 0; base <= 9; base++) {
            PaperPays x = riders(base, 0, 0);
            x.hold(9, 0, 10);
            outs("half of " + base, x, 0, 10 * base);
            x.hold(0, 9, 3);
            outs("half of " + base + " by 7, all of it by 3", x, 0, 7 * base + 6 * base);
        }
    }
}
