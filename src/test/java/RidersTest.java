/** Promises 19 to 22: riders, rests, holds, out. */
public final class RidersTest {
    private static final Checks C = new Checks("RidersTest");

    private RidersTest() {
    }

    public static void main(String[] args) {
        ride();
        restsOfTwo();
        restsOfThree();
        restsRefused();
        hold();
        out();
        C.end();
    }

    private static PaperPays riders(int base, int step, int left) {
        PaperPays x = new PaperPays();
        x.ride(0, base);
        x.ride(1, step);
        x.ride(2, left);
        return x;
    }

    private static void ride() {
        PaperPays x = new PaperPays();
        C.due("ride(0, 0)", x.ride(0, 0), 30);
        C.due("ride(1, 99)", x.ride(1, 99), 5);
        C.due("ride(2, 7)", x.ride(2, 7), 10);
        C.due("ride(0, 1)", x.ride(0, 1), 0);
        C.due("ride(1, 2)", x.ride(1, 2), 99);
        C.due("ride(2, 3)", x.ride(2, 3), 7);
        C.due("ride(-1, 1)", x.ride(-1, 1), -1);
        C.due("ride(3, 1)", x.ride(3, 1), -1);
        C.due("ride(0, -1)", x.ride(0, -1), -1);
        C.due("ride(0, 100)", x.ride(0, 100), -1);
        C.due("ride(0, 9) after BAD", x.ride(0, 9), 1);
    }

    private static void rests(String of, PaperPays x, int m, int r, int many, int first) {
        C.due(of + ": rests(" + m + ", " + r + ", 0)", x.rests(m, r, 0), many);
        C.due(of + ": rests(" + m + ", " + r + ", 1)", x.rests(m, r, 1), first);
    }

    private static void restsOfTwo() {
        // Half of 30, 35 .. is less than all of the round ahead: only both at once, at first.
        rests("as at first", new PaperPays(), 2, 8, 1, 0);
        // 10 and 99 a round: half of what comes next is more, so waiting together stands:
        // half of 10 is 5; (1, 1): 54 each, alone in 0 only 10; the left one has 0.
        rests("steep", riders(10, 99, 0), 2, 1, 2, 0);
        // (2, 2) as well: 104 each, alone in 1 109: no rest.
        rests("steep, more rounds", riders(10, 99, 0), 2, 2, 2, 0);
        // What is left is more than any price: one gets out in 1 at 11 (in 2 it would be half of 12).
        rests("better left", riders(10, 1, 99), 2, 2, 2, 12);
        // Both in 0: 10 each, left 10; (0, 1) and (1, 0), too: neither would have more; both in 1: alone in 0 20.
        rests("as good", riders(20, 0, 10), 2, 1, 3, 0);
        rests("all nothing", riders(0, 0, 0), 2, 1, 4, 0);
        rests("all nothing, 8", riders(0, 0, 0), 2, 8, 81, 0);
    }

    private static void restsOfThree() {
        // All in 0 have 10 each, two in 0 15 each and the third, in 1 or 2, 10.
        rests("as at first", new PaperPays(), 3, 2, 7, 0);
        rests("one out", riders(30, 0, 40), 3, 2, 6, 22);
        // Two in 0 have 49 each; the third is in one of 1 .. 8.
        rests("two out", riders(99, 0, 40), 3, 8, 24, 1);
        rests("all nothing", riders(0, 0, 0), 3, 1, 8, 0);
        rests("all nothing, 8", riders(0, 0, 0), 3, 8, 729, 0);
        // 1 shared by three is nothing, and so is 1 by two: only all in 1 is none.
        rests("rounded down", riders(1, 0, 0), 3, 1, 7, 0);
        // Out in the last round at 91 ; the two others have 99.
        rests("the last round", riders(90, 1, 99), 3, 1, 3, 11);
        // One in 1 at 91, not 90 in 0, nor a third of 92 in 2.
        rests("a first one above 100", riders(90, 1, 99), 3, 2, 3, 122);
    }

    private static void restsRefused() {
        PaperPays x = new PaperPays();
        C.due("rests(1, 2, 0)", x.rests(1, 2, 0), -1);
        C.due("rests(4, 2, 0)", x.rests(4, 2, 0), -1);
        C.due("rests(2, 0, 0)", x.rests(2, 0, 0), -1);
        C.due("rests(2, 9, 0)", x.rests(2, 9, 0), -1);
        C.due("rests(2, 2, -1)", x.rests(2, 2, -1), -1);
        C.due("rests(2, 2, 2)", x.rests(2, 2, 2), -1);
        // With these numbers there was always a rest; NONE would go with 0.
        for (int base = 0; base < 100; base += 3) {
            for (int left = 0; left < 100; left += 7) {
                PaperPays y = riders(base, 40, left);
                int many = y.rests(3, 3, 0);
                int first = y.rests(3, 3, 1);
                C.due("first and how many, " + base + ", " + left, first == -9 ? 1 : 0, many == 0 ? 1 : 0);
            }
        }
    }

    private static void hold() {
        PaperPays x = new PaperPays();
        C.due("hold(9, 0, 4)", x.hold(9, 0, 4), 4);
        C.due("hold(9, 0, 7)", x.hold(9, 0, 7), -1);
        C.due("hold(9, 0, 6)", x.hold(9, 0, 6), 10);
        C.due("hold(9, 0, 1)", x.hold(9, 0, 1), -1);
        C.due("hold(9, 0, 0)", x.hold(9, 0, 0), 10);
        C.due("hold(0, 5, 10)", x.hold(0, 5, 10), 10);
        C.due("hold(5, 5, 10)", x.hold(5, 5, 10), 10);
        C.due("hold(5, 5, 11)", x.hold(5, 5, 11), -1);
        C.due("hold(5, 6, -1)", x.hold(5, 6, -1), -1);
        C.due("hold(-1, 6, 0)", x.hold(-1, 6, 0), -1);
        C.due("hold(10, 6, 0)", x.hold(10, 6, 0), -1);
        C.due("hold(5, -1, 0)", x.hold(5, -1, 0), -1);
        C.due("hold(5, 10, 0)", x.hold(5, 10, 0), -1);
        C.due("hold(5, 6, 3)", x.hold(5, 6, 3), 3);
        C.due("hold(6, 5, 1)", x.hold(6, 5, 1), 8);
    }

    private static void outs(String of, PaperPays x, int round, int much) {
        C.due(of + ": out(0)", x.out(0), round);
        C.due(of + ": out(1)", x.out(1), much);
    }

    private static void out() {
        PaperPays x = new PaperPays();
        // The other one in 9: out in 8 at 70 alone.
        outs("as at first", x, 8, 1400);
        x.hold(9, 4, 10);
        outs("the other in 4", x, 3, 900);
        x.hold(4, 0, 10);
        // Together in 0: half of 30; later 10.
        outs("the other in 0", x, 0, 300);
        x.ride(2, 15);
        outs("as good: the first", x, 0, 300);
        x.ride(2, 16);
        outs("left is better", x, 1, 320);
        x = riders(31, 0, 0);
        x.hold(9, 0, 9);
        // Nine times the half of 31 and once 31.
        outs("halves are not rounded", x, 0, 31 * 9 + 62);
        x = riders(10, 10, 0);
        x.hold(9, 3, 5);
        // In 2: 30; in 3: 5 halves of 40 and 5 times 40: 30; in 8: half of 90: 45.
        outs("half and half", x, 8, 900);
        x.hold(9, 3, 4);
        // In 2: 30 for sure; in 8: a tenth of 90.
        outs("nearly sure", x, 2, 600);
        x = riders(99, 99, 99);
        outs("the greatest", x, 8, 20 * (99 + 8 * 99));
        C.due("out(-1)", x.out(-1), -1);
        C.due("out(2)", x.out(2), -1);
    }
}
