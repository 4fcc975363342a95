/** Promises 28 to 32: marks by kinds, images, counts, the trace. */
public final class KindsImagesTest {
    private static final Checks C = new Checks("KindsImagesTest");

    private KindsImagesTest() {
    }

    public static void main(String[] args) {
        marks();
        marksRefused();
        traceOfEach();
        keepAndBack();
        imageOfPrices();
        imagesRefused();
        imageKeepsNothingElse();
        imageOfWhatWasSaid();
        counts();
        C.end();
    }

    /** Two rounds on: COINS 50, SHEETS 3, PRICE 40, WORTH 2 left at 1 each and 4: 6; seen once. */
    private static PaperPays marked() {
        PaperPays x = Checks.with("rounds 4;pays 1 1;end 4;start 40;person worth 44 3;person mistaken 1 7 0;");
        x.go(4);
        x.again();
        x.go(2);
        return x;
    }

    private static void marks() {
        PaperPays x = marked();
        C.due("coins", x.person(0, 2), 50);
        C.due("worth now", x.worth(2, 0), 6);
        int[] due = {50, 50 + 3 * 6, 50 + 40, 50 - 2, 100, 50 - 2 + 1, 50 + 40 - 3};
        for (int kind = 0; kind < due.length; kind++) {
            C.due("mark(" + kind + ", 0)", x.mark(kind, 0), due[kind]);
        }
        int[] other = {7, 7, 47, 5, 14, 6, 47};
        for (int kind = 0; kind < other.length; kind++) {
            C.due("mark(" + kind + ", 1)", x.mark(kind, 1), other[kind]);
        }
        x.go(2);
        C.due("over: mark(1, 0)", x.mark(1, 0), 50 + 6 + 12 + 3 * 4);
        C.due("over: mark(3, 1)", x.mark(3, 1), 3);
    }

    private static void marksRefused() {
        PaperPays x = marked();
        C.due("mark(-1, 0)", x.mark(-1, 0), -1000000);
        C.due("mark(7, 0)", x.mark(7, 0), -1000000);
        C.due("mark(0, -1)", x.mark(0, -1), -1000000);
        C.due("mark(0, 2)", x.mark(0, 2), -1000000);
        C.due("mark(6, 9)", x.mark(6, 9), -1000000);
        C.due("trace()", x.trace(), 0);
    }

    private static void traceOfEach() {
        long[] due = {1, 11, 101, 1001, 10001, 101001, 1000101};
        for (int kind = 0; kind < due.length; kind++) {
            PaperPays x = marked();
            x.mark(kind, 1);
            C.due("trace() of " + kind, x.trace(), due[kind]);
            x.mark(kind, 0);
            C.due("trace() of " + kind + " twice", x.trace(), 2 * due[kind]);
        }
        PaperPays x = marked();
        for (int i = 0; i < 400; i++) {
            x.mark(6, 0);
        }
        C.due("trace() of many", x.trace(), 400040400L);
    }

    private static final String SMALL = "rounds 3;pays 2 2;end 4;person mistaken 30 90 0;person worth 10 3;";

    private static void keepAndBack() {
        PaperPays x = Checks.with(SMALL);
        C.due("keep(1) ahead", x.keep(1), 0);
        x.go(1);
        x.lot(1234);
        C.due("keep(0)", x.keep(0), 1);
        x.go(2);
        x.again();
        x.lot(5);
        C.due("back(0)", x.back(0), 1);
        C.due("round", x.now(0), 1);
        C.due("price", x.now(1), 20);
        C.due("prev", x.now(2), 10);
        C.due("sales", x.now(3), 2);
        C.due("paid", x.now(4), 2);
        C.due("over", x.now(5), 0);
        C.due("board(0)", x.board(0), 20);
        C.due("coins", x.person(0, 2), 54);
        C.due("sheets", x.person(1, 3), 1);
        C.due("seen", x.person(0, 5), 0);
        C.due("lot", x.lot(1234), 1234);
        C.due("go(20)", x.go(20), 2);
        C.due("gain(0)", x.gain(0), -31);
        x.again();
        C.due("keep(0) anew", x.keep(0), 0);
        C.due("back(1)", x.back(1), 0);
        C.due("seen ahead of all", x.person(1, 5), 0);
        C.due("back(0)", x.back(0), 0);
        C.due("seen once", x.person(1, 5), 1);
        x.renew(1);
        x.go(1);
        C.due("back(0) twice", x.back(0), 0);
        C.due("seen once still", x.person(1, 5), 1);
        x.go(3);
        C.due("keep(1) over", x.keep(1), 3);
        x.again();
        C.due("back(1) over", x.back(1), 3);
        C.due("over", x.now(5), 1);
    }

    /** Another market by other dice leaves other prices; back, they are as they were. */
    private static void imageOfPrices() {
        PaperPays x = Checks.with("rounds 5;start 40;pays 0 0;sales 1;person mistaken 20 99 0;person mistaken 10 0 9;"
            + "person rising 3 0 0;");
        x.go(1);
        x.keep(0);
        Checks.type(x, "x");
        C.due("value kept", x.person(2, 4), 8);
        x.go(3);
        C.due("value later", x.person(2, 4), 15);
        x.back(0);
        C.due("value back", x.person(2, 4), 8);
        C.due("prev back", x.now(2), 40);
        x = Checks.with("rounds 3;start 12;pays 2 2;person fresh 9 99 0;person worth 0 9;");
        x.go(3);
        int first = x.board(0);
        int second = x.board(1);
        int bubble = x.high(3);
        x.keep(1);
        x.again();
        x.go(3);
        C.due("other prices", x.board(0) != first ? 1 : 0, 1);
        x.back(1);
        C.due("board(0) back", x.board(0), first);
        C.due("board(1) back", x.board(1), second);
        C.due("bubble back", x.high(3), bubble);
    }

    private static void imagesRefused() {
        PaperPays x = Checks.with(SMALL);
        C.due("keep(-1)", x.keep(-1), -1);
        C.due("keep(2)", x.keep(2), -1);
        C.due("back(-1)", x.back(-1), -1);
        C.due("back(2)", x.back(2), -1);
        C.due("back(0)", x.back(0), -2);
        x.keep(0);
        C.due("back(1)", x.back(1), -2);
        C.due("back(0)", x.back(0), 0);
        Checks.rules(x, SMALL);
        C.due("back(0) behind rules()", x.back(0), -2);
    }

    private static void imageKeepsNothingElse() {
        PaperPays x = Checks.with(SMALL);
        x.keep(0);
        x.ride(0, 3);
        x.ride(1, 4);
        x.ride(2, 6);
        x.hold(9, 2, 5);
        x.clue(8);
        x.mark(0, 0);
        Checks.type(x, "fee 1;");
        C.due("back(0)", x.back(0), 0);
        C.due("ride(0, 1)", x.ride(0, 1), 3);
        C.due("ride(1, 1)", x.ride(1, 1), 4);
        C.due("ride(2, 1)", x.ride(2, 1), 6);
        C.due("hold(2, 2, 0)", x.hold(2, 2, 0), 5);
        C.due("count(3)", x.count(3), 1);
        C.due("count(4)", x.count(4), 6);
        C.due("trace()", x.trace(), 1);
    }

    private static void imageOfWhatWasSaid() {
        PaperPays x = Checks.with(SMALL);
        x.say(0, 30);
        x.go(1);
        x.say(0, 5);
        x.keep(1);
        x.say(0, 6);
        x.say(1, 6);
        x.go(1);
        C.due("error ahead", x.said(0, 0), 23);
        x.back(1);
        C.due("error", x.said(0, 0), 10);
        C.due("often", x.said(0, 1), 1);
        C.due("truest()", x.truest(), 0);
        C.due("said(1, 1)", x.said(1, 1), 0);
        C.due("say(1, 1)", x.say(1, 1), -9);
        C.due("say(0, 19)", x.say(0, 19), 5);
        x.go(1);
        C.due("error behind", x.said(0, 0), 10);
        C.due("often behind", x.said(0, 1), 2);
    }

    private static void counts() {
        PaperPays x = Checks.with(SMALL);
        x.clue(4);
        x.clue(4);
        Checks.type(x, "lid");
        int[] due = {2, 3, 100, 2, 3};
        for (int what = 0; what < due.length; what++) {
            C.due("count(" + what + ")", x.count(what), due[what]);
        }
        x.go(3);
        C.due("count(2) behind", x.count(2), 100 + 3 * 10);
        C.due("count(1) behind", x.count(1), 3);
        C.due("count(-1)", x.count(-1), -1);
        C.due("count(5)", x.count(5), -1);
    }
}
