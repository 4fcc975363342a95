/** Promises 9 to 18: rounds, sales, prices, gains, markets seen again, rules otherwise. */
public final class RoomTest {
    private static final Checks C = new Checks("RoomTest");
    /** 30 against 10, 8, 6: three sales at 20, 20, 19. */
    private static final String SMALL = "rounds 3;pays 2 2;end 4;person mistaken 30 90 0;person worth 10 3;";
    private static final String LOTS = "pays 0 1;rounds 20;person worth 50 3;";

    private RoomTest() {
    }

    public static void main(String[] args) {
        rounds();
        board();
        high();
        highOfFalls();
        gain();
        ties();
        purses();
        shorts();
        buyerIsNoSeller();
        firstSeller();
        bidMeetsAsk();
        salesMovePrice();
        dice();
        again();
        renew();
        revive();
        reviveChangesNothing();
        would();
        lot();
        C.end();
    }

    private static void has(String when, PaperPays x, int p, int coins, int sheets) {
        C.due(when + ": coins of " + p, x.person(p, 2), coins);
        C.due(when + ": sheets of " + p, x.person(p, 3), sheets);
    }

    private static void now(String when, PaperPays x, int... due) {
        for (int what = 0; what < due.length; what++) {
            C.due(when + ": now(" + what + ")", x.now(what), due[what]);
        }
    }

    private static void rounds() {
        PaperPays x = Checks.with(SMALL);
        now("begin", x, 0, 10, 10, 0, 0, 0);
        C.due("go(0)", x.go(0), -1);
        C.due("go(-1)", x.go(-1), -1);
        C.due("go(21)", x.go(21), -1);
        now("after BAD", x, 0, 10, 10, 0, 0, 0);
        C.due("go(1)", x.go(1), 1);
        now("round 0", x, 1, 20, 10, 2, 2, 0);
        has("round 0", x, 0, 54, 2);
        has("round 0", x, 1, 52, 1);
        C.due("count(1)", x.count(1), 3);
        C.due("count(2)", x.count(2), 106);
        C.due("go(1)", x.go(1), 1);
        now("round 1", x, 2, 19, 20, 3, 4, 0);
        has("round 1", x, 0, 41, 3);
        has("round 1", x, 1, 71, 0);
        C.due("go(20)", x.go(20), 1);
        now("over", x, 3, 19, 19, 3, 10, 1);
        has("over", x, 0, 59, 3);
        has("over", x, 1, 71, 0);
        C.due("go(1) over", x.go(1), -2);
        C.due("go(21) over", x.go(21), -1);
        C.due("go(0) over", x.go(0), -1);
        C.due("now(-1)", x.now(-1), -1);
        C.due("now(6)", x.now(6), -1);
        x = Checks.with("rounds 20;");
        C.due("go(20)", x.go(20), 20);
        x = Checks.with("rounds 20;");
        C.due("go(19)", x.go(19), 19);
        C.due("now(5)", x.now(5), 0);
        C.due("go(2)", x.go(2), 1);
        C.due("now(5)", x.now(5), 1);
    }

    private static void board() {
        PaperPays x = Checks.with(SMALL);
        C.due("board(0) ahead", x.board(0), -1);
        x.go(2);
        C.due("board(0)", x.board(0), 20);
        C.due("board(1)", x.board(1), 19);
        C.due("board(2)", x.board(2), -1);
        C.due("board(-1)", x.board(-1), -1);
        x.go(1);
        C.due("board(2)", x.board(2), 19);
        C.due("board(3)", x.board(3), -1);
        x.again();
        C.due("board(0) anew", x.board(0), -1);
        x = Checks.with("rounds 20;");
        x.go(20);
        C.due("board(19)", x.board(19), 40);
        C.due("board(20)", x.board(20), -1);
        C.due("board(greatest)", x.board(Integer.MAX_VALUE), -1);
    }

    private static void highs(String when, PaperPays x, int... due) {
        for (int what = 0; what < due.length; what++) {
            C.due(when + ": high(" + what + ")", x.high(what), due[what]);
        }
    }

    private static void high() {
        PaperPays x = Checks.with(SMALL);
        highs("ahead", x, 0, -9, -9, 0);
        x.go(1);
        highs("round 0", x, 20, 0, -9, 20);
        x.go(1);
        highs("round 1", x, 20, 0, 1, 42);
        x.go(1);
        highs("over", x, 20, 0, 1, 68);
        C.due("high(4)", x.high(4), -1);
        C.due("high(-1)", x.high(-1), -1);
        x = Checks.with("rounds 3;pays 9 0;end 9;start 1;");
        x.go(3);
        highs("a price below", x, 1, 0, -9, 0);
        x = Checks.with("rounds 4;pays 1 2;start 3;");
        x.go(4);
        // Twice 3 less 12, 9, 6, 3: only the last is above 0.
        highs("at last above", x, 3, 0, -9, 3);
    }

    /** The price falls ahead of any board from 90 to 15, then 14, 13 .. by a worth that falls. */
    private static void highOfFalls() {
        PaperPays x = Checks.with("rounds 6;start 90;pays 2 2;sales 1;person mistaken 19 99 0;person worth 0 9;");
        x.go(6);
        // Asks 13, 11, 9, 7, 5, 3 against 19: 16, 15, 14, 13, 12, 11.
        for (int r = 0; r < 6; r++) {
            C.due("board(" + r + ")", x.board(r), 16 - r);
        }
        highs("from the start", x, 16, 0, 0, 8 + 10 + 12 + 14 + 16 + 18);
        x = Checks.with("rounds 6;start 16;pays 2 2;sales 1;person mistaken 19 99 0;person worth 0 9;");
        x.go(6);
        highs("falls as great: the first", x, 16, 0, 1, 78);
        x = Checks.with("rounds 3;start 5;pays 0 0;");
        x.go(3);
        highs("as great: the first", x, 5, 0, -9, 30);
    }

    private static void gain() {
        PaperPays x = Checks.with(SMALL);
        C.due("gain ahead", x.gain(0), -1000000);
        x.go(2);
        C.due("gain on the way", x.gain(0), -1000000);
        x.go(1);
        C.due("gain(0)", x.gain(0), -31);
        C.due("gain(1)", x.gain(1), 31);
        C.due("gain(2)", x.gain(2), -1000000);
        C.due("gain(-1)", x.gain(-1), -1000000);
        x.again();
        C.due("gain anew", x.gain(0), -1000000);
        x.go(3);
        C.due("gain(0) again", x.gain(0), -31);
        x = Checks.with("person worth 7 4;");
        x.go(20);
        C.due("gain of one alone", x.gain(0), 0);
    }

    private static void ties() {
        PaperPays x = Checks.with("pays 0 0;sales 3;person mistaken 30 60 0;person mistaken 30 60 0;"
            + "person mistaken 10 0 2;person mistaken 10 0 2;");
        x.go(1);
        now("ties", x, 1, 20, 0, 3, 0, 0);
        has("ties", x, 0, 20, 2);
        has("ties", x, 1, 40, 1);
        has("ties", x, 2, 40, 0);
        has("ties", x, 3, 20, 1);
        x = Checks.with("pays 0 0;sales 9;person mistaken 30 99 0;person mistaken 30 99 0;person mistaken 10 0 9;");
        x.go(1);
        // The one who sells sells two; then none is left who may.
        now("two a seller", x, 1, 20, 0, 2, 0, 0);
        has("two a seller", x, 0, 59, 2);
        has("two a seller", x, 1, 99, 0);
        x.go(1);
        has("two more", x, 0, 19, 4);
        x = Checks.with("pays 0 0;sales 9;person mistaken 30 99 0;person mistaken 10 0 1;person mistaken 5 0 1;"
            + "person mistaken 4 0 1;");
        x.go(1);
        // The buyer buys two, of the least ask first: at 17 of the last, at 18 of the one ahead of it.
        now("two a buyer", x, 1, 18, 0, 2, 0, 0);
        has("two a buyer", x, 3, 17, 0);
        has("two a buyer", x, 2, 18, 0);
        has("two a buyer", x, 1, 0, 1);
    }

    private static void purses() {
        String rest = "person mistaken 5 0 1;";
        PaperPays x = Checks.with("pays 0 0;lent 5;fee 2;person mistaken 10 6 0;" + rest);
        x.go(1);
        has("a coin too few", x, 0, 6, 0);
        x = Checks.with("pays 0 0;lent 5;fee 2;person mistaken 10 7 0;" + rest);
        x.go(1);
        has("just enough", x, 0, -3, 1);
        has("just enough", x, 1, 8, 0);
        C.due("the fee is gone", x.count(2), 5);
        C.due("price without the fee", x.now(1), 8);
        x = Checks.with("pays 0 0;person mistaken 50 49 0;person mistaken 20 30 0;" + rest);
        x.go(1);
        has("the next one buys", x, 0, 49, 0);
        has("the next one buys", x, 1, 17, 1);
        C.due("price", x.now(1), 13);
        x = Checks.with("pays 0 0;fee 9;lent 99;person mistaken 10 0 0;person mistaken 5 0 1;rounds 3;");
        x.go(3);
        has("below 0", x, 0, -17, 1);
        C.due("gain of the buyer", x.gain(0), -17);
        C.due("gain of the seller", x.gain(1), 8);
    }

    private static void shorts() {
        PaperPays x = Checks.with("short 1;pays 3 3;rounds 3;person mistaken 30 99 0;person mistaken 10 0 0;");
        x.go(1);
        has("short", x, 0, 82, 1);
        has("short", x, 1, 17, -1);
        x.go(2);
        has("short at the end", x, 0, 88, 1);
        has("short at the end", x, 1, 11, -1);
        C.due("gain(0)", x.gain(0), -11);
        C.due("gain(1)", x.gain(1), 11);
        x = Checks.with("short 2;end 9;pays 0 0;rounds 3;start 1;person mistaken 30 99 0;person mistaken 10 0 1;");
        x.go(3);
        // Two in round 0, one in round 1, at 20 each; 9 each at the end.
        has("short by 2", x, 0, 99 - 60 + 27, 3);
        has("short by 2", x, 1, 60 - 18, -2);
        C.due("count(1)", x.count(1), 1);
        C.due("gain(1)", x.gain(1), 60 - 18 - 9);
    }

    private static void buyerIsNoSeller() {
        PaperPays x = Checks.with("pays 0 0;start 3;person mistaken 10 99 5;person mistaken 30 0 5;");
        x.go(1);
        now("none", x, 1, 3, 3, 0, 0, 0);
        x = Checks.with("pays 0 0;start 3;person mistaken 10 99 5;");
        x.go(1);
        now("alone", x, 1, 3, 3, 0, 0, 0);
        x = Checks.with("pays 0 0;start 3;person mistaken 10 99 5;person mistaken 8 99 5;person mistaken 9 99 5;");
        x.go(1);
        // 10 buys two of 8 at 9; then 9 would buy, but 8 has sold two and 10 asks 11.
        now("three", x, 1, 9, 3, 2, 0, 0);
        has("three", x, 1, 117, 3);
    }

    /** The first of those who ask as little sells, be it person 0; a later one only for less. */
    private static void firstSeller() {
        PaperPays x = Checks.with("pays 0 0;sales 1;person mistaken 5 0 1;person mistaken 7 0 1;"
            + "person mistaken 5 0 1;person mistaken 30 99 0;");
        x.go(1);
        now("the first of 5", x, 1, 18, 0, 1, 0, 0);
        has("the first of 5", x, 0, 18, 0);
        x.go(1);
        has("the other of 5", x, 2, 18, 0);
        x.go(1);
        has("then 7", x, 1, 19, 0);
        x = Checks.with("pays 0 0;sales 1;person mistaken 20 50 0;person mistaken 19 50 0;"
            + "person mistaken 20 50 0;person mistaken 5 0 9;");
        x.go(1);
        has("the first of 20", x, 0, 37, 1);
        x.go(3);
        has("20 once more, till the coins are too few", x, 0, 11, 3);
        has("then the other 20", x, 2, 37, 1);
        has("19 bought none", x, 1, 50, 0);
    }

    private static void bidMeetsAsk() {
        PaperPays x = Checks.with("pays 0 0;start 3;person mistaken 11 99 0;person mistaken 10 0 1;");
        x.go(1);
        now("as great", x, 1, 11, 3, 1, 0, 0);
        x = Checks.with("pays 0 0;start 3;person mistaken 10 99 0;person mistaken 10 0 1;");
        x.go(1);
        now("one less", x, 1, 3, 3, 0, 0, 0);
        x = Checks.with("pays 0 0;start 3;person mistaken 12 99 0;person mistaken 10 0 1;");
        x.go(1);
        now("rounded down", x, 1, 11, 3, 1, 0, 0);
    }

    /** Values stand for the whole round, though the price moves in it. */
    private static void salesMovePrice() {
        PaperPays x = Checks.with("pays 0 0;start 20;sales 9;rounds 9;person rising 9 99 0;person mistaken 4 0 9;");
        x.go(1);
        now("round 0", x, 1, 12, 20, 2, 0, 0);
        // 12 and 9 times -8 by 10: 5; against 5.
        C.due("value", x.person(0, 4), 5);
        x.go(1);
        now("round 1", x, 2, 5, 12, 4, 0, 0);
        x.go(1);
        // 5 and 9 times -7 by 10 is below 0: now 4 buys back at half of 4 and 1.
        now("round 2", x, 3, 2, 5, 6, 0, 0);
    }

    private static int drawn(int lot) {
        long low = (lot * 1103515245L + 12345L) & 0xffffffffL;
        return (int) low;
    }

    private static void dice() {
        PaperPays x = Checks.with(LOTS);
        int lot = 1;
        int paid = 0;
        for (int r = 0; r < 20; r++) {
            lot = drawn(lot);
            paid += ((lot & 0xffff0000L) >> 16) % 2 == 0 ? 0 : 1;
            x.go(1);
            C.due("paid behind " + r, x.now(4), paid);
            C.due("coins behind " + r, x.person(0, 2), 50 + 3 * paid);
        }
        C.due("some dice are odd", paid > 0 && paid < 20 ? 1 : 0, 1);
        C.due("the lot", x.lot(0), lot);
        // The first draw from 1 is 16838 (even), from 0 it is 0 (12345 below 65536).
        x = Checks.with("pays 7 2;");
        x.go(1);
        C.due("even pays A", x.now(4), 7);
        C.due("the lot from 1", x.lot(5), 1103527590);
        x.go(1);
        // 5517576225 + 12345 = 5517588570, less 4294967296: 1222621274, by 65536: 18655 (odd).
        C.due("odd pays B", x.now(4), 9);
        C.due("the lot from 5", x.lot(0), 1222621274);
    }

    private static void again() {
        PaperPays x = Checks.with(SMALL);
        C.due("again() ahead", x.again(), -2);
        x.say(0, 10);
        x.go(2);
        C.due("again() on the way", x.again(), -2);
        C.due("seen", x.person(0, 5), 0);
        x.go(1);
        int lot = x.lot(3);
        x.lot(lot);
        C.due("again()", x.again(), 1);
        now("anew", x, 0, 10, 10, 0, 0, 0);
        has("anew", x, 0, 90, 0);
        has("anew", x, 1, 10, 3);
        C.due("seen by 0", x.person(0, 5), 1);
        C.due("seen by 1", x.person(1, 5), 1);
        highs("anew", x, 0, -9, -9, 0);
        C.due("errors stay", x.said(0, 0), 10);
        C.due("how often stays", x.said(0, 1), 1);
        C.due("the lot goes on", x.lot(lot), lot);
        C.due("again() twice", x.again(), -2);
        x.go(3);
        C.due("again() once more", x.again(), 1);
        C.due("seen twice", x.person(1, 5), 2);
    }

    private static void renew() {
        PaperPays x = Checks.with(SMALL);
        C.due("renew(0)", x.renew(0), 0);
        for (int i = 0; i < 3; i++) {
            x.go(20);
            x.again();
        }
        C.due("renew(1)", x.renew(1), 3);
        C.due("seen by 1", x.person(1, 5), 0);
        C.due("seen by 0", x.person(0, 5), 3);
        C.due("renew(1) again", x.renew(1), 0);
        C.due("renew(2)", x.renew(2), -1);
        C.due("renew(-1)", x.renew(-1), -1);
    }

    private static void revive() {
        // Fresh 9 makes 17 of 12 at once; having seen one, only 13.
        PaperPays x = Checks.with("rounds 6;pays 2 2;start 12;person fresh 9 99 0;person worth 0 9;");
        C.due("new ones: revive(17)", x.revive(17), 0);
        C.due("new ones: revive(18)", x.revive(18), -9);
        x.go(20);
        C.due("peak", x.high(0), 17);
        C.due("over, none has seen: revive(17)", x.revive(17), 0);
        x.again();
        C.due("revive(0)", x.revive(0), 0);
        C.due("revive(13)", x.revive(13), 0);
        C.due("revive(14)", x.revive(14), 1);
        C.due("revive(17)", x.revive(17), 1);
        C.due("revive(18)", x.revive(18), -9);
        C.due("revive(999)", x.revive(999), -9);
        C.due("revive(1000)", x.revive(1000), -1);
        C.due("revive(-1)", x.revive(-1), -1);
        x.go(6);
        C.due("peak of those who saw", x.high(0), 13);
        x = Checks.with("rounds 6;pays 2 2;start 12;person worth 0 9;person fresh 9 99 0;");
        x.go(20);
        x.again();
        C.due("the last: revive(17)", x.revive(17), 2);
        x.renew(1);
        C.due("renewed: revive(17)", x.revive(17), 0);
        x = Checks.with("start 40;");
        C.due("no people: revive(40)", x.revive(40), 0);
        C.due("no people: revive(41)", x.revive(41), -9);
    }

    private static void reviveChangesNothing() {
        PaperPays x = Checks.with(SMALL);
        x.go(20);
        x.again();
        x.lot(77);
        x.say(1, 4);
        x.go(1);
        x.say(1, 6);
        int lot = x.lot(5);
        x.lot(lot);
        x.revive(999);
        x.would(0, 50, 1);
        C.due("lot", x.lot(lot), lot);
        now("tried", x, 1, 20, 10, 2, 2, 0);
        has("tried", x, 0, 54, 2);
        C.due("seen", x.person(0, 5), 1);
        C.due("said", x.say(1, 6), 6);
        C.due("error", x.said(1, 0), 16);
        C.due("often", x.said(1, 1), 1);
        C.due("rule(5)", x.rule(5), 0);
        C.due("board(0)", x.board(0), 20);
    }

    private static void would() {
        PaperPays x = Checks.with(SMALL);
        // What was played already doesn't count: each is tried from the begin.
        x.go(1);
        C.due("on the way, one a round: bubble", x.would(4, 1, 1), 66);
        // With a fee of 9 the third sheet waits for ROUND 2, at 18.
        C.due("on the way, fee 9: sales", x.would(3, 9, 2), 3);
        C.due("on the way, fee 9: bubble", x.would(3, 9, 1), 68);
        C.due("on the way, fee 0: sales", x.would(3, 0, 2), 3);
        C.due("on the way, fee 0: bubble", x.would(3, 0, 1), 68);
        C.due("on the way, lid 9: peak", x.would(2, 9, 0), 10);
        x = Checks.with(SMALL);
        C.due("as it is: peak", x.would(4, 5, 0), 20);
        C.due("as it is: bubble", x.would(4, 5, 1), 68);
        C.due("as it is: sales", x.would(4, 5, 2), 3);
        C.due("one a round: sales", x.would(4, 1, 2), 3);
        C.due("one a round: bubble", x.would(4, 1, 1), 66);
        C.due("lid 15: peak", x.would(2, 15, 0), 13);
        C.due("no lid: peak", x.would(2, 0, 0), 20);
        C.due("short 9: sales", x.would(1, 9, 2), 4);
        x.go(2);
        C.due("on the way: sales", x.would(4, 5, 2), 3);
        x.go(1);
        C.due("over: bubble", x.would(4, 5, 1), 68);
        int[] most = {99, 9, 99, 9, 9};
        for (int rule = 0; rule < 5; rule++) {
            C.due("would(" + rule + ") beyond", x.would(rule, most[rule] + 1, 0), -1);
            C.due("would(" + rule + ") below", x.would(rule, rule == 4 ? 0 : -1, 0), -1);
            C.due("would(" + rule + ") most", x.would(rule, most[rule], 0) >= 0 ? 1 : 0, 1);
            C.due("would(" + rule + ") least", x.would(rule, rule == 4 ? 1 : 0, 0) >= 0 ? 1 : 0, 1);
        }
        C.due("would(-1)", x.would(-1, 1, 0), -1);
        C.due("would(5)", x.would(5, 1, 0), -1);
        C.due("would what -1", x.would(0, 1, -1), -1);
        C.due("would what 3", x.would(0, 1, 3), -1);
        x = Checks.with("pays 0 0;rounds 3;fee 1;lid 20;person mistaken 30 10 0;person mistaken 9 0 2;");
        // 20 and 1 must be there; with L 11 one can buy once, at 15, and then has too few.
        C.due("lent 10", x.would(0, 10, 2), 0);
        C.due("lent 11", x.would(0, 11, 2), 1);
        C.due("lent 27", x.would(0, 27, 2), 2);
        C.due("lent 26", x.would(0, 26, 2), 1);
        C.due("no lid, lent 0", x.would(2, 0, 2), 0);
        C.due("lid 9", x.would(2, 9, 2), 0);
        C.due("fee 0", x.would(3, 0, 2), 0);
        x = Checks.with("pays 0 0;rounds 3;fee 1;lent 10;lid 20;person mistaken 30 10 0;person mistaken 9 0 2;");
        C.due("fee 1", x.would(3, 1, 2), 0);
        C.due("fee 0 is enough", x.would(3, 0, 2), 1);
        C.due("the lid stays", x.rule(7), 20);
        x = Checks.with("rounds 6;pays 2 2;start 12;person fresh 9 99 0;person worth 0 9;");
        C.due("new ones: peak", x.would(4, 5, 0), 17);
        x.go(6);
        x.again();
        C.due("those who saw: peak", x.would(4, 5, 0), 13);
        C.due("revive(17) on top", x.revive(17), 1);
        C.due("those who saw: peak again", x.would(4, 5, 0), 13);
    }

    private static void lot() {
        PaperPays x = new PaperPays();
        C.due("lot(-5)", x.lot(-5), 1);
        C.due("lot(least)", x.lot(Integer.MIN_VALUE), -5);
        C.due("lot(greatest)", x.lot(Integer.MAX_VALUE), Integer.MIN_VALUE);
        x.go(1);
        C.due("lot goes on, wrapped", x.lot(0), (int) (2147483647L * 1103515245L + 12345L));
        // Who pays by luck trades by luck: the tried room begins by THE LOT as it is now.
        x = Checks.with("rounds 3;pays 0 9;lent 0;person mistaken 20 20 2;person mistaken 9 0 9;");
        int[] sales = new int[2];
        for (int v = 0; v < 60; v++) {
            x.lot(v * 65536);
            int tried = x.would(4, 9, 2);
            sales[0] += tried;
            x.go(3);
            sales[1] += x.now(3);
            C.due("as tried by lot " + v, x.now(3), tried);
            x.again();
        }
        C.due("tried as done", sales[0], sales[1]);
    }
}
