/** A ROUND, and promises 9 to 13: each boundary that a sentence of the document names. */
public final class EdgesOfRoundTest {
    private static final Checks C = new Checks("EdgesOfRoundTest");
    private static final int NO = -1000000;

    private EdgesOfRoundTest() {
    }

    public static void main(String[] args) {
        salesAtMost();
        salesNotTold();
        salesOfEachRoundAnew();
        boughtFewerThanTwo();
        soldFewerThanTwo();
        coinsAndLentAreBidAndFee();
        coinsFailAtTheSecond();
        greatestBidOfThoseWhoCan();
        firstOfSeveralBuyers();
        firstOfSeveralSellers();
        buyerIsNoSeller();
        sheetsAndShortAboveZero();
        bidIsAskAtLeast();
        halfRoundedDown();
        feeGoesToNobody();
        valuesOfTheBegin();
        priceOfTheLastSale();
        noSaleNoPrice();
        lidHoldsBids();
        drawEvenOrOdd();
        sheetsArePaid();
        endIsPaidBehindTheLast();
        goesAsManyAsAreLeft();
        nowOfEach();
        boardOfRoundsThatWere();
        peakFirstOfSeveral();
        fallFirstOfSeveral();
        bubbleAboveZero();
        gainWhenOver();
        C.end();
    }

    private static void has(String when, PaperPays x, int p, int coins, int sheets) {
        C.due(when + ": coins of " + p, x.person(p, 2), coins);
        C.due(when + ": sheets of " + p, x.person(p, 3), sheets);
    }

    private static void sales(String when, PaperPays x, int due) {
        C.due(when + ": sales", x.now(3), due);
    }

    private static void price(String when, PaperPays x, int due) {
        C.due(when + ": price", x.now(1), due);
    }

    private static PaperPays played(String text, int rounds) {
        PaperPays x = Checks.with(text);
        x.go(rounds);
        return x;
    }

    private static final String FOUR_AND_FOUR = "pays 0 0;start 3;person mistaken 30 99 0;person mistaken 30 99 0;"
        + "person mistaken 30 99 0;person mistaken 30 99 0;person mistaken 10 0 9;person mistaken 10 0 9;"
        + "person mistaken 10 0 9;person mistaken 10 0 9;person mistaken 20 0 9;";

    /** "SALES one by one, K at most". Nine people can't make more than eight sales. */
    private static void salesAtMost() {
        for (int k = 1; k <= 9; k++) {
            PaperPays x = played("sales " + k + ";" + FOUR_AND_FOUR, 1);
            sales("K " + k, x, Math.min(k, 8));
            for (int p = 0; p < 4; p++) {
                int bought = Math.max(0, Math.min(2, k - 2 * p));
                has("K " + k, x, p, 99 - 20 * bought, bought);
                has("K " + k, x, p + 4, 20 * bought, 9 - bought);
            }
        }
    }

    /** "else 5". */
    private static void salesNotTold() {
        sales("not told", played(FOUR_AND_FOUR, 1), 5);
    }

    private static void salesOfEachRoundAnew() {
        PaperPays x = played("rounds 3;sales 1;" + FOUR_AND_FOUR, 3);
        sales("one each of three", x, 3);
        has("the same one", x, 0, 39, 3);
        has("the same one", x, 4, 60, 6);
        x = Checks.with("rounds 3;sales 8;" + FOUR_AND_FOUR);
        // Two a ROUND each: 99, 59, 19; that is below 30.
        int[] due = {8, 16, 16};
        for (int r = 0; r < 3; r++) {
            x.go(1);
            sales("eight a round, " + r, x, due[r]);
        }
    }

    /** "of those who have bought fewer than 2 in this ROUND". */
    private static void boughtFewerThanTwo() {
        String text = "rounds 3;pays 0 0;sales 9;lent 99;person mistaken 12 99 0;person mistaken 1 0 9;person mistaken 1 0 9;"
            + "person mistaken 1 0 9;";
        PaperPays x = Checks.with(text);
        for (int r = 1; r <= 3; r++) {
            x.go(1);
            sales("two a round, " + r, x, 2 * r);
            has("two a round, " + r, x, 0, 99 - 14 * r, 2 * r);
            has("of the first one", x, 1, 14 * r, 9 - 2 * r);
        }
        x = played(text + "person mistaken 11 99 0;", 1);
        sales("then the next one buys", x, 4);
        has("then the next one buys", x, 4, 99 - 12, 2);
        has("of the next seller", x, 2, 12, 7);
        price("the next one's", x, 6);
    }

    /** "the seller the one with the least ASK of all others who have sold fewer than 2". */
    private static void soldFewerThanTwo() {
        PaperPays x = played("pays 0 0;sales 9;person mistaken 30 99 0;person mistaken 20 99 0;person mistaken 5 0 9;", 1);
        // 30 has what 5 may sell; then 20 finds 30's ASK of 31 alone.
        sales("two a seller", x, 2);
        has("two a seller", x, 2, 36, 7);
        has("two a seller", x, 1, 99, 0);
        x = played("pays 0 0;sales 9;person mistaken 30 99 0;person mistaken 20 99 0;person mistaken 5 0 9;"
            + "person mistaken 6 0 9;", 1);
        sales("then the next one sells", x, 4);
        has("then the next one sells", x, 3, 26, 7);
        has("to the next buyer", x, 1, 99 - 26, 2);
    }

    /** "whose COINS and L are BID and F at least". */
    private static void coinsAndLentAreBidAndFee() {
        int[][] enough = {{30, 0, 30, 0}, {20, 10, 30, 0}, {0, 30, 30, 0}, {39, 0, 30, 9}, {30, 9, 30, 9}, {0, 39, 30, 9},
            {99, 0, 99, 0}, {99, 9, 99, 9}, {0, 99, 99, 0}, {9, 99, 99, 9}, {1, 0, 1, 0}};
        for (int[] e : enough) {
            for (int less = 0; less <= 1; less++) {
                String text = "pays 0 0;start 3;sales 1;lent " + e[1] + ";fee " + e[3] + ";person mistaken " + e[2] + " "
                    + Math.max(0, e[0] - less) + " 0;person worth 0 1;";
                if (less == 1 && e[0] == 0) {
                    text = text.replace("lent " + e[1], "lent " + (e[1] - 1));
                }
                PaperPays x = played(text, 1);
                sales(text, x, 1 - less);
                int price = (e[2] + 1) / 2;
                has(text, x, 0, less == 0 ? e[0] - price - e[3] : x.person(0, 2), 1 - less);
            }
        }
    }

    private static void coinsFailAtTheSecond() {
        String rest = "pays 0 0;start 3;person worth 0 9;person mistaken 30 ";
        // At 15 each: behind one sale 15 fewer, and 30 must be there again.
        sales("44", played(rest + "44 0;", 1), 1);
        sales("45", played(rest + "45 0;", 1), 2);
        sales("fee 4: 52", played("fee 4;" + rest + "52 0;", 1), 1);
        sales("fee 4: 53", played("fee 4;" + rest + "53 0;", 1), 2);
        sales("lent 20: 24", played("lent 20;" + rest + "24 0;", 1), 1);
        sales("lent 20: 25", played("lent 20;" + rest + "25 0;", 1), 2);
        PaperPays x = played("lent 45;" + rest + "0 0;", 1);
        sales("below 0", x, 2);
        has("below 0", x, 1, -30, 2);
        x.go(1);
        sales("too far below 0", x, 2);
    }

    /** "the buyer is the one with the greatest BID of those ..": one who can't is passed by. */
    private static void greatestBidOfThoseWhoCan() {
        PaperPays x = played("pays 0 0;start 3;sales 1;person mistaken 40 39 0;person mistaken 20 20 0;"
            + "person mistaken 30 30 0;person worth 0 5;", 1);
        has("too few for the greatest", x, 0, 39, 0);
        has("the greatest who can", x, 2, 15, 1);
        has("less", x, 1, 20, 0);
        // By one sale 15 are left of 30: now 20 buys twice, 15 and 20 being too few for each.
        x.go(2);
        has("then less", x, 1, 10, 1);
        sales("none else", x, 2);
    }

    /** "of several the first". */
    private static void firstOfSeveralBuyers() {
        for (int first = 0; first < 3; first++) {
            StringBuilder text = new StringBuilder("pays 0 0;start 3;sales 1;person worth 0 9;");
            for (int p = 0; p < 3; p++) {
                text.append("person mistaken 30 ").append(p < first ? 29 : 30).append(" 0;");
            }
            PaperPays x = played(text.toString(), 1);
            for (int p = 0; p < 3; p++) {
                C.due("the first who can, " + first + ": sheets of " + p, x.person(p + 1, 3), p == first ? 1 : 0);
            }
        }
        PaperPays x = played("pays 0 0;start 3;sales 4;person mistaken 29 99 0;person mistaken 30 99 0;"
            + "person mistaken 30 99 0;person worth 0 9;person worth 0 9;", 1);
        has("the first twice", x, 1, 69, 2);
        has("then the second twice", x, 2, 69, 2);
        has("the less none", x, 0, 99, 0);
    }

    private static void firstOfSeveralSellers() {
        for (int first = 0; first < 3; first++) {
            StringBuilder text = new StringBuilder("pays 0 0;start 3;sales 1;person mistaken 30 99 0;");
            for (int p = 0; p < 3; p++) {
                text.append("person mistaken 7 0 ").append(p < first ? 0 : 4).append(";");
            }
            PaperPays x = played(text.toString(), 1);
            for (int p = 0; p < 3; p++) {
                C.due("the first who can, " + first + ": coins of " + p, x.person(p + 1, 2), p == first ? 19 : 0);
            }
        }
        PaperPays x = played("pays 0 0;start 3;sales 1;person mistaken 8 0 1;person mistaken 7 0 1;person mistaken 7 0 1;"
            + "person mistaken 30 99 0;", 1);
        has("the least ASK", x, 1, 19, 0);
    }

    /** "of all others": the buyer may have the least ASK itself. */
    private static void buyerIsNoSeller() {
        PaperPays x = played("pays 0 0;start 3;person mistaken 20 99 9;person mistaken 30 29 9;", 1);
        // 30 has too few; 20 buys, of 30 at 31: no.
        sales("the other asks more", x, 0);
        x = played("pays 0 0;start 3;person mistaken 20 99 9;", 1);
        sales("alone", x, 0);
        x = played("pays 0 0;start 3;sales 1;person mistaken 20 99 9;person mistaken 19 0 9;person mistaken 30 29 9;", 1);
        has("19 sells to 20", x, 0, 79, 10);
        sales("19 sells to 20", x, 1);
        // The buyer of the least ASK is left out, so the one of the next least sells.
        x = played("pays 0 0;start 3;sales 1;person mistaken 5 99 9;person mistaken 4 0 9;person mistaken 4 0 9;", 1);
        has("the first of 4", x, 1, 5, 8);
    }

    /** "whose SHEETS and S are above 0". */
    private static void sheetsAndShortAboveZero() {
        for (int s = 0; s <= 9; s++) {
            for (int h = 0; h <= 2; h++) {
                PaperPays x = Checks.with("rounds 20;pays 0 0;lent 99;short " + s + ";person mistaken 2 99 0;"
                    + "person mistaken 1 0 " + h + ";");
                for (int r = 1; r <= 7; r++) {
                    x.go(1);
                    int sold = Math.min(2 * r, h + s);
                    sales("S " + s + ", H " + h + ", in " + r, x, sold);
                    has("S " + s + ", H " + h + ", in " + r, x, 1, 2 * sold, h - sold);
                    has("S " + s + ", H " + h + ", in " + r, x, 0, 99 - 2 * sold, sold);
                }
            }
        }
        PaperPays x = played("pays 0 0;start 3;person mistaken 20 99 0;person mistaken 5 0 0;person mistaken 6 0 1;", 1);
        has("the least ASK without a sheet is passed by", x, 2, 13, 0);
    }

    /** "and BID is ASK at least". */
    private static void bidIsAskAtLeast() {
        for (int v = 1; v <= 40; v++) {
            PaperPays x = played("pays 0 0;start 3;sales 1;person mistaken 20 99 0;person mistaken " + v + " 0 1;", 1);
            // ASK is v and 1.
            sales("20 and " + v, x, v <= 19 ? 1 : 0);
            price("20 and " + v, x, v <= 19 ? (21 + v) / 2 : 3);
        }
        sales("0 bids for 0", played("pays 0 0;start 3;person worth 9 0;person worth 0 9;", 1), 0);
        sales("1 bids for 0", played("pays 0 0;start 3;person mistaken 1 9 0;person worth 0 9;", 1), 2);
    }

    /** "at half of BID and ASK together, rounded down". */
    private static void halfRoundedDown() {
        for (int bid = 2; bid <= 9; bid++) {
            for (int v = 1; v < bid; v++) {
                PaperPays x = played("pays 0 0;start 50;sales 1;person mistaken " + bid + " 99 0;person mistaken " + v
                    + " 0 1;", 1);
                int due = (bid + v + 1) / 2;
                price(bid + " and " + (v + 1), x, due);
                has(bid + " and " + (v + 1), x, 0, 99 - due, 1);
                has(bid + " and " + (v + 1), x, 1, due, 0);
            }
        }
    }

    /** "the buyer pays that and F, the seller has that; it is PRICE". */
    private static void feeGoesToNobody() {
        for (int fee = 0; fee <= 9; fee++) {
            PaperPays x = played("pays 0 0;fee " + fee + ";person mistaken 30 99 0;person mistaken 9 0 5;", 1);
            has("fee " + fee, x, 0, 99 - 40 - 2 * fee, 2);
            has("fee " + fee, x, 1, 40, 3);
            price("fee " + fee, x, 20);
            C.due("fee " + fee + ": coins of all", x.count(2), 99 - 2 * fee);
            C.due("fee " + fee + ": sheets of all", x.count(1), 5);
        }
    }

    /** "by VALUES as they are when it begins": the price moves with each sale, those who go by it don't. */
    private static void valuesOfTheBegin() {
        PaperPays x = played("pays 0 0;start 10;sales 4;person mistaken 40 99 0;person rising 9 99 0;person riding 1 99 0;"
            + "person fresh 9 99 0;person worth 0 9;person mistaken 1 0 9;", 1);
        // VALUES 40, 10, 11, 14, 0, 1: 40 buys two at 20; then 14 (ASK of 1: 2) two at 8.
        has("40", x, 0, 59, 2);
        has("14", x, 3, 83, 2);
        has("11", x, 2, 99, 0);
        has("10", x, 1, 99, 0);
        price("of 14 and 2", x, 8);
        C.due("prev", x.now(2), 10);
    }

    /** "it is PRICE": the last sale's, and PREV the one ahead of the ROUND. */
    private static void priceOfTheLastSale() {
        PaperPays x = Checks.with("rounds 4;pays 0 0;start 9;sales 3;person mistaken 40 99 0;person mistaken 30 99 0;"
            + "person worth 0 2;person mistaken 9 0 9;");
        x.go(1);
        // 40 of 0: 20, 20; 30 of 9: 20.
        price("the third", x, 20);
        C.due("prev", x.now(2), 9);
        x.go(1);
        // 40 of 9: 25, and then it has 34 left; 30 of 9, 20: now 9 has sold two.
        price("30 of 9", x, 20);
        C.due("prev", x.now(2), 20);
        sales("five", x, 5);
        C.due("board(0)", x.board(0), 20);
        x = played("pays 0 0;start 9;sales 2;person mistaken 40 40 0;person mistaken 12 99 0;person worth 0 9;", 1);
        price("less than the first", x, 6);
        C.due("board of the last sale", x.board(0), 6);
    }

    private static void noSaleNoPrice() {
        PaperPays x = Checks.with("rounds 3;pays 1 1;start 77;person mistaken 40 39 0;person worth 0 9;");
        for (int r = 0; r < 3; r++) {
            x.go(1);
            price("none", x, 77);
            C.due("prev", x.now(2), 77);
            C.due("board", x.board(r), 77);
        }
        sales("none", x, 0);
    }

    /** A VALUE is LID at most, an ASK may be one more. */
    private static void lidHoldsBids() {
        sales("both at the lid", played("lid 10;pays 0 0;person mistaken 30 99 0;person mistaken 20 0 9;", 1), 0);
        PaperPays x = played("lid 10;pays 0 0;person mistaken 30 99 0;person mistaken 9 0 9;", 1);
        sales("one at the lid", x, 2);
        price("one at the lid", x, 10);
        sales("as poor as the lid", played("lid 10;pays 0 0;person mistaken 30 10 0;person mistaken 9 0 9;", 1), 1);
        sales("poorer", played("lid 10;pays 0 0;person mistaken 30 9 0;person mistaken 9 0 9;", 1), 0);
    }

    /** "THE LOT goes on (times 1103515245 and 12345, wrapped; DRAW: its upper 16 bits): .. A, if DRAW is even, else B". */
    private static void drawEvenOrOdd() {
        int[] lots = {0, 1, 2, 3, -1, -2, Integer.MIN_VALUE, Integer.MAX_VALUE, 65535, 65536, -65536, 12345, 99999999};
        int odds = 0;
        PaperPays x = Checks.with("rounds 20;pays 2 7;person worth 0 1;");
        for (int lot : lots) {
            x.lot(lot);
            int paid = x.now(4);
            int coins = x.person(0, 2);
            C.due("go by lot " + lot, x.go(1), 1);
            long next = (lot * 1103515245L + 12345L) & 0xffffffffL;
            boolean even = next / 65536 % 2 == 0;
            odds += even ? 0 : 1;
            C.due("paid by lot " + lot, x.now(4) - paid, even ? 2 : 7);
            C.due("coins by lot " + lot, x.person(0, 2) - coins, even ? 2 : 7);
            C.due("lot behind " + lot, x.lot(0), (int) next);
        }
        C.due("some of each", odds > 2 && odds < lots.length - 2 ? 1 : 0, 1);
    }

    /** "each SHEET pays ..(who has fewer than none pays)". Behind the sales: who has bought is paid. */
    private static void sheetsArePaid() {
        PaperPays x = played("short 2;pays 7 7;rounds 3;person mistaken 20 99 0;person mistaken 9 5 0;person mistaken 30 0 3;", 1);
        has("bought two", x, 0, 99 - 30 + 14, 2);
        has("below none", x, 1, 5 + 30 - 14, -2);
        has("as before", x, 2, 21, 3);
        C.due("paid", x.now(4), 7);
        x = played("pays 0 0;rounds 3;person mistaken 20 99 3;", 3);
        has("none pays", x, 0, 99, 3);
    }

    /** "behind the last one each SHEET pays E". */
    private static void endIsPaidBehindTheLast() {
        for (int n : new int[] {3, 15, 20}) {
            PaperPays x = Checks.with("rounds " + n + ";pays 2 2;end 50;person worth 0 3;");
            x.go(n - 1);
            C.due("ahead of the last: paid", x.now(4), 2 * (n - 1));
            has("ahead of the last", x, 0, 6 * (n - 1), 3);
            C.due("ahead of the last: over", x.now(5), 0);
            x.go(1);
            C.due("over: paid", x.now(4), 2 * n + 50);
            has("over", x, 0, 6 * n + 150, 3);
            C.due("over: over", x.now(5), 1);
        }
        PaperPays x = played("rounds 3;pays 0 0;end 50;short 1;person mistaken 99 99 0;person worth 0 0;", 20);
        has("below none pays E", x, 1, 75 - 50, -1);
        has("and is paid it", x, 0, 99 - 75 + 50, 1);
    }

    /** "n ROUNDS go by (1 .. 20; as many as are left): how many did. BAD; STATE: it is over." */
    private static void goesAsManyAsAreLeft() {
        for (int n = 1; n <= 20; n++) {
            PaperPays x = Checks.with("rounds 10;");
            C.due("go(" + n + ")", x.go(n), Math.min(10, n));
            C.due("round behind go(" + n + ")", x.now(0), Math.min(10, n));
            C.due("go(" + n + ") again", x.go(n), n >= 10 ? -2 : Math.min(n, 10 - n));
        }
        PaperPays x = Checks.with("rounds 20;");
        C.due("go(20) of 20", x.go(20), 20);
        C.due("go(1) over", x.go(1), -2);
        C.due("go(0) over", x.go(0), -1);
        C.due("go(21) over", x.go(21), -1);
        x = Checks.with("rounds 3;");
        C.due("go(3) of 3", x.go(3), 3);
        C.due("go(20) over", x.go(20), -2);
    }

    private static void nowOfEach() {
        PaperPays x = Checks.with("rounds 3;pays 4 4;end 9;start 8;person mistaken 20 99 0;person mistaken 9 5 3;");
        int[][] due = {{0, 8, 8, 0, 0, 0}, {1, 15, 8, 2, 4, 0}, {2, 15, 15, 3, 8, 0}, {3, 15, 15, 3, 21, 1}};
        for (int r = 0; r <= 3; r++) {
            for (int what = 0; what < 6; what++) {
                C.due("in " + r + ": now(" + what + ")", x.now(what), due[r][what]);
            }
            x.go(1);
        }
    }

    /** "PRICE behind a ROUND that was (0 on). BAD." */
    private static void boardOfRoundsThatWere() {
        PaperPays x = Checks.with("rounds 20;start 44;");
        for (int r = 0; r < 20; r++) {
            C.due("board(" + r + ") ahead", x.board(r), -1);
            x.go(1);
            C.due("board(" + r + ") behind", x.board(r), 44);
            C.due("board(0)", x.board(0), 44);
            C.due("board(-1)", x.board(-1), -1);
        }
        C.due("board(20)", x.board(20), -1);
        x.again();
        C.due("board(0) anew", x.board(0), -1);
        x.go(1);
        C.due("board(0) of the new one", x.board(0), 44);
        C.due("board(1), as it was once", x.board(1), -1);
    }

    private static void highs(String when, PaperPays x, int... due) {
        for (int what = 0; what < due.length; what++) {
            C.due(when + ": high(" + what + ")", x.high(what), due[what]);
        }
    }

    /** 30 buys of 9 at 20 when it has 30 coins, in ROUNDS 0, 2 and 4; between them 14 does, at 12. */
    private static final String UP_AND_DOWN = "rounds 5;pays 5 5;sales 1;person mistaken 30 30 1;"
        + "person mistaken 14 99 0;person mistaken 9 0 9;";

    /** "the greatest PRICE behind a ROUND that was; its ROUND, of several the first"; the START is none. */
    private static void peakFirstOfSeveral() {
        PaperPays x = Checks.with("start 90;" + UP_AND_DOWN);
        int[] due = {20, 12, 20, 12, 20};
        highs("ahead", x, 0, -9);
        for (int r = 0; r < due.length; r++) {
            x.go(1);
            C.due("board(" + r + ")", x.board(r), due[r]);
            highs("behind " + r, x, 20, 0);
        }
        // The ASKS go up as those who ask less have sold all: 2, 10, 10; none.
        x = Checks.with("rounds 4;pays 0 0;start 90;sales 1;person mistaken 30 99 0;person mistaken 1 0 1;"
            + "person mistaken 9 0 2;");
        int[] peaks = {16, 20, 20, 20};
        int[] rounds = {0, 1, 1, 1};
        for (int r = 0; r < peaks.length; r++) {
            x.go(1);
            highs("up, behind " + r, x, peaks[r], rounds[r]);
        }
    }

    /** "the ROUND behind which PRICE is the most less than ahead of it, of several the first; NONE: none". */
    private static void fallFirstOfSeveral() {
        PaperPays x = Checks.with("rounds 3;start 20;pays 0 0;");
        C.due("ahead: fall", x.high(2), -9);
        x.go(3);
        C.due("even: fall", x.high(2), -9);
        x = played("rounds 3;start 8;pays 0 0;person mistaken 20 99 0;person mistaken 9 5 3;", 3);
        C.due("only up: fall", x.high(2), -9);
        x = played("rounds 3;start 16;pays 0 0;person mistaken 20 99 0;person mistaken 9 5 3;", 1);
        C.due("1 less behind ROUND 0", x.high(2), 0);
        // From the start to 20, then 8 less behind ROUND 1, and 8 less behind ROUND 3.
        int[] starts = {19, 20, 21, 27, 28, 29, 99};
        int[] due = {1, 1, 1, 1, 0, 0, 0};
        for (int i = 0; i < starts.length; i++) {
            x = Checks.with("start " + starts[i] + ";" + UP_AND_DOWN);
            x.go(1);
            C.due("start " + starts[i] + ", behind ROUND 0", x.high(2), starts[i] > 20 ? 0 : -9);
            x.go(1);
            C.due("start " + starts[i] + ", behind ROUND 1", x.high(2), due[i]);
            x.go(20);
            C.due("start " + starts[i] + ", over", x.high(2), due[i]);
        }
    }

    /** "twice PRICE behind each ROUND less HALVES of that ROUND's begin, where that is above 0, added". */
    private static void bubbleAboveZero() {
        for (int start = 1; start <= 12; start++) {
            PaperPays x = Checks.with("rounds 5;pays 1 2;end 1;start " + start + ";");
            int sum = 0;
            for (int r = 0; r < 5; r++) {
                C.due("start " + start + ", ahead of " + r, x.high(3), sum);
                sum += Math.max(0, 2 * start - (5 - r) * 3 - 2);
                x.go(1);
            }
            C.due("start " + start + ", over", x.high(3), sum);
        }
        PaperPays x = played("rounds 3;pays 1 0;end 0;start 1;", 1);
        C.due("2 less 3", x.high(3), 0);
        x.go(1);
        C.due("2 less 2", x.high(3), 0);
        x.go(1);
        C.due("2 less 1", x.high(3), 1);
    }

    /** "COINS less those at first, less SHEETS at first times all that a SHEET paid" (E, too). */
    private static void gainWhenOver() {
        PaperPays x = Checks.with("rounds 3;pays 4 4;end 9;start 8;person mistaken 20 99 2;person mistaken 9 5 3;"
            + "person mistaken 12 7 5;");
        for (int r = 0; r < 3; r++) {
            for (int p = 0; p < 3; p++) {
                C.due("in " + r + ": gain(" + p + ")", x.gain(p), NO);
            }
            x.go(1);
        }
        // 20 buys of 9 three at 15, then of 12 three at 16; each SHEET pays 12 and 9.
        sales("all", x, 6);
        has("the buyer", x, 0, 99 - 93 + 4 * 4 + 6 * 4 + 8 * 4 + 8 * 9, 8);
        has("who sold first", x, 1, 5 + 45 + 4, 0);
        has("who sold then", x, 2, 7 + 48 + 5 * 4 + 4 * 4 + 2 * 4 + 2 * 9, 2);
        C.due("gain(0)", x.gain(0), 150 - 99 - 2 * 21);
        C.due("gain(1)", x.gain(1), 54 - 5 - 3 * 21);
        C.due("gain(2)", x.gain(2), 117 - 7 - 5 * 21);
        C.due("gain(3)", x.gain(3), NO);
        C.due("gain(-1)", x.gain(-1), NO);
        x.again();
        C.due("anew: gain(0)", x.gain(0), NO);
    }
}
