/** Promises 1 and 5 to 8, VALUE, WORTH and ODDS: each boundary that a sentence of the document names. */
public final class EdgesOfRulesTest {
    private static final Checks C = new Checks("EdgesOfRulesTest");
    private static final int NO = -1000000;
    /** 28 buys one sheet of 9, at 19 and no more: the price goes to 19 from the start, and stays. */
    private static final String TO_19 = "pays 0 0;rounds 5;sales 1;person mistaken 28 99 0;person mistaken 9 0 1;";

    private EdgesOfRulesTest() {
    }

    public static void main(String[] args) {
        newObject();
        newRoomIsPlayed();
        rulesReadAnew();
        whatPersonTells();
        risingIsCutTowardZero();
        risingAtTheBegin();
        ridingUntilTooFewAreLeft();
        ridingOfTheGreater();
        freshIsRoundedDown();
        mistakenIsAlwaysTheSame();
        zeroAtLeast();
        lidAtMost();
        withoutALid();
        upTo999();
        seenKMarkets();
        seenByOtherLaws();
        valueNow();
        worthIsRoundedDown();
        worthOfEachRound();
        oddsOfEachRound();
        oddsOfTheEnds();
        oddsTogether();
        C.end();
    }

    private static void value(String of, PaperPays x, int p, int due) {
        C.due(of + ": value of " + p, x.person(p, 4), due);
    }

    private static void values(String of, PaperPays x, int first, int... due) {
        for (int i = 0; i < due.length; i++) {
            value(of, x, first + i, due[i]);
        }
    }

    /** "As told; no PEOPLE; THE LOT is 1." */
    private static void newObject() {
        int[] usual = {15, 1, 3, 0, 30, 0, 0, 0, 0, 5};
        PaperPays x = new PaperPays();
        for (int what = 0; what < usual.length; what++) {
            C.due("new: rule(" + what + ")", x.rule(what), usual[what]);
        }
        int[] now = {0, 30, 30, 0, 0, 0};
        for (int what = 0; what < now.length; what++) {
            C.due("new: now(" + what + ")", x.now(what), now[what]);
        }
        int[] high = {0, -9, -9, 0};
        for (int what = 0; what < high.length; what++) {
            C.due("new: high(" + what + ")", x.high(what), high[what]);
        }
        for (int what = 0; what <= 4; what++) {
            C.due("new: count(" + what + ")", x.count(what), 0);
        }
        C.due("new: person(0, 0)", x.person(0, 0), NO);
        C.due("new: board(0)", x.board(0), -1);
        C.due("new: renew(0)", x.renew(0), -1);
        C.due("new: said(0, 0)", x.said(0, 0), -1);
        C.due("new: truest()", x.truest(), -9);
        C.due("new: trace()", x.trace(), 0);
        C.due("new: clear()", x.clear(), 0);
        C.due("new: back(0)", x.back(0), -2);
        C.due("new: back(1)", x.back(1), -2);
        C.due("new: again()", x.again(), -2);
        C.due("new: fit(0, 0)", x.fit(0, 0), -2);
        C.due("new: lot(1)", x.lot(1), 1);
        C.due("new: BASE", x.ride(0, 30), 30);
        C.due("new: STEP", x.ride(1, 5), 5);
        C.due("new: LEFT", x.ride(2, 10), 10);
        for (int r = 0; r <= 9; r++) {
            C.due("new: HOLDS of " + r, x.hold(r, r, 0), r == 9 ? 10 : 0);
        }
    }

    private static void newRoomIsPlayed() {
        PaperPays x = new PaperPays();
        C.due("new: revive(30)", x.revive(30), 0);
        C.due("new: revive(31)", x.revive(31), -9);
        C.due("new: would(4, 1, 0)", x.would(4, 1, 0), 30);
        C.due("new: go(20)", x.go(20), 15);
        C.due("new: peak", x.high(0), 30);
        // Twice 30 less 60, 56 .. 4.
        C.due("new: bubble", x.high(3), 15 * 14 / 2 * 4);
        C.due("new: again()", x.again(), 1);
        C.due("new: rules()", x.rules(), 0);
        x = new PaperPays();
        C.due("two new ones don't share: lot", x.lot(1), 1);
        C.due("two new ones don't share: now", x.now(0), 0);
    }

    /** "THE ROOM begins, nothing SEEN, no ERRORS, IMAGES are gone; THE LOT .. CLUES stay; THE TRACE goes on". */
    private static void rulesReadAnew() {
        String text = TO_19 + "person rising 2 0 0;";
        PaperPays x = Checks.with(text);
        x.say(0, 12);
        x.go(5);
        x.again();
        x.keep(0);
        x.keep(1);
        x.say(0, 44);
        x.go(2);
        x.say(1, 45);
        x.ride(0, 1);
        x.ride(1, 2);
        x.ride(2, 3);
        x.hold(9, 0, 4);
        x.clue(7);
        x.mark(1, 0);
        x.lot(-77);
        C.due("rules anew", Checks.rules(x, "start 1;" + text), 7);
        int[] now = {0, 1, 1, 0, 0, 0};
        for (int what = 0; what < now.length; what++) {
            C.due("anew: now(" + what + ")", x.now(what), now[what]);
        }
        for (int p = 0; p < 3; p++) {
            C.due("anew: seen by " + p, x.person(p, 5), 0);
            C.due("anew: error of " + p, x.said(p, 0), 0);
            C.due("anew: how often " + p, x.said(p, 1), 0);
            C.due("anew: said by " + p, x.say(p, 3), -9);
        }
        C.due("anew: board(0)", x.board(0), -1);
        C.due("anew: peak's round", x.high(1), -9);
        C.due("anew: coins", x.person(0, 2), 99);
        C.due("anew: sheets", x.person(1, 3), 1);
        C.due("anew: truest()", x.truest(), -9);
        C.due("anew: back(0)", x.back(0), -2);
        C.due("anew: back(1)", x.back(1), -2);
        C.due("anew: lot", x.lot(1), -77);
        C.due("anew: BASE", x.ride(0, 1), 1);
        C.due("anew: STEP", x.ride(1, 1), 2);
        C.due("anew: LEFT", x.ride(2, 1), 3);
        C.due("anew: HOLDS", x.hold(0, 0, 0), 4);
        C.due("anew: CLUES", x.count(3), 1);
        C.due("anew: TRACE", x.trace(), 11);
        x.mark(0, 0);
        C.due("anew: TRACE goes on", x.trace(), 12);
    }

    /** "0 LAW .., 1 n (0: none), 2 COINS, 3 SHEETS, 4 VALUE now, 5 how many were SEEN. NO: BAD." */
    private static void whatPersonTells() {
        PaperPays x = Checks.with("rounds 3;pays 0 0;end 6;start 6;person worth 0 0;person rising 9 99 9;"
            + "person riding 1 2 3;person mistaken 99 4 5;person fresh 9 6 7;");
        int[][] due = {{0, 0, 0, 0, 6, 0}, {1, 9, 99, 9, 6, 0}, {2, 1, 2, 3, 7, 0}, {3, 99, 4, 5, 99, 0}, {4, 9, 6, 7, 15, 0}};
        for (int p = 0; p < due.length; p++) {
            for (int what = 0; what < 6; what++) {
                C.due("person(" + p + ", " + what + ")", x.person(p, what), due[p][what]);
            }
        }
        Checks.rules(x, "person worth 1 2;person worth 3 4;person mistaken 5 6 7;");
        int[][] anew = {{0, 0, 1, 2}, {0, 0, 3, 4}, {3, 5, 6, 7}};
        for (int p = 0; p < anew.length; p++) {
            for (int what = 0; what < 4; what++) {
                C.due("told anew: person(" + p + ", " + what + ")", x.person(p, what), anew[p][what]);
            }
        }
        C.due("told anew: person(3, 0)", x.person(3, 0), NO);
        C.due("told anew: person(4, 1)", x.person(4, 1), NO);
        x = Checks.with("person worth 0 0;person worth 0 0;person worth 0 0;person worth 0 0;person worth 0 0;");
        C.due("person(5, 0)", x.person(5, 0), NO);
        C.due("person(4, 6)", x.person(4, 6), NO);
        C.due("person(4, -1)", x.person(4, -1), NO);
        C.due("person(-1, 0)", x.person(-1, 0), NO);
    }

    /** "PRICE and n times (PRICE less PREV) by 10 (cut toward 0)": up 9 and down 9. */
    private static void risingIsCutTowardZero() {
        StringBuilder rising = new StringBuilder();
        for (int n = 1; n <= 7; n++) {
            rising.append("person rising ").append(n).append(" 0 0;");
        }
        PaperPays x = Checks.with("start 10;" + TO_19 + rising);
        x.go(1);
        C.due("up: price", x.now(1), 19);
        C.due("up: prev", x.now(2), 10);
        // .9, 1.8, 2.7, 3.6, 4.5, 5.4, 6.3
        values("up 9", x, 2, 19, 20, 21, 22, 23, 24, 25);
        x = Checks.with("start 28;" + TO_19 + rising);
        x.go(1);
        C.due("down: prev", x.now(2), 28);
        values("down 9", x, 2, 19, 18, 17, 16, 15, 14, 13);
        x.go(1);
        values("then even", x, 2, 19, 19, 19, 19, 19, 19, 19);
        x = Checks.with("start 10;" + TO_19 + "person rising 8 0 0;person rising 9 0 0;");
        x.go(1);
        values("up 9 by 8, 9", x, 2, 26, 27);
        x = Checks.with("start 28;" + TO_19 + "person rising 8 0 0;person rising 9 0 0;");
        x.go(1);
        values("down 9 by 8, 9", x, 2, 12, 11);
        x = Checks.with("start 9;" + TO_19 + "person rising 1 0 0;person rising 9 0 0;");
        x.go(1);
        values("up 10", x, 2, 20, 28);
        x = Checks.with("start 29;" + TO_19 + "person rising 1 0 0;person rising 9 0 0;");
        x.go(1);
        values("down 10", x, 2, 18, 10);
    }

    /** "at first START, too": there is no rise yet. */
    private static void risingAtTheBegin() {
        PaperPays x = Checks.with("start 40;" + TO_19 + "person rising 9 0 0;");
        value("ahead", x, 2, 40);
        x.go(5);
        x.again();
        x.renew(2);
        value("ahead, anew", x, 2, 40);
    }

    /** "with more than n ROUNDS left: ..; else 0". */
    private static void ridingUntilTooFewAreLeft() {
        StringBuilder riding = new StringBuilder("rounds 9;pays 0 0;start 10;");
        for (int n = 1; n <= 9; n++) {
            riding.append("person riding ").append(n).append(" 0 0;");
        }
        PaperPays x = Checks.with(riding.toString());
        for (int r = 0; r <= 9; r++) {
            for (int n = 1; n <= 9; n++) {
                value("9 rounds, in " + r, x, n - 1, 9 - r > n ? 11 : 0);
            }
            x.go(1);
        }
    }

    /** "the greater of WORTH and PRICE, and 1 more". */
    private static void ridingOfTheGreater() {
        String riding = "pays 0 0;end 10;person riding 1 0 0;";
        value("price less", Checks.with("start 9;" + riding), 0, 11);
        value("as great", Checks.with("start 10;" + riding), 0, 11);
        value("price more", Checks.with("start 11;" + riding), 0, 12);
        PaperPays x = Checks.with("rounds 4;pays 2 2;start 5;person riding 1 0 0;");
        int[] due = {9, 7, 6, 0, 0};
        for (int r = 0; r < due.length; r++) {
            value("worth falls below the price, in " + r, x, 0, due[r]);
            x.go(1);
        }
    }

    /** "half of PRICE and WORTH together (rounded down), and n". */
    private static void freshIsRoundedDown() {
        for (int start = 1; start <= 8; start++) {
            PaperPays x = Checks.with("pays 0 0;end 3;start " + start + ";person fresh 1 0 0;person fresh 9 0 0;");
            values("start " + start, x, 0, (start + 3) / 2 + 1, (start + 3) / 2 + 9);
        }
        // WORTH is 1.5, rounded down itself: 1 and 2 together, half of it 1.
        value("both", Checks.with("rounds 3;pays 0 1;start 2;person fresh 1 0 0;"), 0, 2);
    }

    private static void mistakenIsAlwaysTheSame() {
        PaperPays x = Checks.with("rounds 3;start 50;person mistaken 1 0 0;person mistaken 99 0 0;");
        for (int r = 0; r <= 3; r++) {
            values("in " + r, x, 0, 1, 99);
            x.go(1);
        }
    }

    /** "Then it is 0 at least": 19 less .9 times (P less 19). */
    private static void zeroAtLeast() {
        int[] starts = {39, 40, 41, 99};
        int[] due = {1, 1, 0, 0};
        for (int i = 0; i < starts.length; i++) {
            PaperPays x = Checks.with("start " + starts[i] + ";" + TO_19 + "person rising 9 0 0;");
            x.go(1);
            value("from " + starts[i], x, 2, due[i]);
        }
        PaperPays x = Checks.with("start 42;" + TO_19 + "person rising 9 0 0;");
        x.go(1);
        value("19 less 20.7", x, 2, 0);
        value("worth of nothing", Checks.with("pays 0 0;person worth 0 0;"), 0, 0);
    }

    /** "LID at most". */
    private static void lidAtMost() {
        String people = "person worth 0 0;person rising 1 0 0;person riding 1 0 0;person mistaken 17 0 0;person fresh 1 0 0;";
        int[] free = {17, 17, 18, 17, 18};
        for (int lid = 15; lid <= 19; lid++) {
            PaperPays x = Checks.with("pays 0 0;end 17;start 17;lid " + lid + ";" + people);
            for (int p = 0; p < free.length; p++) {
                value("lid " + lid, x, p, Math.min(lid, free[p]));
            }
        }
        values("lid 99", Checks.with("lid 99;start 99;pays 0 0;end 99;" + people), 0, 99, 99, 99, 17, 99);
        values("lid 98", Checks.with("lid 98;person mistaken 97 0 0;person mistaken 98 0 0;person mistaken 99 0 0;"), 0,
            97, 98, 98);
        values("lid 1", Checks.with("lid 1;start 50;" + people), 0, 1, 1, 1, 1, 1);
        value("none left to ride, with a lid", Checks.with("lid 5;rounds 3;person riding 3 0 0;"), 0, 0);
        // The START is no VALUE: the lid doesn't hold it down.
        C.due("price above the lid", Checks.with("lid 5;start 50;").now(1), 50);
    }

    private static void withoutALid() {
        PaperPays x = Checks.with("rounds 20;pays 9 9;end 99;person worth 0 0;person rising 9 0 0;person riding 9 0 0;"
            + "person mistaken 99 0 0;person fresh 9 0 0;");
        values("far above 99", x, 0, 279, 279, 280, 99, 288);
    }

    /**
     * "LID at most (999 without)". Those who have seen a market ride: none sells to another, and six rounds fill
     * their purses. Then one who is new sells to the first of them, far above the start; and all of them being new,
     * the risings of 9 buy of the rising of 8, round by round.
     */
    private static void upTo999() {
        PaperPays x = Checks.with("rounds 20;pays 9 9;end 99;start 1;lent 99;short 1;sales 1;person rising 8 99 9;"
            + "person fresh 9 99 0;person rising 9 10 9;person rising 9 30 9;" + "person rising 9 99 9;".repeat(5));
        x.go(20);
        x.again();
        C.due("999: the purses fill", x.go(6), 6);
        C.due("999: no sale as yet", x.now(3), 0);
        values("999: riding on 225", x, 0, 226, 226, 226);
        x.renew(1);
        value("999: half of 1 and 225, and 9", x, 1, 122);
        x.go(1);
        C.due("999: half of 226 and 123", x.now(1), 174);
        for (int p = 0; p < 9; p++) {
            x.renew(p);
        }
        int[] prices = {321, 446, 552, 642, 719, 784, 839, 886, 926, 960, 989};
        int price = 174;
        int prev = 1;
        for (int next : prices) {
            int eight = price + 8 * (price - prev) / 10;
            int nine = price + 9 * (price - prev) / 10;
            values("999: at " + price, x, 0, eight);
            values("999: at " + price, x, 2, nine, nine, nine, nine, nine, nine, nine);
            x.go(1);
            C.due("999: half of " + nine + " and " + (eight + 1), x.now(1), next);
            prev = price;
            price = next;
        }
        // 989 and 8, 9 times 29 by 10 would be 1012, 1015.
        values("999: no more", x, 0, 999);
        values("999: no more", x, 2, 999, 999, 999, 999, 999, 999, 999);
        C.due("999: sales", x.now(3), 12);
        x.go(1);
        C.due("999: no bid of 1000", x.now(3), 12);
        C.due("999: the price stays", x.now(1), 989);
        values("999: it rose by nothing", x, 2, 989);
    }

    /** "One who has SEEN k markets (k above 0) with the LAW rising or fresh has it as by riding 2 k." */
    private static void seenKMarkets() {
        PaperPays x = Checks.with("rounds 7;pays 0 0;start 10;person rising 9 0 0;person fresh 9 0 0;person rising 1 0 0;"
            + "person fresh 1 0 0;");
        values("none seen", x, 0, 10, 14, 10, 6);
        for (int k = 1; k <= 4; k++) {
            x.go(20);
            values("over", x, 0, k == 1 ? new int[] {10, 14, 10, 6} : new int[] {0, 0, 0, 0});
            x.again();
            for (int r = 0; r < 7; r++) {
                int due = 7 - r > 2 * k ? 11 : 0;
                values("seen " + k + ", in " + r, x, 0, due, due, due, due);
                x.go(1);
            }
        }
        x.again();
        C.due("seen", x.person(0, 5), 5);
        x.renew(0);
        x.renew(3);
        values("two renewed", x, 0, 10, 0, 0, 6);
        C.due("the LAW stays as told", x.person(1, 0), 4);
        C.due("n stays as told", x.person(1, 1), 9);
    }

    private static void seenByOtherLaws() {
        PaperPays x = Checks.with("rounds 5;pays 0 0;end 10;start 10;person worth 0 0;person riding 1 0 0;"
            + "person riding 4 0 0;person riding 5 0 0;person mistaken 33 0 0;");
        for (int k = 0; k <= 3; k++) {
            C.due("seen", x.person(0, 5), k);
            values("seen " + k, x, 0, 10, 11, 11, 0, 33);
            x.go(20);
            x.again();
        }
    }

    /** "VALUE now", of each ROUND, and when it is over. */
    private static void valueNow() {
        PaperPays x = Checks.with("rounds 4;pays 1 2;end 3;start 20;person worth 0 0;person fresh 1 0 0;");
        int[] worth = {9, 7, 6, 4, 3};
        for (int r = 0; r <= 4; r++) {
            values("in " + r, x, 0, worth[r], (20 + worth[r]) / 2 + 1);
            x.go(1);
        }
    }

    /** "half of (N less r) times (A and B together), and E more, rounded down; HALVES: .. times 2, not rounded". */
    private static void worthIsRoundedDown() {
        for (int a = 0; a <= 9; a += 3) {
            for (int b = 0; b <= 9; b++) {
                PaperPays x = Checks.with("rounds 3;pays " + a + " " + b + ";end 7;");
                for (int r = 0; r <= 3; r++) {
                    int halves = (3 - r) * (a + b) + 14;
                    C.due("worth(" + r + ", 0) of " + a + " " + b, x.worth(r, 0), halves / 2);
                    C.due("worth(" + r + ", 1) of " + a + " " + b, x.worth(r, 1), halves);
                }
            }
        }
    }

    /** "WORTH in ROUND r (0 .. N)": both ends, whichever ROUND it is. */
    private static void worthOfEachRound() {
        for (int n : new int[] {3, 15, 20}) {
            PaperPays x = Checks.with("rounds " + n + ";pays 1 1;end 99;");
            for (int times = 0; times < 2; times++) {
                C.due("the first", x.worth(0, 0), n + 99);
                C.due("the first, halves", x.worth(0, 1), 2 * n + 198);
                C.due("the last", x.worth(n, 0), 99);
                C.due("the last, halves", x.worth(n, 1), 198);
                C.due("one more", x.worth(n + 1, 0), -1);
                C.due("one less", x.worth(-1, 0), -1);
                x.go(20);
            }
        }
    }

    /** "of 2 to the (N less r) rows of dice (even: A, odd: B) how many pay just k, E counted, too". */
    private static void oddsOfEachRound() {
        PaperPays x = Checks.with("rounds 4;pays 2 5;end 3;");
        int[][] rows = {{1, 4, 6, 4, 1}, {1, 3, 3, 1}, {1, 2, 1}, {1, 1}, {1}};
        for (int r = 0; r <= 4; r++) {
            int dice = 4 - r;
            for (int k = 0; k < 40; k++) {
                int odd = k - 3 - 2 * dice;
                int due = odd >= 0 && odd % 3 == 0 && odd / 3 <= dice ? rows[r][odd / 3] : 0;
                C.due("odds(" + r + ", " + k + ")", x.odds(r, k), due);
            }
        }
        C.due("odds(5, 3)", x.odds(5, 3), -1);
        C.due("odds(-1, 3)", x.odds(-1, 3), -1);
        x.go(4);
        C.due("over: odds(0, 11)", x.odds(0, 11), 1);
        C.due("over: odds(4, 3)", x.odds(4, 3), 1);
    }

    /** "k (0 .. 279)". */
    private static void oddsOfTheEnds() {
        PaperPays x = Checks.with("rounds 20;pays 9 9;end 99;");
        C.due("all pay 279", x.odds(0, 279), 1 << 20);
        C.due("none pays 278", x.odds(0, 278), 0);
        C.due("odds(0, 280)", x.odds(0, 280), -1);
        C.due("odds(20, 99)", x.odds(20, 99), 1);
        C.due("odds(20, 98)", x.odds(20, 98), 0);
        x = Checks.with("rounds 20;pays 0 0;");
        C.due("all pay 0", x.odds(0, 0), 1 << 20);
        C.due("odds(20, 0)", x.odds(20, 0), 1);
        C.due("odds(0, -1)", x.odds(0, -1), -1);
        x = Checks.with("rounds 20;pays 0 9;end 99;");
        C.due("all odd", x.odds(0, 279), 1);
        C.due("all even", x.odds(0, 99), 1);
        C.due("half of each", x.odds(0, 189), 184756);
        x = Checks.with("rounds 3;pays 0 9;");
        C.due("none odd", x.odds(0, 0), 1);
    }

    /** "rows .. 2 to the (N less r)". */
    private static void oddsTogether() {
        for (String text : new String[] {"rounds 20;pays 1 3;", "rounds 20;pays 9 0;end 50;", "rounds 3;pays 4 4;"}) {
            int n = Checks.with(text).rule(0);
            for (int r = 0; r <= n; r++) {
                PaperPays x = Checks.with(text);
                long all = 0;
                for (int k = 0; k <= 279; k++) {
                    all += x.odds(r, k);
                }
                C.due(text + " all rows in " + r, all, 1L << (n - r));
            }
        }
    }
}
