/** Promises 14 to 18: each boundary that a sentence of the document names. */
public final class EdgesOfMarketsTest {
    private static final Checks C = new Checks("EdgesOfMarketsTest");
    /** WORTH 12; new ones value 17 and 21, those who have seen one market 13: of 12's ASK at 15, 17, 13. */
    private static final String TWO_FRESH = "rounds 6;pays 2 2;start 12;person fresh 5 99 0;person fresh 9 99 0;"
        + "person worth 0 9;";
    private static final String MIXED = "pays 0 9;end 5;start 20;person rising 9 60 2;person fresh 4 50 3;"
        + "person worth 30 4;person riding 2 40 1;person mistaken 25 70 2;person mistaken 8 0 0;";

    private EdgesOfMarketsTest() {
    }

    public static void main(String[] args) {
        againWhenOver();
        againBeginsAnew();
        againLeavesTheRest();
        againWithoutPeople();
        renewed();
        renewedOnTheWay();
        reviveLeastK();
        reviveOfEnds();
        reviveOfPeakAtLeast();
        reviveAsDone();
        reviveAtAnyTime();
        wouldAsTold();
        wouldOfEachNumber();
        wouldOfThoseWhoSaw();
        wouldAtAnyTime();
        lotIsAnyNumber();
        lotGoesOn();
        C.end();
    }

    /** "AGAIN (when it is over)"; STATE. */
    private static void againWhenOver() {
        for (int n : new int[] {3, 20}) {
            PaperPays x = Checks.with("rounds " + n + ";person worth 5 5;");
            for (int r = 0; r < n; r++) {
                C.due("again() in " + r + " of " + n, x.again(), -2);
                C.due("seen", x.person(0, 5), 0);
                C.due("round", x.now(0), r);
                x.go(1);
            }
            C.due("again() over", x.again(), 1);
            C.due("again() at once", x.again(), -2);
            C.due("seen once", x.person(0, 5), 1);
        }
    }

    /** "THE ROOM begins anew with COINS, SHEETS as told .. each one has SEEN one more". */
    private static void againBeginsAnew() {
        PaperPays x = Checks.with("rounds 3;pays 4 4;end 9;start 8;person mistaken 20 99 0;person mistaken 9 5 3;");
        for (int seen = 1; seen <= 3; seen++) {
            x.go(20);
            C.due("over: coins", x.person(0, 2) != 99 ? 1 : 0, 1);
            C.due("again()", x.again(), 1);
            int[] now = {0, 8, 8, 0, 0, 0};
            for (int what = 0; what < now.length; what++) {
                C.due("anew: now(" + what + ")", x.now(what), now[what]);
            }
            int[] high = {0, -9, -9, 0};
            for (int what = 0; what < high.length; what++) {
                C.due("anew: high(" + what + ")", x.high(what), high[what]);
            }
            C.due("anew: board(0)", x.board(0), -1);
            C.due("anew: coins of 0", x.person(0, 2), 99);
            C.due("anew: sheets of 0", x.person(0, 3), 0);
            C.due("anew: coins of 1", x.person(1, 2), 5);
            C.due("anew: sheets of 1", x.person(1, 3), 3);
            C.due("anew: seen by 0", x.person(0, 5), seen);
            C.due("anew: seen by 1", x.person(1, 5), seen);
            C.due("anew: count(1)", x.count(1), 3);
            C.due("anew: count(2)", x.count(2), 104);
        }
    }

    /** "(ERRORS stay)"; what isn't THE ROOM, and IMAGES, stay too. */
    private static void againLeavesTheRest() {
        PaperPays x = Checks.with(MIXED);
        x.keep(0);
        x.say(0, 1);
        x.go(1);
        x.say(2, 999);
        x.go(20);
        x.mark(0, 0);
        x.clue(5);
        x.hold(9, 1, 1);
        x.ride(2, 77);
        Checks.type(x, "fee 1");
        x.keep(1);
        x.lot(-9);
        int error = x.said(0, 0);
        int other = x.said(2, 0);
        C.due("again()", x.again(), 1);
        C.due("lot", x.lot(-9), -9);
        C.due("error", x.said(0, 0), error);
        C.due("other error", x.said(2, 0), other);
        C.due("how often", x.said(2, 1), 1);
        C.due("trace", x.trace(), 1);
        C.due("clues", x.count(3), 1);
        C.due("text", x.count(4), 5);
        C.due("holds", x.hold(1, 1, 0), 1);
        C.due("left", x.ride(2, 0), 77);
        C.due("said", x.say(0, 5), -9);
        C.due("back(1)", x.back(1), 15);
        C.due("seen, back", x.person(0, 5), 0);
        C.due("back(0)", x.back(0), 0);
        C.due("error, back", x.said(0, 1), 0);
    }

    private static void againWithoutPeople() {
        PaperPays x = new PaperPays();
        x.go(15);
        C.due("again()", x.again(), 1);
        C.due("now(0)", x.now(0), 0);
        C.due("now(5)", x.now(5), 0);
    }

    /** "RENEWED: how many were SEEN"; "one has SEEN 0". */
    private static void renewed() {
        PaperPays x = Checks.with(TWO_FRESH);
        for (int seen = 0; seen <= 3; seen++) {
            x.keep(0);
            for (int p = 0; p < 3; p++) {
                C.due("renew(" + p + ")", x.renew(p), seen);
                C.due("renew(" + p + ") again", x.renew(p), 0);
                for (int other = 0; other < 3; other++) {
                    C.due("seen by " + other, x.person(other, 5), other <= p ? 0 : seen);
                }
            }
            x.back(0);
            x.go(20);
            x.again();
        }
        C.due("renew(3)", x.renew(3), -1);
        C.due("renew(-1)", x.renew(-1), -1);
        C.due("value of who saw", x.person(1, 4), 0);
        x.renew(1);
        C.due("value of who is renewed", x.person(1, 4), 21);
        C.due("coins stay", x.person(1, 2), 99);
    }

    private static void renewedOnTheWay() {
        PaperPays x = Checks.with(TWO_FRESH);
        x.go(6);
        x.again();
        x.go(2);
        int coins = x.person(0, 2);
        C.due("renew(0) on the way", x.renew(0), 1);
        C.due("round stays", x.now(0), 2);
        C.due("coins stay", x.person(0, 2), coins);
        C.due("value on the way", x.person(0, 4), (x.now(1) + 8) / 2 + 5);
        x.go(20);
        C.due("renew(1) over", x.renew(1), 1);
        x.again();
        C.due("seen by 0", x.person(0, 5), 1);
        C.due("seen by 1", x.person(1, 5), 1);
        C.due("seen by 2", x.person(2, 5), 2);
    }

    private static void revives(String of, PaperPays x, int... leastK) {
        // From PEAKS 13 on: by none 13, by the first 15, by two 17.
        for (int i = 0; i < leastK.length; i++) {
            C.due(of + ": revive(" + (13 + i) + ")", x.revive(13 + i), leastK[i]);
        }
    }

    /** "the least k such that, persons 0 to k less 1 being RENEWED"; "NONE: not by all". */
    private static void reviveLeastK() {
        PaperPays x = Checks.with(TWO_FRESH);
        revives("none has seen", x, 0, 0, 0, 0, 0, -9);
        x.go(20);
        revives("over, none has seen", x, 0, 0, 0, 0, 0, -9);
        x.again();
        revives("all have seen one", x, 0, 1, 1, 2, 2, -9);
        x.renew(0);
        revives("the first is renewed", x, 0, 0, 0, 2, 2, -9);
        x.renew(1);
        revives("both are renewed", x, 0, 0, 0, 0, 0, -9);
        x = Checks.with("person worth 0 9;" + TWO_FRESH.replace("person worth 0 9;", ""));
        x.go(20);
        x.again();
        revives("the first doesn't matter", x, 0, 2, 2, 3, 3, -9);
    }

    /** "BAD (x 0 .. 999)". */
    private static void reviveOfEnds() {
        PaperPays x = Checks.with(TWO_FRESH);
        C.due("revive(0)", x.revive(0), 0);
        C.due("revive(1)", x.revive(1), 0);
        C.due("revive(999)", x.revive(999), -9);
        C.due("revive(-1)", x.revive(-1), -1);
        C.due("revive(1000)", x.revive(1000), -1);
        x = Checks.with("pays 0 0;");
        C.due("a PEAK of 0: revive(0)", x.revive(0), 0);
        C.due("a PEAK of 0: revive(1)", x.revive(1), -9);
        x = Checks.with("rounds 20;pays 9 9;end 99;");
        C.due("no people: revive(279)", x.revive(279), 0);
        C.due("no people: revive(280)", x.revive(280), -9);
    }

    /** "has a PEAK of x at least": whatever the PEAK, it is enough, and one more is not. */
    private static void reviveOfPeakAtLeast() {
        for (int start = 1; start <= 99; start += 7) {
            PaperPays x = Checks.with("start " + start + ";" + "rounds 3;pays 1 1;");
            C.due("revive(" + start + ")", x.revive(start), 0);
            C.due("revive(" + (start + 1) + ")", x.revive(start + 1), -9);
        }
        // The START is above all PRICES: it is no PEAK.
        PaperPays x = Checks.with("start 90;rounds 3;pays 0 0;person mistaken 20 99 0;person mistaken 9 0 9;");
        C.due("revive(15)", x.revive(15), 0);
        C.due("revive(16)", x.revive(16), -9);
    }

    /** What is tried comes so when it is done: by THE LOT as it is now, and with so many renewed. */
    private static void reviveAsDone() {
        int byLot = 0;
        for (int lot = 0; lot < 12; lot++) {
            PaperPays x = Checks.with(MIXED);
            x.go(20);
            x.again();
            x.lot(lot * 7654321);
            x.keep(0);
            int[] peaks = new int[7];
            for (int k = 0; k <= 6; k++) {
                x.back(0);
                for (int p = 0; p < k; p++) {
                    x.renew(p);
                }
                x.go(20);
                peaks[k] = x.high(0);
            }
            byLot += peaks[0] != 20 ? 1 : 0;
            x.back(0);
            for (int peak = 10; peak < 60; peak++) {
                int due = -9;
                for (int k = 6; k >= 0; k--) {
                    due = peaks[k] >= peak ? k : due;
                }
                C.due("lot " + lot + ": revive(" + peak + ")", x.revive(peak), due);
            }
            C.due("lot stays", x.lot(0), lot * 7654321);
        }
        C.due("prices move", byLot > 0 ? 1 : 0, 1);
    }

    /** Refused for no STATE: the market is "begun anew" whichever ROUND it is. */
    private static void reviveAtAnyTime() {
        PaperPays x = Checks.with(TWO_FRESH);
        x.go(6);
        x.again();
        for (int r = 0; r <= 6; r++) {
            revives("in " + r, x, 0, 1, 1, 2, 2, -9);
            C.due("round stays", x.now(0), r);
            x.go(1);
        }
    }

    private static void wouldIs(String of, PaperPays x, int rule, int v, PaperPays done) {
        C.due(of + ": peak", x.would(rule, v, 0), done.high(0));
        C.due(of + ": bubble", x.would(rule, v, 1), done.high(3));
        C.due(of + ": sales", x.would(rule, v, 2), done.now(3));
    }

    private static void wouldAsTold() {
        String rules = "rounds 9;lent 12;short 2;lid 30;fee 1;sales 4;";
        PaperPays x = Checks.with(rules + MIXED);
        PaperPays done = Checks.with(rules + MIXED);
        done.go(20);
        int[] told = {12, 2, 30, 1, 4};
        for (int rule = 0; rule < told.length; rule++) {
            wouldIs("rule " + rule + " as told", x, rule, told[rule], done);
        }
    }

    /** "a rule otherwise ..(as the text may tell them; lid 0: none)": all numbers, beside rules told so. */
    private static void wouldOfEachNumber() {
        String[] words = {"lent", "short", "lid", "fee", "sales"};
        int[] told = {12, 2, 30, 1, 4};
        int[] least = {0, 0, 0, 0, 1};
        int[] most = {99, 9, 99, 9, 9};
        for (int rule = 0; rule < words.length; rule++) {
            int otherwise = 0;
            for (int v = least[rule]; v <= most[rule]; v++) {
                PaperPays x = Checks.with(rulesBut(words, told, -1, 0) + MIXED);
                PaperPays done = Checks.with(rulesBut(words, told, rule, v) + MIXED);
                done.go(20);
                wouldIs(words[rule] + " " + v, x, rule, v, done);
                otherwise += x.would(rule, v, 2) != x.would(rule, told[rule], 2)
                    || x.would(rule, v, 1) != x.would(rule, told[rule], 1) ? 1 : 0;
                C.due("the rule stays", x.rule(5 + rule), told[rule]);
            }
            C.due(words[rule] + " matters", otherwise > 0 ? 1 : 0, 1);
            PaperPays x = Checks.with(MIXED);
            for (int what = 0; what <= 2; what++) {
                C.due(words[rule] + " below", x.would(rule, least[rule] - 1, what), -1);
                C.due(words[rule] + " above", x.would(rule, most[rule] + 1, what), -1);
            }
        }
    }

    private static String rulesBut(String[] words, int[] told, int rule, int v) {
        StringBuilder text = new StringBuilder("rounds 9;");
        for (int i = 0; i < words.length; i++) {
            int number = i == rule ? v : told[i];
            if (i != 2 || number > 0) {
                text.append(words[i]).append(" ").append(number).append(";");
            }
        }
        return text.toString();
    }

    private static void wouldOfThoseWhoSaw() {
        for (int v = 0; v <= 9; v++) {
            PaperPays x = Checks.with("rounds 9;" + MIXED);
            x.go(20);
            x.again();
            PaperPays done = Checks.with("rounds 9;fee " + v + ";" + MIXED);
            done.go(20);
            done.again();
            done.go(20);
            wouldIs("who saw, fee " + v, x, 3, v, done);
        }
        PaperPays x = Checks.with(TWO_FRESH);
        C.due("new ones: peak", x.would(4, 5, 0), 17);
        x.go(6);
        x.again();
        C.due("who saw: peak", x.would(4, 5, 0), 13);
        x.renew(0);
        C.due("one renewed: peak", x.would(4, 5, 0), 15);
    }

    private static void wouldAtAnyTime() {
        PaperPays x = Checks.with("rounds 9;" + MIXED);
        int[] due = {x.would(4, 1, 0), x.would(4, 1, 1), x.would(4, 1, 2)};
        for (int r = 0; r <= 9; r++) {
            x.lot(1);
            for (int what = 0; what <= 2; what++) {
                C.due("in " + r + ": would(4, 1, " + what + ")", x.would(4, 1, what), due[what]);
            }
            C.due("round stays", x.now(0), r);
            C.due("lot stays", x.lot(1), 1);
            x.go(1);
        }
    }

    /** "THE LOT becomes v: what it was." */
    private static void lotIsAnyNumber() {
        PaperPays x = new PaperPays();
        int was = 1;
        for (int v : new int[] {0, -1, 1, 65535, 65536, Integer.MIN_VALUE, Integer.MAX_VALUE, 12345, 0}) {
            C.due("lot(" + v + ")", x.lot(v), was);
            was = v;
        }
    }

    /** "(times 1103515245 and 12345, wrapped)": once each ROUND, and by nothing else. */
    private static void lotGoesOn() {
        PaperPays x = Checks.with("rounds 20;" + MIXED);
        int lot = 1;
        for (int r = 0; r < 20; r++) {
            x.go(1);
            lot = (int) ((lot * 1103515245L + 12345L) & 0xffffffffL);
            x.revive(50);
            x.would(0, 3, 0);
            x.renew(0);
            C.due("lot behind " + r, x.lot(lot), lot);
        }
        x.again();
        C.due("lot behind again()", x.lot(lot), lot);
        C.due("go over", x.go(20), 20);
        for (int r = 0; r < 20; r++) {
            lot = (int) ((lot * 1103515245L + 12345L) & 0xffffffffL);
        }
        C.due("lot behind twenty", x.lot(0), lot);
    }
}
