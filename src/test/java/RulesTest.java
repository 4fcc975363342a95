/** Promises 1 to 8: a new object, the text, the rules and what they say. */
public final class RulesTest {
    private static final Checks C = new Checks("RulesTest");

    private RulesTest() {
    }

    public static void main(String[] args) {
        newObject();
        typing();
        clearing();
        itemsThatStand();
        whatIsNotTold();
        faultsOfTokens();
        faultsOfNumbers();
        faultsOfPlaces();
        nothingChangesByAFault();
        rulesReadAnew();
        rule();
        personAsTold();
        valuesByLaw();
        valuesThatMove();
        valuesOfTheSeeing();
        worth();
        odds();
        C.end();
    }

    private static void newObject() {
        PaperPays x = new PaperPays();
        int[] usual = {15, 1, 3, 0, 30, 0, 0, 0, 0, 5};
        for (int what = 0; what < usual.length; what++) {
            C.due("new: rule(" + what + ")", x.rule(what), usual[what]);
        }
        for (int what = 0; what < 5; what++) {
            C.due("new: count(" + what + ")", x.count(what), 0);
        }
        C.due("new: now(0)", x.now(0), 0);
        C.due("new: now(1)", x.now(1), 30);
        C.due("new: now(2)", x.now(2), 30);
        C.due("new: now(5)", x.now(5), 0);
        C.due("new: person(0, 0)", x.person(0, 0), -1000000);
        C.due("new: truest()", x.truest(), -9);
        C.due("new: back(0)", x.back(0), -2);
        C.due("new: back(1)", x.back(1), -2);
        C.due("new: trace()", x.trace(), 0);
        C.due("new: hold(9, 9, 10)", x.hold(9, 9, 10), 10);
        C.due("new: lot(5)", x.lot(5), 1);
        C.due("new: go(20)", x.go(20), 15);
        C.due("new: high(0)", x.high(0), 30);
    }

    private static void typing() {
        PaperPays x = new PaperPays();
        C.due("type(0)", x.type(1, 0), -1);
        C.due("type(9)", x.type(1, 9), -1);
        C.due("type(-1)", x.type(1, -1), -1);
        C.due("type least", x.type(1, Integer.MIN_VALUE), -1);
        C.due("count(4) after BAD", x.count(4), 0);
        // Of these eight bytes the lowest five are "fee 3"; the rest doesn't come.
        C.due("type fee 3", x.type(0x7a7a7a6665652033L, 5), 5);
        C.due("type ;", x.type(0x3b, 1), 6);
        C.due("rules()", x.rules(), 1);
        C.due("rule(8)", x.rule(8), 3);
        for (int i = 1; i <= 50; i++) {
            C.due("type eight blanks", x.type(0x2020202020202020L, 8), 8 * i);
        }
        C.due("type beyond 400", x.type(0x20, 1), -3);
        C.due("type BAD ahead of FULL", x.type(0x20, 0), -1);
        C.due("count(4)", x.count(4), 400);
        C.due("rules() of blanks", x.rules(), 0);
        for (int i = 1; i <= 49; i++) {
            x.type(0x2020202020202020L, 8);
        }
        C.due("type to 395", x.type(0x202020, 3), 395);
        C.due("type to 403", x.type(0x2020202020202020L, 8), -3);
        C.due("type to 401", x.type(0x2020202020202020L, 6), -3);
        C.due("type to 400", x.type(0x3132333435L, 5), 400);
        C.due("rules() faults at 395", x.rules(), -10 - 395);
    }

    private static void clearing() {
        PaperPays x = new PaperPays();
        C.due("clear() of none", x.clear(), 0);
        Checks.type(x, "rounds 19;");
        C.due("clear()", x.clear(), 10);
        C.due("clear() again", x.clear(), 0);
        C.due("count(4)", x.count(4), 0);
        C.due("rules() of what is left", x.rules(), 0);
        C.due("rule(0)", x.rule(0), 15);
    }

    private static void stands(String text, int items) {
        C.due("rules of '" + text + "'", Checks.rules(new PaperPays(), text), items);
    }

    private static void faults(String text, int place) {
        PaperPays x = new PaperPays();
        C.due("rules of '" + text + "'", Checks.rules(x, text), -10 - place);
        C.due("text stays: '" + text + "'", x.count(4), text.length());
    }

    private static void itemsThatStand() {
        stands("", 0);
        stands("     ", 0);
        stands("rounds 3;", 1);
        stands("rounds20;pays9 9;end99;start99;lent99;short9;lid99;fee9;sales9;", 9);
        stands("rounds 3;pays 0 0;end 0;start 1;lent 0;short 0;lid 1;fee 0;sales 1;", 9);
        stands("  sales 2  ;  fee 4 ;end 1;", 3);
        stands("person worth 0 0;person worth 99 9;", 2);
        stands("person rising 1 0 0;person rising 9 99 9;", 2);
        stands("person riding 1 0 0;person riding 9 99 9;", 2);
        stands("person fresh 1 0 0;person fresh 9 99 9;", 2);
        stands("person mistaken 1 0 0;person mistaken 99 99 9;", 2);
        stands("person   mistaken99   5 5  ;", 1);
        stands("person worth 1 1;rounds 5;person worth 1 1;", 3);
        StringBuilder nine = new StringBuilder();
        for (int i = 0; i < 9; i++) {
            nine.append("person worth ").append(i).append(" 1;");
        }
        stands(nine.toString(), 9);
        stands(nine + "end 7;", 10);
        faults(nine + "person worth 1 1;", nine.length());
        faults(nine + "end 7; person 1", nine.length() + 7);
    }

    private static void whatIsNotTold() {
        PaperPays x = Checks.with("pays 4 5;rounds 5;");
        C.due("start is WORTH", x.rule(4), 22);
        C.due("price is START", x.now(1), 22);
        x = Checks.with("start 7;end 50;");
        C.due("start as told", x.rule(4), 7);
        C.due("price as told", x.now(1), 7);
        C.due("prev as told", x.now(2), 7);
        x = Checks.with("end 50;");
        C.due("start with what is told behind", x.rule(4), 80);
        C.due("rules() of nothing", x.rules(), 0);
        C.due("end is 0 again", x.rule(3), 0);
        x = Checks.with("pays 0 0;");
        C.due("start of a paper worth nothing", x.rule(4), 0);
        C.due("price of it", x.now(1), 0);
        x = Checks.with("rounds 20;pays 9 9;end 99;");
        C.due("the highest start", x.rule(4), 279);
    }

    private static void faultsOfTokens() {
        faults(";", 0);
        faults("worth 1 1;", 0);
        faults("5;", 0);
        faults("  fee 1;; ", 8);
        faults("roundz 5;", 0);
        faults("round 5;", 0);
        faults("roundss 5;", 0);
        faults("bee 5;", 0);
        faults("feez 5;", 0);
        faults("afee 5;", 0);
        faults("rounds 5;Fee 1;", 9);
        faults("fee\t1;", 3);
        faults("fee\n1;", 3);
        faults("fee 1,", 5);
        faults("fee -1;", 4);
        faults("fee \u00ff;", 4);
        faults("\u0000", 0);
        faults("\u00e6", 0);
        faults("fe e 1;", 0);
        faults("fee 1 ;x", 7);
        faults("personworth 1 1;", 0);
        faults("person lent 1 1;", 7);
        faults("person 1 1;", 7);
        faults("person;", 6);
        faults("person person worth 1 1;", 7);
        faults("fee 1 fee 2;", 6);
        faults("fee `;", 4);
        faults("fee {;", 4);
        faults("fee /;", 4);
        faults("fee :;", 4);
    }

    private static void faultsOfNumbers() {
        faults("rounds 2;", 7);
        faults("rounds 21;", 7);
        faults("pays 10 1;", 5);
        faults("pays 1 10;", 7);
        faults("pays 1;", 6);
        faults("pays 1 2 3;", 9);
        faults("end 100;", 4);
        faults("start 0;", 6);
        faults("start 100;", 6);
        faults("lent 100;", 5);
        faults("short 10;", 6);
        faults("lid 0;", 4);
        faults("lid 100;", 4);
        faults("fee 10;", 4);
        faults("sales 0;", 6);
        faults("sales 10;", 6);
        faults("end 00;", 4);
        faults("end 05;", 4);
        faults("end 000000000000000000000000005;", 4);
        faults("end 4294967301;", 4);
        faults("end 18446744073709551621;", 4);
        faults("end 1 0;", 6);
        faults("fee;", 3);
        faults("fee fee;", 4);
        faults("person worth 100 1;", 13);
        faults("person worth 1 10;", 15);
        faults("person worth 1;", 14);
        faults("person worth 1 1 1;", 17);
        faults("person rising 0 1 1;", 14);
        faults("person rising 10 1 1;", 14);
        faults("person riding 0 1 1;", 14);
        faults("person riding 10 1 1;", 14);
        faults("person fresh 0 1 1;", 13);
        faults("person fresh 10 1 1;", 13);
        faults("person mistaken 0 1 1;", 16);
        faults("person mistaken 100 1 1;", 16);
        faults("person rising 1 1;", 17);
    }

    private static void faultsOfPlaces() {
        faults("rounds 5;rounds 5;", 9);
        faults("pays 1 1;pays 1 1;", 9);
        faults("end 1;end 1;", 6);
        faults("start 1;start 1;", 8);
        faults("lent 1;lent 1;", 7);
        faults("short 1;short 1;", 8);
        faults("lid 1;lid 1;", 6);
        faults("fee 1; fee 1;", 7);
        faults("sales 1;fee 1;sales 1;", 14);
        faults("fee 1", 5);
        faults("fee 1   ", 8);
        faults("fee", 3);
        faults("fee 1;end", 9);
        faults("person", 6);
        faults("person worth 1 1", 16);
        faults("person rising ", 14);
        faults("fee 12", 4);
        faults("pers", 0);
        faults("fee 1;fee 1; ?", 6);
    }

    private static void nothingChangesByAFault() {
        PaperPays x = Checks.with("rounds 4;person mistaken 9 9 9;");
        x.go(1);
        x.keep(1);
        Checks.type(x, "rounds 8;person worth 1 1;fee");
        C.due("rules()", x.rules(), -10 - 29);
        C.due("rule(0)", x.rule(0), 4);
        C.due("person(0, 0)", x.person(0, 0), 3);
        C.due("person(0, 1)", x.person(0, 1), 9);
        C.due("now(0)", x.now(0), 1);
        C.due("count(4)", x.count(4), 29);
        C.due("back(1)", x.back(1), 1);
        Checks.type(x, " 3;");
        C.due("rules() when mended", x.rules(), 3);
        C.due("rule(8)", x.rule(8), 3);
        C.due("rule(0)", x.rule(0), 8);
        C.due("count(4)", x.count(4), 0);
    }

    private static void rulesReadAnew() {
        PaperPays x = Checks.with("rounds 3;pays 0 0;start 9;person worth 5 1;person rising 2 7 2;");
        x.lot(99);
        x.say(0, 10);
        x.go(20);
        x.again();
        x.say(0, 3);
        x.keep(0);
        x.keep(1);
        x.mark(0, 0);
        x.ride(0, 44);
        x.hold(9, 1, 3);
        x.clue(12);
        int lot = x.lot(4242);
        C.due("lot went on", lot != 99 ? 1 : 0, 1);
        C.due("rules()", Checks.rules(x, "fee 1;person fresh 3 4 5;person worth 1 2;"), 3);
        C.due("now(0)", x.now(0), 0);
        C.due("now(1)", x.now(1), 30);
        C.due("now(3)", x.now(3), 0);
        C.due("now(4)", x.now(4), 0);
        C.due("person(0, 5)", x.person(0, 5), 0);
        C.due("person(0, 2)", x.person(0, 2), 4);
        C.due("said(0, 0)", x.said(0, 0), 0);
        C.due("said(0, 1)", x.said(0, 1), 0);
        C.due("say(0, 1)", x.say(0, 1), -9);
        C.due("back(0)", x.back(0), -2);
        C.due("back(1)", x.back(1), -2);
        C.due("trace()", x.trace(), 1);
        C.due("ride(0, 1)", x.ride(0, 1), 44);
        C.due("hold(1, 1, 0)", x.hold(1, 1, 0), 3);
        C.due("count(3)", x.count(3), 1);
        C.due("lot(1)", x.lot(1), 4242);
    }

    private static void rule() {
        PaperPays x = Checks.with("sales 8;fee 7;lid 60;short 5;lent 40;start 30;end 20;pays 2 1;rounds 10;");
        int[] told = {10, 2, 1, 20, 30, 40, 5, 60, 7, 8};
        for (int what = 0; what < told.length; what++) {
            C.due("rule(" + what + ")", x.rule(what), told[what]);
        }
        C.due("rule(-1)", x.rule(-1), -1);
        C.due("rule(10)", x.rule(10), -1);
        C.due("rule(greatest)", x.rule(Integer.MAX_VALUE), -1);
    }

    private static void personAsTold() {
        PaperPays x = Checks.with("person worth 11 1;person rising 2 12 2;person riding 3 13 3;"
            + "person mistaken 44 14 4;person fresh 5 15 5;");
        int[] ns = {0, 2, 3, 44, 5};
        for (int p = 0; p < 5; p++) {
            C.due("law of " + p, x.person(p, 0), p);
            C.due("n of " + p, x.person(p, 1), ns[p]);
            C.due("coins of " + p, x.person(p, 2), 11 + p);
            C.due("sheets of " + p, x.person(p, 3), 1 + p);
            C.due("seen of " + p, x.person(p, 5), 0);
        }
        C.due("person(-1, 0)", x.person(-1, 0), -1000000);
        C.due("person(5, 0)", x.person(5, 0), -1000000);
        C.due("person(9, 0)", x.person(9, 0), -1000000);
        C.due("person(0, -1)", x.person(0, -1), -1000000);
        C.due("person(0, 6)", x.person(0, 6), -1000000);
        Checks.rules(x, "person worth 1 2;person mistaken 3 4 5;");
        C.due("told anew: n of 0", x.person(0, 1), 0);
        C.due("told anew: n of 1", x.person(1, 1), 3);
        C.due("told anew: count(1)", x.count(1), 7);
        C.due("told anew: count(2)", x.count(2), 5);
        C.due("told anew: person(2, 0)", x.person(2, 0), -1000000);
        x = Checks.with("person worth 11 1;person worth 12 2;person worth 13 3;person worth 14 4;person worth 15 5;");
        C.due("count(0)", x.count(0), 5);
        C.due("count(1)", x.count(1), 15);
        C.due("count(2)", x.count(2), 65);
    }

    private static final String LAWS = "person riding 4 0 0;person riding 5 0 0;person rising 9 0 0;"
        + "person fresh 9 0 0;person mistaken 7 0 0;person worth 0 0;";

    private static void values(String of, PaperPays x, int... due) {
        for (int p = 0; p < due.length; p++) {
            C.due(of + ": value of " + p, x.person(p, 4), due[p]);
        }
    }

    private static void valuesByLaw() {
        values("price above", Checks.with("rounds 5;start 18;" + LAWS), 19, 0, 18, 23, 7, 10);
        values("price below", Checks.with("rounds 5;start 5;" + LAWS), 11, 0, 5, 16, 7, 10);
        values("lid 17", Checks.with("rounds 5;start 18;lid 17;" + LAWS), 17, 0, 17, 17, 7, 10);
        values("lid 1", Checks.with("rounds 5;start 18;lid 1;" + LAWS), 1, 0, 1, 1, 1, 1);
        values("beyond 99", Checks.with("rounds 20;pays 9 9;end 99;" + LAWS), 280, 280, 279, 288, 7, 279);
        PaperPays x = Checks.with("rounds 5;start 19;pays 0 1;" + LAWS);
        values("halves", x, 20, 0, 19, 19, 7, 2);
        x.go(1);
        values("one round on", x, 0, 0, 19, 19, 7, 2);
        x.go(4);
        values("over", x, 0, 0, 19, 18, 7, 0);
    }

    /** A price that falls at once from 40 to 15, and stays there. */
    private static void valuesThatMove() {
        PaperPays x = Checks.with("rounds 5;start 40;pays 0 0;sales 1;person mistaken 20 99 0;person mistaken 10 0 9;"
            + "person rising 3 0 0;person rising 9 0 0;person rising 1 0 0;person fresh 2 0 0;person riding 3 0 0;");
        values("ahead", x, 20, 10, 40, 40, 40, 22, 41);
        x.go(1);
        C.due("price", x.now(1), 15);
        C.due("prev", x.now(2), 40);
        // 3 times -25 by 10 is -7 toward 0; 9 times -25 by 10 would be below 0; 1 times: -2.
        values("behind the fall", x, 20, 10, 8, 0, 13, 9, 16);
        x.go(1);
        values("behind it again", x, 20, 10, 15, 15, 15, 9, 0);
    }

    private static void valuesOfTheSeeing() {
        PaperPays x = Checks.with("rounds 4;start 18;" + LAWS);
        x.go(4);
        x.again();
        values("once seen", x, 0, 0, 19, 19, 7, 8);
        C.due("law stays", x.person(2, 0), 1);
        C.due("n stays", x.person(2, 1), 9);
        C.due("fresh stays", x.person(3, 0), 4);
        x.go(1);
        values("once seen, 3 left", x, 0, 0, 19, 19, 7, 6);
        x.go(1);
        values("once seen, 2 left", x, 0, 0, 0, 0, 7, 4);
        x.go(2);
        x.again();
        C.due("seen", x.person(2, 5), 2);
        values("twice seen", x, 0, 0, 0, 0, 7, 8);
        x.renew(2);
        values("one renewed", x, 0, 0, 18, 0, 7, 8);
    }

    private static void worth() {
        PaperPays x = Checks.with("rounds 7;pays 0 3;end 4;");
        int[] due = {14, 13, 11, 10, 8, 7, 5, 4};
        for (int r = 0; r <= 7; r++) {
            C.due("worth(" + r + ", 0)", x.worth(r, 0), due[r]);
            C.due("worth(" + r + ", 1)", x.worth(r, 1), 3 * (7 - r) + 8);
        }
        C.due("worth(8, 0)", x.worth(8, 0), -1);
        C.due("worth(-1, 0)", x.worth(-1, 0), -1);
        C.due("worth(0, 2)", x.worth(0, 2), -1);
        C.due("worth(0, -1)", x.worth(0, -1), -1);
        x.go(3);
        C.due("worth(0, 0) later", x.worth(0, 0), 14);
    }

    private static void odds() {
        PaperPays x = Checks.with("rounds 5;pays 1 3;end 2;");
        int[] rows = {1, 5, 10, 10, 5, 1};
        for (int k = 0; k <= 279; k++) {
            boolean pays = k >= 7 && k <= 17 && (k - 7) % 2 == 0;
            C.due("odds(0, " + k + ")", x.odds(0, k), pays ? rows[(k - 7) / 2] : 0);
        }
        C.due("odds(5, 2)", x.odds(5, 2), 1);
        C.due("odds(5, 0)", x.odds(5, 0), 0);
        C.due("odds(4, 3)", x.odds(4, 3), 1);
        C.due("odds(4, 5)", x.odds(4, 5), 1);
        C.due("odds(4, 4)", x.odds(4, 4), 0);
        C.due("odds(6, 2)", x.odds(6, 2), -1);
        C.due("odds(-1, 2)", x.odds(-1, 2), -1);
        C.due("odds(0, -1)", x.odds(0, -1), -1);
        C.due("odds(0, 280)", x.odds(0, 280), -1);
        x = Checks.with("rounds 20;pays 4 5;");
        C.due("odds of the middle", x.odds(0, 90), 184756);
        C.due("odds of 17", x.odds(3, 76), 24310);
        x = Checks.with("pays 3 1;rounds 3;");
        C.due("odds, A above B", x.odds(0, 5), 3);
        C.due("odds, all A", x.odds(0, 9), 1);
        x = Checks.with("pays 2 2;rounds 9;");
        C.due("odds, A as B", x.odds(2, 14), 128);
        C.due("odds, none", x.odds(2, 13), 0);
    }
}
