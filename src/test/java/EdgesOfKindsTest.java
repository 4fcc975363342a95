/** Promises 28 to 32: each boundary that a sentence of the document names. */
public final class EdgesOfKindsTest {
    private static final Checks C = new Checks("EdgesOfKindsTest");
    private static final int NO = -1000000;
    private static final String MIXED = "rounds 8;pays 1 4;end 5;start 12;lent 60;short 3;person fresh 9 99 2;"
        + "person rising 5 60 1;person riding 2 50 3;person mistaken 17 70 2;person worth 5 1;";

    private EdgesOfKindsTest() {
    }

    public static void main(String[] args) {
        markOfEachKind();
        markBelowZero();
        markWhenOver();
        markRefused();
        traceOfEachBody();
        traceGoesOn();
        keepAnswersTheRound();
        backStateBeforeKeep();
        backBringsAll();
        imagesAreTwo();
        imageIsKeptAnew();
        imageStaysAsItWas();
        imageKeepsNothingElse();
        imagesGoneByRules();
        countOfEach();
        C.end();
    }

    private static void marks(String of, PaperPays x, int p, int... due) {
        for (int kind = 0; kind < due.length; kind++) {
            C.due(of + ": mark(" + kind + ", " + p + ")", x.mark(kind, p), due[kind]);
        }
    }

    /** COINS 9, SHEETS 4; WORTH 7 ahead of ROUND 0, PRICE 33, one SEEN. */
    private static void markOfEachKind() {
        PaperPays x = Checks.with("rounds 3;pays 1 1;end 4;start 33;person worth 9 4;");
        marks("none seen", x, 0, 9, 9 + 28, 9 + 33, 9, 18, 9, 9 + 33 - 4);
        x.go(3);
        x.again();
        marks("one seen", x, 0, 9, 37, 42, 9, 18, 10, 38);
        x.go(2);
        // 8 more COINS, WORTH 5, ROUND 2.
        marks("in 2", x, 0, 17, 17 + 20, 17 + 33, 15, 34, 16, 17 + 33 - 4);
        x.renew(0);
        C.due("renewed: mark(5, 0)", x.mark(5, 0), 15);
    }

    private static void markBelowZero() {
        PaperPays x = Checks.with("rounds 3;pays 0 0;end 6;start 9;lent 60;short 2;person mistaken 30 0 0;"
            + "person mistaken 9 0 0;");
        x.go(1);
        // Two at 20: COINS -40 and 40, SHEETS 2 and -2; WORTH 6, PRICE 20.
        marks("who bought", x, 0, -40, -28, -20, -41, -80, -41, -22);
        marks("who sold", x, 1, 40, 28, 60, 39, 80, 39, 62);
    }

    private static void markWhenOver() {
        PaperPays x = Checks.with("rounds 20;pays 0 0;end 6;start 9;person worth 5 3;");
        x.go(20);
        // E was paid, and WORTH is E still.
        marks("over", x, 0, 23, 23 + 18, 32, 3, 46, 3, 29);
    }

    private static void markRefused() {
        PaperPays x = Checks.with(MIXED);
        for (int kind = -1; kind <= 7; kind++) {
            C.due("mark(" + kind + ", 5)", x.mark(kind, 5), NO);
            C.due("mark(" + kind + ", -1)", x.mark(kind, -1), NO);
        }
        for (int p = 0; p < 5; p++) {
            C.due("mark(-1, " + p + ")", x.mark(-1, p), NO);
            C.due("mark(7, " + p + ")", x.mark(7, p), NO);
        }
        C.due("mark(0, 0) of nobody", new PaperPays().mark(0, 0), NO);
        C.due("trace()", x.trace(), 0);
    }

    /** "as often as mark() asks that body: each once". */
    private static void traceOfEachBody() {
        long[] due = {1, 11, 101, 1001, 10001, 101001, 1000101};
        PaperPays x = Checks.with(MIXED);
        long all = 0;
        for (int kind = 0; kind < due.length; kind++) {
            for (int p = 0; p < 5; p++) {
                x.mark(kind, p);
                all += due[kind];
                C.due("trace() of " + kind + ", " + p, x.trace(), all);
                C.due("trace() asked again", x.trace(), all);
            }
        }
    }

    /** "THE TRACE goes on, as behind back()"; above what an int has room for it goes on, too: not in 512 calls. */
    private static void traceGoesOn() {
        PaperPays x = Checks.with(MIXED);
        x.mark(6, 0);
        x.keep(0);
        x.mark(5, 0);
        C.due("ahead of back(0)", x.trace(), 1101102);
        x.back(0);
        C.due("behind back(0)", x.trace(), 1101102);
        x.go(20);
        x.again();
        C.due("behind again()", x.trace(), 1101102);
        Checks.rules(x, MIXED);
        C.due("behind rules()", x.trace(), 1101102);
        x.mark(6, 0);
        C.due("goes on", x.trace(), 2101203);
        for (int i = 0; i < 400; i++) {
            x.mark(6, 1);
        }
        C.due("of many", x.trace(), 2101203L + 400L * 1000101L);
    }

    /** "the ROUND. BAD." */
    private static void keepAnswersTheRound() {
        PaperPays x = Checks.with(MIXED);
        for (int r = 0; r <= 8; r++) {
            C.due("keep(0) in " + r, x.keep(0), r);
            C.due("keep(1) in " + r, x.keep(1), r);
            C.due("keep(-1) in " + r, x.keep(-1), -1);
            C.due("keep(2) in " + r, x.keep(2), -1);
            x.go(1);
            C.due("back(0) from " + x.now(0), x.back(0), r);
            x.go(1);
        }
        C.due("over: back(1)", x.back(1), 8);
        C.due("over: go(1)", x.go(1), -2);
    }

    /** "STATE: none was kept". */
    private static void backStateBeforeKeep() {
        PaperPays x = Checks.with(MIXED);
        C.due("back(0)", x.back(0), -2);
        C.due("back(1)", x.back(1), -2);
        C.due("back(-1)", x.back(-1), -1);
        C.due("back(2)", x.back(2), -1);
        x.keep(1);
        C.due("back(0) of the other", x.back(0), -2);
        C.due("back(1)", x.back(1), 0);
        x.keep(0);
        C.due("back(0)", x.back(0), 0);
    }

    /** All that THE ROOM is: ROUND, PRICES, COINS, SHEETS, SEEN, SAID, ERRORS, THE LOT. */
    private static PaperPays told() {
        PaperPays x = Checks.with(MIXED);
        x.say(0, 10);
        x.say(3, 20);
        x.go(8);
        x.again();
        x.renew(1);
        x.say(4, 7);
        x.go(2);
        x.say(0, 5);
        x.say(4, 19);
        x.say(2, 0);
        x.lot(4711);
        return x;
    }

    /** What may change it, one thing at a time. */
    private static void change(PaperPays x, int way) {
        switch (way) {
            case 0: x.go(1); break;
            case 1: x.go(20); break;
            case 2: x.lot(5); break;
            case 3: x.say(1, 44); break;
            case 4: x.say(0, 44); break;
            case 5: x.renew(0); break;
            case 6:
                x.go(20);
                x.again();
                break;
            case 7:
                x.go(20);
                x.again();
                x.lot(99);
                x.go(3);
                x.say(2, 9);
                break;
            default:
                for (int i = 0; i < 5; i++) {
                    x.go(20);
                    x.again();
                }
        }
    }

    private static void backBringsAll() {
        for (int image = 0; image <= 1; image++) {
            int kept = image;
            Twins twins = new Twins(C, "image " + image, () -> {
                PaperPays x = told();
                x.keep(kept);
                return x;
            });
            for (int way = 0; way <= 8; way++) {
                int changed = way;
                C.due("way " + way + " changes", twins.firstChange(x -> change(x, changed)).length() > 0 ? 1 : 0, 1);
                twins.changesNothing("way " + way + " and back", x -> {
                    change(x, changed);
                    C.due("back(" + kept + ")", x.back(kept), 2);
                });
                twins.changesNothing("way " + way + " and back, twice", x -> {
                    change(x, changed);
                    x.back(kept);
                    change(x, 8 - changed);
                    x.back(kept);
                });
            }
            twins.changesNothing("back at once", x -> x.back(kept));
            twins.changesNothing("keep again", x -> x.keep(kept));
        }
        Twins over = new Twins(C, "image over", () -> {
            PaperPays x = told();
            x.go(20);
            x.keep(0);
            return x;
        });
        over.changesNothing("again and back", x -> {
            x.again();
            x.go(4);
            x.back(0);
        });
    }

    private static void imagesAreTwo() {
        PaperPays x = Checks.with(MIXED);
        x.keep(0);
        x.go(3);
        x.keep(1);
        x.go(2);
        for (int times = 0; times < 2; times++) {
            C.due("back(1)", x.back(1), 3);
            C.due("round", x.now(0), 3);
            C.due("back(0)", x.back(0), 0);
            C.due("round", x.now(0), 0);
            C.due("board(0)", x.board(0), -1);
        }
        // Kept of what is back: both are the same then.
        C.due("keep(1) of 0", x.keep(1), 0);
        x.go(1);
        C.due("back(1)", x.back(1), 0);
    }

    private static void imageIsKeptAnew() {
        PaperPays x = Checks.with(MIXED);
        for (int r = 0; r <= 8; r++) {
            C.due("keep(1)", x.keep(1), r);
            x.go(20);
            C.due("back(1)", x.back(1), r);
            x.go(1);
        }
    }

    /** What goes on behind keep() or back() doesn't change the IMAGE. */
    private static void imageStaysAsItWas() {
        PaperPays x = told();
        int coins = x.person(0, 2);
        int price = x.now(1);
        x.keep(0);
        for (int times = 0; times < 3; times++) {
            x.go(20);
            x.again();
            x.say(0, 1);
            x.lot(times);
            x.renew(3);
            C.due("back(0)", x.back(0), 2);
            C.due("coins", x.person(0, 2), coins);
            C.due("price", x.now(1), price);
            C.due("seen", x.person(3, 5), 1);
            C.due("lot", x.lot(4711), 4711);
            C.due("said", x.say(0, 5), 5);
        }
    }

    /** "nothing else": not the text, RULES, BASE, STEP, LEFT, HOLDS, CLUES, THE TRACE. */
    private static void imageKeepsNothingElse() {
        PaperPays x = told();
        x.keep(0);
        x.ride(0, 1);
        x.ride(1, 2);
        x.ride(2, 3);
        x.hold(9, 4, 6);
        x.clue(77);
        x.mark(1, 1);
        Checks.type(x, "fee 1");
        x.back(0);
        C.due("BASE", x.ride(0, 1), 1);
        C.due("STEP", x.ride(1, 2), 2);
        C.due("LEFT", x.ride(2, 3), 3);
        C.due("HOLDS", x.hold(4, 4, 0), 6);
        C.due("CLUES", x.count(3), 1);
        C.due("TRACE", x.trace(), 11);
        C.due("TEXT", x.count(4), 5);
        C.due("the text is the same", x.rules(), -15);
        x.back(0);
        C.due("behind a FAULT the IMAGE is there", x.now(0), 2);
    }

    /** "IMAGES are gone". */
    private static void imagesGoneByRules() {
        for (int image = 0; image <= 1; image++) {
            PaperPays x = Checks.with(MIXED);
            x.keep(image);
            C.due("a FAULT", Checks.rules(x, "x"), -10);
            C.due("back(" + image + ") behind a FAULT", x.back(image), 0);
            C.due("the same rules", Checks.rules(x, MIXED), 11);
            C.due("back(" + image + ") behind rules()", x.back(image), -2);
            C.due("keep(" + image + ")", x.keep(image), 0);
            C.due("back(" + image + ")", x.back(image), 0);
            x.clear();
            C.due("no rules", x.rules(), 0);
            C.due("back(" + image + ") behind no rules", x.back(image), -2);
        }
    }

    /** "0 PEOPLE, 1 SHEETS of all, 2 COINS of all, 3 CLUES, 4 bytes of THE TEXT. BAD." */
    private static void countOfEach() {
        StringBuilder people = new StringBuilder("rounds 3;pays 1 1;short 9;fee 3;");
        int coins = 0;
        for (int p = 0; p <= 9; p++) {
            PaperPays x = Checks.with(people.toString());
            C.due("people", x.count(0), p);
            C.due("sheets", x.count(1), p * (p - 1) / 2);
            C.due("coins", x.count(2), coins);
            coins += 99 - p;
            people.append("person mistaken ").append(9 + 9 * p).append(" ").append(99 - p).append(" ").append(p).append(";");
        }
        PaperPays x = Checks.with("rounds 3;pays 0 0;end 9;short 9;fee 3;person mistaken 20 99 0;person mistaken 9 50 0;");
        x.go(1);
        C.due("sheets stay", x.count(1), 0);
        C.due("fees go", x.count(2), 149 - 6);
        x.go(1);
        C.due("fees go again", x.count(2), 149 - 12);
        x.go(1);
        // 27 COINS are enough for one more, and E is paid by one and to the other.
        C.due("E for none", x.count(2), 149 - 15);
        for (int i = 1; i <= 12; i++) {
            x.clue(i);
            C.due("clues", x.count(3), i);
        }
        for (int i = 1; i <= 50; i++) {
            x.type(-1, 8);
            C.due("bytes", x.count(4), 8 * i);
        }
        C.due("count(-1)", x.count(-1), -1);
        C.due("count(5)", x.count(5), -1);
    }
}
