/** Promises 2 to 4 and THE RULES as a text: each boundary that a sentence of the document names. */
public final class EdgesOfTextTest {
    private static final Checks C = new Checks("EdgesOfTextTest");
    private static final long BLANKS = 0x2020202020202020L;
    private static final String[] RULE_WORDS = {"rounds", "pays", "end", "start", "lent", "short", "lid", "fee", "sales"};
    private static final String[] LAWS = {"worth", "rising", "riding", "mistaken", "fresh"};

    private static final String MUCH = "rounds 9;pays 2 4;end 6;start 7;lent 8;short 9;lid 10;fee 3;sales 2;"
        + "person mistaken 77 66 5;person rising 8 55 4;person riding 7 44 3;person fresh 6 33 2;person mistaken 5 22 1;"
        + "person rising 4 11 0;person riding 3 10 1;person fresh 2 9 2;person mistaken 1 8 3;";
    /** Texts that other texts are read behind: two that stand, and some that end in each kind of FAULT. */
    private static final String[] AHEAD = {"", MUCH, MUCH + "fee 3;", MUCH + "?", MUCH + "fee", MUCH + "person 5"};

    private EdgesOfTextTest() {
    }

    public static void main(String[] args) {
        lowestBytesHighestFirst();
        textIsFullAt400();
        textOf400IsReadToItsEnd();
        clearAnswersWhatWas();
        textIsEmptyBehindRules();
        blanksAnyNumber();
        onlyByte32IsABlank();
        blanksNeeded();
        itemsNone();
        eachItemEnded();
        numbersOfEachRule();
        whatIsNotTold();
        eachOnceAtMost();
        inAnyOrder();
        numbersOfEachPerson();
        ninePeopleAtMost();
        wordsThatAreNone();
        wordsInTheWrongPlace();
        numbersAbove99();
        zeroAheadOfOthers();
        theFirstFaultCounts();
        endsTooEarly();
        C.end();
    }

    /** On a new object, and on those that have read, or refused, another text ahead: that must leave no trace. */
    private static void stands(String text, int items) {
        PaperPays x = new PaperPays();
        C.due("rules of '" + text + "'", Checks.rules(x, text), items);
        C.due("the text is empty behind '" + text + "'", x.count(4), 0);
        for (String ahead : AHEAD) {
            PaperPays y = new PaperPays();
            Checks.rules(y, ahead);
            C.due("behind another one, rules of '" + text + "'", Checks.rules(y, text), items);
            C.due("behind another one, people of '" + text + "'", y.count(0), x.count(0));
            for (int what = 0; what <= 9; what++) {
                C.due("behind another one, rule(" + what + ") of '" + text + "'", y.rule(what), x.rule(what));
                C.due("behind another one, LAW of '" + text + "'", y.person(what, 0), x.person(what, 0));
                C.due("behind another one, n of '" + text + "'", y.person(what, 1), x.person(what, 1));
                C.due("behind another one, COINS of '" + text + "'", y.person(what, 2), x.person(what, 2));
                C.due("behind another one, SHEETS of '" + text + "'", y.person(what, 3), x.person(what, 3));
            }
        }
    }

    private static void faults(String text, int place) {
        PaperPays x = new PaperPays();
        C.due("rules of '" + text + "'", Checks.rules(x, text), -10 - place);
        C.due("the text stays: '" + text + "'", x.count(4), text.length());
        for (String ahead : AHEAD) {
            PaperPays y = new PaperPays();
            Checks.rules(y, ahead);
            C.due("behind another one, rules of '" + text + "'", Checks.rules(y, text), -10 - place);
            C.due("behind another one, the text stays: '" + text + "'", y.count(4), text.length());
        }
    }

    private static void says(String text, int what, int number) {
        C.due("rule(" + what + ") by '" + text + "'", Checks.with(text).rule(what), number);
    }

    /** "The lowest n (1 .. 8) bytes of v, the highest of them first". Higher ones, 'z' here, don't come. */
    private static void lowestBytesHighestFirst() {
        String[] ahead = {"", "fee 5", "fee ", "fee", "fe", "f", "", "", ""};
        String[] typed = {"", ";", "5;", " 5;", "e 5;", "ee 5;", "fee 5;", " fee 5;", "fee   5;"};
        for (int n = 1; n <= 8; n++) {
            PaperPays x = new PaperPays();
            Checks.type(x, ahead[n]);
            byte[] bytes = ("zzzzzzzz".substring(n) + typed[n]).getBytes();
            C.due("type of " + n, x.type(Checks.packed(bytes, 0, 8), n), ahead[n].length() + n);
            C.due("rules of " + n, x.rules(), 1);
            C.due("fee of " + n, x.rule(8), 5);
        }
        PaperPays x = new PaperPays();
        C.due("bytes above 127", x.type(-1L, 8), 8);
        C.due("bytes above 127 begin no token", x.rules(), -10);
        x.clear();
        C.due("a byte 32 of a v below 0", x.type(0x80000000000000L << 8 | 0x20, 1), 1);
        C.due("is a blank", x.rules(), 0);
    }

    /** "a text (400 bytes at most)"; FULL. */
    private static void textIsFullAt400() {
        for (int n = 1; n <= 8; n++) {
            PaperPays x = new PaperPays();
            Checks.type(x, " ".repeat(400 - n));
            C.due("to 400 by " + n, x.type(BLANKS, n), 400);
            C.due("400 and 1", x.type(BLANKS, 1), -3);
            C.due("400 and " + n, x.type(BLANKS, n), -3);
            C.due("still 400", x.count(4), 400);
            x = new PaperPays();
            Checks.type(x, " ".repeat(401 - n));
            C.due("to 401 by " + n, x.type(BLANKS, n), -3);
            C.due("as it was", x.count(4), 401 - n);
            if (n > 1) {
                C.due("one less by " + n, x.type(BLANKS, n - 1), 400);
            }
        }
        PaperPays x = new PaperPays();
        Checks.type(x, " ".repeat(400));
        C.due("BAD ahead of FULL", x.type(BLANKS, 9), -1);
        C.due("BAD ahead of FULL", x.type(BLANKS, 0), -1);
    }

    private static void textOf400IsReadToItsEnd() {
        stands(" ".repeat(400), 0);
        stands(" ".repeat(394) + "fee 3;", 1);
        stands("fee 3;" + " ".repeat(394), 1);
        says(" ".repeat(394) + "fee 3;", 8, 3);
        faults(" ".repeat(395) + "fee 3", 400);
        faults("fee 3" + " ".repeat(395), 400);
        faults(" ".repeat(399) + "x", 399);
        faults(";".repeat(400), 0);
        faults("1".repeat(400), 0);
        faults("a".repeat(400), 0);
        faults("end 0" + "0".repeat(394) + ";", 4);
    }

    private static void clearAnswersWhatWas() {
        PaperPays x = new PaperPays();
        C.due("clear() of none", x.clear(), 0);
        x.type(BLANKS, 1);
        C.due("clear() of 1", x.clear(), 1);
        Checks.type(x, " ".repeat(400));
        C.due("clear() of 400", x.clear(), 400);
        C.due("count(4)", x.count(4), 0);
        C.due("400 can be typed again", Checks.type(x, "x".repeat(400)), 400);
        x.clear();
        C.due("what was cleared is not read", x.rules(), 0);
        Checks.type(x, "fee 4;");
        x.clear();
        Checks.type(x, "lid 9");
        C.due("nor what lies behind a shorter text", x.rules(), -10 - 5);
    }

    /** "and is empty then"; "-10 less FAULT: nothing changes (THE TEXT stays, too)". */
    private static void textIsEmptyBehindRules() {
        PaperPays x = new PaperPays();
        Checks.type(x, "fee 1;");
        C.due("rules()", x.rules(), 1);
        C.due("count(4)", x.count(4), 0);
        C.due("clear()", x.clear(), 0);
        C.due("rules() of nothing then", x.rules(), 0);
        C.due("all as if not told", x.rule(8), 0);
        Checks.type(x, "fee 2");
        C.due("a FAULT", x.rules(), -15);
        C.due("once more", x.rules(), -15);
        C.due("the text stays", x.type(';', 1), 6);
        C.due("and stands when mended", x.rules(), 1);
        C.due("fee", x.rule(8), 2);
    }

    /** "blanks (32), any number, ahead of, between, behind TOKENS". */
    private static void blanksAnyNumber() {
        for (int n : new int[] {1, 2, 3, 50}) {
            String b = " ".repeat(n);
            stands(b + "fee" + b + "3" + b + ";" + b, 1);
            stands(b + "person" + b + "rising" + b + "2" + b + "3" + b + "4" + b + ";", 1);
            faults(b + "fee" + b + ";", 3 + 2 * n);
            faults(b + "x", n);
            faults("fee 3" + b, 5 + n);
        }
        stands(" ".repeat(300) + "fee 3;", 1);
        stands("fee" + " ".repeat(300) + "3;", 1);
        stands("fee 3" + " ".repeat(300) + ";", 1);
        stands("fee 3;" + " ".repeat(300) + "end 2;", 2);
    }

    /** Every other byte begins a token or none: a tab, an end of a line, a 0, a 160, too. */
    private static void onlyByte32IsABlank() {
        for (int b = 0; b < 256; b++) {
            String text = "fee 1;" + (char) b;
            if (b == 32) {
                stands(text, 1);
            } else {
                faults(text, 6);
            }
            text = "fee 1" + (char) b + ";";
            if (b == 32) {
                stands(text, 1);
            } else if (b == ';') {
                faults(text, 6);
            } else {
                faults(text, b >= '0' && b <= '9' ? 4 : 5);
            }
            text = "fee" + (char) b + " 1;";
            if (b == 32) {
                stands(text, 1);
            } else if (b >= 'a' && b <= 'z') {
                // A letter goes on with the word, which is then none.
                faults(text, 0);
            } else {
                faults(text, b >= '0' && b <= '9' ? 5 : 3);
            }
        }
    }

    /** "needed only between two rows of letters, two NUMBERS". */
    private static void blanksNeeded() {
        stands("rounds7;pays3 4;end5;start6;lent7;short8;lid9;fee3;sales4;", 9);
        stands("person worth1 2;person rising1 2 3;person riding1 2 3;person fresh1 2 3;person mistaken1 2 3;", 5);
        faults("personworth 1 2;", 0);
        faults("person worthworth 1 2;", 7);
        faults("feefee 2;", 0);
        stands("pays 1 2;", 1);
        faults("pays 12;", 5);
        faults("person worth 12;", 15);
        faults("person worth 123;", 13);
        C.due("two numbers", Checks.with("person worth 12 3;").person(0, 2), 12);
        C.due("two other numbers", Checks.with("person worth 1 2;").person(0, 2), 1);
        faults("person worth 1 23;", 15);
        faults("fee 2end 3;", 5);
    }

    /** "ITEMS (none, too)". */
    private static void itemsNone() {
        faults("?", 0);
        faults(" ?", 1);
        stands("", 0);
        stands(" ", 0);
        stands(MUCH, 18);
        C.due("an object without people", Checks.with("").count(0), 0);
        StringBuilder most = new StringBuilder("rounds 9;pays 1 1;end 1;start 1;lent 1;short 1;lid 1;fee 1;sales 1;");
        for (int items = 10; items <= 18; items++) {
            most.append("person worth 1 1;");
            stands(most.toString(), items);
        }
    }

    /** "each ended by ;". */
    private static void eachItemEnded() {
        faults(";", 0);
        faults(" ;", 1);
        faults("fee 3;;", 6);
        faults("fee 3 end 2;", 6);
        faults("fee 3 3;", 6);
        faults("pays 3 3 3;", 9);
        faults("person worth 3 3 3;", 17);
        faults("person rising 3 3 3 3;", 20);
        faults("person worth 3 3 person worth 3 3;", 17);
        faults("fee 3", 5);
    }

    private static void numbersOf(String word, int what, int least, int most) {
        for (int v : new int[] {least, least + 1, most - 1, most}) {
            stands(word + v + ";", 1);
            says(word + v + ";", what, v);
        }
        int place = word.length();
        faults(word + (most + 1) + ";", place);
        faults(word + "100;", place);
        if (least > 0) {
            faults(word + (least - 1) + ";", place);
            faults(word + "0;", place);
        }
        faults(word + "-1;", place);
        faults(word + ";", place);
    }

    private static void numbersOfEachRule() {
        numbersOf("rounds ", 0, 3, 20);
        numbersOf("end ", 3, 0, 99);
        numbersOf("start ", 4, 1, 99);
        numbersOf("lent ", 5, 0, 99);
        numbersOf("short ", 6, 0, 9);
        numbersOf("lid ", 7, 1, 99);
        numbersOf("fee ", 8, 0, 9);
        numbersOf("sales ", 9, 1, 9);
        for (int v = 0; v <= 9; v++) {
            says("pays " + v + " 9;", 1, v);
            says("pays 9 " + v + ";", 2, v);
        }
        stands("pays 0 0;", 1);
        stands("pays 9 9;", 1);
        faults("pays 10 0;", 5);
        faults("pays 0 10;", 7);
        faults("pays ;", 5);
        faults("pays 3;", 6);
    }

    /** "15, if it is not told", "else 1 3", "else 0", "else WORTH in ROUND 0", "else none", "else 5". */
    private static void whatIsNotTold() {
        PaperPays x = Checks.with("rounds 9;pays 2 4;end 6;start 7;lent 8;short 9;lid 10;fee 3;sales 2;person worth 5 5;");
        int[] told = {9, 2, 4, 6, 7, 8, 9, 10, 3, 2};
        for (int what = 0; what < told.length; what++) {
            C.due("told: rule(" + what + ")", x.rule(what), told[what]);
        }
        C.due("rules() of nothing", x.rules(), 0);
        int[] usual = {15, 1, 3, 0, 30, 0, 0, 0, 0, 5};
        for (int what = 0; what < usual.length; what++) {
            C.due("not told again: rule(" + what + ")", x.rule(what), usual[what]);
        }
        C.due("no people", x.count(0), 0);
        says("rounds 3;pays 0 1;", 4, 1);
        says("rounds 3;pays 1 2;end 4;", 4, 8);
        says("rounds 20;pays 9 9;end 99;", 4, 279);
        says("pays 0 0;", 4, 0);
        says("end 99;rounds 5;", 4, 109);
        says("start 99;pays 0 0;", 4, 99);
        says("lid 5;", 4, 30);
        C.due("a lid is none of the price's", Checks.with("lid 5;").now(1), 30);
    }

    /** "(each of these once at most)"; FAULT is at the word told again, whatever comes behind it. */
    private static void eachOnceAtMost() {
        for (String word : RULE_WORDS) {
            String item = word + (word.equals("pays") ? " 4 4;" : " 4;");
            stands(item, 1);
            faults(item + item, item.length());
            faults(item + "person worth 1 1; " + item, item.length() + 18);
            faults(item + word, item.length());
            faults(item + word + " 999;", item.length());
            for (String other : RULE_WORDS) {
                if (!other.equals(word)) {
                    stands(item + other + (other.equals("pays") ? " 4 4;" : " 4;"), 2);
                }
            }
        }
        stands("person worth 1 1;person worth 1 1;", 2);
    }

    private static void inAnyOrder() {
        String text = "sales 2;person worth 5 5;fee 3;lid 10;short 9;lent 8;start 7;end 6;pays 2 4;rounds 9;";
        stands(text, 10);
        int[] told = {9, 2, 4, 6, 7, 8, 9, 10, 3, 2};
        for (int what = 0; what < told.length; what++) {
            says(text, what, told[what]);
        }
    }

    private static void numbersOfEachPerson() {
        for (int law = 0; law < LAWS.length; law++) {
            String word = "person " + LAWS[law];
            int place = word.length() + 1;
            if (law > 0) {
                int most = law == 3 ? 99 : 9;
                for (int n = 0; n <= 100; n++) {
                    if (n < 1 || n > most) {
                        faults(word + " " + n + " 1 1;", place);
                    } else {
                        C.due(word + " " + n, Checks.with(word + " " + n + " 1 1;").person(0, 1), n);
                    }
                }
                faults(word + " 1 1;", place + 3);
                word += " 1";
                place += 2;
            } else {
                faults(word + " 1 1 1;", place + 4);
            }
            C.due(word, Checks.with(word + " 0 0;").person(0, 0), law);
            for (int coins = 0; coins <= 99; coins += 33) {
                for (int sheets = 0; sheets <= 9; sheets += 3) {
                    PaperPays x = Checks.with(word + " " + coins + " " + sheets + ";");
                    C.due(word + ": coins", x.person(0, 2), coins);
                    C.due(word + ": sheets", x.person(0, 3), sheets);
                }
            }
            faults(word + " 100 1;", place);
            faults(word + " 99 10;", place + 3);
            faults(word + " 1;", place + 1);
            faults(word + ";", place - 1);
            faults(word + " 1 fee;", place + 2);
        }
    }

    /** "PEOPLE are numbered from 0, 9 at most"; "a tenth person": FAULT at that word, whatever comes behind. */
    private static void ninePeopleAtMost() {
        StringBuilder nine = new StringBuilder();
        for (int p = 0; p < 9; p++) {
            nine.append("person worth ").append(10 + p).append(" ").append(p).append(";");
            PaperPays x = Checks.with(nine.toString());
            C.due("people", x.count(0), p + 1);
            C.due("the last one's coins", x.person(p, 2), 10 + p);
            C.due("the last one's sheets", x.person(p, 3), p);
            C.due("none behind", x.person(p + 1, 2), -1000000);
        }
        stands(nine + "fee 3;", 10);
        faults(nine + "person worth 1 1;", nine.length());
        faults(nine + " person", nine.length() + 1);
        faults(nine + "person person", nine.length());
        faults(nine + "fee 3;person mistaken 100 1 1;", nine.length() + 6);
    }

    private static void wordsThatAreNone() {
        for (String word : RULE_WORDS) {
            noWord(word, 0);
        }
        noWord("person", 0);
        for (String law : LAWS) {
            noWord(law, 7);
        }
        faults("a", 0);
        faults("z 1;", 0);
        faults("fee x;", 4);
        faults("fee 1x;", 5);
        faults("x fee 1;", 0);
    }

    /** A letter less, a letter more, another letter, a great letter. */
    private static void noWord(String word, int place) {
        String ahead = place == 0 ? "" : "person ";
        faults(ahead + word.substring(1) + " 1 1;", place);
        faults(ahead + word.substring(0, word.length() - 1) + " 1 1;", place);
        faults(ahead + word + "s 1 1;", place);
        faults(ahead + "a" + word + " 1 1;", place);
        faults(ahead + "z" + word.substring(1) + " 1 1;", place);
        faults(ahead + word.substring(0, word.length() - 1) + "z 1 1;", place);
        faults(ahead + Character.toUpperCase(word.charAt(0)) + word.substring(1) + " 1 1;", place);
        faults(ahead + word.toUpperCase() + " 1 1;", place);
    }

    private static void wordsInTheWrongPlace() {
        for (String law : LAWS) {
            faults(law + " 1 1 1;", 0);
            faults("fee " + law + ";", 4);
            faults("person " + law + " " + law + " 1 1;", 8 + law.length());
        }
        for (String word : RULE_WORDS) {
            faults("person " + word + " 1 1;", 7);
            faults("end " + word + ";", 4);
        }
        faults("person person worth 1 1;", 7);
        faults("person 1 1;", 7);
        faults("person ;", 7);
        faults("fee person;", 4);
        faults("1;", 0);
    }

    /** "a NUMBER above 99": that TOKEN's place, however it would wrap. */
    private static void numbersAbove99() {
        String[] above = {"100", "101", "110", "255", "256", "261", "999", "1000", "65541", "2147483648", "4294967296",
            "4294967301", "18446744073709551616", "18446744073709551621", "340282366920938463463374607431768211461"};
        for (String number : above) {
            faults("end " + number + ";", 4);
            faults("person mistaken " + number + " 1 1;", 16);
            faults("person worth 1 " + number + ";", 15);
            faults(number + ";", 0);
        }
        stands("end 99;", 1);
    }

    /** "with a 0 ahead of others". */
    private static void zeroAheadOfOthers() {
        stands("end 0;", 1);
        for (String number : new String[] {"00", "01", "05", "000", "007", "010", "0100", "00000000000000000000000003"}) {
            faults("end " + number + ";", 4);
            faults("pays 1 " + number + ";", 7);
            faults("person worth 5 " + number + ";", 15);
        }
        stands("end 10;", 1);
        stands("end 90;", 1);
    }

    /** "the first TOKEN that can't stand there". */
    private static void theFirstFaultCounts() {
        faults("fee 99;lid 0;x", 4);
        faults("pays 10 10;", 5);
        faults("person mistaken 0 100 10;", 16);
        faults("person mistaken 1 100 10;", 18);
        faults("person mistaken 1 99 10;", 21);
        faults("person mistaken 1 99 9 9;", 23);
        faults("fee 1;lid 0;x", 10);
        faults("fee 1;lid 1;x", 12);
        faults("fee 1;fee 100;", 6);
        faults("rounds 2", 7);
        faults("rounds 2?", 7);
        faults("? rounds 2;", 0);
    }

    /** "the text's length, if it ends too early": behind each token, and with blanks behind it. */
    private static void endsTooEarly() {
        String[] items = {"rounds 9;", "pays 3 4;", "end 99;", "start 10;", "lent 99;", "short 9;", "lid 44;", "fee 1;",
            "sales 5;", "person worth 99 9;", "person rising 9 99 9;", "person riding 9 99 9;",
            "person fresh 9 99 9;", "person mistaken 99 99 9;"};
        for (String ahead : new String[] {"", "person worth 1 1; "}) {
            for (String item : items) {
                for (int cut = 1; cut < item.length(); cut++) {
                    int word = placeOfCutWord(item, cut);
                    String text = ahead + item.substring(0, cut);
                    faults(text, word >= 0 ? ahead.length() + word : text.length());
                    faults(text + "   ", word >= 0 ? ahead.length() + word : text.length() + 3);
                }
            }
        }
    }

    /** Where the word begins that a cut leaves unfinished, as it then is none; -1: no word is cut. */
    private static int placeOfCutWord(String item, int cut) {
        boolean cutsWord = Character.isLetter(item.charAt(cut - 1)) && Character.isLetter(item.charAt(cut));
        return cutsWord ? item.lastIndexOf(' ', cut - 1) + 1 : -1;
    }
}
