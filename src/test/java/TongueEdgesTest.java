/** The edges of "Terms" that a tongue has: what it may hold, and where its fault lies. */
public final class TongueEdgesTest {
    private static final String DIGITS = "0123456789";
    /** Each way a statement may begin, and the signs that may come behind it. */
    private static final String[][] GOES_ON = {
        {"", "vnaoers"}, {"v", DIGITS}, {"v1", DIGITS + ","}, {"v12", ","}, {"v1,", DIGITS}, {"v12,", DIGITS},
        {"v1,2", ";"}, {"n", DIGITS}, {"n1", ";"}, {"a", DIGITS}, {"a1", ";"}, {"o", DIGITS}, {"o1", ";"},
        {"e", DIGITS}, {"e1", ";"}, {"r", "rbsdh"}, {"rr", DIGITS}, {"rb7", ","}, {"rs8,", DIGITS},
        {"rd0,1", DIGITS + ";"}, {"rh0,16", ";"}, {"s", DIGITS}, {"s0", ","}, {"s0,", DIGITS}, {"s0,1", ";"}};
    private static final String TEN_STOCKS = "s0,1;s0,1;s0,1;s0,1;s0,1;s0,1;s0,1;s0,1;s0,1;s0,1;";

    private final Check check = new Check();
    private final Edges edges = new Edges(check);

    public static void main(String[] args) {
        new TongueEdgesTest().run();
    }

    private void run() {
        things();
        sixtyFourLetters();
        value();
        otherWords();
        sixWords();
        road();
        sixRoads();
        stock();
        numbersMayBeginWithZero();
        atLeastOneStatement();
        firstLetterThatCannotBe();
        firstKindGoesAhead();
        firstStatementThatMustNotBe();
        behindAllAheadOfIt();
        noRoomForMore();
        allOrNothing();
        edges.allIsQuoted(Edges.TERMS, edges.placeOf(Edges.TERMS, "MEANINGS"), edges.placeOf(Edges.TERMS, "A READING"),
            "most", "least", "lacks", "no room", "out of range", "nothing", "not there");
        check.end();
    }

    private void says(String... quotes) {
        edges.says(Edges.TERMS, quotes);
    }

    private void things() {
        says("MEANINGS are SETS of 4 THINGS, told as bits 0 .. 15.");
        String text = "v0,0;v15,0;n0;";
        edges.answers("no thing", Edges.of(text), x -> x.word(0, 1), 0);
        edges.answers("all things", Edges.of(text), x -> x.word(1, 1), 15);
        edges.answers("no thing, read", Edges.of(text, 0), x -> x.reads(0, 0), 0);
        edges.answers("all things, read", Edges.of(text, 1), x -> x.reads(0, 0), 15);
        edges.answers("what is not nothing", Edges.of(text, 2, 0), x -> x.reads(0, 0), 15);
        edges.answers("what is not all", Edges.of(text, 2, 1), x -> x.reads(0, 0), 0);
        edges.tells("v16,0;", -2000);
    }

    private void sixtyFourLetters() {
        says("A TONGUE is told in letters, one by one (64 at most)");
        String full = "v1,1;" + TEN_STOCKS + "n1;n1;n1;";
        edges.answers("the 64th", x -> spell(x, full.substring(0, 63)), x -> x.letter(';'), 64);
        edges.answers("the 65th", x -> spell(x, full), x -> x.letter(';'), -6);
        edges.answers("tongue of 64", x -> spell(x, full), x -> x.tongue(), 14);
        edges.answers("the first behind it", x -> Check.tell(x, full), x -> x.letter(';'), 1);
        edges.tells("v01,1;" + TEN_STOCKS + "n1;n1;n1", -1064);
        edges.tells("v01,1;" + TEN_STOCKS + "n1;n1;nn", -1063);
        edges.tells("v1,1;" + TEN_STOCKS + "n1;n1;9n1", -1061);
        edges.tells("n1;v1,1;" + TEN_STOCKS + "s9,1;", -2058);
    }

    private static void spell(ReadFromAnywhere x, String text) {
        for (int i = 0; i < text.length(); i++) {
            x.letter(text.charAt(i));
        }
    }

    private void value() {
        says("STATEMENTS, each with \";\" behind: \"v\" SET (1 or 2 digits, 0 .. 15) \",\" WEIGHT (a digit): a WORD more,"
            + " VALUE");
        for (int set = 0; set <= 99; set++) {
            String told = "v" + set + "," + set % 10 + ";";
            edges.tells(told, set <= 15 ? 1 : -2000);
            int expected = set;
            if (set <= 15) {
                edges.answers("kind by " + told, Edges.of(told), x -> x.word(0, 0), 0);
                edges.answers("set by " + told, Edges.of(told), x -> x.word(0, 1), expected);
                edges.answers("weight by " + told, Edges.of(told), x -> x.word(0, 2), expected % 10);
            }
        }
        edges.tells("v,1;", -1001);
        edges.tells("v100,1;", -1003);
        edges.tells("v1,;", -1003);
        edges.tells("v1,10;", -1004);
        edges.tells("v1;", -1002);
        edges.tells("v1,1", -1004);
        edges.tells("v1,1.", -1004);
    }

    private void otherWords() {
        says("\"n\" WEIGHT: a WORD more, NOT; \"a\" WEIGHT: AND; \"o\" WEIGHT: OR; \"e\" WEIGHT: END");
        for (int kind = 1; kind <= 4; kind++) {
            char sign = "vnaoe".charAt(kind);
            int expected = kind;
            for (int weight = 0; weight <= 9; weight++) {
                String told = sign + "" + weight + ";";
                int due = weight;
                edges.tells(told, 1);
                edges.answers("kind by " + told, Edges.of(told), x -> x.word(0, 0), expected);
                edges.answers("set by " + told, Edges.of(told), x -> x.word(0, 1), 16);
                edges.answers("weight by " + told, Edges.of(told), x -> x.word(0, 2), due);
            }
            edges.tells(sign + ";", -1001);
            edges.tells(sign + "10;", -1002);
            edges.tells(sign + "1,1;", -1002);
            edges.tells(sign + "1", -1002);
        }
    }

    private void sixWords() {
        says("(6 WORDS at most)");
        String[] kinds = {"v1,1;", "n1;", "a1;", "o1;", "e1;"};
        for (String last : kinds) {
            edges.tells("n1;n1;n1;n1;n1;" + last, 6);
            edges.tells("n1;n1;n1;n1;n1;n1;" + last, -2018);
            edges.tellsBehind("n1;n1;n1;n1;n1;", last, 1);
            edges.tellsBehind("n1;n1;n1;n1;n1;", last + last, -2000 - last.length());
            edges.tellsBehind("n1;n1;n1;n1;n1;n1;", last, -2000);
        }
        edges.answers("words", x -> Check.tell(x, "e1;e1;e1;e1;e1;e1;"), x -> x.count(0), 6);
        edges.answers("the sixth", x -> Check.tell(x, "e1;e1;e1;e1;e1;n9;"), x -> x.word(5, 2), 9);
        edges.answers("none of seven", x -> Check.tell(x, "e1;e1;e1;e1;e1;e1;e1;"), x -> x.count(0), 0);
        edges.tellsBehind("e1;e1;e1;e1;e1;e1;", "rr0,0;s5,1;", 2);
    }

    private void road() {
        says("\"r\" a letter of a KIND of READER, EIGHTH (a digit, 0 .. 7) \",\" WISH (1 or 2 digits, 0 .. 16; 16: no"
            + " sense): a ROAD more");
        for (int sign = 0; sign <= 255; sign++) {
            int kind = "rbsdh".indexOf((char) sign);
            edges.tells("r" + (char) sign + "0,0;", kind < 0 ? -1001 : 1);
            if (kind >= 0) {
                edges.answers("kind", Edges.of("r" + (char) sign + "0,0;"), x -> x.road(0, 0), kind);
            }
        }
        for (int eighth = 0; eighth <= 9; eighth++) {
            String told = "rr" + eighth + ",0;";
            int due = eighth;
            edges.tells(told, eighth <= 7 ? 1 : -2000);
            edges.answers("eighth by " + told, Edges.of(told), x -> x.road(0, 1), eighth <= 7 ? due : -1);
        }
        for (int wish = 0; wish <= 99; wish++) {
            String told = "rh7," + wish + ";";
            int due = wish;
            edges.tells(told, wish <= 16 ? 1 : -2000);
            edges.answers("wish by " + told, Edges.of(told), x -> x.road(0, 2), wish <= 16 ? due : -1);
        }
        edges.answers("no sense, wished and read", Edges.of("a1;rr0,16;", 0), x -> x.judge(), -9);
        edges.tells("rr,0;", -1002);
        edges.tells("rr00,0;", -1003);
        edges.tells("rr0,;", -1004);
        edges.tells("rr0,100;", -1006);
    }

    private void sixRoads() {
        says("(6 at most); \"s\"");
        String five = "rr0,0;rr1,0;rr2,0;rr3,0;rr4,0;";
        edges.tells(five + "rh5,0;", 6);
        edges.tells(five + "rh5,0;rh6,0;", -2036);
        edges.tellsBehind(five, "rh5,0;", 1);
        edges.tellsBehind(five, "rh5,0;rh6,0;", -2006);
        edges.tellsBehind(five + "rh5,0;", "rh6,0;", -2000);
        edges.answers("the sixth", Edges.of(five + "rh5,0;"), x -> x.road(5, 1), 5);
        edges.answers("roads", Edges.of(five + "rh5,0;"), x -> x.count(1), 6);
        edges.answers("none of seven", Edges.of(five + "rh5,0;rh6,0;"), x -> x.count(1), 0);
        edges.tellsBehind(five + "rh5,0;", "n1;s0,1;", 2);
    }

    private void stock() {
        says("\"s\" a WORD (a digit) \",\" STOCK (a digit): so many STONES of it (0 at first)");
        edges.answers("at first", Edges.of("n1;"), x -> x.word(0, 3), 0);
        for (int stock = 0; stock <= 9; stock++) {
            String told = "n1;s0," + stock + ";";
            int due = stock;
            edges.answers(told, Edges.of(told), x -> x.word(0, 3), due);
        }
        for (int word = 0; word <= 9; word++) {
            edges.tellsBehind("n1;n1;n1;n1;n1;n1;", "s" + word + ",1;", word <= 5 ? 1 : -2000);
        }
        edges.answers("of the sixth", Edges.of(Edges.SIX + "s5,9;"), x -> x.word(5, 3), 9);
        edges.answers("a word more has none", Edges.of("n1;s0,9;n1;"), x -> x.word(1, 3), 0);
        edges.tells("n1;s,1;", -1004);
        edges.tells("n1;s00,1;", -1005);
        edges.tells("n1;s0,;", -1006);
        edges.tells("n1;s0,10;", -1007);
    }

    private void numbersMayBeginWithZero() {
        says("Numbers may begin with 0.");
        for (int number = 0; number <= 9; number++) {
            int due = number;
            edges.answers("a set", Edges.of("v0" + number + ",0;"), x -> x.word(0, 1), due);
            edges.answers("a wish", Edges.of("rr0,0" + number + ";"), x -> x.road(0, 2), due);
        }
        edges.tells("v007,0;", -1003);
        edges.tells("rr0,007;", -1006);
        edges.tells("v7,00;", -1004);
        edges.tells("rr00,7;", -1003);
    }

    private void atLeastOneStatement() {
        says("At least one STATEMENT.");
        edges.answers("no letters", x -> { }, x -> x.tongue(), -1000);
        edges.answers("no letters behind a tongue", Edges.of(Edges.SIX), x -> x.tongue(), -1000);
        edges.tells(";", -1000);
        edges.tells("n1;;", -1003);
        edges.tells("n1;", 1);
    }

    private void firstLetterThatCannotBe() {
        says("FAULT: kind 1 the place of the first letter with which no TONGUE can go on (the end, if something lacks):"
            + " -1000 less the place");
        for (String[] row : GOES_ON) {
            for (int sign = 0; sign <= 255; sign++) {
                String text = row[0] + (char) sign;
                boolean goesOn = row[1].indexOf(sign) >= 0;
                if (!goesOn) {
                    edges.tells(text, -1000 - row[0].length());
                    edges.tells("e1;" + text + "n1;", -1003 - row[0].length());
                } else if (sign != ';') {
                    edges.tells(text, -1000 - text.length());
                    edges.tells("e1;" + text, -1003 - text.length());
                } else {
                    edges.tells("e1;" + text, text.charAt(1) == '8' || text.charAt(2) == '8' ? -2003 : 2);
                }
            }
        }
        edges.tells("n1;x;x", -1003);
        edges.tells("n1;n1;n", -1007);
    }

    private void firstKindGoesAhead() {
        says("else kind 2");
        edges.tells("v16,1;", -2000);
        edges.tells("v16,1;x", -1006);
        edges.tells("v16,1;n", -1007);
        edges.tells("v16,1", -1005);
        edges.tells("s9,1;v1,1;rr9,99", -1016);
        edges.tells("n1;n1;n1;n1;n1;n1;n1;n1", -1023);
    }

    private void firstStatementThatMustNotBe() {
        says("the place of the first letter of the first STATEMENT that, behind all ahead of it in the text, is not as it"
            + " must be (a number out of range");
        edges.tells("v16,1;", -2000);
        edges.tells("v15,1;v16,1;", -2006);
        edges.tells("v99,1;v16,1;", -2000);
        edges.tells("n1;rr8,0;v16,1;", -2003);
        edges.tells("n1;rr7,17;v16,1;", -2003);
        edges.tells("n1;rr9,99;", -2003);
        edges.tells("n1;rr7,16;v16,1;", -2010);
    }

    private void behindAllAheadOfIt() {
        says("a WORD that is not there ahead of it");
        edges.tells("s0,1;", -2000);
        edges.tells("s0,1;n1;", -2000);
        edges.tells("n1;s0,1;", 2);
        edges.tells("n1;s1,1;n1;", -2003);
        edges.tells("n1;n1;s1,1;", 3);
        edges.tells("n1;n1;s2,1;", -2006);
        edges.tells("rr0,1;s0,1;", -2006);
        edges.tellsBehind("n1;", "s0,1;", 1);
        edges.tellsBehind("n1;", "s1,1;", -2000);
        edges.tellsBehind("n1;", "n1;s1,1;", 2);
        edges.tellsBehind("n1;x", "s0,1;", -2000);
        edges.tellsBehind("n1;s1,1;", "s0,1;", -2000);
    }

    private void noRoomForMore() {
        says("no room for more): -2000 less the place.");
        edges.tells("n1;n1;n1;n1;n1;n1;n1;v16,1;", -2018);
        edges.tells("n1;n1;n1;n1;n1;n1;v16,1;n1;", -2018);
        edges.tellsBehind("n1;n1;n1;n1;n1;", "n1;rr0,0;n1;", -2009);
        edges.tellsBehind("rr0,0;rr0,0;rr0,0;rr0,0;rr0,0;", "rr0,0;n1;rr0,0;", -2009);
    }

    private void allOrNothing() {
        says("Without FAULT all of it comes, with one nothing.");
        String before = "v1,2;rr0,1;s0,5;";
        edges.answers("all of it", Edges.of(before), x -> Check.tell(x, "s0,7;n1;rb1,2;s1,3;"), 4);
        edges.answers("its words", Edges.of(before + "s0,7;n1;rb1,2;s1,3;"), x -> x.count(0), 2);
        edges.answers("its roads", Edges.of(before + "s0,7;n1;rb1,2;s1,3;"), x -> x.count(1), 2);
        edges.answers("its stock", Edges.of(before + "s0,7;n1;rb1,2;s1,3;"), x -> x.count(6), 10);
        edges.asks("kind 1 at the end", Edges.of(before), x -> Check.tell(x, "s0,7;n1;rb1,2;s1,3;n"), -1020);
        edges.asks("kind 1", Edges.of(before), x -> Check.tell(x, "s0,7;n1;rb1,2;s1,3;x"), -1019);
        edges.asks("a set", Edges.of(before), x -> Check.tell(x, "s0,7;n1;rb1,2;v16,0;"), -2014);
        edges.asks("a road", Edges.of(before), x -> Check.tell(x, "s0,7;n1;rb1,2;rb8,2;"), -2014);
        edges.asks("a stock", Edges.of(before), x -> Check.tell(x, "s0,7;n1;rb1,2;s2,9;"), -2014);
        edges.asks("no room", Edges.of(before), x -> Check.tell(x, "n1;n1;n1;n1;n1;n1;"), -2015);
    }
}
