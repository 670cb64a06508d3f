import java.util.Arrays;

/** The edges of "Terms" that readings, rings, readers and roads have. */
public final class ReadingEdgesTest {
    private static final String SIX = Edges.SIX;
    private static final int NO_SENSE = 16;
    private static final int END = 5;
    /** How many places HALF reads of rings of 1 to 12. */
    private static final int[] HALVES = {1, 1, 2, 2, 3, 3, 4, 4, 5, 5, 6, 6};
    /** Where roads begin by their eighths, in rings of so many places. */
    private static final int[][] BEGINS = {
        {1, 0, 0, 0, 0, 0, 0, 0, 0}, {2, 0, 0, 0, 0, 1, 1, 1, 1}, {3, 0, 0, 0, 1, 1, 1, 2, 2},
        {4, 0, 0, 1, 1, 2, 2, 3, 3}, {5, 0, 0, 1, 1, 2, 3, 3, 4}, {6, 0, 0, 1, 2, 3, 3, 4, 5},
        {7, 0, 0, 1, 2, 3, 4, 5, 6}, {8, 0, 1, 2, 3, 4, 5, 6, 7}, {9, 0, 1, 2, 3, 4, 5, 6, 7},
        {10, 0, 1, 2, 3, 5, 6, 7, 8}, {11, 0, 1, 2, 4, 5, 6, 8, 9}, {12, 0, 1, 3, 4, 6, 7, 9, 10}};

    private final Check check = new Check();
    private final Edges edges = new Edges(check);

    public static void main(String[] args) {
        new ReadingEdgesTest().run();
    }

    private void run() {
        oneBetweenEachTwo();
        notsAhead();
        endsLeftOut();
        oneValueAtLeast();
        byTheRow();
        notsTurn();
        noSense();
        upToTwelvePlaces();
        blanks();
        round();
        back();
        stop();
        doubled();
        half();
        allRingsOfThree();
        roadsBegin();
        placeByPlace();
        same();
        says();
        judged();
        edges.allIsQuoted(Edges.TERMS, edges.placeOf(Edges.TERMS, "A READING"),
            edges.placeOf(Edges.TERMS, "==== II."), "one", "once", "first", "cut", "least", "no further", "left out",
            "gone round", "whether", "n of them");
        check.end();
    }

    private void quote(String... quotes) {
        edges.says(Edges.TERMS, quotes);
    }

    private void reads(int place, int kind, int want, int... ring) {
        edges.asks("reads(" + place + ", " + kind + ") of " + Arrays.toString(ring), Edges.of(SIX, ring),
            x -> x.reads(place, kind), want);
    }

    private void oneBetweenEachTwo() {
        quote("A READING is a row of WORDS. It MAKES SENSE, if it is VALUES with one AND or OR between each two");
        reads(0, 0, 3, 0);
        reads(0, 0, NO_SENSE, 0, 1);
        reads(0, 0, 2, 0, 3, 1);
        reads(0, 0, 7, 0, 4, 1);
        reads(0, 0, NO_SENSE, 0, 3, 3, 1);
        reads(0, 0, NO_SENSE, 0, 3, 4, 1);
        reads(0, 0, NO_SENSE, 0, 4, 5, 4, 1);
        reads(0, 0, NO_SENSE, 3, 0);
        reads(0, 0, NO_SENSE, 4, 0, 3, 1);
        reads(0, 0, NO_SENSE, 0, 3);
        reads(0, 0, NO_SENSE, 0, 3, 1, 4);
        reads(0, 0, NO_SENSE, 0, 3, 1, 0);
        reads(0, 0, 3, 0, 3, 0, 3, 0, 3, 0, 3, 0, 3, 0);
    }

    private void notsAhead() {
        quote("any NOTS ahead of VALUES");
        reads(0, 0, 12, 2, 0);
        reads(0, 0, 3, 2, 2, 0);
        reads(0, 0, 12, 2, 2, 2, 2, 2, 2, 2, 2, 2, 2, 2, 0);
        reads(0, 0, NO_SENSE, 0, 2);
        reads(0, 0, NO_SENSE, 0, 3, 1, 2);
        reads(0, 0, NO_SENSE, 0, 2, 3, 1);
        reads(0, 0, NO_SENSE, 0, 2, 1);
        reads(0, 0, NO_SENSE, 2, 3, 0);
        reads(0, 0, 1, 0, 3, 2, 1);
        reads(0, 0, 2, 0, 3, 2, 2, 1);
    }

    private void endsLeftOut() {
        quote("and ENDS that are left out");
        reads(0, 0, 3, 5, 0, 5);
        reads(0, 0, 12, 2, 5, 0);
        reads(0, 0, 3, 2, 5, 2, 0);
        reads(0, 0, 2, 0, 5, 3, 5, 1);
        reads(0, 0, NO_SENSE, 0, 5, 1);
        reads(0, 1, 2, 0, 1, 5, 3);
    }

    private void oneValueAtLeast() {
        quote("it has one VALUE at least");
        reads(0, 0, NO_SENSE, 5);
        reads(0, 0, NO_SENSE, 5, 5);
        reads(0, 0, NO_SENSE, -1);
        reads(0, 0, NO_SENSE, 2);
        reads(0, 0, NO_SENSE, 3);
        reads(0, 0, NO_SENSE, 4, 5, -1);
        reads(0, 0, 3, 5, 0, 5, -1);
    }

    private void byTheRow() {
        quote("It MEANS: from the first VALUE on, by the row, AND meets, OR joins");
        reads(0, 0, 6, 0, 4, 1, 3, 1);
        reads(0, 0, 7, 1, 3, 1, 4, 0);
        reads(0, 0, 3, 0, 3, 1, 4, 0);
        reads(0, 0, 2, 0, 4, 1, 3, 0, 3, 1);
        edges.answers("nothing met", Edges.of("v0,1;v9,1;a1;o1;", 0, 2, 1), x -> x.reads(0, 0), 0);
        edges.answers("nothing joined", Edges.of("v0,1;v9,1;a1;o1;", 0, 3, 1), x -> x.reads(0, 0), 9);
    }

    private void notsTurn() {
        quote("each NOT turns round the VALUE behind it");
        reads(0, 0, 4, 2, 0, 3, 1);
        reads(0, 0, 1, 0, 3, 2, 1);
        reads(0, 0, 11, 0, 4, 2, 1);
        reads(0, 0, 8, 2, 0, 3, 2, 1);
        reads(0, 0, 13, 2, 0, 4, 2, 1);
        reads(0, 0, 14, 2, 0, 4, 2, 2, 1);
    }

    private void noSense() {
        quote("No sense: 16.");
        reads(0, 0, NO_SENSE, 0, 0);
        edges.answers("no words at all", Edges.of("", -1), x -> x.reads(0, 0), NO_SENSE);
        edges.answers("all things are 15", Edges.of("v15,0;", 0), x -> x.reads(0, 0), 15);
        edges.answers("a road, no places", Edges.of("v3,1;rr0,3;"), x -> x.road(0, 4), NO_SENSE);
    }

    private void upToTwelvePlaces() {
        quote("A RING has n PLACES (0 .. 12)");
        edges.answers("at first", Edges.of(SIX), x -> x.count(2), 0);
        for (int n = 0; n < 12; n++) {
            int due = n + 1;
            edges.answers("a place more", Edges.of(SIX, Edges.ring(n, 0)), x -> x.stone(1), due);
        }
        edges.refused("the 13th", Edges.of(SIX, Edges.ring(12, 0)), x -> x.stone(1), -6);
        edges.answers("the 12th", Edges.of(SIX, Edges.lone(12, 0, 11, 4)), x -> x.at(11), 4);
        edges.answers("the 13th is not there", Edges.of(SIX, Edges.ring(12, 0)), x -> x.at(12), -1);
    }

    private void blanks() {
        quote("each with a WORD or BLANK (left out in reading)");
        reads(0, 0, 3, -1, 0);
        reads(1, 0, 3, -1, 0);
        reads(0, 0, 2, 0, -1, 3, -1, -1, 1);
        reads(0, 0, 12, 2, -1, 0);
        reads(0, 0, NO_SENSE, 0, -1, 1);
        reads(0, 0, NO_SENSE, -1, -1);
        reads(0, 3, 2, 0, -1, 3, -1, 1);
        reads(0, 4, 3, -1, 0, 1);
    }

    /** A value alone among ends is read, if the reader comes to its place just once. */
    private void readsLone(int n, int kind, boolean[][] comes) {
        for (int place = 0; place < n; place++) {
            for (int value = 0; value < n; value++) {
                reads(place, kind, comes[place][value] ? 3 : NO_SENSE, Edges.lone(n, END, value, 0));
            }
        }
    }

    private static boolean[][] all(int n) {
        boolean[][] comes = new boolean[n][n];
        for (boolean[] row : comes) {
            Arrays.fill(row, true);
        }
        return comes;
    }

    private void round() {
        quote("READERS by KINDS, from a PLACE on: r ROUND under READER: all PLACES, one after the other, once round.");
        for (int n = 1; n <= 12; n++) {
            readsLone(n, 0, all(n));
        }
        reads(2, 0, 2, 3, 1, 0);
        reads(1, 0, 12, 0, 2, 2, 2);
        reads(11, 0, 2, 3, 1, 5, 5, 5, 5, 5, 5, 5, 5, 5, 0);
    }

    private void back() {
        quote("b BACK under ROUND: the other way round.");
        for (int n = 1; n <= 12; n++) {
            readsLone(n, 1, all(n));
        }
        reads(0, 1, 12, 2, 0, 2, 2);
        reads(1, 1, NO_SENSE, 2, 0, 2, 2);
        reads(0, 1, 2, 0, 1, 3);
        reads(0, 1, NO_SENSE, 0, 3, 1);
        reads(0, 1, 12, 2, 0);
        reads(0, 1, 3, 0, 5);
        reads(11, 1, 2, 5, 5, 5, 5, 5, 5, 5, 5, 5, 1, 3, 0);
    }

    private void stop() {
        quote("s STOP under ROUND: as ROUND, but no further than the first END behind some VALUE (BLANK ones, too, left"
            + " out).");
        reads(0, 2, 3, 0, 5, 1);
        reads(0, 2, NO_SENSE, 0, 1, 5);
        reads(0, 2, 3, 0, 5, 3);
        reads(0, 2, NO_SENSE, 0, 3, 5, 1);
        reads(0, 2, 6, 5, 1, 5, 0);
        reads(0, 2, 12, 2, 5, 0, 5, 1);
        reads(0, 2, 6, 5, 5, 5, 1, 5, 5, 0);
        reads(0, 2, NO_SENSE, 5, 5);
        reads(0, 2, NO_SENSE, 3, 0, 5);
        reads(0, 2, 2, 0, -1, 3, -1, 1, -1, 5, 1);
        reads(0, 2, NO_SENSE, 0, -1, 1, 5);
        reads(0, 2, 7, 0, 4, 1);
        reads(2, 2, 3, 1, 5, 0, 5);
        reads(3, 2, 6, 1, 5, 0, 5);
        reads(0, 2, 3, 0, 5);
        reads(1, 2, 3, 0, 5);
        reads(0, 2, NO_SENSE, 0, 4, 1, 0, 5);
        for (int n = 1; n <= 12; n++) {
            readsLone(n, 2, all(n));
        }
    }

    private void doubled() {
        quote("d DOUBLE under READER: every second PLACE (gone round), n of them.");
        for (int n = 1; n <= 11; n += 2) {
            readsLone(n, 3, all(n));
        }
        for (int n = 2; n <= 12; n += 2) {
            readsLone(n, 3, new boolean[n][n]);
        }
        reads(0, 3, 2, 0, 1, 3);
        reads(1, 3, NO_SENSE, 0, 1, 3);
        reads(2, 3, 2, 1, 3, 5, 5, 0);
        reads(4, 3, 2, 5, 3, 5, 1, 0);
        reads(0, 3, 3, 0, 5, 4, 0, 5);
    }

    private void half() {
        quote("h HALF under ROUND: n by 2, cut up, PLACES.");
        for (int n = 1; n <= 12; n++) {
            boolean[][] comes = new boolean[n][n];
            for (int place = 0; place < n; place++) {
                for (int i = 0; i < HALVES[n - 1]; i++) {
                    comes[place][(place + i) % n] = true;
                }
            }
            readsLone(n, 4, comes);
        }
        reads(0, 4, 3, 0, 1);
        reads(0, 4, NO_SENSE, 0, 1, 5);
        reads(0, 4, 2, 0, 3, 1, 4, 4);
        reads(5, 4, 2, 3, 1, 5, 5, 5, 0);
    }

    /** What is read from all places of all rings of 3, with blanks, must have the shape that makes sense. */
    private void allRingsOfThree() {
        quote("READERS by KINDS");
        int[][] steps = {{0, 1, 2}, {0, 2, 1}, {0, 1, 2}, {0, 2, 1}, {0, 1}};
        for (int code = 0; code < 343; code++) {
            int[] ring = {code / 49 - 1, code / 7 % 7 - 1, code % 7 - 1};
            ReadFromAnywhere x = Check.with(SIX, ring);
            for (int place = 0; place < 3; place++) {
                for (int kind = 0; kind < 5; kind++) {
                    String row = "";
                    for (int step : steps[kind]) {
                        int word = ring[(place + step) % 3];
                        boolean stops = kind == 2 && word == END && row.indexOf('v') >= 0;
                        row += stops ? "." : word < 0 || word == END ? "" : "vvncc".charAt(word);
                    }
                    boolean sense = row.replaceAll("\\..*", "").matches("n*v(cn*v)*");
                    check.holds("sense of " + Arrays.toString(ring) + " from " + place + " by " + kind,
                        x.reads(place, kind) != NO_SENSE == sense);
                }
            }
        }
    }

    private void roadsBegin() {
        quote("A ROAD begins at the PLACE EIGHTH times n by 8, cut.");
        edges.answers("no places", Edges.of(SIX + "rr7,0;"), x -> x.road(0, 3), -9);
        for (int[] row : BEGINS) {
            int n = row[0];
            for (int eighth = 0; eighth <= 7; eighth++) {
                int begin = row[eighth + 1];
                String text = SIX + "rr" + eighth + ",12;";
                edges.answers(eighth + " eighths of " + n, Edges.of(text, Edges.ring(n, END)), x -> x.road(0, 3), begin);
                // NOT where the road begins and the value last make sense from there alone.
                int[] ring = Edges.lone(n, END, begin, 2);
                ring[(begin + n - 1) % n] = 0;
                edges.answers("read from there", Edges.of(text, ring), x -> x.road(0, 4), n == 1 ? 3 : 12);
            }
        }
    }

    private void placeByPlace() {
        quote("THE RING at hand is told PLACE by PLACE.");
        Edges.Setup told = Edges.of(SIX, 4, -1, 0, 5);
        int[] due = {4, -9, 0, 5, -1};
        for (int place = 0; place < due.length; place++) {
            int at = place;
            edges.answers("at(" + place + ")", told, x -> x.at(at), due[place]);
        }
    }

    private void sames(int kind, int want, int... ring) {
        edges.asks("same(" + kind + ") of " + Arrays.toString(ring), Edges.of(SIX, ring),
            x -> x.same(kind), want);
    }

    private void same() {
        quote("SAME by a KIND: whether from all PLACES it means one thing that makes sense (n 1 or more).");
        for (int kind = 0; kind < 5; kind++) {
            sames(kind, 0);
            sames(kind, 1, 0);
            sames(kind, 0, 2);
            sames(kind, 0, 5);
            sames(kind, 0, -1);
            sames(kind, 0, 0, 3);
            sames(kind, 0, 2, 0);
        }
        for (int kind = 0; kind < 3; kind++) {
            sames(kind, 1, Edges.lone(12, END, 11, 0));
            sames(kind, 1, Edges.lone(12, -1, 0, 0));
            sames(kind, 0, Edges.ring(12, END));
        }
        sames(3, 1, Edges.lone(11, END, 10, 0));
        sames(3, 0, Edges.lone(12, END, 11, 0));
        sames(4, 1, 0, 0);
        sames(4, 0, 0, 1);
        sames(4, 1, 0, 5, 5, 0, 5, 5);
        sames(4, 0, 0, 5, 5, 1, 5, 5);
        sames(4, 0, 0, 5, 5, 5, 0, 5);
        sames(2, 1, 0, 5, 0, 5);
        sames(2, 0, 0, 5, 0, 5, 1, 5);
        edges.answers("one thing, nothing", Edges.of("v0,1;", 0), x -> x.same(0), 1);
    }

    private void says() {
        quote("SAYS by a KIND: all MEANINGS from all PLACES (bits 0 .. 16).");
        for (int kind = 0; kind < 5; kind++) {
            int by = kind;
            edges.asks("of none", Edges.of(SIX), x -> x.says(by), 0);
            edges.asks("no sense", Edges.of(SIX, 5), x -> x.says(by), 65536);
            edges.asks("nothing", Edges.of("v0,0;", 0), x -> x.says(by), 1);
            edges.asks("all things", Edges.of("v15,0;", 0), x -> x.says(by), 32768);
        }
        edges.asks("two and no sense", Edges.of("v0,0;v15,0;e1;", 0, 2, 2, 1, 2, 2, 2, 2), x -> x.says(4), 98305);
        edges.asks("the last place alone", Edges.of(SIX, 3, 0, 4, 1), x -> x.says(0), 65536);
        edges.asks("the last place alone", Edges.of(SIX, 3, 1, 0), x -> x.says(0), 65540);
        edges.asks("the first place alone", Edges.of(SIX, 0, 3, 1), x -> x.says(0), 65540);
    }

    private void judged() {
        quote("JUDGED: the first ROAD that does not read its WISH; -9.");
        String roads = "rr0,3;rr0,3;rr0,3;rr0,3;rr0,3;rr0,3;";
        edges.asks("no roads", Edges.of(SIX, 0), x -> x.judge(), -9);
        edges.asks("all six do", told("v3,1;v6,1;", roads, 0), x -> x.judge(), -9);
        edges.asks("the first of six", told("v3,1;v6,1;", roads, 1), x -> x.judge(), 0);
        for (int road = 0; road < 6; road++) {
            String other = roads.substring(0, 6 * road) + "rr0,6;" + roads.substring(6 * road + 6);
            edges.asks("one of six", told("v3,1;v6,1;", other, 0), x -> x.judge(), road);
        }
        edges.asks("of two the first", told("v3,1;v6,1;", "rr0,3;rr0,6;rr0,3;rr0,6;", 0), x -> x.judge(), 1);
        edges.asks("no sense is as wished", told(SIX, "rr0,16;", 0, 1), x -> x.judge(), -9);
    }

    private static Edges.Setup told(String words, String roads, int... ring) {
        return x -> {
            Check.tell(x, words);
            Check.tell(x, roads);
            Check.ring(x, ring);
        };
    }
}
