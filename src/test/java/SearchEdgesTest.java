import java.math.BigInteger;

/** The edges of "Terms" behind "==== II.": how many places each search goes through, and what it answers without one. */
public final class SearchEdgesTest {
    private static final String SIX = Edges.SIX;
    private static final int END = 5;
    private static final BigInteger WHOLE = BigInteger.ONE.shiftLeft(32);

    private final Check check = new Check();
    private final Edges edges = new Edges(check);

    public static void main(String[] args) {
        new SearchEdgesTest().run();
    }

    private void run() {
        inOrder();
        shortest();
        each();
        eachOfSixPlaces();
        countOfTurned();
        sayable();
        needed();
        wornByBlanks();
        wornInOrder();
        likeliest();
        sure();
        safe();
        every();
        everyTheFirst();
        stones();
        made();
        towers();
        draws();
        image();
        refusals();
        edges.allIsQuoted(Edges.TERMS, edges.placeOf(Edges.TERMS, "RINGS of n PLACES are gone"), Edges.MOST, "first",
            "fewest", "greatest", "none", "just once", "no others", "not as one", "cut", "least", "no room", "at most",
            "nothing", "no BLANK", "no such", "one counted", "is less", "behind the last", "as then");
        check.end();
    }

    private void quote(String... quotes) {
        edges.says(Edges.TERMS, quotes);
    }

    private void eachIs(String text, int... ring) {
        for (int i = -1; i <= 5; i++) {
            int at = i;
            int due = ring.length == 0 ? -9 : i == -1 ? ring.length : i < ring.length ? ring[i] : -9;
            edges.asks("each(" + i + ") by " + text, Edges.of(text), x -> x.each(at), due);
        }
    }

    private void inOrder() {
        quote("RINGS of n PLACES are gone through by WORDS of PLACES 0, 1, .. (no BLANK).");
        eachIs("e1;v3,1;", 0);
        eachIs("v3,1;e1;rr0,3;rd0,16;", 0, 1);
        eachIs("e1;v3,1;rr0,3;rd0,16;", 0, 1);
        eachIs("e1;n1;v3,1;rr0,12;rb0,16;", 0, 1, 2);
        eachIs("n1;v3,1;v3,1;rr0,12;rb0,16;", 0, 0, 0, 1);
        edges.asks("no words, no rings", Edges.of("rr0,16;"), x -> x.each(-1), -9);
        edges.asks("a ring of blanks reads no sense, but is none", Edges.of("v3,1;rr0,16;rh0,16;"), x -> x.each(0), 0);
    }

    private void shortest() {
        quote("SHORTEST of a SET and a KIND: the fewest PLACES (1 .. 5) of a RING that means it from all PLACES; -9; the"
            + " first such RING.");
        // From AND, OR or the place behind NOT no ring makes the same sense, so one place says it or none does.
        String text = "e1;v0,1;v8,1;v8,1;v15,1;n1;";
        int[] firsts = {1, -9, -9, -9, -9, -9, -9, -9, 2, -9, -9, -9, -9, -9, -9, 4};
        for (int kind = 0; kind < 5; kind++) {
            int by = kind;
            for (int set = 0; set <= 15; set++) {
                int of = set;
                int due = firsts[set];
                edges.asks("places", Edges.of(text), x -> x.shortest(of, by, -1), due < 0 ? -9 : 1);
                edges.asks("its word", Edges.of(text), x -> x.shortest(of, by, 0), due);
                edges.asks("behind it", Edges.of(text), x -> x.shortest(of, by, 1), -9);
            }
            edges.asks("no words", Edges.of(""), x -> x.shortest(0, by, -1), -9);
        }
        edges.asks("1 AND 2 is not 0 from AND", Edges.of("v1,1;v2,1;a1;e1;"), x -> x.shortest(0, 2, -1), -9);
    }

    private void each() {
        quote("EACH: the fewest PLACES (1 .. 5) of a RING that reads to all ROADS their WISHES; -9; the first.");
        eachIs(SIX, 0);
        eachIs(SIX + "rr0,6;", 1);
        eachIs(SIX + "rr0,12;", 2, 0);
        eachIs(SIX + "rr0,2;", 0, 3, 1);
        eachIs(SIX + "rr0,4;", 1, 3, 2, 0);
        eachIs("v2,1;v4,1;n1;a1;e1;rr0,9;", 2, 0, 3, 2, 1);
        eachIs("v1,1;v2,1;v4,1;o1;rr0,7;rb7,7;", 0, 3, 1, 3, 2);
        eachIs("v3,1;rr0,3;rr0,2;");
        eachIs("v3,1;rr0,16;", 0, 0);
        eachIs("e1;v3,1;rr0,3;rh0,3;rs7,3;rb4,3;rd6,3;", 1);
    }

    private void eachOfSixPlaces() {
        quote("EACH: the fewest PLACES (1 .. 5) of a RING");
        String text = "v2,1;v4,1;n1;a1;e1;rr0,9;rh4,11;";
        edges.asks("six places do", Edges.of(text, 2, 0, 3, 2, 1, 4), x -> x.judge(), -9);
        edges.asks("none of up to five do", Edges.of(text), x -> x.each(-1), -9);
        edges.asks("nor is there a word", Edges.of(text), x -> x.each(0), -9);
    }

    /** Values of one set by two words, and ends: the rings by kinds and places, counted by hand. */
    private void countOfTurned() {
        quote("COUNT of n (1 .. 5): RINGS that are SAME by a KIND, of those that are turned into each other one counted.");
        int[][] two = {{2, 2, 2, 2, 2}, {2, 2, 2, 2, 2}, {2, 2, 2, 5, 6}, {2, 0, 2, 0, 2}, {2, 3, 0, 3, 0}};
        int[][] three = {{3, 3, 3, 3, 3}, {3, 3, 3, 3, 3}, {3, 3, 3, 9, 12}, {3, 0, 3, 0, 3}, {3, 6, 0, 6, 0}};
        int[][] noEnd = {{2, 0, 0, 0, 0}, {2, 0, 0, 0, 0}, {2, 0, 0, 0, 0}, {2, 0, 0, 0, 0}, {2, 3, 0, 0, 0}};
        for (int kind = 0; kind < 5; kind++) {
            for (int n = 1; n <= 5; n++) {
                int by = kind;
                int of = n;
                edges.asks(n + " by " + kind, Edges.of("v3,1;e1;v3,1;"), x -> x.rings(of, by), two[kind][n - 1]);
                edges.asks(n + " by " + kind, Edges.of("v3,1;v3,1;v3,1;e1;n1;"), x -> x.rings(of, by), three[kind][n - 1]);
                edges.asks(n + " by " + kind, Edges.of("v3,1;v3,1;"), x -> x.rings(of, by), noEnd[kind][n - 1]);
                edges.asks("no words", Edges.of(""), x -> x.rings(of, by), 0);
                edges.asks("no values", Edges.of("e1;n1;a1;"), x -> x.rings(of, by), 0);
            }
        }
    }

    private void sayable() {
        quote("SAYABLE: SETS (bits 0 .. 15) that some RING of 1 .. 4 PLACES means from all PLACES by a KIND.");
        for (int kind = 0; kind < 5; kind++) {
            int by = kind;
            edges.asks("the first and the last", Edges.of("v0,1;v15,1;n1;a1;o1;e1;"), x -> x.sayable(by), 32769);
            edges.asks("six", Edges.of("v1,1;v2,1;v3,1;v4,1;v5,1;v6,1;"), x -> x.sayable(by), 126);
            edges.asks("one, twice", Edges.of("v7,1;v7,2;"), x -> x.sayable(by), 128);
            edges.asks("no values", Edges.of("n1;a1;o1;e1;"), x -> x.sayable(by), 0);
            edges.asks("no words", Edges.of(""), x -> x.sayable(by), 0);
        }
    }

    private void needed() {
        quote("NEEDED: WORDS (bits) without which SAYABLE by ROUND is less.");
        edges.asks("all six", Edges.of("v0,1;v15,1;v3,1;v4,1;v5,1;v6,1;"), x -> x.needed(), 63);
        edges.asks("the last alone", Edges.of("v3,1;v3,1;e1;n1;a1;v0,1;"), x -> x.needed(), 32);
        edges.asks("two alike", Edges.of("v3,1;e1;v3,1;"), x -> x.needed(), 0);
        edges.asks("no values", Edges.of("e1;n1;"), x -> x.needed(), 0);
        edges.asks("no words", Edges.of(""), x -> x.needed(), 0);
    }

    private void wornByBlanks() {
        quote("WORN: THE RING with 1 .. 4 BLANKS, each filled with a WORD");
        int[] all = {-3, 6, 36, 216, 1296, -3, -3};
        for (int blanks = 0; blanks <= 6; blanks++) {
            int due = all[blanks];
            Edges.Setup ring = Edges.of(SIX, Edges.ring(blanks, -1));
            Edges.Setup wide = Edges.of(SIX, wide(blanks));
            if (due < 0) {
                edges.refused(blanks + " blanks", ring, x -> x.worn(0), due);
                edges.refused(blanks + " blanks of 12", wide, x -> x.worn(0), due);
            } else {
                edges.asks(blanks + " blanks", ring, x -> x.worn(0), due);
                edges.asks(blanks + " blanks of 12", wide, x -> x.worn(0), due);
            }
        }
        edges.refused("12 blanks", Edges.of(SIX, Edges.ring(12, -1)), x -> x.worn(0), -3);
        edges.asks("no words", Edges.of("", -1), x -> x.worn(0), 0);
        edges.asks("the last place", Edges.of("v3,1;e1;rr0,3;", Edges.lone(12, 1, 11, -1)), x -> x.worn(0), 1);
        quote("how many of these are read by all ROADS as WISHED");
        edges.asks("as none wishes", Edges.of(SIX + "rr0,5;", -1, -1), x -> x.worn(0), 0);
        edges.asks("as one does", Edges.of(SIX + "rr0,3;", -1, -1), x -> x.worn(0), 2);
        edges.asks("as both do", Edges.of(SIX + "rr0,3;rh0,16;", -1, -1), x -> x.worn(0), 1);
    }

    /** A ring of 12 ends with blanks at its last places. */
    private static int[] wide(int blanks) {
        int[] ring = Edges.ring(12, END);
        for (int i = 0; i < blanks; i++) {
            ring[11 - i] = -1;
        }
        return ring;
    }

    private void likeliestIs(String text, int product, int[] ring, int... words) {
        edges.asks("product", Edges.of(text, ring), x -> x.worn(1), product);
        for (int i = 0; i <= 4; i++) {
            int at = i;
            int due = i < words.length ? words[i] : -9;
            edges.asks("likeliest(" + i + ")", Edges.of(text, ring), x -> x.likeliest(at), due);
        }
    }

    private void wornInOrder() {
        quote("(by the first BLANK's WORD first)");
        likeliestIs("v3,2;e3;rr0,3;", 6, Edges.ring(2, -1), 0, 1);
        likeliestIs("e3;v3,2;rr0,3;", 6, Edges.ring(2, -1), 0, 1);
        likeliestIs("e1;v3,1;", 1, Edges.ring(4, -1), 0, 0, 0, 0);
        likeliestIs("e1;v3,1;rr0,3;", 1, Edges.ring(4, -1), 0, 0, 0, 1);
        likeliestIs("e1;n1;v3,1;rr0,12;", 1, Edges.ring(3, -1), 0, 1, 2);
    }

    private void likeliest() {
        quote("LIKELIEST: that with the greatest product of WEIGHTS of the filled ones, of several the first: the product"
            + " (-9 there is none); its WORDS.");
        likeliestIs("v3,1;v3,2;e1;rr0,3;", 2, Edges.ring(2, -1), 1, 2);
        likeliestIs("v3,9;e9;", 6561, Edges.ring(4, -1), 0, 0, 0, 0);
        likeliestIs("v3,8;e9;", 6561, Edges.ring(4, -1), 1, 1, 1, 1);
        likeliestIs("v3,9;e0;rr0,3;", 0, Edges.ring(2, -1), 0, 1);
        likeliestIs("v3,0;v5,0;rr0,5;", 0, Edges.ring(1, -1), 1);
        likeliestIs("v3,9;rr0,5;", -9, Edges.ring(1, -1));
        likeliestIs("", -9, Edges.ring(4, -1));
        likeliestIs("v3,9;e9;rr0,3;", 9, new int[] {0, -1, 1}, 1);
        likeliestIs("v3,9;e5;e5;rr0,3;", 25, new int[] {-1, 0, -1}, 1, 1);
    }

    private void sureIs(String text, int[] ring, int... due) {
        for (int place = 0; place < due.length; place++) {
            int at = place;
            edges.asks("sure(" + place + ")", Edges.of(text, ring), x -> x.sure(at), due[place]);
        }
    }

    private void sure() {
        quote("SURE of a PLACE: the WORDS (bits) that it has in some of all these.");
        sureIs(SIX, new int[] {-1, 4, -1}, 63, 16, 63);
        sureIs(SIX + "rr0,3;", new int[] {-1, -1}, 33, 33);
        sureIs(SIX + "rr0,3;", new int[] {-1, 5}, 1, 32);
        sureIs(SIX + "rr0,9;", new int[] {-1, 5}, 0, 0);
        sureIs("", new int[] {-1, -1}, 0, 0);
        sureIs("v3,1;e1;rr0,3;", new int[] {-1, -1, -1, -1, 1, 1, 1, 1, 1, 1, 1, 1}, 3, 3, 3, 3, 2, 2, 2, 2, 2, 2, 2, 2);
    }

    private void safe() {
        quote("SAFE of a WORD: PLACES (bits, 0 .. n: ahead of PLACE 0, 1, .., behind the last) where it may be put in so"
            + " that all ROADS read as they do now (n 11 at most).");
        edges.asks("no roads, one place", Edges.of(SIX, 0), x -> x.safe(0), 3);
        edges.asks("no roads, 11 places", Edges.of(SIX, Edges.ring(11, 0)), x -> x.safe(0), 4095);
        edges.refused("12 places", Edges.of(SIX, Edges.ring(12, 0)), x -> x.safe(0), -6);
        edges.refused("no places", Edges.of(SIX), x -> x.safe(0), -3);
        edges.asks("an end", Edges.of(SIX + "rr0,9;", 0), x -> x.safe(5), 3);
        edges.asks("NOT", Edges.of(SIX + "rr0,9;", 0), x -> x.safe(2), 0);
        edges.asks("no sense before, none behind", Edges.of(SIX + "rr0,9;", 3), x -> x.safe(0), 3);
        edges.asks("no sense before, some behind", Edges.of(SIX + "rr0,9;", 2), x -> x.safe(0), 1);
        // HALF of 11 and of 12 reads 6 places: what is put in ahead of the value at place 5 moves it out.
        edges.asks("half of 11", Edges.of("v3,1;e1;rh0,3;", Edges.lone(11, 1, 5, 0)), x -> x.safe(1), 4032);
        edges.asks("the last of 11", Edges.of("v3,1;e1;rr7,3;", Edges.lone(11, 1, 10, 0)), x -> x.safe(1), 4095);
        edges.asks("one of two roads", Edges.of(SIX + "rr0,3;rb0,3;", 2, 0), x -> x.safe(5), 6);
        edges.asks("blank places count", Edges.of(SIX + "rr0,3;", -1, 0, -1), x -> x.safe(2), 0);
        edges.asks("a double NOT", Edges.of("v3,1;n1;rr0,3;", 1, 0), x -> x.safe(1), 0);
    }

    private void everyIs(int[] pairs, int... ring) {
        Edges.Setup setup = x -> {
            Check.tell(x, SIX);
            for (int i = 0; i + 1 < pairs.length; i += 2) {
                x.pair(pairs[i], pairs[i + 1]);
            }
        };
        edges.asks("every(-1)", setup, x -> x.every(-1), ring.length);
        for (int i = 0; i <= 12; i++) {
            int at = i;
            edges.asks("every(" + i + ")", setup, x -> x.every(at), i < ring.length ? ring[i] : -9);
        }
    }

    private static int[] row(int... words) {
        return words;
    }

    private void every() {
        quote("EVERY: a RING in which each of the told PAIRS (a WORD and one right behind it; the last and the first, too)"
            + " comes just once, and no others");
        everyIs(row(0, 0), 0);
        everyIs(row(0, 1));
        everyIs(row(0, 1, 1, 0), 0, 1);
        everyIs(row(0, 1, 0, 0));
        everyIs(row(0, 0, 1, 1));
        everyIs(row(0, 1, 1, 0, 2, 2));
        everyIs(row(0, 1, 1, 0, 2, 3, 3, 2));
        everyIs(row(0, 1, 2, 1));
        everyIs(row(0, 1, 1, 2, 2, 3));
        everyIs(row(0, 1, 1, 2, 2, 3, 3, 4, 4, 5, 5, 0), 0, 1, 2, 3, 4, 5);
        everyIs(row(0, 0, 1, 1, 2, 2, 3, 3, 4, 4, 5, 5, 0, 1, 1, 2, 2, 3, 3, 4, 4, 5, 5, 0),
            0, 0, 1, 1, 2, 2, 3, 3, 4, 4, 5, 5);
        everyIs(row(0, 0, 1, 1, 2, 2, 3, 3, 4, 4, 5, 5, 0, 1, 1, 2, 2, 3, 3, 4, 4, 5, 0, 5));
        everyIs(row(0, 0, 0, 1, 0, 2, 0, 3, 0, 4, 0, 5, 1, 0, 1, 1, 1, 2, 1, 3, 1, 4, 1, 5));
    }

    private void everyTheFirst() {
        quote("of all of these that begin with the first PAIR told the first by WORDS: its PLACES.");
        everyIs(row(1, 0, 0, 1), 1, 0);
        everyIs(row(0, 1, 1, 2, 2, 0, 0, 2, 2, 1, 1, 0), 0, 1, 0, 2, 1, 2);
        everyIs(row(1, 2, 2, 0, 0, 1, 0, 2, 2, 1, 1, 0), 1, 2, 0, 1, 0, 2);
        everyIs(row(5, 5, 5, 0, 0, 5), 5, 5, 0);
        everyIs(row(5, 0, 5, 5, 0, 5), 5, 0, 5);
        everyIs(row(0, 5, 5, 5, 5, 0), 0, 5, 5);
        everyIs(row(3, 4, 4, 3, 3, 3, 4, 4), 3, 4, 4, 3);
        everyIs(row(1, 2, 2, 1, 2, 3, 3, 2), 1, 2, 3, 2);
    }

    private void stones() {
        quote("STONES: WORDS that lack for THE RING by STOCK (bits).");
        edges.asks("no ring", Edges.of(SIX), x -> x.stones(), 0);
        edges.asks("no stock", Edges.of(SIX, 0, 1, 2, 3, 4, 5), x -> x.stones(), 63);
        edges.asks("blanks take none", Edges.of(SIX, -1, -1), x -> x.stones(), 0);
        edges.asks("just enough", Edges.of("n1;s0,1;", 0), x -> x.stones(), 0);
        edges.asks("one too few", Edges.of("n1;s0,1;", 0, 0), x -> x.stones(), 1);
        edges.asks("nine of nine", Edges.of("n1;e1;s1,9;", Edges.ring(9, 1)), x -> x.stones(), 0);
        edges.asks("ten of nine", Edges.of("n1;e1;s1,9;", Edges.ring(10, 1)), x -> x.stones(), 2);
        edges.asks("twelve of none", Edges.of(SIX, Edges.ring(12, 5)), x -> x.stones(), 32);
        edges.asks("the last place", Edges.of(SIX + "s5,9;", Edges.lone(10, 5, 9, 0)), x -> x.stones(), 1);
    }

    private void made() {
        quote("MADE: how many of RINGS of n (1 .. 4) PLACES the STOCK makes, turned ones not as one.");
        int[][] due = {{1, 0, 0, 0}, {1, 1, 0, 0}, {1, 1, 1, 0}, {1, 1, 1, 1}};
        int[] pair = {2, 2, 0, 0};
        int[] trio = {3, 6, 6, 0};
        int[] full = {6, 36, 216, 1296};
        String rich = "s0,9;s1,9;s2,4;s3,9;s4,9;s5,9;";
        for (int n = 1; n <= 4; n++) {
            int of = n;
            for (int stock = 1; stock <= 4; stock++) {
                edges.asks(stock + " stones", Edges.of("n1;s0," + stock + ";"), x -> x.made(of), due[stock - 1][n - 1]);
            }
            edges.asks("one of two", Edges.of("n1;e1;s0,1;s1,1;"), x -> x.made(of), pair[n - 1]);
            edges.asks("one of three", Edges.of("n1;e1;a1;s0,1;s1,1;s2,1;"), x -> x.made(of), trio[n - 1]);
            edges.asks("enough", both(SIX, rich), x -> x.made(of), full[n - 1]);
            edges.asks("no stock", Edges.of(SIX), x -> x.made(of), 0);
            edges.asks("no words", Edges.of(""), x -> x.made(of), 0);
            edges.asks("the ring takes none away", Edges.of("n1;s0,4;", 0, 0, 0, 0), x -> x.made(of), 1);
        }
    }

    private static Edges.Setup both(String words, String more) {
        return x -> {
            Check.tell(x, words);
            Check.tell(x, more);
        };
    }

    /** Words of which the first is a value and the others are ends: how many towers are the same by round. */
    private static int towersDue(int n, int words, int z) {
        BigInteger seed = BigInteger.valueOf(z).mod(WHOLE);
        int many = 0;
        for (int tower = 0; tower < n; tower++) {
            int values = 0;
            for (int place = 0; place < 6; place++) {
                seed = seed.multiply(BigInteger.valueOf(1664525)).add(BigInteger.valueOf(1013904223)).mod(WHOLE);
                BigInteger high = seed.clearBit(31).divide(BigInteger.valueOf(256));
                values += high.mod(BigInteger.valueOf(words)).signum() == 0 ? 1 : 0;
            }
            many += values == 1 ? 1 : 0;
        }
        return many;
    }

    private void towersAre(int n, int words, int z) {
        String text = "v3,1;e1;e1;e1;e1;e1;".substring(0, 5 + 3 * (words - 1));
        edges.answers(n + " of " + words + " words from " + z, Edges.of(text), x -> x.towers(n, 0, z),
            towersDue(n, words, z));
    }

    private void towers() {
        quote("TOWERS with a seed z: n RINGS (1 .. 30) of 6 PLACES, each a DRAW below WORDS: how many are SAME by a KIND.");
        for (int words = 1; words <= 6; words++) {
            for (int n = 1; n <= 30; n++) {
                towersAre(n, words, n * 7919 - 100000);
            }
        }
        for (int kind = 0; kind < 5; kind++) {
            int by = kind;
            edges.asks("one word that is a value", Edges.of("v3,1;"), x -> x.towers(30, by, 9), 0);
            edges.asks("one word that is none", Edges.of("e1;"), x -> x.towers(30, by, 9), 0);
        }
    }

    /** The seed from which the first draw makes this of it. */
    private static int ahead(int seed) {
        BigInteger factor = BigInteger.valueOf(1664525).modInverse(WHOLE);
        return BigInteger.valueOf(seed).subtract(BigInteger.valueOf(1013904223)).multiply(factor).intValue();
    }

    private void draws() {
        quote("A DRAW below m: z becomes z times 1664525 and 1013904223 (an int); (z without its sign's bit by 256, cut)"
            + " modulo m.");
        int[] seeds = {0, 1, -1, 255, 256, -256, -257, 511, 512, Edges.MOST, Edges.LEAST, Edges.LEAST + 255,
            Edges.LEAST + 256, Edges.MOST - 255, Edges.MOST - 256};
        for (int words = 1; words <= 6; words++) {
            for (int seed : seeds) {
                for (int n : new int[] {1, 2, 30}) {
                    towersAre(n, words, seed);
                    towersAre(n, words, ahead(seed));
                    towersAre(n, words, ahead(ahead(seed)));
                }
            }
        }
    }

    private void image() {
        quote("THE IMAGE: all that is told, THE RING, PAIRS; ON from it all is as then.");
        Edges.Setup first = x -> {
            Check.tell(x, SIX + "rb2,5;s1,4;");
            Check.ring(x, 0, -1, 3);
            x.pair(0, 1);
            x.pair(1, 0);
        };
        asThen("nothing behind it", first, x -> { });
        asThen("stock", first, x -> Check.tell(x, "s1,5;s0,9;"));
        asThen("roads", first, x -> Check.tell(x, "rr0,1;rr1,2;rr2,3;rr3,4;rr4,5;"));
        asThen("a place more", first, x -> x.stone(4));
        asThen("a place's word", first, x -> x.put(1, 5));
        asThen("a place's blank", first, x -> x.put(0, -1));
        asThen("a turn", first, x -> x.turn(1));
        asThen("no places", first, x -> x.bare());
        asThen("a pair more", first, x -> x.pair(5, 5));
        asThen("words", Edges.of("n1;", 0), x -> Check.tell(x, "v3,1;a1;o1;e1;v4,1;"));
        asThen("words and places of them", Edges.of("n1;", 0), x -> {
            Check.tell(x, "v3,1;a1;");
            Check.ring(x, 2, 1, -1);
            x.pair(2, 2);
        });
        asThen("all, from nothing", x -> { }, x -> Edges.of(SIX, 1, 2).on(x));
        asThen("twice", first, x -> {
            x.bare();
            x.on();
            x.turn(1);
        });
    }

    private void asThen(String what, Edges.Setup first, Edges.Setup change) {
        ReadFromAnywhere x = new ReadFromAnywhere();
        ReadFromAnywhere twin = new ReadFromAnywhere();
        first.on(x);
        first.on(twin);
        x.image();
        twin.image();
        change.on(x);
        x.on();
        edges.sameState(what, x, twin);
    }

    private void refusals() {
        quote("REFUSALS (the call answers the number, the first that fits in the order in which it tells them; nothing"
            + " changes but how many there were):",
            "-1 NOBODY: no such WORD, ROAD, PLACE, SET.", "-2 OTHER: what, KIND.", "-3 STATE: it is not as it must be.",
            "-4 BELOW: a number below the least.", "-6 ROOM: a number above the greatest, no room.");
        Edges.Setup some = Edges.of(SIX + "rr0,3;", 0, 1);
        edges.refused("no such word", some, x -> x.word(6, 0), -1);
        edges.refused("no such road", some, x -> x.road(1, 0), -1);
        edges.refused("no such place", some, x -> x.at(2), -1);
        edges.refused("no such set", some, x -> x.shortest(16, 0, 0), -1);
        edges.refused("another what", some, x -> x.word(0, 4), -2);
        edges.refused("another kind", some, x -> x.same(5), -2);
        edges.refused("state", some, x -> x.on(), -3);
        edges.refused("below", some, x -> x.each(-2), -4);
        edges.refused("above", some, x -> x.rings(6, 0), -6);
        edges.refused("no room", Edges.of(SIX, Edges.ring(12, 0)), x -> x.stone(0), -6);
        ReadFromAnywhere x = new ReadFromAnywhere();
        for (int i = 0; i < 100; i++) {
            x.at(0);
            x.same(5);
            x.same(-1);
        }
        x.on();
        edges.due("many times nobody", x.count(11), 100);
        edges.due("many times other", x.count(12), 200);
        edges.due("once state", x.count(13), 1);
        edges.due("never below", x.count(14), 0);
        edges.due("never -5", x.count(15), 0);
        edges.due("never room", x.count(16), 0);
    }
}
