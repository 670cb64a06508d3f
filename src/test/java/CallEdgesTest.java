import java.util.Arrays;

/** The edges of each promise's own words: the numbers that each call takes, its refusals and their order. */
public final class CallEdgesTest {
    private static final String SIX = Edges.SIX;
    private static final int LEAST = Edges.LEAST;
    private static final int MOST = Edges.MOST;
    private static final String ROADS = "rr0,3;rb1,16;rs3,0;rd5,7;rh7,15;";
    private static final String PLENTY = "s0,9;s1,9;s2,9;s3,9;s4,9;s5,9;";

    private final Check check = new Check();
    private final Edges edges = new Edges(check);

    public static void main(String[] args) {
        new CallEdgesTest().run();
    }

    private void run() {
        newObject();
        letter();
        tongue();
        word();
        road();
        stone();
        put();
        turn();
        bareAndAt();
        reads();
        sameAndSays();
        judge();
        shortest();
        each();
        rings();
        sayableAndNeeded();
        worn();
        likeliest();
        sure();
        safe();
        pair();
        every();
        stones();
        made();
        towers();
        image();
        on();
        count();
        for (int promise = 1; promise <= 31; promise++) {
            String text = String.valueOf(promise);
            int begin = promise == 1 ? edges.placeOf(text, "`: ") : edges.placeOf(text, ")`: ");
            edges.allIsQuoted(text, begin, MOST, "no ", "not ", "already", "either", "likewise", "nothing", "none",
                "modulo", "another", "without");
        }
        check.end();
    }

    private void quote(int promise, String... quotes) {
        edges.says(String.valueOf(promise), quotes);
    }

    /** Some of all: words, roads, stock, a ring with a blank, pairs, letters that wait, an image of something else. */
    private static void plenty(ReadFromAnywhere x) {
        Check.tell(x, "v9,1;e2;rr0,9;");
        x.stone(1);
        x.pair(0, 0);
        x.image();
        Check.tell(x, "n1;a4;s0,2;rb3,4;");
        Check.ring(x, 0, -1, 3, 2);
        x.pair(0, 1);
        x.pair(1, 0);
        x.letter('n');
        x.letter('1');
    }

    private void newObject() {
        quote(1, "No WORDS, a RING without PLACES.");
        edges.asks("words", x -> { }, x -> x.count(0), 0);
        edges.asks("places", x -> { }, x -> x.count(2), 0);
        edges.refused("word(0, 0)", x -> { }, x -> x.word(0, 0), -1);
        edges.refused("road(0, 0)", x -> { }, x -> x.road(0, 0), -1);
        edges.refused("stone(0)", x -> { }, x -> x.stone(0), -1);
        edges.refused("at(0)", x -> { }, x -> x.at(0), -1);
        edges.answers("stone(-1)", x -> { }, x -> x.stone(-1), 1);
        for (int what = 0; what <= 6; what++) {
            int of = what;
            edges.asks("count(" + what + ")", x -> { }, x -> x.count(of), 0);
        }
        for (int what = 11; what <= 16; what++) {
            int of = what;
            edges.asks("count(" + what + ")", x -> { }, x -> x.count(of), 0);
        }
    }

    private void letter() {
        quote(2, "A letter (0 .. 255) comes: how many there are.");
        edges.answers("the first", x -> { }, x -> x.letter(0), 1);
        edges.answers("the third", x -> spell(x, 2), x -> x.letter(255), 3);
        edges.answers("the 64th", x -> spell(x, 63), x -> x.letter(255), 64);
        edges.range("letter", CallEdgesTest::plenty, ReadFromAnywhere::letter, Edges.taken(0, 255), -4, -6);
        quote(2, "-4; -6 (255; 64, too).");
        for (int c : new int[] {0, 255, 256, MOST}) {
            edges.refused("letter(" + c + ") as 65th", x -> spell(x, 64), x -> x.letter(c), -6);
        }
        for (int c : new int[] {-1, LEAST}) {
            edges.refused("letter(" + c + ") as 65th", x -> spell(x, 64), x -> x.letter(c), -4);
        }
    }

    private static void spell(ReadFromAnywhere x, int many) {
        for (int i = 0; i < many; i++) {
            x.letter('n');
        }
    }

    private void tongue() {
        quote(3, "The letters become a TONGUE, and are no more (with a FAULT neither): how many STATEMENTS; the FAULT"
            + " (nothing is counted).");
        String most = "n1;n1;n1;s0,1;s0,1;s0,1;s0,1;s0,1;s0,1;s0,1;n1;n1;n1;";
        edges.tells("n1;", 1);
        edges.tells("v1,1;n1;", 2);
        edges.tells(most, 13);
        for (String text : new String[] {"n1;", "", "x", "n1", "n1;x", "v16,1;", "s0,1;", "n1;n1;n1;n1;n1;n1;n1;"}) {
            ReadFromAnywhere x = new ReadFromAnywhere();
            Check.tell(x, text);
            edges.due("letters behind " + text, x.count(5), 0);
            edges.due("the next letter behind " + text, x.letter('n'), 1);
            edges.due("refusals behind " + text, Edges.refusals(x), 0);
        }
    }

    private void word() {
        quote(4, "Of a WORD: 0 KIND (0 v, 1 n, 2 a, 3 o, 4 e), 1 SET (16 of others), 2 WEIGHT, 3 STOCK.");
        String text = "v15,9;n8;a7;o6;e5;v0,0;s0,9;s4,1;";
        int[][] due = {{0, 15, 9, 9}, {1, 16, 8, 0}, {2, 16, 7, 0}, {3, 16, 6, 0}, {4, 16, 5, 1}, {0, 0, 0, 0}};
        for (int word = 0; word < 6; word++) {
            for (int what = 0; what < 4; what++) {
                int of = word;
                int by = what;
                edges.asks("word(" + word + ", " + what + ")", Edges.of(text), x -> x.word(of, by), due[word][what]);
            }
        }
        quote(4, "-1; -2.");
        edges.range("word", CallEdgesTest::plenty, (x, a) -> x.word(a, 0), Edges.taken(0, 3), -1, -1);
        edges.range("what", CallEdgesTest::plenty, (x, a) -> x.word(3, a), Edges.taken(0, 3), -2, -2);
        edges.refused("both", CallEdgesTest::plenty, x -> x.word(4, 4), -1);
        edges.refused("both", CallEdgesTest::plenty, x -> x.word(-1, -1), -1);
        edges.refused("the seventh", Edges.of(SIX), x -> x.word(6, 0), -1);
    }

    private void road() {
        quote(5, "Of a ROAD: 0 KIND (0 r, 1 b, 2 s, 3 d, 4 h), 1 EIGHTH, 2 WISH, 3 the PLACE at which it begins (-9 THE"
            + " RING has none), 4 what it reads (16 then).");
        int[][] none = {{0, 0, 3, -9, 16}, {1, 1, 16, -9, 16}, {2, 3, 0, -9, 16}, {3, 5, 7, -9, 16}, {4, 7, 15, -9, 16}};
        int[][] four = {{0, 0, 3, 0, 16}, {1, 1, 16, 0, 12}, {2, 3, 0, 1, 3}, {3, 5, 7, 2, 16}, {4, 7, 15, 3, 16}};
        for (int road = 0; road < 5; road++) {
            for (int what = 0; what < 5; what++) {
                int of = road;
                int by = what;
                String call = "road(" + road + ", " + what + ")";
                edges.asks(call, both(SIX), x -> x.road(of, by), none[road][what]);
                edges.asks(call, both(SIX, 5, 0, 5, 2), x -> x.road(of, by), four[road][what]);
            }
        }
        quote(5, "-1; -2.");
        edges.range("road", CallEdgesTest::plenty, (x, a) -> x.road(a, 0), Edges.taken(0, 1), -1, -1);
        edges.range("what", CallEdgesTest::plenty, (x, a) -> x.road(1, a), Edges.taken(0, 4), -2, -2);
        edges.refused("both", CallEdgesTest::plenty, x -> x.road(2, 5), -1);
        edges.refused("both", CallEdgesTest::plenty, x -> x.road(-1, -1), -1);
        edges.refused("the seventh", Edges.of("rr0,0;rr0,0;rr0,0;rr0,0;rr0,0;rr0,0;"), x -> x.road(6, 0), -1);
    }

    private static Edges.Setup both(String words, int... ring) {
        return x -> {
            Check.tell(x, words);
            Check.tell(x, ROADS);
            Check.ring(x, ring);
        };
    }

    private void stone() {
        quote(6, "THE RING has a PLACE more, with a WORD (-1: BLANK): how many.");
        edges.answers("the first", Edges.of(SIX), x -> x.stone(5), 1);
        edges.answers("the 12th", Edges.of(SIX, Edges.ring(11, 0)), x -> x.stone(5), 12);
        edges.answers("a blank 12th", Edges.of(SIX, Edges.ring(11, 0)), x -> x.stone(-1), 12);
        edges.answers("its word", x -> Edges.of(SIX, 0, 4).on(x), x -> x.at(1), 4);
        edges.answers("its blank", x -> Edges.of(SIX, 0, -1).on(x), x -> x.at(1), -9);
        edges.answers("blanks", x -> Edges.of(SIX, -1, 0, -1).on(x), x -> x.count(3), 2);
        quote(6, "-1; -6 12.");
        edges.range("stone", CallEdgesTest::plenty, ReadFromAnywhere::stone, Edges.taken(-1, 3), -1, -1);
        edges.refused("the 13th", Edges.of(SIX, Edges.ring(12, 0)), x -> x.stone(0), -6);
        edges.refused("a blank 13th", Edges.of(SIX, Edges.ring(12, 0)), x -> x.stone(-1), -6);
        edges.refused("both", Edges.of(SIX, Edges.ring(12, 0)), x -> x.stone(6), -1);
        edges.refused("both", Edges.of(SIX, Edges.ring(12, 0)), x -> x.stone(-2), -1);
        edges.refused("no words", Edges.of("", Edges.ring(12, -1)), x -> x.stone(0), -1);
    }

    private void put() {
        quote(7, "A PLACE has a WORD (-1: BLANK): what it had (-9 BLANK).");
        edges.answers("a word on a word", Edges.of(SIX, 4, 3), x -> x.put(1, 5), 3);
        edges.answers("a word on a blank", Edges.of(SIX, 4, -1), x -> x.put(1, 5), -9);
        edges.answers("a blank on a word", Edges.of(SIX, 4, 3), x -> x.put(0, -1), 4);
        edges.answers("a blank on a blank", Edges.of(SIX, -1), x -> x.put(0, -1), -9);
        edges.answers("the 12th", Edges.of(SIX, Edges.lone(12, 0, 11, 2)), x -> x.put(11, 1), 2);
        edges.answers("what it has then", Edges.of(SIX, 4, 3), x -> x.put(1, 5) * 10 + x.at(1), 35);
        edges.answers("a blank it has then", Edges.of(SIX, 4, 3), x -> x.put(1, -1) * 10 + x.at(1), 21);
        edges.answers("the other stays", Edges.of(SIX, 4, 3), x -> x.put(1, 5) * 10 + x.at(0), 34);
        quote(7, "-1 either.");
        edges.range("put", CallEdgesTest::plenty, (x, a) -> x.put(a, 0), Edges.taken(0, 3), -1, -1);
        edges.range("put", CallEdgesTest::plenty, (x, a) -> x.put(0, a), Edges.taken(-1, 3), -1, -1);
        edges.refused("a place that is not there, BLANK", Edges.of(SIX, 0), x -> x.put(1, -1), -1);
        edges.refused("both, once", CallEdgesTest::plenty, x -> x.put(4, 4), -1);
        edges.refused("no places", Edges.of(SIX), x -> x.put(0, 0), -1);
        edges.refused("the 13th", Edges.of(SIX, Edges.ring(12, 0)), x -> x.put(12, 0), -1);
    }

    private void turn() {
        quote(8, "THE RING is turned: PLACE by (0 .. 11, modulo n) becomes PLACE 0: how many PLACES.");
        int[] told = {0, 1, 2, 3, 4, 5, -1, 5, 4, 3, 2, 1};
        for (int n = 1; n <= 12; n++) {
            int many = n;
            Edges.Setup ring = Edges.of(SIX, Arrays.copyOf(told, n));
            for (int by = 0; by <= 11; by++) {
                int turned = by;
                edges.answers("turn(" + by + ") of " + n, ring, x -> x.turn(turned), many);
                ReadFromAnywhere x = new ReadFromAnywhere();
                ring.on(x);
                x.turn(by);
                for (int place = 0; place < n; place++) {
                    int due = told[(place + by) % n];
                    edges.due("at(" + place + ") behind turn(" + by + ") of " + n, x.at(place), due == -1 ? -9 : due);
                }
            }
        }
        quote(8, "-4; -6 11; -3 it has none.");
        edges.range("turn", CallEdgesTest::plenty, ReadFromAnywhere::turn, Edges.taken(0, 11), -4, -6);
        edges.refused("no places", Edges.of(SIX), x -> x.turn(0), -3);
        edges.refused("no places", Edges.of(SIX), x -> x.turn(11), -3);
        edges.refused("below, no places", Edges.of(SIX), x -> x.turn(-1), -4);
        edges.refused("above, no places", Edges.of(SIX), x -> x.turn(12), -6);
        edges.refused("12 places", Edges.of(SIX, Edges.ring(12, 0)), x -> x.turn(12), -6);
    }

    private void bareAndAt() {
        quote(9, "THE RING has no PLACES: how many it had.");
        edges.answers("of none", Edges.of(SIX), x -> x.bare(), 0);
        edges.answers("of one", Edges.of(SIX, -1), x -> x.bare(), 1);
        edges.answers("of 12", Edges.of(SIX, Edges.ring(12, 0)), x -> x.bare(), 12);
        edges.answers("places then", Edges.of(SIX, 0, 1), x -> x.bare() * 10 + x.count(2), 20);
        edges.answers("blanks then", Edges.of(SIX, 0, -1), x -> x.bare() * 10 + x.count(3), 20);
        edges.answers("again", Edges.of(SIX, 0, 1), x -> x.bare() * 10 + x.bare(), 20);
        edges.answers("the first behind it", Edges.of(SIX, 0, 1), x -> x.bare() * 10 + x.stone(4), 21);
        quote(10, "What a PLACE has; -9 BLANK.");
        edges.asks("a word", Edges.of(SIX, 5, -1), x -> x.at(0), 5);
        edges.asks("a blank", Edges.of(SIX, 5, -1), x -> x.at(1), -9);
        edges.asks("the 12th", Edges.of(SIX, Edges.lone(12, 0, 11, 2)), x -> x.at(11), 2);
        quote(10, "-1.");
        edges.range("at", CallEdgesTest::plenty, ReadFromAnywhere::at, Edges.taken(0, 3), -1, -1);
        edges.refused("no places", Edges.of(SIX), x -> x.at(0), -1);
        edges.refused("the 13th", Edges.of(SIX, Edges.ring(12, 0)), x -> x.at(12), -1);
        edges.refused("bare", x -> {
            Edges.of(SIX, 0, 1).on(x);
            x.bare();
        }, x -> x.at(0), -1);
    }

    private void reads() {
        quote(11, "What is read from a PLACE by a KIND.");
        int[][] due = {{2, 16, 16}, {16, 16, 2}, {2, 16, 16}, {16, 16, 2}, {16, 16, 16}};
        for (int kind = 0; kind < 5; kind++) {
            for (int place = 0; place < 3; place++) {
                int by = kind;
                int from = place;
                edges.asks("reads(" + place + ", " + kind + ")", Edges.of(SIX, 0, 3, 1), x -> x.reads(from, by),
                    due[kind][place]);
            }
        }
        quote(11, "-1; -2.");
        edges.range("place", CallEdgesTest::plenty, (x, a) -> x.reads(a, 0), Edges.taken(0, 3), -1, -1);
        edges.range("kind", CallEdgesTest::plenty, (x, a) -> x.reads(3, a), Edges.taken(0, 4), -2, -2);
        edges.refused("both", CallEdgesTest::plenty, x -> x.reads(4, 5), -1);
        edges.refused("both", CallEdgesTest::plenty, x -> x.reads(-1, -1), -1);
        edges.refused("no places", Edges.of(SIX), x -> x.reads(0, 5), -1);
    }

    private void sameAndSays() {
        quote(12, "SAME: 1, 0.");
        edges.asks("one thing", Edges.of(SIX, 0, 5), x -> x.same(0), 1);
        edges.asks("two things", Edges.of(SIX, 0, 1), x -> x.same(4), 0);
        edges.asks("no places", Edges.of(SIX), x -> x.same(0), 0);
        quote(12, "-2.");
        edges.range("same", CallEdgesTest::plenty, ReadFromAnywhere::same, Edges.taken(0, 4), -2, -2);
        edges.refused("no places", Edges.of(SIX), x -> x.same(5), -2);
        quote(13, "SAYS (bits).");
        edges.asks("two things", Edges.of(SIX, 0, 1), x -> x.says(4), 72);
        edges.asks("no places", Edges.of(SIX), x -> x.says(0), 0);
        quote(13, "-2.");
        edges.range("says", CallEdgesTest::plenty, ReadFromAnywhere::says, Edges.taken(0, 4), -2, -2);
        edges.refused("no places", Edges.of(SIX), x -> x.says(5), -2);
    }

    private void judge() {
        quote(14, "JUDGED; -9.");
        edges.asks("the first that does not", both(SIX, 0), x -> x.judge(), 1);
        edges.asks("none that does not", Edges.of(SIX + "rr0,3;", 0), x -> x.judge(), -9);
        quote(14, "-3 THE RING has no PLACES.");
        edges.refused("no places", both(SIX), x -> x.judge(), -3);
        edges.refused("no places, no sense wished", Edges.of(SIX + "rr0,16;"), x -> x.judge(), -3);
        edges.refused("no places, no roads", Edges.of(SIX), x -> x.judge(), -3);
        edges.asks("one place, a blank", Edges.of(SIX + "rr0,16;", -1), x -> x.judge(), -9);
    }

    private void shortest() {
        quote(15, "SHORTEST (i -1), the i-th WORD of the first; -9 none such.");
        edges.asks("places", Edges.of("e1;v3,1;"), x -> x.shortest(3, 0, -1), 1);
        edges.asks("its word", Edges.of("e1;v3,1;"), x -> x.shortest(3, 0, 0), 1);
        for (int i : new int[] {1, 2, 4, 5, 6, MOST}) {
            edges.asks("word " + i, Edges.of("e1;v3,1;"), x -> x.shortest(3, 0, i), -9);
        }
        for (int i : new int[] {-1, 0, 1, MOST}) {
            edges.asks("none", Edges.of("e1;v3,1;"), x -> x.shortest(2, 0, i), -9);
        }
        quote(15, "-1 SET (0 .. 15); -2; -4.");
        edges.range("set", CallEdgesTest::plenty, (x, a) -> x.shortest(a, 0, 0), Edges.taken(0, 15), -1, -1);
        edges.range("kind", CallEdgesTest::plenty, (x, a) -> x.shortest(9, a, 0), Edges.taken(0, 4), -2, -2);
        edges.range("i", CallEdgesTest::plenty, (x, a) -> x.shortest(9, 0, a), Edges.taken(-1, MOST), -4, 0);
        edges.refused("all", CallEdgesTest::plenty, x -> x.shortest(16, 5, -2), -1);
        edges.refused("set, i", CallEdgesTest::plenty, x -> x.shortest(-1, 0, -2), -1);
        edges.refused("kind, i", CallEdgesTest::plenty, x -> x.shortest(15, 5, -2), -2);
        edges.refused("kind, i", CallEdgesTest::plenty, x -> x.shortest(0, -1, LEAST), -2);
    }

    private void each() {
        quote(16, "EACH (i -1), the i-th WORD of the first; -9.");
        int[] due = {3, 0, 3, 1, -9, -9, -9, -9};
        for (int i = -1; i <= 6; i++) {
            int at = i;
            edges.asks("each(" + i + ")", Edges.of(SIX + "rr0,2;"), x -> x.each(at), due[i + 1]);
            edges.asks("none", Edges.of("e1;rr0,2;"), x -> x.each(at), -9);
        }
        edges.asks("far behind", Edges.of(SIX), x -> x.each(MOST), -9);
        quote(16, "-4.");
        edges.range("i", CallEdgesTest::plenty, ReadFromAnywhere::each, Edges.taken(-1, MOST), -4, 0);
        edges.refused("no words", x -> { }, x -> x.each(-2), -4);
    }

    private void rings() {
        quote(17, "COUNT.");
        edges.asks("one place", Edges.of(SIX), x -> x.rings(1, 0), 2);
        edges.asks("five places", Edges.of(SIX), x -> x.rings(5, 2), 4);
        quote(17, "-4; -6 5; -2.");
        edges.range("n", CallEdgesTest::plenty, (x, a) -> x.rings(a, 0), Edges.taken(1, 5), -4, -6);
        edges.range("kind", CallEdgesTest::plenty, (x, a) -> x.rings(5, a), Edges.taken(0, 4), -2, -2);
        edges.refused("below, kind", CallEdgesTest::plenty, x -> x.rings(0, 5), -4);
        edges.refused("above, kind", CallEdgesTest::plenty, x -> x.rings(6, -1), -6);
        edges.refused("no words", x -> { }, x -> x.rings(0, 0), -4);
    }

    private void sayableAndNeeded() {
        quote(18, "SAYABLE (bits).");
        edges.asks("two", Edges.of(SIX), x -> x.sayable(4), 72);
        quote(18, "-2.");
        edges.range("kind", CallEdgesTest::plenty, ReadFromAnywhere::sayable, Edges.taken(0, 4), -2, -2);
        edges.refused("no words", x -> { }, x -> x.sayable(5), -2);
        quote(19, "NEEDED (bits).");
        edges.asks("two", Edges.of(SIX), x -> x.needed(), 3);
        edges.asks("no words", x -> { }, x -> x.needed(), 0);
    }

    private void worn() {
        quote(20, "WORN: how many (what 0), LIKELIEST (1).");
        edges.asks("how many", Edges.of(SIX + "rr0,3;", -1, -1), x -> x.worn(0), 2);
        edges.asks("likeliest", Edges.of(SIX + "rr0,3;", -1, -1), x -> x.worn(1), 2);
        quote(20, "-2; -3 not 1 .. 4 BLANKS.");
        edges.range("what", CallEdgesTest::plenty, ReadFromAnywhere::worn, Edges.taken(0, 1), -2, -2);
        for (int what = 0; what <= 1; what++) {
            int of = what;
            notWorn("worn(" + what + ")", x -> x.worn(of), -3);
        }
        notWorn("worn(2)", x -> x.worn(2), -2);
        notWorn("worn(-1)", x -> x.worn(-1), -2);
    }

    /** A call on rings that have no blanks, no places, five blanks or twelve. */
    private void notWorn(String call, Edges.Call of, int want) {
        edges.refused(call + ", no blanks", Edges.of(SIX, 0, 1), of, want);
        edges.refused(call + ", five blanks", Edges.of(SIX, -1, -1, -1, -1, -1), of, want);
        edges.refused(call + ", five blanks of six", Edges.of(SIX, -1, -1, 0, -1, -1, -1), of, want);
        edges.refused(call + ", 12 blanks", Edges.of(SIX, Edges.ring(12, -1)), of, want);
        edges.refused(call + ", a blank filled", x -> {
            Edges.of(SIX, -1).on(x);
            x.put(0, 0);
        }, of, want);
    }

    private void likeliest() {
        quote(21, "The i-th filled WORD of LIKELIEST; -9 none such.");
        Edges.Setup two = Edges.of(SIX + "rr0,3;", -1, 5, -1);
        edges.asks("the first", two, x -> x.likeliest(0), 0);
        edges.asks("the second", two, x -> x.likeliest(1), 5);
        for (int i : new int[] {2, 3, 4, 5, MOST}) {
            edges.asks("none such", two, x -> x.likeliest(i), -9);
        }
        for (int i = 0; i <= 4; i++) {
            int at = i;
            edges.asks("four", Edges.of("e1;", -1, -1, -1, -1), x -> x.likeliest(at), at < 4 ? 0 : -9);
            edges.asks("nothing is as wished", Edges.of("e1;rr0,3;", -1, -1, -1, -1), x -> x.likeliest(at), -9);
        }
        quote(21, "-4; -3 likewise.");
        edges.range("i", CallEdgesTest::plenty, ReadFromAnywhere::likeliest, Edges.taken(0, MOST), -4, 0);
        notWorn("likeliest(0)", x -> x.likeliest(0), -3);
        notWorn("likeliest(-1)", x -> x.likeliest(-1), -4);
        edges.refused("no places", Edges.of(SIX), x -> x.likeliest(0), -3);
        edges.refused("below, no places", Edges.of(SIX), x -> x.likeliest(-1), -4);
    }

    private void sure() {
        quote(22, "SURE (bits; 0 there is none).");
        edges.asks("two", Edges.of(SIX + "rr0,3;", -1, -1), x -> x.sure(1), 33);
        edges.asks("its own", Edges.of(SIX + "rr0,3;", -1, 5), x -> x.sure(1), 32);
        edges.asks("none", Edges.of(SIX + "rr0,5;", -1, 5), x -> x.sure(0), 0);
        edges.asks("none, of a told one", Edges.of(SIX + "rr0,5;", -1, 5), x -> x.sure(1), 0);
        quote(22, "-1; -3 likewise.");
        edges.range("place", CallEdgesTest::plenty, ReadFromAnywhere::sure, Edges.taken(0, 3), -1, -1);
        notWorn("sure(0)", x -> x.sure(0), -3);
        notWorn("sure(12)", x -> x.sure(12), -1);
        notWorn("sure(-1)", x -> x.sure(-1), -1);
        edges.refused("no places", Edges.of(SIX), x -> x.sure(0), -1);
    }

    private void safe() {
        quote(23, "SAFE (bits).");
        edges.asks("of one place", Edges.of(SIX, 0), x -> x.safe(5), 3);
        edges.asks("of 11", Edges.of(SIX, Edges.ring(11, 5)), x -> x.safe(5), 4095);
        quote(23, "-1; -6 12 PLACES are there; -3 none are.");
        edges.range("word", CallEdgesTest::plenty, ReadFromAnywhere::safe, Edges.taken(0, 3), -1, -1);
        edges.refused("12 places", Edges.of(SIX, Edges.ring(12, 5)), x -> x.safe(5), -6);
        edges.refused("12 places, no such word", Edges.of(SIX, Edges.ring(12, 5)), x -> x.safe(6), -1);
        edges.refused("12 places, -1", Edges.of(SIX, Edges.ring(12, 5)), x -> x.safe(-1), -1);
        edges.refused("no places", Edges.of(SIX), x -> x.safe(5), -3);
        edges.refused("no places, no such word", Edges.of(SIX), x -> x.safe(6), -1);
        edges.refused("no words", x -> { }, x -> x.safe(0), -1);
    }

    private static void twelvePairs(ReadFromAnywhere x) {
        Check.tell(x, SIX);
        for (int i = 0; i < 12; i++) {
            x.pair(i / 6, i % 6);
        }
    }

    private void pair() {
        quote(24, "A PAIR more: how many.");
        edges.answers("the first", Edges.of(SIX), x -> x.pair(5, 5), 1);
        edges.answers("the other way round", Edges.of(SIX), x -> x.pair(0, 1) * 10 + x.pair(1, 0), 12);
        edges.answers("the 12th", x -> {
            Check.tell(x, SIX);
            for (int i = 0; i < 11; i++) {
                x.pair(i / 6, i % 6);
            }
        }, x -> x.pair(5, 5), 12);
        quote(24, "-1 either; -3 it is told already; -6 12.");
        Edges.Setup four = Edges.of("n1;n1;n1;n1;");
        edges.range("one", four, (x, a) -> x.pair(a, 0), Edges.taken(0, 3), -1, -1);
        edges.range("other", four, (x, a) -> x.pair(0, a), Edges.taken(0, 3), -1, -1);
        edges.refused("both, once", four, x -> x.pair(4, 4), -1);
        edges.refused("told already", CallEdgesTest::plenty, x -> x.pair(0, 1), -3);
        edges.refused("told already, ahead of the image", CallEdgesTest::plenty, x -> x.pair(0, 0), -3);
        edges.refused("the 13th", CallEdgesTest::twelvePairs, x -> x.pair(5, 5), -6);
        edges.refused("the 13th, told already", CallEdgesTest::twelvePairs, x -> x.pair(1, 5), -3);
        edges.refused("the 13th, no such word", CallEdgesTest::twelvePairs, x -> x.pair(6, 0), -1);
        edges.refused("the 13th, no such word", CallEdgesTest::twelvePairs, x -> x.pair(0, -1), -1);
        edges.refused("no words", x -> { }, x -> x.pair(0, 0), -1);
    }

    private void every() {
        quote(25, "EVERY: how many PLACES (i -1; 0 there is no such RING), the i-th WORD; -9 none such.");
        Edges.Setup ring = x -> {
            Check.tell(x, SIX);
            x.pair(3, 4);
            x.pair(4, 3);
        };
        Edges.Setup open = x -> {
            Check.tell(x, SIX);
            x.pair(3, 4);
        };
        int[] due = {2, 3, 4, -9, -9};
        for (int i = -1; i <= 3; i++) {
            int at = i;
            edges.asks("every(" + i + ")", ring, x -> x.every(at), due[i + 1]);
            edges.asks("none, every(" + i + ")", open, x -> x.every(at), at == -1 ? 0 : -9);
        }
        edges.asks("far behind", ring, x -> x.every(MOST), -9);
        quote(25, "-4; -3 no PAIRS.");
        edges.range("i", CallEdgesTest::plenty, ReadFromAnywhere::every, Edges.taken(-1, MOST), -4, 0);
        edges.refused("no pairs", Edges.of(SIX), x -> x.every(-1), -3);
        edges.refused("no pairs", Edges.of(SIX), x -> x.every(MOST), -3);
        edges.refused("below, no pairs", Edges.of(SIX), x -> x.every(-2), -4);
    }

    private void stones() {
        quote(26, "STONES (bits).");
        edges.asks("all", Edges.of(SIX, 0, 1, 2, 3, 4, 5), x -> x.stones(), 63);
        edges.asks("no places", Edges.of(SIX), x -> x.stones(), 0);
        edges.asks("no words", Edges.of("", -1), x -> x.stones(), 0);
    }

    private void made() {
        quote(27, "MADE.");
        edges.asks("one", Edges.of("n1;e1;s0,1;"), x -> x.made(1), 1);
        edges.asks("all of four", x -> {
            Check.tell(x, SIX);
            Check.tell(x, PLENTY);
        }, x -> x.made(4), 1296);
        quote(27, "-4; -6 4.");
        edges.range("n", CallEdgesTest::plenty, ReadFromAnywhere::made, Edges.taken(1, 4), -4, -6);
        edges.refused("no words", x -> { }, x -> x.made(0), -4);
        edges.refused("no words", x -> { }, x -> x.made(5), -6);
    }

    private void towers() {
        quote(28, "TOWERS.");
        edges.asks("some", Edges.of("v3,1;e1;"), x -> x.towers(30, 2, 0), 10);
        quote(28, "-4; -6 30; -2; -3 there are no WORDS.");
        edges.range("n", CallEdgesTest::plenty, (x, a) -> x.towers(a, 0, 0), Edges.taken(1, 30), -4, -6);
        edges.range("kind", CallEdgesTest::plenty, (x, a) -> x.towers(30, a, 0), Edges.taken(0, 4), -2, -2);
        edges.range("seed", CallEdgesTest::plenty, (x, a) -> x.towers(1, 0, a), Edges.taken(LEAST, MOST), 0, 0);
        edges.refused("all, below", x -> { }, x -> x.towers(0, 5, 0), -4);
        edges.refused("all, above", x -> { }, x -> x.towers(31, 5, 0), -6);
        edges.refused("below, kind", CallEdgesTest::plenty, x -> x.towers(LEAST, -1, 0), -4);
        edges.refused("above, kind", CallEdgesTest::plenty, x -> x.towers(MOST, -1, 0), -6);
        edges.refused("kind, no words", x -> { }, x -> x.towers(30, 5, 0), -2);
        edges.refused("below, no words", x -> { }, x -> x.towers(0, 0, 0), -4);
        edges.refused("above, no words", x -> { }, x -> x.towers(31, 0, 0), -6);
        edges.refused("no words", x -> { }, x -> x.towers(1, 0, 0), -3);
        edges.refused("roads, but no words", Edges.of("rr0,0;"), x -> x.towers(30, 4, 0), -3);
    }

    private void image() {
        quote(29, "THE IMAGE is taken: how many WORDS.");
        edges.answers("none", x -> { }, x -> x.image(), 0);
        edges.answers("six", Edges.of(SIX), x -> x.image(), 6);
        edges.answers("six of now, not one of then", x -> {
            Edges.of("n1;").on(x);
            x.image();
            Edges.of("n1;n1;n1;n1;n1;").on(x);
        }, x -> x.image(), 6);
        edges.answers("the image taken last holds", x -> {
            Edges.of("n1;").on(x);
            x.image();
            Edges.of("n1;").on(x);
            x.image();
            Edges.of("n1;").on(x);
        }, x -> x.on(), 2);
        ReadFromAnywhere x = new ReadFromAnywhere();
        ReadFromAnywhere twin = new ReadFromAnywhere();
        plenty(x);
        plenty(twin);
        x.image();
        x.image();
        twin.image();
        edges.sameState("an image", x, twin);
    }

    private void on() {
        quote(30, "ON from it: how many WORDS.");
        edges.answers("none", x -> {
            x.image();
            Check.tell(x, SIX);
        }, x -> x.on(), 0);
        edges.answers("again", x -> {
            plenty(x);
            x.on();
            Check.tell(x, "n1;");
        }, x -> x.on(), 2);
        ReadFromAnywhere x = new ReadFromAnywhere();
        plenty(x);
        x.at(9);
        x.on();
        edges.due("refusals stay", x.count(11), 1);
        quote(30, "-3 there is none.");
        edges.refused("no image", x2 -> { }, x2 -> x2.on(), -3);
        edges.refused("no image", Edges.of(SIX + "rr0,1;", 0, -1), x2 -> x2.on(), -3);
        edges.refused("no image, refused before", x2 -> x2.on(), x2 -> x2.on(), -3);
    }

    private void count() {
        quote(31, "0 WORDS, 1 ROADS, 2 PLACES, 3 BLANKS, 4 PAIRS, 5 letters, 6 all STOCK, 11 .. 16 REFUSALS -1 .. -6.");
        int[] due = {4, 2, 4, 1, 3, 2, 2};
        for (int what = 0; what < due.length; what++) {
            int of = what;
            edges.asks("count(" + what + ")", CallEdgesTest::plenty, x -> x.count(of), due[what]);
        }
        int[] full = {6, 6, 12, 12, 12, 64, 54};
        for (int what = 0; what < full.length; what++) {
            int of = what;
            edges.asks("most of count(" + what + ")", CallEdgesTest::fill, x -> x.count(of), full[what]);
        }
        Edges.Call[] refusing = {x -> x.at(-1), x -> x.same(-1), x -> x.judge(), x -> x.letter(-1), x -> x.letter(256)};
        int[] whats = {11, 12, 13, 14, 16};
        for (int i = 0; i < refusing.length; i++) {
            Edges.Call call = refusing[i];
            for (int what = 11; what <= 16; what++) {
                int of = what;
                edges.answers("count(" + what + ")", x -> {
                    call.of(x);
                    call.of(x);
                }, x -> x.count(of), what == whats[i] ? 2 : 0);
            }
        }
        quote(31, "-9 for another what.");
        for (int what : new int[] {LEAST, -9, -6, -1, 7, 8, 9, 10, 17, 18, 22, MOST}) {
            edges.asks("count(" + what + ")", CallEdgesTest::plenty, x -> x.count(what), -9);
        }
    }

    /** As much of all as there can be. */
    private static void fill(ReadFromAnywhere x) {
        twelvePairs(x);
        Check.tell(x, PLENTY);
        Check.tell(x, "rr0,0;rr0,0;rr0,0;rr0,0;rr0,0;rr0,0;");
        Check.ring(x, Edges.ring(12, -1));
        spell(x, 64);
    }
}
