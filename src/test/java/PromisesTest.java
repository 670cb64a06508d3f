/** Each promise by hand: ordinary calls, the edges that the document names, refusals and their order. */
public final class PromisesTest {
    /** Words: 0 and 1 the values 3 and 6, 2 NOT, 3 AND, 4 OR, 5 END. */
    private static final String SIX = "v3,2;v6,3;n1;a4;o5;e1;";
    private static final int LEAST = Integer.MIN_VALUE;
    private static final int MOST = Integer.MAX_VALUE;

    private final Check check = new Check();
    private ReadFromAnywhere x;

    public static void main(String[] args) {
        new PromisesTest().run();
    }

    private void run() {
        newObject();
        letter();
        tongueForm();
        tongueSense();
        tongueAll();
        word();
        road();
        stone();
        put();
        turn();
        bareAndAt();
        readsRoundAndBack();
        readsStop();
        readsDoubleAndHalf();
        same();
        says();
        judge();
        shortest();
        each();
        rings();
        sayable();
        needed();
        worn();
        likeliest();
        sure();
        safe();
        pair();
        every();
        stones();
        made();
        towers();
        imageAndOn();
        count();
        found();
        check.end();
    }

    private void begin(String part, String text, int... ring) {
        check.part(part);
        x = Check.with(text, ring);
    }

    private void due(String call, int got, int want) {
        check.due(call, got, want);
    }

    private void tells(String text, int want) {
        due("tongue of " + text, Check.tell(x, text), want);
    }

    private void ringIs(int... words) {
        due("places", x.count(2), words.length);
        for (int place = 0; place < words.length; place++) {
            due("at(" + place + ")", x.at(place), words[place]);
        }
    }

    /** How many refusals -1, -2, -3, -4, -6 there were. */
    private void refusedAre(int... many) {
        int[] whats = {11, 12, 13, 14, 16};
        for (int i = 0; i < whats.length; i++) {
            due("count(" + whats[i] + ")", x.count(whats[i]), many[i]);
        }
    }

    private void newObject() {
        check.part("1 new object");
        x = new ReadFromAnywhere();
        for (int what = 0; what <= 16; what++) {
            due("count(" + what + ")", x.count(what), what > 6 && what < 11 ? -9 : 0);
        }
        due("bare", x.bare(), 0);
        due("at", x.at(0), -1);
        due("judge", x.judge(), -3);
        due("on", x.on(), -3);
        due("says", x.says(0), 0);
        due("stones", x.stones(), 0);
    }

    private void letter() {
        check.part("2 letter");
        x = new ReadFromAnywhere();
        due("letter(0)", x.letter(0), 1);
        due("letter(255)", x.letter(255), 2);
        due("letter(-1)", x.letter(-1), -4);
        due("letter(least)", x.letter(LEAST), -4);
        due("letter(256)", x.letter(256), -6);
        due("letter(most)", x.letter(MOST), -6);
        for (int i = 3; i <= 64; i++) {
            due("letter " + i, x.letter('v'), i);
        }
        due("the 65th", x.letter('v'), -6);
        due("below, with no room", x.letter(-1), -4);
        due("count(5)", x.count(5), 64);
        refusedAre(0, 0, 0, 3, 3);
        due("tongue", x.tongue(), -1000);
        due("room again", x.letter('v'), 1);
    }

    private void tongueForm() {
        check.part("3 tongue: form");
        x = new ReadFromAnywhere();
        tells("", -1000);
        tells("x", -1000);
        tells("V1,1;", -1000);
        tells("1", -1000);
        tells(";", -1000);
        tells("v", -1001);
        tells("v,", -1001);
        tells("v1", -1002);
        tells("v1;", -1002);
        tells("v12", -1003);
        tells("v123,1;", -1003);
        tells("v1,", -1003);
        tells("v1,;", -1003);
        tells("v1,2", -1004);
        tells("v1,22;", -1004);
        tells("v1,2;;", -1005);
        tells("v1,2; ", -1005);
        tells("n", -1001);
        tells("n;", -1001);
        tells("a1", -1002);
        tells("o12;", -1002);
        tells("e1,2;", -1002);
        tells("r", -1001);
        tells("rv0,1;", -1001);
        tells("rr", -1002);
        tells("rr,", -1002);
        tells("rr00,1;", -1003);
        tells("rr0,;", -1004);
        tells("rr0,1", -1005);
        tells("rr0,116;", -1006);
        tells("s", -1001);
        tells("s01,1;", -1002);
        tells("s0,", -1003);
        tells("s0,10;", -1004);
        tells("n1;x", -1003);
        tells("n1;n", -1004);
        x.letter(0);
        due("sign 0", x.tongue(), -1000);
        x.letter('r');
        x.letter(255);
        due("sign 255 for a reader", x.tongue(), -1001);
        due("nothing came", x.count(0) + x.count(1), 0);
        tells("n1;n1;n1;n1;n1;n1;n1;n1;n1;n1;n1;n1;n1;n1;n1;n1;n1;n1;n1;n1;n1;n", -1064);
        due("no letters are left", x.count(5), 0);
        refusedAre(0, 0, 0, 0, 0);
    }

    private void tongueSense() {
        check.part("3 tongue: sense");
        x = new ReadFromAnywhere();
        tells("v16,1;", -2000);
        tells("v99,1;", -2000);
        tells("v16,1;x", -1006);
        tells("n1;v16,1;v1,1;", -2003);
        tells("rr8,1;", -2000);
        tells("rr9,1;", -2000);
        tells("rr0,17;", -2000);
        tells("rr0,0;rr0,99;", -2006);
        tells("s0,1;", -2000);
        tells("s0,1;n1;", -2000);
        tells("n1;s1,1;", -2003);
        tells("n1;n1;n1;n1;n1;n1;e1;", -2018);
        tells("rr0,0;rr0,0;rr0,0;rr0,0;rr0,0;rr0,0;rr0,0;", -2036);
        due("nothing came", x.count(0) + x.count(1) + x.count(6), 0);
        tells("n1;n1;n1;n1;", 4);
        tells("n1;n1;n1;", -2006);
        tells("n1;n1;", 2);
        tells("e1;", -2000);
        tells("s5,1;e1;", -2005);
        due("nor its stock", x.word(5, 3), 0);
        tells("rr0,0;rr0,0;rr0,0;rr0,0;rr0,0;rr0,0;", 6);
        tells("rr0,0;", -2000);
        due("words", x.count(0), 6);
        due("roads", x.count(1), 6);
        refusedAre(0, 0, 0, 0, 0);
    }

    private void tongueAll() {
        check.part("3 tongue: all kinds");
        x = new ReadFromAnywhere();
        tells("v00,0;v15,9;v7,1;s1,9;s2,3;s2,1;rr0,16;rb7,00;", 8);
        due("letters", x.count(5), 0);
        due("words", x.count(0), 3);
        due("roads", x.count(1), 2);
        due("the stock told last holds", x.word(2, 3), 1);
        due("all stock", x.count(6), 10);
        tells("v09,5;s3,2;s0,4;", 3);
        due("words of before stay", x.word(1, 1), 15);
        due("numbers may begin with 0", x.word(3, 1), 9);
        due("all stock", x.count(6), 16);
        tells("s0,0;", 1);
        due("all stock", x.count(6), 12);
    }

    private void word() {
        begin("4 word", SIX + "s1,7;");
        int[] sets = {3, 6, 16, 16, 16, 16};
        int[] weights = {2, 3, 1, 4, 5, 1};
        int[] kinds = {0, 0, 1, 2, 3, 4};
        for (int word = 0; word < 6; word++) {
            due("kind of " + word, x.word(word, 0), kinds[word]);
            due("set of " + word, x.word(word, 1), sets[word]);
            due("weight of " + word, x.word(word, 2), weights[word]);
            due("stock of " + word, x.word(word, 3), word == 1 ? 7 : 0);
        }
        due("word(6, 0)", x.word(6, 0), -1);
        due("word(-1, 0)", x.word(-1, 0), -1);
        due("word(6, 9)", x.word(6, 9), -1);
        due("word(0, 4)", x.word(0, 4), -2);
        due("word(0, -1)", x.word(0, -1), -2);
        due("word(least, most)", x.word(LEAST, MOST), -1);
        refusedAre(4, 2, 0, 0, 0);
    }

    private void road() {
        begin("5 road", SIX);
        tells("rr0,2;rb1,16;rs3,0;rd5,7;rh7,15;", 5);
        int[] eighths = {0, 1, 3, 5, 7};
        int[] wishes = {2, 16, 0, 7, 15};
        for (int road = 0; road < 5; road++) {
            due("kind of " + road, x.road(road, 0), road);
            due("eighth of " + road, x.road(road, 1), eighths[road]);
            due("wish of " + road, x.road(road, 2), wishes[road]);
            due("no place for " + road, x.road(road, 3), -9);
            due("no reading for " + road, x.road(road, 4), 16);
        }
        Check.ring(x, 0, 3, 1, 4, 0, 5, 5);
        int[] places = {0, 0, 2, 4, 6};
        int[] readings = {3, 16, 7, 16, 2};
        for (int road = 0; road < 5; road++) {
            due("place of " + road, x.road(road, 3), places[road]);
            due("reading of " + road, x.road(road, 4), readings[road]);
        }
        x.put(1, -1);
        due("reading by round of 3 6 OR 3", x.road(0, 4), 16);
        due("road(5, 0)", x.road(5, 0), -1);
        due("road(-1, 9)", x.road(-1, 9), -1);
        due("road(0, 5)", x.road(0, 5), -2);
        due("road(0, -1)", x.road(0, -1), -2);
        refusedAre(2, 2, 0, 0, 0);
    }

    private void stone() {
        begin("6 stone", "n1;");
        due("stone(-1)", x.stone(-1), 1);
        due("stone(0)", x.stone(0), 2);
        due("stone(1)", x.stone(1), -1);
        due("stone(-2)", x.stone(-2), -1);
        ringIs(-9, 0);
        for (int i = 3; i <= 12; i++) {
            due("stone " + i, x.stone(0), i);
        }
        due("the 13th", x.stone(0), -6);
        due("a blank 13th", x.stone(-1), -6);
        due("nobody, with no room", x.stone(7), -1);
        due("places", x.count(2), 12);
        refusedAre(3, 0, 0, 0, 2);
    }

    private void put() {
        begin("7 put", SIX, 0, -1, 5);
        due("put(0, 4)", x.put(0, 4), 0);
        due("put(0, -1)", x.put(0, -1), 4);
        due("put(1, 2)", x.put(1, 2), -9);
        due("put(2, 5)", x.put(2, 5), 5);
        due("put(3, 0)", x.put(3, 0), -1);
        due("put(-1, 0)", x.put(-1, 0), -1);
        due("put(0, 6)", x.put(0, 6), -1);
        due("put(0, -2)", x.put(0, -2), -1);
        ringIs(-9, 2, 5);
        refusedAre(4, 0, 0, 0, 0);
    }

    private void turn() {
        begin("8 turn", SIX, 0, 1, 2, 3, -1);
        due("turn(0)", x.turn(0), 5);
        ringIs(0, 1, 2, 3, -9);
        due("turn(1)", x.turn(1), 5);
        ringIs(1, 2, 3, -9, 0);
        due("turn(11)", x.turn(11), 5);
        ringIs(2, 3, -9, 0, 1);
        due("turn(5)", x.turn(5), 5);
        ringIs(2, 3, -9, 0, 1);
        due("turn(12)", x.turn(12), -6);
        due("turn(-1)", x.turn(-1), -4);
        x.bare();
        due("turn(-1) of none", x.turn(-1), -4);
        due("turn(12) of none", x.turn(12), -6);
        due("turn(0) of none", x.turn(0), -3);
        refusedAre(0, 0, 1, 2, 2);
        x.stone(4);
        due("turn(7) of one", x.turn(7), 1);
        ringIs(4);
    }

    private void bareAndAt() {
        begin("9 bare, 10 at", SIX, 4, -1);
        due("at(0)", x.at(0), 4);
        due("at(1)", x.at(1), -9);
        due("at(2)", x.at(2), -1);
        due("at(-1)", x.at(-1), -1);
        due("bare", x.bare(), 2);
        due("bare again", x.bare(), 0);
        due("at(0) of none", x.at(0), -1);
        due("words stay", x.count(0), 6);
        due("stone", x.stone(3), 1);
        ringIs(3);
    }

    private void readsRoundAndBack() {
        begin("11 reads: round, back", SIX, 0, 3, 1);
        due("3 AND 6", x.reads(0, 0), 2);
        due("from AND", x.reads(1, 0), 16);
        due("6 3 AND", x.reads(2, 0), 16);
        due("back: 6 AND 3", x.reads(2, 1), 2);
        due("back: 3 6 AND", x.reads(0, 1), 16);
        Check.ring(x, 0, 4, 2, 1);
        due("3 OR NOT 6", x.reads(0, 0), 11);
        Check.ring(x, 2, 2, 2, 0);
        due("NOT NOT NOT 3", x.reads(0, 0), 12);
        due("NOT NOT 3 NOT", x.reads(1, 0), 16);
        Check.ring(x, 2, 5, -1, 0);
        due("NOT (end, blank) 3", x.reads(0, 0), 12);
        Check.ring(x, 0, 4, 1, 3, 1);
        due("by the row: (3 OR 6) AND 6", x.reads(0, 0), 6);
        Check.ring(x, 2, 0, 3, 1, 4, 0);
        due("NOT 3 AND 6 OR 3", x.reads(0, 0), 7);
        Check.ring(x, 0, 3, 4, 1);
        due("two between", x.reads(0, 0), 16);
        Check.ring(x, 0, 3);
        due("one behind", x.reads(0, 0), 16);
        Check.ring(x, 5, -1);
        due("no value", x.reads(0, 0), 16);
        Check.ring(x, -1, 0, 5);
        due("one value, else ends and blanks", x.reads(2, 1), 3);
        due("reads(3, 5)", x.reads(3, 5), -1);
        due("reads(-1, 0)", x.reads(-1, 0), -1);
        due("reads(0, 5)", x.reads(0, 5), -2);
        due("reads(0, -1)", x.reads(0, -1), -2);
        refusedAre(2, 2, 0, 0, 0);
    }

    private void readsStop() {
        begin("11 reads: stop", SIX, 5, 0, 5, 2, 0);
        int[] means = {3, 3, 12, 12, 3};
        for (int place = 0; place < 5; place++) {
            due("from " + place, x.reads(place, 2), means[place]);
            due("round from " + place, x.reads(place, 0), 16);
        }
        Check.ring(x, 0, 3, 5, 1);
        due("3 AND (end)", x.reads(0, 2), 16);
        due("6 3: there is no end between", x.reads(3, 2), 16);
        due("round: 3 AND 6", x.reads(0, 0), 2);
        Check.ring(x, 2, 5, 0, -1, 5, 1);
        due("no value before the first end", x.reads(0, 2), 12);
        due("a blank is no end", x.reads(2, 2), 3);
        Check.ring(x, 0, 4, 1);
        due("no end", x.reads(0, 2), 7);
    }

    private void readsDoubleAndHalf() {
        begin("11 reads: double, half", SIX, 0, -1, 3, -1, 1);
        due("double: 3 AND 6", x.reads(0, 3), 2);
        due("double: places 1, 3, 0, 2, 4", x.reads(1, 3), 2);
        due("double: places 2, 4, 1, 3, 0", x.reads(2, 3), 16);
        due("half of 5: 3 AND", x.reads(0, 4), 16);
        due("half of 5: 6 3", x.reads(4, 4), 16);
        due("half of 5, gone round: 6 3", x.reads(3, 4), 16);
        Check.ring(x, 0, 3, 1, 5, 5);
        due("half of 5: 3 AND 6", x.reads(0, 4), 2);
        Check.ring(x, 0, 3, 1, 5);
        due("half of 4: 3 AND", x.reads(0, 4), 16);
        due("half of 4: 6", x.reads(2, 4), 6);
        due("half of 4, gone round: end 3", x.reads(3, 4), 3);
        due("double of 4 goes round twice", x.reads(0, 3), 16);
        due("double of 4: AND AND", x.reads(1, 3), 16);
        Check.ring(x, 0);
        for (int kind = 0; kind < 5; kind++) {
            due("one place by " + kind, x.reads(0, kind), 3);
        }
        Check.ring(x, 0, 1);
        due("double of 2: 3 3", x.reads(0, 3), 16);
        due("half of 2: 6", x.reads(1, 4), 6);
    }

    private void same() {
        begin("12 same", SIX);
        due("of none", x.same(0), 0);
        Check.ring(x, 0, 5);
        int[] sames = {1, 1, 1, 0, 0};
        for (int kind = 0; kind < 5; kind++) {
            due("3 and an end by " + kind, x.same(kind), sames[kind]);
        }
        Check.ring(x, 0, 1);
        due("two things by half", x.same(4), 0);
        Check.ring(x, 1, 1);
        due("one thing by half", x.same(4), 1);
        Check.ring(x, 5, -1);
        due("one thing that makes no sense", x.same(0), 0);
        Check.ring(x, 0, 5, 0, 5);
        due("by stop", x.same(2), 1);
        due("by round", x.same(0), 0);
        due("same(5)", x.same(5), -2);
        due("same(-1)", x.same(-1), -2);
    }

    private void says() {
        begin("13 says", SIX, 0, 1);
        due("by half", x.says(4), 8 + 64);
        due("by round", x.says(0), 65536);
        Check.ring(x, 0, 3, 1);
        due("by back", x.says(1), 4 + 65536);
        x.bare();
        due("of none", x.says(0), 0);
        due("says(5)", x.says(5), -2);
        due("says(-1)", x.says(-1), -2);
    }

    private void judge() {
        begin("14 judge", SIX, 0);
        due("no roads", x.judge(), -9);
        tells("rr0,3;rh4,6;rb0,16;", 3);
        due("the second does not", x.judge(), 1);
        Check.ring(x, 0, 1);
        due("the first does not", x.judge(), 0);
        Check.ring(x, 0, 5, 1);
        due("3 6", x.judge(), 0);
        Check.ring(x, 0, 3, 0, 5);
        due("half from 2: 3", x.judge(), 1);
        x.bare();
        due("no places", x.judge(), -3);
        x = Check.with(SIX, 0, 4, 1);
        tells("rr0,7;rb0,16;rr7,16;", 3);
        due("all do", x.judge(), -9);
    }

    private void shortest() {
        begin("15 shortest", SIX);
        for (int kind = 0; kind < 5; kind++) {
            due("of 3 by " + kind, x.shortest(3, kind, -1), 1);
            due("its word", x.shortest(3, kind, 0), 0);
            due("none behind", x.shortest(3, kind, 1), -9);
            due("of 6 by " + kind, x.shortest(6, kind, 0), 1);
            due("of 2 by " + kind, x.shortest(2, kind, -1), -9);
            due("its word", x.shortest(2, kind, 0), -9);
        }
        due("far behind", x.shortest(3, 0, MOST), -9);
        due("-1 first", x.shortest(16, 5, -2), -1);
        due("-1", x.shortest(-1, 0, 0), -1);
        due("-2 then", x.shortest(15, 5, -2), -2);
        due("-2", x.shortest(0, -1, 0), -2);
        due("-4", x.shortest(0, 0, -2), -4);
        refusedAre(2, 2, 0, 1, 0);
        begin("15 shortest, the first", "e1;v9,1;v9,2;");
        due("of 9", x.shortest(9, 0, 0), 1);
    }

    private void each() {
        begin("16 each", SIX);
        due("no roads", x.each(-1), 1);
        due("no roads, word", x.each(0), 0);
        tells("rr0,2;", 1);
        int[] ring = {3, 0, 3, 1, -9, -9};
        for (int i = -1; i < 5; i++) {
            due("each(" + i + ")", x.each(i), ring[i + 1]);
        }
        due("far behind", x.each(MOST), -9);
        due("each(-2)", x.each(-2), -4);
        due("each(least)", x.each(LEAST), -4);
        tells("rr0,3;", 1);
        due("not to be had", x.each(-1), -9);
        due("nor a word", x.each(0), -9);
        begin("16 each, two roads", SIX);
        tells("rr0,12;rr4,16;", 2);
        due("places", x.each(-1), 2);
        due("NOT", x.each(0), 2);
        due("3", x.each(1), 0);
        begin("16 each, five", "v1,1;v2,1;o1;v4,1;rr0,7;");
        due("places", x.each(-1), 5);
        int[] five = {0, 2, 1, 2, 3};
        for (int i = 0; i < 5; i++) {
            due("each(" + i + ")", x.each(i), five[i]);
        }
        begin("16 each, no words", "rr0,16;");
        due("places", x.each(-1), -9);
    }

    private void rings() {
        begin("17 rings", SIX);
        int[][] due = {{2, 2, 2, 2, 2}, {2, 2, 2, 2, 2}, {2, 2, 2, 4, 4}, {2, 0, 2, 0, 2}, {2, 2, 0, 2, 0}};
        for (int kind = 0; kind < 5; kind++) {
            for (int n = 1; n <= 5; n++) {
                due("of " + n + " by " + kind, x.rings(n, kind), due[kind][n - 1]);
            }
        }
        due("-4 first", x.rings(0, 5), -4);
        due("-6 first", x.rings(6, 5), -6);
        due("-2", x.rings(5, 5), -2);
        due("-2 below", x.rings(1, -1), -2);
        refusedAre(0, 2, 0, 1, 1);
        begin("17 rings, turned", "v3,1;v3,1;e1;");
        due("of 4 by stop", x.rings(4, 2), 5);
        due("of 2 by half", x.rings(2, 4), 3);
    }

    private void sayable() {
        begin("18 sayable", SIX);
        for (int kind = 0; kind < 5; kind++) {
            due("by " + kind, x.sayable(kind), 8 + 64);
        }
        due("-2", x.sayable(5), -2);
        due("-2 below", x.sayable(-1), -2);
        begin("18 sayable, more", "v0,1;v15,1;e1;");
        due("by round", x.sayable(0), 1 + 32768);
    }

    private void needed() {
        begin("19 needed", SIX);
        due("the values", x.needed(), 3);
        begin("19 needed, two alike", "v3,1;e1;v3,1;v4,1;");
        due("one alone", x.needed(), 8);
        begin("19 needed, none", "e1;n1;");
        due("none", x.needed(), 0);
    }

    private void worn() {
        begin("20 worn", SIX, 0, -1, 1);
        tells("rr0,2;", 1);
        due("how many", x.worn(0), 1);
        due("likeliest", x.worn(1), 4);
        begin("20 worn, two", SIX, -1, -1);
        due("without roads", x.worn(0), 36);
        due("likeliest without roads", x.worn(1), 25);
        tells("rr0,3;", 1);
        due("how many", x.worn(0), 2);
        due("likeliest", x.worn(1), 2);
        x.stone(-1);
        x.stone(-1);
        due("four: 3, NOT NOT 3, 3 AND 3, 3 OR 3, and ends", x.worn(0), 16);
        x.stone(-1);
        due("five", x.worn(0), -3);
        due("-2 first", x.worn(2), -2);
        due("-2 below", x.worn(-1), -2);
        Check.ring(x, 0);
        due("no blanks", x.worn(0), -3);
        x.bare();
        due("no places", x.worn(1), -3);
        refusedAre(0, 2, 3, 0, 0);
        begin("20 worn, none", SIX, -1, 0);
        tells("rr0,5;", 1);
        due("how many", x.worn(0), 0);
        due("likeliest", x.worn(1), -9);
    }

    private void likeliest() {
        begin("21 likeliest", SIX, -1, 5, -1);
        tells("rr0,3;", 1);
        due("the first of two", x.likeliest(0), 0);
        due("its other", x.likeliest(1), 5);
        due("none such", x.likeliest(2), -9);
        due("far behind", x.likeliest(MOST), -9);
        due("-4", x.likeliest(-1), -4);
        x.bare();
        due("-4 first", x.likeliest(-1), -4);
        due("-3", x.likeliest(0), -3);
        begin("21 likeliest, the heavier", "v3,1;v3,5;v3,5;e9;rr0,3;", -1);
        due("how many", x.worn(0), 3);
        due("weight", x.worn(1), 5);
        due("word", x.likeliest(0), 1);
        begin("21 likeliest, weight 0", "v3,0;v5,0;rr0,5;", -1);
        due("weight", x.worn(1), 0);
        due("word", x.likeliest(0), 1);
        begin("21 likeliest, none", "v3,0;rr0,5;", -1);
        due("word", x.likeliest(0), -9);
    }

    private void sure() {
        begin("22 sure", SIX, 0, -1, 1);
        tells("rr0,2;", 1);
        due("a told one", x.sure(0), 1);
        due("a filled one", x.sure(1), 8);
        due("the last", x.sure(2), 2);
        Check.ring(x, -1, -1, 5);
        tells("v3,1;", -2000);
        due("none reads 2 now", x.sure(2), 0);
        due("-1", x.sure(3), -1);
        due("-1 below", x.sure(-1), -1);
        Check.ring(x, 0);
        due("-1 first", x.sure(1), -1);
        due("-3", x.sure(0), -3);
        begin("22 sure, several", SIX, -1, -1, 5);
        tells("rr0,3;", 1);
        due("3 or END", x.sure(0), 33);
        due("3 or END", x.sure(1), 33);
        due("END", x.sure(2), 32);
    }

    private void safe() {
        begin("23 safe", SIX, 1, 0, 3);
        due("no roads", x.safe(0), 15);
        tells("rr4,5;", 1);
        due("it reads what it does not wish", x.road(0, 4), 2);
        due("END", x.safe(5), 3);
        due("NOT", x.safe(2), 0);
        Check.ring(x, 1, 4);
        due("a road that makes no sense must make none", x.safe(0), 4);
        due("-1", x.safe(6), -1);
        due("-1: a blank is no word", x.safe(-1), -1);
        Check.ring(x, 5, 5, 5, 5, 5, 5, 5, 5, 5, 5, 5);
        due("11 places", x.safe(5), 4095);
        x.stone(5);
        due("-1 first", x.safe(6), -1);
        due("-6", x.safe(5), -6);
        x.bare();
        due("-3", x.safe(5), -3);
        due("-1 before -3", x.safe(6), -1);
        refusedAre(4, 0, 1, 0, 1);
    }

    private void pair() {
        begin("24 pair", SIX);
        due("-1 one", x.pair(6, 0), -1);
        due("-1 other", x.pair(0, 6), -1);
        due("-1 below", x.pair(-1, -1), -1);
        for (int i = 0; i < 12; i++) {
            due("pair " + i, x.pair(i / 6, i % 6), i + 1);
        }
        due("told already, with no room", x.pair(1, 5), -3);
        due("no room", x.pair(5, 1), -6);
        due("-1 first", x.pair(5, 9), -1);
        due("pairs", x.count(4), 12);
        refusedAre(4, 0, 1, 0, 1);
    }

    private void everyIs(int... ring) {
        due("every(-1)", x.every(-1), ring.length);
        for (int i = 0; i <= ring.length; i++) {
            due("every(" + i + ")", x.every(i), i < ring.length ? ring[i] : -9);
        }
    }

    private void tellPairs(int... words) {
        for (int i = 0; i + 1 < words.length; i += 2) {
            x.pair(words[i], words[i + 1]);
        }
    }

    private void every() {
        begin("25 every", SIX);
        due("-4 first", x.every(-2), -4);
        due("-3", x.every(-1), -3);
        tellPairs(0, 1);
        everyIs();
        tellPairs(1, 0);
        everyIs(0, 1);
        tellPairs(0, 0);
        everyIs(0, 1, 0);
        due("far behind", x.every(MOST), -9);
        due("-4", x.every(LEAST), -4);
        begin("25 every, one", SIX);
        tellPairs(4, 4);
        everyIs(4);
        tellPairs(1, 1);
        everyIs();
        begin("25 every, first by words", SIX);
        tellPairs(0, 2, 2, 0, 0, 1, 1, 0, 0, 0);
        everyIs(0, 2, 0, 0, 1);
        begin("25 every, the nearest way is shut", SIX);
        tellPairs(1, 2, 2, 1, 2, 3, 3, 2);
        everyIs(1, 2, 3, 2);
        begin("25 every, twelve", SIX);
        tellPairs(0, 1, 1, 2, 2, 3, 3, 4, 4, 5, 5, 0, 0, 0, 1, 1, 2, 2, 3, 3, 4, 4, 5, 5);
        everyIs(0, 1, 1, 2, 2, 3, 3, 4, 4, 5, 5, 0);
    }

    private void stones() {
        begin("26 stones", SIX + "s0,1;s5,2;", 0, 0, 5, 5, 5, -1, 1);
        due("lacking", x.stones(), 1 + 2 + 32);
        Check.ring(x, 0, 5, 5, -1);
        due("enough", x.stones(), 0);
        x.bare();
        due("no ring", x.stones(), 0);
    }

    private void made() {
        begin("27 made", "v3,1;v6,1;e1;s0,2;s1,1;");
        int[] many = {2, 3, 3, 0};
        for (int n = 1; n <= 4; n++) {
            due("made(" + n + ")", x.made(n), many[n - 1]);
        }
        due("-4", x.made(0), -4);
        due("-6", x.made(5), -6);
        tells("s0,9;s1,4;s2,9;", 3);
        due("enough of all", x.made(4), 81);
    }

    private void towers() {
        begin("28 towers", "v3,1;e1;");
        int[] seeds = {0, 1, -1, 7, LEAST};
        int[][] due = {{3, 4, 0, 2, 3}, {3, 4, 0, 2, 3}, {10, 10, 7, 3, 10}, {0, 0, 0, 0, 0}, {1, 1, 1, 0, 1}};
        for (int kind = 0; kind < 5; kind++) {
            for (int i = 0; i < seeds.length; i++) {
                due("30 by " + kind + " from " + seeds[i], x.towers(30, kind, seeds[i]), due[kind][i]);
            }
        }
        due("5 by stop", x.towers(5, 2, 1), 1);
        due("-4 first", x.towers(0, 5, 0), -4);
        due("-6 first", x.towers(31, 5, 0), -6);
        due("-2", x.towers(1, 5, 0), -2);
        tells("e1;", 1);
        due("below three words", x.towers(30, 4, 1), 5);
        begin("28 towers, one word", "v3,1;");
        due("six values make no sense", x.towers(30, 0, 5), 0);
        begin("28 towers, no words", "rr0,0;");
        due("-2 first", x.towers(1, -1, 0), -2);
        due("-3", x.towers(1, 0, 0), -3);
    }

    private void imageAndOn() {
        begin("29 image, 30 on", SIX + "s0,2;rr0,3;", 0, -1);
        x.pair(0, 1);
        due("no image yet", x.on(), -3);
        due("image", x.image(), 6);
        x.pair(1, 0);
        x.stone(4);
        x.put(1, 1);
        x.turn(1);
        tells("s0,7;s1,1;rb1,1;", 3);
        due("on", x.on(), 6);
        ringIs(0, -9);
        due("pairs", x.count(4), 1);
        due("every", x.every(-1), 0);
        due("roads", x.count(1), 1);
        due("stock", x.count(6), 2);
        due("refusals stay", x.count(13), 1);
        x.bare();
        due("on again", x.on(), 6);
        ringIs(0, -9);
        begin("29 image, taken anew", "");
        due("of nothing", x.image(), 0);
        tells("v3,1;", 1);
        x.stone(0);
        due("on to nothing", x.on(), 0);
        ringIs();
        tells("n1;e2;", 2);
        due("image of two", x.image(), 2);
        due("on to two", x.on(), 2);
        due("kind", x.word(0, 0), 1);
        due("an image changes nothing", x.count(0), 2);
        lettersAndImage();
    }

    /** Letters that are no tongue yet are not in the image: on neither takes nor brings any. */
    private void lettersAndImage() {
        begin("30 on, letters that came behind the image", "");
        x.image();
        x.letter('v');
        x.letter('3');
        due("on", x.on(), 0);
        due("they stay", x.count(5), 2);
        due("one more", x.letter(','), 3);
        x.letter('2');
        x.on();
        due("the last", x.letter(';'), 5);
        due("they become a tongue", x.tongue(), 1);
        due("set", x.word(0, 1), 3);
        begin("30 on, letters that were there at the image", SIX);
        x.letter('s');
        x.letter('0');
        due("image", x.image(), 6);
        due("an image leaves them", x.count(5), 2);
        tells(",4;", 1);
        due("on", x.on(), 6);
        due("none comes back", x.count(5), 0);
        due("what they told is as then", x.word(0, 3), 0);
        due("the first", x.letter('e'), 1);
        begin("30 on, a fault takes letters for good", "");
        x.letter('x');
        x.image();
        due("fault", x.tongue(), -1000);
        x.on();
        due("none comes back", x.count(5), 0);
        due("something lacks", x.tongue(), -1000);
        begin("30 on, no room for letters", "");
        x.image();
        for (int i = 1; i <= 64; i++) {
            due("letter " + i, x.letter(0), i);
        }
        x.on();
        due("-6 as before", x.letter(0), -6);
        due("64 letters", x.count(5), 64);
    }

    private void count() {
        begin("31 count", SIX + "s3,4;s4,9;rr0,1;rr0,2;", 0, -1, -1, 5);
        x.pair(0, 0);
        x.letter('v');
        int[] due = {6, 2, 4, 2, 1, 1, 13, -9, -9, -9, -9, 0, 0, 0, 0, 0, 0, -9};
        for (int what = 0; what < due.length; what++) {
            due("count(" + what + ")", x.count(what), due[what]);
        }
        due("count(-1)", x.count(-1), -9);
        due("count(least)", x.count(LEAST), -9);
        due("count(most)", x.count(MOST), -9);
        x.at(9);
        x.same(9);
        x.on();
        x.made(-1);
        x.made(9);
        refusedAre(1, 1, 1, 1, 1);
        due("none of -5", x.count(15), 0);
        x.count(9);
        refusedAre(1, 1, 1, 1, 1);
    }

    /** What has been found once must not be answered behind a change. */
    private void found() {
        begin("found anew", "v3,1;rr0,3;", -1);
        due("shortest", x.shortest(6, 0, -1), -9);
        due("each", x.each(0), 0);
        due("worn", x.worn(0), 1);
        x.image();
        tells("v6,1;rh0,3;", 2);
        due("shortest", x.shortest(6, 0, -1), 1);
        due("worn", x.worn(0), 1);
        x.stone(-1);
        due("worn, a place more", x.worn(0), 0);
        x.put(1, 0);
        due("worn, put", x.worn(0), 0);
        x.put(0, 0);
        x.put(1, -1);
        due("worn, another ring", x.worn(0), 0);
        tells("e1;", 1);
        due("worn, another word", x.worn(0), 1);
        due("sure", x.sure(1), 4);
        x.turn(1);
        due("sure, turned", x.sure(0), 0);
        Check.ring(x, 2, -1);
        due("worn, told anew", x.worn(0), 0);
        tells("rb0,4;", 1);
        due("each, another road", x.each(-1), -9);
        due("on", x.on(), 1);
        due("shortest as then", x.shortest(6, 0, -1), -9);
        due("rings as then", x.rings(2, 0), 0);
        due("each as then", x.each(-1), 1);
        due("worn as then", x.worn(0), 1);
        begin("found anew, put", "v3,1;e1;rr0,3;", -1, 1);
        due("worn", x.worn(0), 1);
        x.put(1, 0);
        due("worn, put", x.sure(0), 2);
        x.put(1, -1);
        due("worn, two blanks", x.worn(0), 2);
    }
}
