import java.io.IOException;
import java.nio.file.Files;
import java.nio.file.Path;
import java.util.ArrayList;
import java.util.Arrays;
import java.util.BitSet;
import java.util.List;
import java.util.Map;
import java.util.TreeMap;

/**
 * What the tests of edges share: each test names its promise and quotes the words of the document that it looks at,
 * so that a sentence without a test can be seen; and calls are looked at beside a twin that did not get them.
 */
final class Edges {
    /** Words: 0 and 1 the values 3 and 6, 2 NOT, 3 AND, 4 OR, 5 END. */
    static final String SIX = "v3,2;v6,3;n1;a4;o5;e1;";
    static final int LEAST = Integer.MIN_VALUE;
    static final int MOST = Integer.MAX_VALUE;
    static final String TERMS = "Terms";
    private static final Path DOCUMENT = Path.of("../shared/DOC.md");

    interface Setup {
        void on(ReadFromAnywhere x);
    }

    interface Call {
        int of(ReadFromAnywhere x);
    }

    interface CallWith {
        int of(ReadFromAnywhere x, int a);
    }

    private final Check check;
    private final Map<String, String> sections = new TreeMap<>();
    private final Map<String, BitSet> quoted = new TreeMap<>();

    Edges(Check check) {
        this.check = check;
        readDocument();
    }

    /** The document by its parts: "Terms", and the promises by their numbers. */
    private void readDocument() {
        try {
            for (String part : Files.readString(DOCUMENT).split("(?m)^## ")) {
                int end = part.indexOf('\n');
                String head = end < 0 ? part : part.substring(0, end);
                String name = head.startsWith("Promise ") ? head.substring(8, head.indexOf(':')) : head;
                String body = end < 0 ? "" : part.substring(end);
                sections.put(name, body.replace("```text", "").replace("```", "").trim().replaceAll("\\s+", " "));
            }
        } catch (IOException e) {
            System.out.println("there is no " + DOCUMENT + ": what is quoted of it is not looked up");
        }
    }

    /** The test that follows looks at these words of a part of the document. */
    void says(String section, String... quotes) {
        check.part(section + ", " + String.join(" / ", quotes));
        String text = sections.get(section);
        for (String quote : quotes) {
            int at = text == null ? 0 : text.indexOf(quote);
            check.holds("the document has these words", at >= 0);
            if (text != null && at >= 0) {
                quoted.computeIfAbsent(section, k -> new BitSet()).set(at, at + quote.length());
            }
        }
    }

    /** Each number that a part of the document tells, and each of these words, must stand in some test's quote. */
    void allIsQuoted(String section, int from, int to, String... words) {
        String text = sections.get(section);
        if (text == null) {
            return;
        }
        check.part(section + ", all of it");
        BitSet covered = quoted.getOrDefault(section, new BitSet());
        for (int i = from; i < Math.min(to, text.length()); i++) {
            check.holds("a test for: .. " + text.substring(i, Math.min(text.length(), i + 40)),
                covered.get(i) || !Character.isDigit(text.charAt(i)) && text.charAt(i) != '-');
        }
        for (String word : words) {
            for (int i = text.indexOf(word, from); i >= 0 && i < to; i = text.indexOf(word, i + 1)) {
                check.holds("a test for: .. " + text.substring(i, Math.min(text.length(), i + 40)), covered.get(i));
            }
        }
    }

    int placeOf(String section, String words) {
        String text = sections.get(section);
        return text == null ? 0 : Math.max(0, text.indexOf(words));
    }

    void due(String call, int got, int want) {
        check.due(call, got, want);
    }

    /** A call on a new object, and on one that had much of all and went back to nothing: what it answers. */
    void answers(String call, Setup setup, Call of, int want) {
        ReadFromAnywhere x = new ReadFromAnywhere();
        setup.on(x);
        due(call, of.of(x), want);
        ReadFromAnywhere used = new ReadFromAnywhere();
        use(used);
        setup.on(used);
        due(call + " on a used object", of.of(used), want);
    }

    /** Leaves nothing but what no answer may depend on: an image of nothing, and what searches have found. */
    private static void use(ReadFromAnywhere x) {
        x.image();
        Check.tell(x, "n5;e3;v9,2;a1;v6,4;v9,7;rr0,9;rb1,9;s1,9;s3,5;s5,9;");
        Check.ring(x, 5, -1, 3, -1, 2);
        for (int kind = 0; kind < 5; kind++) {
            x.sayable(kind);
            x.towers(1, kind, 77);
        }
        x.safe(5);
        x.each(-1);
        x.needed();
        x.worn(0);
        x.sure(1);
        x.stones();
        x.made(3);
        x.pair(5, 3);
        x.pair(3, 5);
        x.pair(5, 5);
        x.every(-1);
        x.pair(2, 5);
        x.every(-1);
        x.on();
    }

    /** A call that answers a number that is due, each time, and changes nothing, no count of refusals either. */
    void asks(String call, Setup setup, Call of, int want) {
        beside(call, setup, of, want, 0);
        answers(call, setup, of, want);
        answers(call + ", again", setup, x -> of.of(x) == want ? of.of(x) : want - 1, want);
    }

    /** A call that is refused changes nothing but how many of its refusals there were. */
    void refused(String call, Setup setup, Call of, int want) {
        beside(call, setup, of, want, want);
    }

    private void beside(String call, Setup setup, Call of, int want, int refusal) {
        ReadFromAnywhere x = new ReadFromAnywhere();
        ReadFromAnywhere twin = new ReadFromAnywhere();
        setup.on(x);
        setup.on(twin);
        due(call, of.of(x), want);
        for (int what = 11; what <= 16; what++) {
            due("count(" + what + ") behind " + call, x.count(what), twin.count(what) + (10 - what == refusal ? 1 : 0));
        }
        sameState(call, x, twin);
    }

    void sameState(String call, ReadFromAnywhere x, ReadFromAnywhere twin) {
        List<Integer> got = state(x);
        List<Integer> want = state(twin);
        check.holds(call + " changes nothing: " + got + " and not " + want, got.equals(want));
    }

    /** All that can be seen of an object but its refusals, by at most 263 calls; its state of now is then gone. */
    private static List<Integer> state(ReadFromAnywhere x) {
        List<Integer> all = new ArrayList<>();
        look(x, all);
        all.add(x.tongue());
        look(x, all);
        all.add(x.on());
        look(x, all);
        return all;
    }

    private static void look(ReadFromAnywhere x, List<Integer> all) {
        int[] counts = new int[7];
        for (int what = 0; what <= 6; what++) {
            counts[what] = x.count(what);
            all.add(counts[what]);
        }
        for (int word = 0; word < counts[0]; word++) {
            for (int what = 0; what <= 3; what++) {
                all.add(x.word(word, what));
            }
        }
        for (int road = 0; road < counts[1]; road++) {
            for (int what = 0; what <= 4; what++) {
                all.add(x.road(road, what));
            }
        }
        for (int place = 0; place < counts[2]; place++) {
            all.add(x.at(place));
        }
        for (int i = -1; counts[4] > 0 && i <= 12; i++) {
            all.add(x.every(i));
        }
    }

    /** A number that a call takes: from least to greatest it is taken, else refused by one of two refusals. */
    void range(String call, Setup setup, CallWith of, int[] taken, int below, int above) {
        int least = taken[0];
        int greatest = taken[1];
        if (below != 0) {
            for (int a : new int[] {least - 1, least - 2, LEAST + 1, LEAST}) {
                refused(call + " with " + a, setup, x -> of.of(x, a), below);
            }
        }
        if (above != 0) {
            for (int a : new int[] {greatest + 1, greatest + 2, MOST - 1, MOST}) {
                refused(call + " with " + a, setup, x -> of.of(x, a), above);
            }
        }
        for (int a : new int[] {least, least + 1, greatest - 1, greatest}) {
            if (a >= least && a <= greatest) {
                ReadFromAnywhere x = new ReadFromAnywhere();
                setup.on(x);
                of.of(x, a);
                due("refusals behind " + call + " with " + a, refusals(x), 0);
            }
        }
    }

    static int[] taken(int least, int greatest) {
        return new int[] {least, greatest};
    }

    static int refusals(ReadFromAnywhere x) {
        int all = 0;
        for (int what = 11; what <= 16; what++) {
            all += x.count(what);
        }
        return all;
    }

    /** A tongue and a ring on an object that has neither. */
    static Setup of(String text, int... ring) {
        return x -> {
            if (!text.isEmpty()) {
                Check.tell(x, text);
            }
            for (int word : ring) {
                x.stone(word);
            }
        };
    }

    static int[] ring(int many, int word) {
        int[] ring = new int[many];
        Arrays.fill(ring, word);
        return ring;
    }

    /** A ring of ends with one word put in. */
    static int[] lone(int many, int end, int place, int word) {
        int[] ring = ring(many, end);
        ring[place] = word;
        return ring;
    }

    void tells(String text, int want) {
        answers("tongue of " + text, x -> { }, x -> Check.tell(x, text), want);
    }

    void tellsBehind(String before, String text, int want) {
        answers("tongue of " + text + " behind " + before, x -> Check.tell(x, before), x -> Check.tell(x, text), want);
    }
}
