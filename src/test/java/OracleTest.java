import java.util.ArrayList;
import java.util.List;
import java.util.Random;

/** Long runs of calls from seeds: each answer of the class must be that of the slow second program. */
public final class OracleTest {
    private static final String[] ONES = {"turn", "at", "same", "says", "each", "sayable", "worn", "likeliest",
        "sure", "safe", "every", "made", "count", "stone", "letter"};
    private static final String[] NONES = {"tongue", "judge", "needed", "stones", "image", "on", "bare"};
    private static final int[] FAR = {Integer.MIN_VALUE, Integer.MIN_VALUE + 1, -1000, -10, -9, -3, -2, 7, 12, 13, 16,
        17, 31, 64, 256, 1000, Integer.MAX_VALUE - 1, Integer.MAX_VALUE};

    private final Random random;
    private final ReadFromAnywhere real = new ReadFromAnywhere();
    private final Oracle oracle = new Oracle();
    private final Check check;
    private final List<String> calls = new ArrayList<>();
    private boolean agrees = true;

    private OracleTest(Check check, int seed) {
        this.check = check;
        random = new Random(seed);
        check.part("seed " + seed);
    }

    public static void main(String[] args) {
        int seeds = args.length > 0 ? Integer.parseInt(args[0]) : 1000;
        Check check = new Check();
        for (int seed = 0; seed < seeds; seed++) {
            new OracleTest(check, seed).run();
        }
        check.end();
    }

    private void run() {
        if (random.nextInt(4) != 0) {
            plant();
        }
        for (int step = 0; agrees && calls.size() < 430 && step < 430; step++) {
            switch (random.nextInt(16)) {
                case 0:
                    tell();
                    break;
                case 1:
                case 2:
                    ring();
                    break;
                case 3:
                    pairs();
                    break;
                case 4:
                    wear();
                    break;
                case 5:
                    seekAll();
                    break;
                default:
                    anyCall();
            }
        }
    }

    private void ask(String name, int... a) {
        if (!agrees) {
            return;
        }
        StringBuilder call = new StringBuilder(name).append('(');
        for (int i = 0; i < a.length; i++) {
            call.append(i == 0 ? "" : ", ").append(a[i]);
        }
        calls.add(call.append(')').toString());
        int got = answer(name, a);
        int want = oracle.call(name, a);
        check.due(call.toString(), got, want);
        if (got != want) {
            agrees = false;
            System.out.println("  behind " + calls);
        }
    }

    private int small(int least, int most) {
        return random.nextInt(25) == 0 ? FAR[random.nextInt(FAR.length)] : least + random.nextInt(most - least + 1);
    }

    private int words() {
        return oracle.call("count", 0);
    }

    private int someWord() {
        return small(random.nextInt(6) == 0 ? -1 : 0, Math.max(0, words() - 1));
    }

    private void tell() {
        StringBuilder text = new StringBuilder();
        int many = 1 + random.nextInt(5);
        for (int i = 0; i < many; i++) {
            text.append(statement());
        }
        if (random.nextInt(6) == 0) {
            text.insert(random.nextInt(text.length() + 1), "v0123456789,;rbsdhnaoe x".charAt(random.nextInt(24)));
        }
        if (random.nextInt(8) == 0) {
            text.setLength(random.nextInt(text.length() + 1));
        }
        if (random.nextInt(10) != 0) {
            say(text);
            return;
        }
        for (int i = 0; i < text.length(); i++) {
            ask("letter", text.charAt(i));
        }
    }

    /** A full tongue with roads that a planted ring reads as wished, so that searches find something. */
    private void plant() {
        String[] shapes = {"vvnaoe", "vvnae", "vvaoe", "vnae", "vvvaoe", "vnaoe", "vve", "vvno"};
        StringBuilder text = new StringBuilder();
        for (char kind : shapes[random.nextInt(shapes.length)].toCharArray()) {
            text.append(kind).append(kind == 'v' ? random.nextInt(16) + "," : "").append(random.nextInt(10)).append(';');
        }
        Oracle planted = new Oracle();
        spell(planted, text);
        int words = planted.call("count", 0);
        int places = 1 + random.nextInt(6);
        int[] ring = new int[places];
        for (int tries = 0; tries < 50; tries++) {
            planted.call("bare");
            for (int place = 0; place < places; place++) {
                ring[place] = random.nextInt(words);
                planted.call("stone", ring[place]);
            }
            if (planted.call("reads", 0, 0) != 16) {
                break;
            }
        }
        int roads = random.nextInt(4);
        StringBuilder more = new StringBuilder();
        for (int road = 0; road < roads; road++) {
            int kind = random.nextInt(5);
            int eighth = random.nextBoolean() ? 0 : random.nextInt(8);
            int wish = planted.call("reads", eighth * places / 8, kind);
            more.append('r').append("rbsdh".charAt(kind)).append(eighth).append(',').append(wish).append(';');
        }
        for (int word = 0; word < words && more.length() < 60; word++) {
            more.append('s').append(word).append(',').append(random.nextInt(5)).append(';');
        }
        say(text);
        say(more);
        for (int word : ring) {
            ask("stone", random.nextInt(3) == 0 ? -1 : word);
        }
        ask("image");
    }

    private static void spell(Oracle oracle, CharSequence text) {
        for (int i = 0; i < text.length(); i++) {
            oracle.call("letter", text.charAt(i));
        }
        oracle.call("tongue");
    }

    private void say(CharSequence text) {
        for (int i = 0; i < text.length(); i++) {
            ask("letter", text.charAt(i));
        }
        ask("tongue");
    }

    private String statement() {
        switch (random.nextInt(random.nextInt(3) == 0 ? 10 : 7)) {
            case 0:
            case 1:
                return "v" + number(15) + "," + random.nextInt(10) + ";";
            case 2:
                return "naoe".charAt(random.nextInt(4)) + "" + random.nextInt(10) + ";";
            case 3:
                return "aoee".charAt(random.nextInt(4)) + "" + random.nextInt(10) + ";";
            case 4:
            case 5:
                return "s" + random.nextInt(Math.max(1, words() + 1)) + "," + random.nextInt(4) + ";";
            default:
                return "r" + "rbsdh".charAt(random.nextInt(5)) + random.nextInt(random.nextInt(9) == 0 ? 10 : 8) + ","
                    + (random.nextBoolean() ? "16" : number(16)) + ";";
        }
    }

    private String number(int most) {
        int number = random.nextInt(12) == 0 ? random.nextInt(100) : random.nextInt(most + 1);
        return number < 10 && random.nextInt(5) == 0 ? "0" + number : "" + number;
    }

    private void ring() {
        if (random.nextInt(5) == 0) {
            ask("on");
            return;
        }
        int many = random.nextInt(random.nextInt(4) == 0 ? 14 : 6);
        if (random.nextInt(3) != 0) {
            ask("bare");
        }
        for (int i = 0; i < many; i++) {
            ask("stone", random.nextInt(5) == 0 ? -1 : someWord());
        }
        for (int kind = 0; kind < 5; kind++) {
            ask("same", kind);
            ask("says", kind);
        }
    }

    /** The ring with some places worn to blanks, and all that it can have been. */
    private void wear() {
        int places = oracle.call("count", 2);
        int blanks = 1 + random.nextInt(4);
        for (int i = 0; i < blanks && places > 0; i++) {
            ask("put", random.nextInt(places), -1);
        }
        ask("worn", 0);
        ask("worn", 1);
        for (int i = 0; i < 5; i++) {
            ask("likeliest", i);
        }
        for (int place = 0; place < places; place++) {
            ask("sure", place);
        }
    }

    private void seekAll() {
        int kind = random.nextInt(5);
        ask("sayable", kind);
        ask("rings", 1 + random.nextInt(5), kind);
        for (int set = 0; set < 16; set++) {
            ask("shortest", set, kind, random.nextInt(6) - 1);
        }
        for (int i = -1; i < 5; i++) {
            ask("each", i);
        }
    }

    /** Closed walks of new pairs, so that there often is a ring of them. */
    private void pairs() {
        int first = someWord();
        int last = first;
        int many = random.nextInt(4);
        for (int i = 0; i < many; i++) {
            int next = someWord();
            ask("pair", last, next);
            last = next;
        }
        ask("pair", last, first);
        int places = oracle.call("count", 4);
        for (int i = -1; i <= places && random.nextInt(4) != 0; i++) {
            ask("every", i);
        }
    }

    private void anyCall() {
        int z = random.nextInt();
        switch (random.nextInt(26)) {
            case 0:
                ask("word", someWord(), small(-1, 4));
                break;
            case 1:
            case 2:
                ask("road", small(-1, 6), small(-1, 5));
                break;
            case 3:
            case 4:
                ask("put", small(-1, 8), random.nextInt(4) == 0 ? -1 : someWord());
                break;
            case 5:
            case 6:
                ask("reads", small(-1, 8), small(-1, 5));
                break;
            case 7:
            case 8:
                ask("shortest", small(0, 15), small(0, 4), small(-1, 5));
                break;
            case 9:
                ask("rings", small(1, 5), small(0, 4));
                break;
            case 10:
            case 11:
                ask("towers", small(1, 30), small(0, 4), z);
                break;
            case 12:
            case 13:
                ask(NONES[random.nextInt(NONES.length)]);
                break;
            case 14:
                ask("count", small(-1, 17));
                break;
            default:
                ask(ONES[random.nextInt(ONES.length)], small(-1, 5));
        }
    }

    private int answer(String name, int[] a) {
        switch (name) {
            case "letter": return real.letter(a[0]);
            case "tongue": return real.tongue();
            case "word": return real.word(a[0], a[1]);
            case "road": return real.road(a[0], a[1]);
            case "stone": return real.stone(a[0]);
            case "put": return real.put(a[0], a[1]);
            case "turn": return real.turn(a[0]);
            case "bare": return real.bare();
            case "at": return real.at(a[0]);
            case "reads": return real.reads(a[0], a[1]);
            case "same": return real.same(a[0]);
            case "says": return real.says(a[0]);
            case "judge": return real.judge();
            case "shortest": return real.shortest(a[0], a[1], a[2]);
            case "each": return real.each(a[0]);
            case "rings": return real.rings(a[0], a[1]);
            case "sayable": return real.sayable(a[0]);
            case "needed": return real.needed();
            case "worn": return real.worn(a[0]);
            case "likeliest": return real.likeliest(a[0]);
            case "sure": return real.sure(a[0]);
            case "safe": return real.safe(a[0]);
            case "pair": return real.pair(a[0], a[1]);
            case "every": return real.every(a[0]);
            case "stones": return real.stones();
            case "made": return real.made(a[0]);
            case "towers": return real.towers(a[0], a[1], a[2]);
            case "image": return real.image();
            case "on": return real.on();
            case "count": return real.count(a[0]);
            default: throw new IllegalArgumentException(name);
        }
    }
}
