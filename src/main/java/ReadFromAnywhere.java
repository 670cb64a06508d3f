import java.util.Arrays;

/** A tongue of words, rings of places with words and blanks, and readers that begin anywhere on them. */
public final class ReadFromAnywhere {
    private static final int NOBODY = -1;
    private static final int OTHER = -2;
    private static final int STATE = -3;
    private static final int BELOW = -4;
    private static final int ROOM = -6;
    private static final int NONE = -9;
    private static final int BLANK = -1;

    private static final int MOST_LETTERS = 64;
    private static final int MOST_WORDS = 6;
    private static final int MOST_ROADS = 6;
    private static final int MOST_PLACES = 12;
    private static final int MOST_PAIRS = 12;
    private static final int LONGEST_RING = 5;
    private static final int LONGEST_SAYABLE = 4;
    private static final int LONGEST_MADE = 4;
    private static final int MOST_WORN = 4;
    private static final int MOST_TOWERS = 30;
    private static final int TOWER_PLACES = 6;

    private static final int SETS = 16;
    private static final int ALL_THINGS = 15;
    private static final int NO_SENSE = 16;

    private static final int VALUE = 0;
    private static final int NOT = 1;
    private static final int AND = 2;
    private static final int OR = 3;
    private static final int END = 4;
    private static final String WORD_LETTERS = "vnaoe";

    private static final int ROUND = 0;
    private static final int BACK = 1;
    private static final int STOP = 2;
    private static final int DOUBLE = 3;
    private static final int HALF = 4;
    private static final int READERS = 5;
    private static final String READER_LETTERS = "rbsdh";

    private final Letters letters;
    private final World now;
    private final World kept;
    private boolean keeps;
    private final Teller teller;
    private final Survey[] surveys;
    private final EachSearch eachSearch;
    private final WornSearch wornSearch;
    private final Chain chain;
    private final int[] row;
    private final int[] tally;
    private final int[] refused;

    public ReadFromAnywhere() {
        letters = new Letters();
        now = new World();
        kept = new World();
        keeps = false;
        teller = new Teller();
        surveys = new Survey[READERS];
        for (int kind = 0; kind < READERS; kind++) {
            surveys[kind] = new Survey(kind);
        }
        eachSearch = new EachSearch();
        wornSearch = new WornSearch();
        chain = new Chain();
        row = new int[MOST_PLACES];
        tally = new int[MOST_WORDS];
        refused = new int[7];
    }

    public int letter(int c) {
        if (c < 0) {
            return refuse(BELOW);
        }
        if (c > 255 || letters.many >= MOST_LETTERS) {
            return refuse(ROOM);
        }
        return letters.add(c);
    }

    public int tongue() {
        int answer = teller.tell(letters, now.tongue);
        letters.many = 0;
        if (answer > 0) {
            forgetTongue();
        }
        return answer;
    }

    public int word(int word, int what) {
        Tongue tongue = now.tongue;
        if (!tongue.hasWord(word)) {
            return refuse(NOBODY);
        }
        switch (what) {
            case 0:
                return tongue.kinds[word];
            case 1:
                return tongue.sets[word];
            case 2:
                return tongue.weights[word];
            case 3:
                return tongue.stocks[word];
            default:
                return refuse(OTHER);
        }
    }

    public int road(int road, int what) {
        Tongue tongue = now.tongue;
        if (!tongue.hasRoad(road)) {
            return refuse(NOBODY);
        }
        switch (what) {
            case 0:
                return tongue.readers[road];
            case 1:
                return tongue.eighths[road];
            case 2:
                return tongue.wishes[road];
            case 3:
                return now.ring.places == 0 ? NONE : tongue.beginOf(road, now.ring.places);
            case 4:
                return tongue.readByRoad(road, now.ring.has, now.ring.places);
            default:
                return refuse(OTHER);
        }
    }

    public int stone(int word) {
        if (!isWordOrBlank(word)) {
            return refuse(NOBODY);
        }
        if (now.ring.places >= MOST_PLACES) {
            return refuse(ROOM);
        }
        wornSearch.known = false;
        return now.ring.add(word);
    }

    public int put(int place, int word) {
        if (!now.ring.hasPlace(place) || !isWordOrBlank(word)) {
            return refuse(NOBODY);
        }
        int had = now.ring.toldAt(place);
        now.ring.has[place] = word;
        wornSearch.known = false;
        return had;
    }

    public int turn(int by) {
        if (by < 0) {
            return refuse(BELOW);
        }
        if (by >= MOST_PLACES) {
            return refuse(ROOM);
        }
        Ring ring = now.ring;
        if (ring.places < 1) {
            return refuse(STATE);
        }
        for (int i = 0; i < ring.places; i++) {
            row[i] = ring.has[(i + by) % ring.places];
        }
        System.arraycopy(row, 0, ring.has, 0, ring.places);
        wornSearch.known = false;
        return ring.places;
    }

    public int bare() {
        int had = now.ring.places;
        now.ring.places = 0;
        wornSearch.known = false;
        return had;
    }

    public int at(int place) {
        return now.ring.hasPlace(place) ? now.ring.toldAt(place) : refuse(NOBODY);
    }

    public int reads(int place, int kind) {
        if (!now.ring.hasPlace(place)) {
            return refuse(NOBODY);
        }
        if (!isReader(kind)) {
            return refuse(OTHER);
        }
        return now.tongue.meaning(now.ring.has, now.ring.places, place, kind);
    }

    public int same(int kind) {
        if (!isReader(kind)) {
            return refuse(OTHER);
        }
        return now.tongue.oneMeaning(now.ring.has, now.ring.places, kind) == NO_SENSE ? 0 : 1;
    }

    public int says(int kind) {
        if (!isReader(kind)) {
            return refuse(OTHER);
        }
        int said = 0;
        for (int place = 0; place < now.ring.places; place++) {
            said |= 1 << now.tongue.meaning(now.ring.has, now.ring.places, place, kind);
        }
        return said;
    }

    public int judge() {
        if (now.ring.places == 0) {
            return refuse(STATE);
        }
        return now.tongue.firstAgainst(now.ring.has, now.ring.places);
    }

    public int shortest(int set, int kind, int i) {
        if (set < 0 || set >= SETS) {
            return refuse(NOBODY);
        }
        if (!isReader(kind)) {
            return refuse(OTHER);
        }
        if (i < -1) {
            return refuse(BELOW);
        }
        Survey survey = surveys[kind];
        survey.look(now.tongue);
        int places = survey.fewest[set];
        if (i == -1) {
            return places == 0 ? NONE : places;
        }
        return i < places ? survey.firsts[set * LONGEST_RING + i] : NONE;
    }

    public int each(int i) {
        if (i < -1) {
            return refuse(BELOW);
        }
        eachSearch.seek(now.tongue);
        if (i == -1) {
            return eachSearch.places == 0 ? NONE : eachSearch.places;
        }
        return i < eachSearch.places ? eachSearch.ring[i] : NONE;
    }

    public int rings(int n, int kind) {
        if (n < 1) {
            return refuse(BELOW);
        }
        if (n > LONGEST_RING) {
            return refuse(ROOM);
        }
        if (!isReader(kind)) {
            return refuse(OTHER);
        }
        surveys[kind].look(now.tongue);
        return surveys[kind].counts[n];
    }

    public int sayable(int kind) {
        if (!isReader(kind)) {
            return refuse(OTHER);
        }
        surveys[kind].look(now.tongue);
        return surveys[kind].said;
    }

    public int needed() {
        Survey survey = surveys[ROUND];
        survey.look(now.tongue);
        int bits = 0;
        for (int word = 0; word < now.tongue.words; word++) {
            if (survey.saidWithout[word] != survey.said) {
                bits |= 1 << word;
            }
        }
        return bits;
    }

    public int worn(int what) {
        if (what != 0 && what != 1) {
            return refuse(OTHER);
        }
        if (!isWorn()) {
            return refuse(STATE);
        }
        wornSearch.seek(now.tongue, now.ring);
        return what == 0 ? wornSearch.many : wornSearch.best;
    }

    public int likeliest(int i) {
        if (i < 0) {
            return refuse(BELOW);
        }
        if (!isWorn()) {
            return refuse(STATE);
        }
        wornSearch.seek(now.tongue, now.ring);
        return wornSearch.many > 0 && i < wornSearch.blanks ? wornSearch.bestFill[i] : NONE;
    }

    public int sure(int place) {
        if (!now.ring.hasPlace(place)) {
            return refuse(NOBODY);
        }
        if (!isWorn()) {
            return refuse(STATE);
        }
        wornSearch.seek(now.tongue, now.ring);
        return wornSearch.seen[place];
    }

    public int safe(int word) {
        if (!now.tongue.hasWord(word)) {
            return refuse(NOBODY);
        }
        int places = now.ring.places;
        if (places >= MOST_PLACES) {
            return refuse(ROOM);
        }
        if (places == 0) {
            return refuse(STATE);
        }
        int bits = 0;
        for (int gap = 0; gap <= places; gap++) {
            System.arraycopy(now.ring.has, 0, row, 0, gap);
            row[gap] = word;
            System.arraycopy(now.ring.has, gap, row, gap + 1, places - gap);
            if (roadsReadAsNow(row, places + 1)) {
                bits |= 1 << gap;
            }
        }
        return bits;
    }

    public int pair(int one, int other) {
        if (!now.tongue.hasWord(one) || !now.tongue.hasWord(other)) {
            return refuse(NOBODY);
        }
        if (now.pairs.has(one, other)) {
            return refuse(STATE);
        }
        if (now.pairs.many >= MOST_PAIRS) {
            return refuse(ROOM);
        }
        return now.pairs.add(one, other);
    }

    public int every(int i) {
        if (i < -1) {
            return refuse(BELOW);
        }
        if (now.pairs.many == 0) {
            return refuse(STATE);
        }
        int places = chain.close(now.pairs) ? now.pairs.many : 0;
        if (i == -1) {
            return places;
        }
        return i < places ? chain.ring[i] : NONE;
    }

    public int stones() {
        return lacking(now.ring.has, now.ring.places);
    }

    public int made(int n) {
        if (n < 1) {
            return refuse(BELOW);
        }
        if (n > LONGEST_MADE) {
            return refuse(ROOM);
        }
        int many = 0;
        Rows.begin(row, n);
        for (int left = Rows.howMany(now.tongue.words, n); left > 0; left--) {
            if (lacking(row, n) == 0) {
                many++;
            }
            Rows.step(row, n, now.tongue.words);
        }
        return many;
    }

    public int towers(int n, int kind, int z) {
        if (n < 1) {
            return refuse(BELOW);
        }
        if (n > MOST_TOWERS) {
            return refuse(ROOM);
        }
        if (!isReader(kind)) {
            return refuse(OTHER);
        }
        int words = now.tongue.words;
        if (words < 1) {
            return refuse(STATE);
        }
        int many = 0;
        int seed = z;
        for (int tower = 0; tower < n; tower++) {
            for (int place = 0; place < TOWER_PLACES; place++) {
                seed = seed * 1664525 + 1013904223;
                row[place] = (seed & 0x7fffffff) / 256 % words;
            }
            if (now.tongue.oneMeaning(row, TOWER_PLACES, kind) != NO_SENSE) {
                many++;
            }
        }
        return many;
    }

    public int image() {
        kept.copyFrom(now);
        keeps = true;
        return now.tongue.words;
    }

    public int on() {
        if (!keeps) {
            return refuse(STATE);
        }
        now.copyFrom(kept);
        forgetTongue();
        return now.tongue.words;
    }

    public int count(int what) {
        switch (what) {
            case 0:
                return now.tongue.words;
            case 1:
                return now.tongue.roads;
            case 2:
                return now.ring.places;
            case 3:
                return now.ring.blanks();
            case 4:
                return now.pairs.many;
            case 5:
                return letters.many;
            case 6:
                return now.tongue.allStock();
            default:
                return what >= 11 && what <= 16 ? refused[what - 10] : NONE;
        }
    }

    private int refuse(int why) {
        int index = -why;
        if (index > 0 && index < refused.length) {
            refused[index]++;
        }
        return why;
    }

    /** What was found for a tongue, and for a ring by it, no longer holds. */
    private void forgetTongue() {
        for (int kind = 0; kind < READERS; kind++) {
            surveys[kind].known = false;
        }
        eachSearch.known = false;
        wornSearch.known = false;
    }

    private boolean isWordOrBlank(int word) {
        return word == BLANK || now.tongue.hasWord(word);
    }

    private static boolean isReader(int kind) {
        return kind >= 0 && kind < READERS;
    }

    private boolean isWorn() {
        int blanks = now.ring.blanks();
        return blanks >= 1 && blanks <= MOST_WORN;
    }

    private boolean roadsReadAsNow(int[] other, int places) {
        for (int road = 0; road < now.tongue.roads; road++) {
            int before = now.tongue.readByRoad(road, now.ring.has, now.ring.places);
            if (before != now.tongue.readByRoad(road, other, places)) {
                return false;
            }
        }
        return true;
    }

    /** The words, as bits, of which a ring takes more than the stock has. */
    private int lacking(int[] ring, int places) {
        Arrays.fill(tally, 0);
        int bits = 0;
        for (int place = 0; place < places; place++) {
            int word = ring[place];
            if (now.tongue.hasWord(word)) {
                tally[word]++;
                if (tally[word] > now.tongue.stocks[word]) {
                    bits |= 1 << word;
                }
            }
        }
        return bits;
    }

    /** All that an image keeps: what tongues have told, the ring and the pairs. */
    private static final class World {
        final Tongue tongue;
        final Ring ring;
        final Pairs pairs;

        World() {
            tongue = new Tongue();
            ring = new Ring();
            pairs = new Pairs();
        }

        void copyFrom(World other) {
            tongue.copyFrom(other.tongue);
            ring.copyFrom(other.ring);
            pairs.copyFrom(other.pairs);
        }
    }

    /** The letters that have come and are not yet a tongue; they wait outside of the image. */
    private static final class Letters {
        final int[] signs;
        int many;

        Letters() {
            signs = new int[MOST_LETTERS];
            many = 0;
        }

        int add(int sign) {
            if (many < MOST_LETTERS) {
                signs[many] = sign;
                many++;
            }
            return many;
        }

        /** The letter at a place, -1 (no letter at all) from the end on. */
        int signAt(int place) {
            return place >= 0 && place < many ? signs[place] : -1;
        }
    }

    /** The ring at hand. */
    private static final class Ring {
        final int[] has;
        int places;

        Ring() {
            has = new int[MOST_PLACES];
            places = 0;
        }

        void copyFrom(Ring other) {
            System.arraycopy(other.has, 0, has, 0, MOST_PLACES);
            places = other.places;
        }

        int add(int word) {
            if (places < MOST_PLACES) {
                has[places] = word;
                places++;
            }
            return places;
        }

        boolean hasPlace(int place) {
            return place >= 0 && place < places;
        }

        int toldAt(int place) {
            return has[place] == BLANK ? NONE : has[place];
        }

        int blanks() {
            int many = 0;
            for (int place = 0; place < places; place++) {
                if (has[place] == BLANK) {
                    many++;
                }
            }
            return many;
        }
    }

    /** The pairs told, in their order. */
    private static final class Pairs {
        final int[] ones;
        final int[] others;
        int many;

        Pairs() {
            ones = new int[MOST_PAIRS];
            others = new int[MOST_PAIRS];
            many = 0;
        }

        void copyFrom(Pairs pairs) {
            System.arraycopy(pairs.ones, 0, ones, 0, MOST_PAIRS);
            System.arraycopy(pairs.others, 0, others, 0, MOST_PAIRS);
            many = pairs.many;
        }

        int add(int one, int other) {
            if (many < MOST_PAIRS) {
                ones[many] = one;
                others[many] = other;
                many++;
            }
            return many;
        }

        boolean has(int one, int other) {
            for (int i = 0; i < many; i++) {
                if (ones[i] == one && others[i] == other) {
                    return true;
                }
            }
            return false;
        }
    }

    /** The words and roads told, and how rings are read by them. */
    private static final class Tongue {
        final int[] kinds;
        final int[] sets;
        final int[] weights;
        final int[] stocks;
        int words;
        final int[] readers;
        final int[] eighths;
        final int[] wishes;
        int roads;

        Tongue() {
            kinds = new int[MOST_WORDS];
            sets = new int[MOST_WORDS];
            weights = new int[MOST_WORDS];
            stocks = new int[MOST_WORDS];
            words = 0;
            readers = new int[MOST_ROADS];
            eighths = new int[MOST_ROADS];
            wishes = new int[MOST_ROADS];
            roads = 0;
        }

        void copyFrom(Tongue other) {
            System.arraycopy(other.kinds, 0, kinds, 0, MOST_WORDS);
            System.arraycopy(other.sets, 0, sets, 0, MOST_WORDS);
            System.arraycopy(other.weights, 0, weights, 0, MOST_WORDS);
            System.arraycopy(other.stocks, 0, stocks, 0, MOST_WORDS);
            words = other.words;
            System.arraycopy(other.readers, 0, readers, 0, MOST_ROADS);
            System.arraycopy(other.eighths, 0, eighths, 0, MOST_ROADS);
            System.arraycopy(other.wishes, 0, wishes, 0, MOST_ROADS);
            roads = other.roads;
        }

        boolean hasWord(int word) {
            return word >= 0 && word < words;
        }

        boolean hasRoad(int road) {
            return road >= 0 && road < roads;
        }

        boolean addWord(int kind, int set, int weight) {
            if (words >= MOST_WORDS || kind == VALUE && set >= SETS) {
                return false;
            }
            kinds[words] = kind;
            sets[words] = kind == VALUE ? set : NO_SENSE;
            weights[words] = weight;
            stocks[words] = 0;
            words++;
            return true;
        }

        boolean addRoad(int reader, int eighth, int wish) {
            if (roads >= MOST_ROADS || eighth > 7 || wish > NO_SENSE) {
                return false;
            }
            readers[roads] = reader;
            eighths[roads] = eighth;
            wishes[roads] = wish;
            roads++;
            return true;
        }

        boolean stock(int word, int many) {
            if (!hasWord(word)) {
                return false;
            }
            stocks[word] = many;
            return true;
        }

        int allStock() {
            int all = 0;
            for (int word = 0; word < words; word++) {
                all += stocks[word];
            }
            return all;
        }

        int beginOf(int road, int places) {
            return eighths[road] * places / 8;
        }

        int readByRoad(int road, int[] ring, int places) {
            return meaning(ring, places, beginOf(road, places), readers[road]);
        }

        /** The first road that does not read its wish. */
        int firstAgainst(int[] ring, int places) {
            for (int road = 0; road < roads; road++) {
                if (readByRoad(road, ring, places) != wishes[road]) {
                    return road;
                }
            }
            return NONE;
        }

        /** What a ring means from all its places, no sense if that is not one thing. */
        int oneMeaning(int[] ring, int places, int kind) {
            int one = meaning(ring, places, 0, kind);
            for (int place = 1; place < places && one != NO_SENSE; place++) {
                if (meaning(ring, places, place, kind) != one) {
                    one = NO_SENSE;
                }
            }
            return one;
        }

        int meaning(int[] ring, int places, int from, int kind) {
            if (places < 1 || places > ring.length || from < 0 || from >= places) {
                return NO_SENSE;
            }
            int stride = strideOf(kind, places);
            int place = from;
            // A first value joined to nothing is that value, so it needs no case of its own.
            int sum = 0;
            boolean meets = false;
            boolean begun = false;
            boolean stands = false;
            int flip = 0;
            for (int left = kind == HALF ? (places + 1) / 2 : places; left > 0; left--) {
                int word = ring[place];
                place += stride;
                if (place >= places) {
                    place -= places;
                }
                int part = hasWord(word) ? kinds[word] : END;
                if (part == END) {
                    if (kind == STOP && begun && word != BLANK) {
                        break;
                    }
                } else if (part == AND || part == OR) {
                    if (!stands) {
                        return NO_SENSE;
                    }
                    stands = false;
                    meets = part == AND;
                } else if (stands) {
                    return NO_SENSE;
                } else if (part == NOT) {
                    flip ^= ALL_THINGS;
                } else {
                    int value = sets[word] ^ flip;
                    sum = meets ? sum & value : sum | value;
                    flip = 0;
                    begun = true;
                    stands = true;
                }
            }
            return stands ? sum : NO_SENSE;
        }

        /** How far a reader goes from one place to the next, less than the places, if there are two or more. */
        private static int strideOf(int kind, int places) {
            if (kind == BACK) {
                return places - 1;
            }
            if (kind == DOUBLE) {
                return places < 1 ? 0 : 2 % places;
            }
            return 1;
        }
    }

    /** Makes letters into a tongue, statement by statement. */
    private static final class Teller {
        private static final char A_DIGIT = '9';
        private static final char ONE_OR_TWO_DIGITS = '#';
        private static final char A_READER = 'k';

        private final Tongue draft;
        private final int[] numbers;
        private int read;
        private int reader;
        private int lead;
        private int place;

        Teller() {
            draft = new Tongue();
            numbers = new int[2];
            read = 0;
            reader = 0;
            lead = 0;
            place = 0;
        }

        /** How many statements came, or the fault; the tongue grows by all of them or by none. */
        int tell(Letters text, Tongue tongue) {
            if (!hasForm(text)) {
                return -1000 - place;
            }
            // Faults are found late, so the tongue itself waits until there is none.
            draft.copyFrom(tongue);
            place = 0;
            int statements = 0;
            while (place < text.many && statements < MOST_LETTERS) {
                int begin = place;
                if (!takeStatement(text) || !addStatement()) {
                    return -2000 - begin;
                }
                statements++;
            }
            tongue.copyFrom(draft);
            return statements;
        }

        private boolean hasForm(Letters text) {
            place = 0;
            boolean formed = takeStatement(text);
            for (int i = 0; i < MOST_LETTERS && formed && place < text.many; i++) {
                formed = takeStatement(text);
            }
            return formed;
        }

        /** Goes over one statement; without one it stays at the letter that cannot be. */
        private boolean takeStatement(Letters text) {
            lead = text.signAt(place);
            read = 0;
            String form = formBehind(lead);
            if (form.isEmpty()) {
                return false;
            }
            place++;
            for (int i = 0; i < form.length(); i++) {
                if (!takePart(text, form.charAt(i))) {
                    return false;
                }
            }
            return true;
        }

        private static String formBehind(int lead) {
            switch (lead) {
                case 'v':
                    return "#,9;";
                case 'n':
                case 'a':
                case 'o':
                case 'e':
                    return "9;";
                case 'r':
                    return "k9,#;";
                case 's':
                    return "9,9;";
                default:
                    return "";
            }
        }

        private boolean takePart(Letters text, char part) {
            int sign = text.signAt(place);
            if (part == A_DIGIT || part == ONE_OR_TWO_DIGITS) {
                return takeNumber(text, part == ONE_OR_TWO_DIGITS);
            }
            if (part == A_READER) {
                reader = sign < 0 ? -1 : READER_LETTERS.indexOf((char) sign);
                if (reader < 0) {
                    return false;
                }
            } else if (sign != part) {
                return false;
            }
            place++;
            return true;
        }

        private boolean takeNumber(Letters text, boolean mayHaveTwo) {
            int sign = text.signAt(place);
            if (!isDigit(sign) || read >= numbers.length) {
                return false;
            }
            int number = sign - '0';
            place++;
            sign = text.signAt(place);
            if (mayHaveTwo && isDigit(sign)) {
                number = number * 10 + sign - '0';
                place++;
            }
            numbers[read] = number;
            read++;
            return true;
        }

        private static boolean isDigit(int sign) {
            return sign >= '0' && sign <= '9';
        }

        private boolean addStatement() {
            switch (lead) {
                case 'v':
                    return draft.addWord(VALUE, numbers[0], numbers[1]);
                case 'r':
                    return draft.addRoad(reader, numbers[0], numbers[1]);
                case 's':
                    return draft.stock(numbers[0], numbers[1]);
                default:
                    return draft.addWord(WORD_LETTERS.indexOf((char) lead), NO_SENSE, numbers[0]);
            }
        }
    }

    /** Rows of words gone through in order, the first place's word first. */
    private static final class Rows {
        static void begin(int[] row, int places) {
            for (int i = 0; i < places && i < row.length; i++) {
                row[i] = 0;
            }
        }

        static int howMany(int words, int places) {
            int many = 1;
            for (int i = 0; i < places; i++) {
                many *= words;
            }
            return many;
        }

        static void step(int[] row, int places, int words) {
            for (int i = places - 1; i >= 0 && i < row.length; i--) {
                row[i]++;
                if (row[i] < words) {
                    return;
                }
                row[i] = 0;
            }
        }

        /** Whether no turning of a ring comes ahead of it: just one of those turned into each other is so. */
        static boolean isFirstOfTurns(int[] row, int places) {
            for (int by = 1; by < places; by++) {
                if (turnComesAhead(row, places, by)) {
                    return false;
                }
            }
            return true;
        }

        private static boolean turnComesAhead(int[] row, int places, int by) {
            int turned = by;
            for (int i = 0; i < places; i++) {
                if (row[turned] != row[i]) {
                    return row[turned] < row[i];
                }
                turned++;
                if (turned == places) {
                    turned = 0;
                }
            }
            return false;
        }
    }

    /** What all short rings mean by one kind of reader, found once for a tongue. */
    private static final class Survey {
        final int kind;
        boolean known;
        final int[] fewest;
        final int[] firsts;
        final int[] counts;
        int said;
        final int[] saidWithout;
        private final int[] row;

        Survey(int reader) {
            kind = reader;
            known = false;
            fewest = new int[SETS];
            firsts = new int[SETS * LONGEST_RING];
            counts = new int[LONGEST_RING + 1];
            said = 0;
            saidWithout = new int[MOST_WORDS];
            row = new int[LONGEST_RING];
        }

        void look(Tongue tongue) {
            if (known) {
                return;
            }
            Arrays.fill(fewest, 0);
            Arrays.fill(counts, 0);
            Arrays.fill(saidWithout, 0);
            said = 0;
            for (int places = 1; places <= LONGEST_RING; places++) {
                lookAtAll(tongue, places);
            }
            known = true;
        }

        private void lookAtAll(Tongue tongue, int places) {
            Rows.begin(row, places);
            for (int left = Rows.howMany(tongue.words, places); left > 0; left--) {
                // A turned ring means the same from all places, so the first of the turns stands for them.
                if (Rows.isFirstOfTurns(row, places)) {
                    int set = tongue.oneMeaning(row, places, kind);
                    if (set != NO_SENSE) {
                        note(set, places, tongue.words);
                    }
                }
                Rows.step(row, places, tongue.words);
            }
        }

        private void note(int set, int places, int words) {
            counts[places]++;
            if (fewest[set] == 0) {
                fewest[set] = places;
                System.arraycopy(row, 0, firsts, set * LONGEST_RING, places);
            }
            if (places <= LONGEST_SAYABLE) {
                said |= 1 << set;
                noteWithout(set, places, words);
            }
        }

        private void noteWithout(int set, int places, int words) {
            int used = 0;
            for (int i = 0; i < places; i++) {
                used |= 1 << row[i];
            }
            for (int word = 0; word < words; word++) {
                if ((used >> word & 1) == 0) {
                    saidWithout[word] |= 1 << set;
                }
            }
        }
    }

    /** The first of the shortest rings that read to all roads their wishes, found once for a tongue. */
    private static final class EachSearch {
        boolean known;
        int places;
        final int[] ring;

        EachSearch() {
            known = false;
            places = 0;
            ring = new int[LONGEST_RING];
        }

        void seek(Tongue tongue) {
            if (known) {
                return;
            }
            places = 0;
            for (int n = 1; n <= LONGEST_RING && places == 0; n++) {
                if (findsRing(tongue, n)) {
                    places = n;
                }
            }
            known = true;
        }

        private boolean findsRing(Tongue tongue, int n) {
            Rows.begin(ring, n);
            for (int left = Rows.howMany(tongue.words, n); left > 0; left--) {
                if (tongue.firstAgainst(ring, n) == NONE) {
                    return true;
                }
                Rows.step(ring, n, tongue.words);
            }
            return false;
        }
    }

    /** What a worn ring can have been, found once for a tongue and a ring. */
    private static final class WornSearch {
        boolean known;
        int blanks;
        int many;
        int best;
        final int[] bestFill;
        final int[] seen;
        private final int[] whole;
        private final int[] holes;
        private final int[] fill;

        WornSearch() {
            known = false;
            blanks = 0;
            many = 0;
            best = NONE;
            bestFill = new int[MOST_WORN];
            seen = new int[MOST_PLACES];
            whole = new int[MOST_PLACES];
            holes = new int[MOST_WORN];
            fill = new int[MOST_WORN];
        }

        void seek(Tongue tongue, Ring ring) {
            if (known) {
                return;
            }
            many = 0;
            best = NONE;
            Arrays.fill(seen, 0);
            findHoles(ring);
            Rows.begin(fill, blanks);
            for (int left = Rows.howMany(tongue.words, blanks); left > 0; left--) {
                for (int i = 0; i < blanks; i++) {
                    whole[holes[i]] = fill[i];
                }
                if (tongue.firstAgainst(whole, ring.places) == NONE) {
                    note(tongue, ring.places);
                }
                Rows.step(fill, blanks, tongue.words);
            }
            known = true;
        }

        private void findHoles(Ring ring) {
            blanks = 0;
            for (int place = 0; place < ring.places; place++) {
                whole[place] = ring.has[place];
                if (ring.has[place] == BLANK && blanks < MOST_WORN) {
                    holes[blanks] = place;
                    blanks++;
                }
            }
        }

        private void note(Tongue tongue, int places) {
            many++;
            for (int place = 0; place < places; place++) {
                seen[place] |= 1 << whole[place];
            }
            int product = 1;
            for (int i = 0; i < blanks; i++) {
                product *= tongue.weights[fill[i]];
            }
            if (product > best) {
                best = product;
                System.arraycopy(fill, 0, bestFill, 0, blanks);
            }
        }
    }

    /** Joins the told pairs into a ring in which each comes just once. */
    private static final class Chain {
        final int[] ring;
        private final int[] behind;

        Chain() {
            ring = new int[MOST_PAIRS];
            behind = new int[MOST_WORDS];
        }

        /** Whether there is such a ring; it is then the first that begins with the first pair. */
        boolean close(Pairs pairs) {
            if (pairs.many < 1 || !isBalanced(pairs)) {
                return false;
            }
            Arrays.fill(behind, 0);
            for (int i = 1; i < pairs.many; i++) {
                behind[pairs.ones[i]] |= 1 << pairs.others[i];
            }
            ring[0] = pairs.ones[0];
            return goesOn(ring, behind, pairs.others[0], 1, pairs.many);
        }

        /** A ring leaves each word as often as it comes to it; without that no search is worth its time. */
        private boolean isBalanced(Pairs pairs) {
            Arrays.fill(behind, 0);
            for (int i = 0; i < pairs.many; i++) {
                behind[pairs.ones[i]]++;
                behind[pairs.others[i]]--;
            }
            for (int word = 0; word < MOST_WORDS; word++) {
                if (behind[word] != 0) {
                    return false;
                }
            }
            return true;
        }

        /** Whether a ring begun can be closed; each call goes one place on, so twelve at most stand open. */
        private static boolean goesOn(int[] ring, int[] behind, int word, int place, int places) {
            if (place >= places || place >= MOST_PAIRS) {
                return word == ring[0];
            }
            ring[place] = word;
            for (int next = 0; next < MOST_WORDS; next++) {
                if ((behind[word] >> next & 1) == 1) {
                    behind[word] ^= 1 << next;
                    if (goesOn(ring, behind, next, place + 1, places)) {
                        return true;
                    }
                    behind[word] ^= 1 << next;
                }
            }
            return false;
        }
    }
}
