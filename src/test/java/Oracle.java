import java.util.ArrayList;
import java.util.Collections;
import java.util.HashMap;
import java.util.HashSet;
import java.util.List;
import java.util.Map;
import java.util.Set;
import java.util.regex.Matcher;
import java.util.regex.Pattern;

/** A second, slow program of the document, written from its words by texts, lists and sets. */
final class Oracle {
    private static final String STATEMENT = "v\\d{1,2},\\d;|[naoe]\\d;|r[rbsdh]\\d,\\d{1,2};|s\\d,\\d;";
    private static final Pattern TEXT = Pattern.compile("(?:" + STATEMENT + ")+");
    private static final Pattern SENSE = Pattern.compile("N*V(?:[AO]N*V)*");

    /** What an image keeps. */
    private static final class State {
        List<int[]> words = new ArrayList<>(); // kind, set, weight, stock
        List<int[]> roads = new ArrayList<>(); // kind, eighth, wish
        List<Integer> ring = new ArrayList<>();
        List<List<Integer>> pairs = new ArrayList<>();

        State copy() {
            State other = new State();
            for (int[] word : words) {
                other.words.add(word.clone());
            }
            for (int[] road : roads) {
                other.roads.add(road.clone());
            }
            other.ring.addAll(ring);
            other.pairs.addAll(pairs);
            return other;
        }
    }

    private String letters = "";
    private State now = new State();
    private State image = null;
    private final Map<Integer, Integer> refusals = new HashMap<>();
    private final Map<String, List<List<Integer>>> sameRings = new HashMap<>();

    int call(String name, int... a) {
        int answer = answer(name, a);
        boolean refused = answer < 0 && answer >= -6 && !name.equals("count");
        if (refused) {
            refusals.merge(answer, 1, Integer::sum);
        }
        return answer;
    }

    private int answer(String name, int[] a) {
        switch (name) {
            case "letter": return letter(a[0]);
            case "tongue": return tongue();
            case "word": return noWord(a[0]) ? -1 : a[1] < 0 || a[1] > 3 ? -2 : now.words.get(a[0])[a[1]];
            case "road": return road(a[0], a[1]);
            case "stone": return stone(a[0]);
            case "put": return put(a[0], a[1]);
            case "turn": return turn(a[0]);
            case "bare": return bare();
            case "at": return noPlace(a[0]) ? -1 : told(now.ring.get(a[0]));
            case "reads": return noPlace(a[0]) ? -1 : noKind(a[1]) ? -2 : read(now.ring, a[0], a[1]);
            case "same": return noKind(a[0]) ? -2 : meansOne(now.ring, a[0]) == 16 ? 0 : 1;
            case "says": return says(a[0]);
            case "judge": return now.ring.isEmpty() ? -3 : judge(now.ring);
            case "shortest": return shortest(a[0], a[1], a[2]);
            case "each": return each(a[0]);
            case "rings": return rings(a[0], a[1]);
            case "sayable": return noKind(a[0]) ? -2 : sayable(a[0], -1);
            case "needed": return needed();
            case "worn": return worn(a[0]);
            case "likeliest": return likeliest(a[0]);
            case "sure": return sure(a[0]);
            case "safe": return safe(a[0]);
            case "pair": return pair(a[0], a[1]);
            case "every": return every(a[0]);
            case "stones": return lacking(now.ring);
            case "made": return made(a[0]);
            case "towers": return towers(a[0], a[1], a[2]);
            case "image": image = now.copy(); return now.words.size();
            case "on": return on();
            case "count": return count(a[0]);
            default: throw new IllegalArgumentException(name);
        }
    }

    private boolean noWord(int word) {
        return word < 0 || word >= now.words.size();
    }

    private boolean noPlace(int place) {
        return place < 0 || place >= now.ring.size();
    }

    private static boolean noKind(int kind) {
        return kind < 0 || kind > 4;
    }

    private static int told(int word) {
        return word == -1 ? -9 : word;
    }

    private int letter(int c) {
        if (c < 0) {
            return -4;
        }
        if (c > 255 || letters.length() == 64) {
            return -6;
        }
        letters += (char) c;
        return letters.length();
    }

    private int tongue() {
        String text = letters;
        letters = "";
        for (int k = 1; k <= text.length(); k++) {
            Matcher matcher = TEXT.matcher(text.substring(0, k));
            if (!matcher.matches() && !matcher.hitEnd()) {
                return -1000 - (k - 1);
            }
        }
        if (!TEXT.matcher(text).matches()) {
            return -1000 - text.length();
        }
        State draft = now.copy();
        int many = 0;
        Matcher matcher = Pattern.compile(STATEMENT).matcher(text);
        while (matcher.find()) {
            many++;
            if (!comes(draft, matcher.group())) {
                return -2000 - matcher.start();
            }
        }
        now = draft;
        return many;
    }

    private static boolean comes(State draft, String statement) {
        String inside = statement.substring(1, statement.length() - 1);
        switch (statement.charAt(0)) {
            case 'v': {
                String[] parts = inside.split(",");
                int set = Integer.parseInt(parts[0]);
                draft.words.add(new int[] {0, set, Integer.parseInt(parts[1]), 0});
                return set <= 15 && draft.words.size() <= 6;
            }
            case 'r': {
                String[] parts = inside.substring(1).split(",");
                int kind = "rbsdh".indexOf(inside.charAt(0));
                int eighth = Integer.parseInt(parts[0]);
                int wish = Integer.parseInt(parts[1]);
                draft.roads.add(new int[] {kind, eighth, wish});
                return eighth <= 7 && wish <= 16 && draft.roads.size() <= 6;
            }
            case 's': {
                String[] parts = inside.split(",");
                int word = Integer.parseInt(parts[0]);
                if (word >= draft.words.size()) {
                    return false;
                }
                draft.words.get(word)[3] = Integer.parseInt(parts[1]);
                return true;
            }
            default: {
                int kind = "vnaoe".indexOf(statement.charAt(0));
                draft.words.add(new int[] {kind, 16, Integer.parseInt(inside), 0});
                return draft.words.size() <= 6;
            }
        }
    }

    private int road(int road, int what) {
        if (road < 0 || road >= now.roads.size()) {
            return -1;
        }
        if (what < 0 || what > 4) {
            return -2;
        }
        int[] parts = now.roads.get(road);
        if (what < 3) {
            return parts[what];
        }
        if (now.ring.isEmpty()) {
            return what == 3 ? -9 : 16;
        }
        return what == 3 ? parts[1] * now.ring.size() / 8 : readByRoad(now.ring, road);
    }

    private int stone(int word) {
        if (word != -1 && noWord(word)) {
            return -1;
        }
        if (now.ring.size() == 12) {
            return -6;
        }
        now.ring.add(word);
        return now.ring.size();
    }

    private int put(int place, int word) {
        if (noPlace(place) || word != -1 && noWord(word)) {
            return -1;
        }
        return told(now.ring.set(place, word));
    }

    private int turn(int by) {
        if (by < 0) {
            return -4;
        }
        if (by > 11) {
            return -6;
        }
        if (now.ring.isEmpty()) {
            return -3;
        }
        Collections.rotate(now.ring, -by);
        return now.ring.size();
    }

    private int bare() {
        int had = now.ring.size();
        now.ring.clear();
        return had;
    }

    /** The words that a reader meets, one by one, blanks left out. */
    private List<Integer> reading(List<Integer> ring, int from, int kind) {
        int n = ring.size();
        List<Integer> places = new ArrayList<>();
        for (int i = 0; i < n; i++) {
            int step = kind == 1 ? -i : kind == 3 ? 2 * i : i;
            places.add(Math.floorMod(from + step, n));
        }
        if (kind == 4) {
            places = places.subList(0, n - n / 2);
        }
        List<Integer> met = new ArrayList<>();
        boolean value = false;
        for (int place : places) {
            int word = ring.get(place);
            if (word == -1) {
                continue;
            }
            met.add(word);
            int what = now.words.get(word)[0];
            value |= what == 0;
            if (kind == 2 && what == 4 && value) {
                break;
            }
        }
        return met;
    }

    private int read(List<Integer> ring, int from, int kind) {
        StringBuilder shape = new StringBuilder();
        List<Integer> rest = new ArrayList<>();
        for (int word : reading(ring, from, kind)) {
            int what = now.words.get(word)[0];
            if (what != 4) {
                shape.append("VNAO".charAt(what));
                rest.add(word);
            }
        }
        if (!SENSE.matcher(shape).matches()) {
            return 16;
        }
        int sum = -1;
        char between = ' ';
        int nots = 0;
        for (int i = 0; i < rest.size(); i++) {
            char sign = shape.charAt(i);
            if (sign == 'N') {
                nots++;
            } else if (sign == 'V') {
                int set = now.words.get(rest.get(i))[1];
                set = nots % 2 == 1 ? 15 - set : set;
                nots = 0;
                sum = between == ' ' ? set : between == 'A' ? sum & set : sum | set;
            } else {
                between = sign;
            }
        }
        return sum;
    }

    private int readByRoad(List<Integer> ring, int road) {
        int[] parts = now.roads.get(road);
        return read(ring, parts[1] * ring.size() / 8, parts[0]);
    }

    private int meansOne(List<Integer> ring, int kind) {
        Set<Integer> meant = new HashSet<>();
        for (int place = 0; place < ring.size(); place++) {
            meant.add(read(ring, place, kind));
        }
        return meant.size() == 1 ? meant.iterator().next() : 16;
    }

    private int says(int kind) {
        if (noKind(kind)) {
            return -2;
        }
        int bits = 0;
        for (int place = 0; place < now.ring.size(); place++) {
            bits |= 1 << read(now.ring, place, kind);
        }
        return bits;
    }

    private int judge(List<Integer> ring) {
        for (int road = 0; road < now.roads.size(); road++) {
            if (readByRoad(ring, road) != now.roads.get(road)[2]) {
                return road;
            }
        }
        return -9;
    }

    /** All rings of n places in their order. */
    private List<List<Integer>> allRings(int n) {
        List<List<Integer>> all = new ArrayList<>();
        all.add(List.of());
        for (int i = 0; i < n; i++) {
            List<List<Integer>> longer = new ArrayList<>();
            for (List<Integer> begin : all) {
                for (int word = 0; word < now.words.size(); word++) {
                    List<Integer> next = new ArrayList<>(begin);
                    next.add(word);
                    longer.add(next);
                }
            }
            all = longer;
        }
        return all;
    }

    /** The rings of n places that mean one thing, in their order; kept, for they are dear to find. */
    private List<List<Integer>> ringsThatMeanOne(int n, int kind) {
        StringBuilder key = new StringBuilder().append(n).append(':').append(kind);
        for (int[] word : now.words) {
            key.append(' ').append(word[0]).append(',').append(word[1]);
        }
        return sameRings.computeIfAbsent(key.toString(), k -> {
            List<List<Integer>> found = new ArrayList<>();
            for (List<Integer> ring : allRings(n)) {
                if (meansOne(ring, kind) != 16) {
                    found.add(ring);
                }
            }
            return found;
        });
    }

    private int shortest(int set, int kind, int i) {
        if (set < 0 || set > 15) {
            return -1;
        }
        if (noKind(kind)) {
            return -2;
        }
        if (i < -1) {
            return -4;
        }
        for (int n = 1; n <= 5; n++) {
            for (List<Integer> ring : ringsThatMeanOne(n, kind)) {
                if (meansOne(ring, kind) == set) {
                    return part(ring, i);
                }
            }
        }
        return -9;
    }

    private static int part(List<Integer> ring, int i) {
        return i == -1 ? ring.size() : i < ring.size() ? ring.get(i) : -9;
    }

    private int each(int i) {
        if (i < -1) {
            return -4;
        }
        for (int n = 1; n <= 5; n++) {
            for (List<Integer> ring : allRings(n)) {
                if (judge(ring) == -9) {
                    return part(ring, i);
                }
            }
        }
        return -9;
    }

    private int rings(int n, int kind) {
        if (n < 1) {
            return -4;
        }
        if (n > 5) {
            return -6;
        }
        if (noKind(kind)) {
            return -2;
        }
        Set<List<Integer>> turned = new HashSet<>();
        int many = 0;
        for (List<Integer> ring : ringsThatMeanOne(n, kind)) {
            if (turned.contains(ring)) {
                continue;
            }
            many++;
            for (int by = 0; by < n; by++) {
                List<Integer> other = new ArrayList<>(ring);
                Collections.rotate(other, by);
                turned.add(other);
            }
        }
        return many;
    }

    private int sayable(int kind, int without) {
        int bits = 0;
        for (int n = 1; n <= 4; n++) {
            for (List<Integer> ring : ringsThatMeanOne(n, kind)) {
                if (!ring.contains(without)) {
                    bits |= 1 << meansOne(ring, kind);
                }
            }
        }
        return bits;
    }

    private int needed() {
        int bits = 0;
        for (int word = 0; word < now.words.size(); word++) {
            if (sayable(0, word) != sayable(0, -1)) {
                bits |= 1 << word;
            }
        }
        return bits;
    }

    private boolean isNotWorn() {
        int blanks = Collections.frequency(now.ring, -1);
        return blanks < 1 || blanks > 4;
    }

    /** All that the ring can have been, each as a whole ring. */
    private List<List<Integer>> wholeRings() {
        List<List<Integer>> found = new ArrayList<>();
        for (List<Integer> fill : allRings(Collections.frequency(now.ring, -1))) {
            List<Integer> ring = new ArrayList<>(now.ring);
            for (int word : fill) {
                ring.set(ring.indexOf(-1), word);
            }
            if (judge(ring) == -9) {
                found.add(ring);
            }
        }
        return found;
    }

    private int product(List<Integer> ring) {
        int product = 1;
        for (int word : filled(ring)) {
            product *= now.words.get(word)[2];
        }
        return product;
    }

    private List<Integer> filled(List<Integer> ring) {
        List<Integer> words = new ArrayList<>();
        for (int place = 0; place < ring.size(); place++) {
            if (now.ring.get(place) == -1) {
                words.add(ring.get(place));
            }
        }
        return words;
    }

    private List<Integer> likeliestRing() {
        List<Integer> best = null;
        for (List<Integer> ring : wholeRings()) {
            if (best == null || product(ring) > product(best)) {
                best = ring;
            }
        }
        return best;
    }

    private int worn(int what) {
        if (what < 0 || what > 1) {
            return -2;
        }
        if (isNotWorn()) {
            return -3;
        }
        List<Integer> best = likeliestRing();
        return what == 0 ? wholeRings().size() : best == null ? -9 : product(best);
    }

    private int likeliest(int i) {
        if (i < 0) {
            return -4;
        }
        if (isNotWorn()) {
            return -3;
        }
        List<Integer> best = likeliestRing();
        return best == null ? -9 : part(filled(best), i);
    }

    private int sure(int place) {
        if (noPlace(place)) {
            return -1;
        }
        if (isNotWorn()) {
            return -3;
        }
        int bits = 0;
        for (List<Integer> ring : wholeRings()) {
            bits |= 1 << ring.get(place);
        }
        return bits;
    }

    private int safe(int word) {
        if (noWord(word)) {
            return -1;
        }
        if (now.ring.size() == 12) {
            return -6;
        }
        if (now.ring.isEmpty()) {
            return -3;
        }
        int bits = 0;
        for (int gap = 0; gap <= now.ring.size(); gap++) {
            List<Integer> ring = new ArrayList<>(now.ring);
            ring.add(gap, word);
            boolean as = true;
            for (int road = 0; road < now.roads.size(); road++) {
                as &= readByRoad(ring, road) == readByRoad(now.ring, road);
            }
            bits |= as ? 1 << gap : 0;
        }
        return bits;
    }

    private int pair(int one, int other) {
        if (noWord(one) || noWord(other)) {
            return -1;
        }
        if (now.pairs.contains(List.of(one, other))) {
            return -3;
        }
        if (now.pairs.size() == 12) {
            return -6;
        }
        now.pairs.add(List.of(one, other));
        return now.pairs.size();
    }

    private int every(int i) {
        if (i < -1) {
            return -4;
        }
        if (now.pairs.isEmpty()) {
            return -3;
        }
        List<List<Integer>> found = new ArrayList<>();
        chains(new ArrayList<>(List.of(now.pairs.get(0))), found);
        if (found.isEmpty()) {
            return i == -1 ? 0 : -9;
        }
        found.sort((one, other) -> one.toString().compareTo(other.toString()));
        return part(found.get(0), i);
    }

    /** All rows of the pairs, each once, in which each begins with what the one ahead ends with, as rings. */
    private void chains(List<List<Integer>> row, List<List<Integer>> found) {
        int last = row.get(row.size() - 1).get(1);
        if (row.size() == now.pairs.size()) {
            if (last == row.get(0).get(0)) {
                List<Integer> ring = new ArrayList<>();
                for (List<Integer> pair : row) {
                    ring.add(pair.get(0));
                }
                found.add(ring);
            }
            return;
        }
        for (List<Integer> pair : now.pairs) {
            if (pair.get(0) == last && !row.contains(pair)) {
                row.add(pair);
                chains(row, found);
                row.remove(row.size() - 1);
            }
        }
    }

    private int lacking(List<Integer> ring) {
        int bits = 0;
        for (int word = 0; word < now.words.size(); word++) {
            if (Collections.frequency(ring, word) > now.words.get(word)[3]) {
                bits |= 1 << word;
            }
        }
        return bits;
    }

    private int made(int n) {
        if (n < 1) {
            return -4;
        }
        if (n > 4) {
            return -6;
        }
        int many = 0;
        for (List<Integer> ring : allRings(n)) {
            many += lacking(ring) == 0 ? 1 : 0;
        }
        return many;
    }

    private int towers(int n, int kind, int z) {
        if (n < 1) {
            return -4;
        }
        if (n > 30) {
            return -6;
        }
        if (noKind(kind)) {
            return -2;
        }
        if (now.words.isEmpty()) {
            return -3;
        }
        long seed = z & 0xffffffffL;
        int many = 0;
        for (int tower = 0; tower < n; tower++) {
            List<Integer> ring = new ArrayList<>();
            for (int place = 0; place < 6; place++) {
                seed = (seed * 1664525L + 1013904223L) % 4294967296L;
                ring.add((int) (seed % 2147483648L / 256 % now.words.size()));
            }
            many += meansOne(ring, kind) != 16 ? 1 : 0;
        }
        return many;
    }

    private int on() {
        if (image == null) {
            return -3;
        }
        now = image.copy();
        return now.words.size();
    }

    private int count(int what) {
        int stock = 0;
        for (int[] word : now.words) {
            stock += word[3];
        }
        int[] counts = {now.words.size(), now.roads.size(), now.ring.size(), Collections.frequency(now.ring, -1),
            now.pairs.size(), letters.length(), stock};
        if (what >= 0 && what < counts.length) {
            return counts[what];
        }
        return what >= 11 && what <= 16 ? refusals.getOrDefault(10 - what, 0) : -9;
    }
}
