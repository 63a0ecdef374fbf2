import java.util.ArrayDeque;
import java.util.ArrayList;
import java.util.Deque;
import java.util.List;
import java.util.regex.Pattern;

/**
 * The document once more, written the slow way with texts and lists and nothing of ChordDesk's own ways,
 * so that the two can be held against each other.
 */
final class PlainDesk {
    private static final String LETTERS = "STPHAOEUFRBG";

    private record Entry(List<Integer> outline, String word) {
    }

    private record Item(List<Integer> strokes, Entry entry, String text) {
    }

    /** Never changed once it is made: a change makes another one. */
    private record State(List<Entry> dictionary, List<Item> fixed, List<Item> open, int window) {
        List<Item> items() {
            return joined(fixed, open);
        }

        List<Integer> openStrokes() {
            return strokesOf(open);
        }

        List<Integer> strokes() {
            return strokesOf(items());
        }
    }

    private State now = new State(List.of(), List.of(), List.of(), 8);
    private final Deque<State> saved = new ArrayDeque<>();
    private String buffer = "";

    private static <T> List<T> joined(List<T> one, List<T> two) {
        List<T> both = new ArrayList<>(one);
        both.addAll(two);
        return both;
    }

    private static List<Integer> strokesOf(List<Item> items) {
        List<Integer> strokes = new ArrayList<>();
        for (Item item : items) {
            strokes.addAll(item.strokes);
        }
        return strokes;
    }

    private static String lettersOf(int keys) {
        StringBuilder text = new StringBuilder();
        for (int key = 0; key < 12; key++) {
            if ((keys & 1 << key) != 0) {
                text.append(LETTERS.charAt(key));
            }
        }
        return text.toString();
    }

    private static boolean begins(List<Integer> strokes, List<Integer> with) {
        return with.size() <= strokes.size() && strokes.subList(0, with.size()).equals(with);
    }

    private static List<Item> translated(List<Entry> dictionary, List<Integer> strokes) {
        List<Item> items = new ArrayList<>();
        List<Integer> rest = strokes;
        while (!rest.isEmpty()) {
            Entry longest = null;
            for (Entry entry : dictionary) {
                if (begins(rest, entry.outline) && (longest == null || entry.outline.size() > longest.outline.size())) {
                    longest = entry;
                }
            }
            int length = longest == null ? 1 : longest.outline.size();
            String text = longest == null ? lettersOf(rest.get(0)) : longest.word;
            items.add(new Item(List.copyOf(rest.subList(0, length)), longest, text));
            rest = rest.subList(length, rest.size());
        }
        return items;
    }

    private static State settled(List<Entry> dictionary, List<Item> fixed, List<Integer> openStrokes, int window) {
        List<Item> done = new ArrayList<>(fixed);
        List<Item> open = new ArrayList<>(translated(dictionary, openStrokes));
        while (strokesOf(open).size() > window) {
            Item first = open.remove(0);
            done.add(new Item(first.strokes, null, first.text));
        }
        return new State(dictionary, done, open, window);
    }

    private void become(State state) {
        saved.addLast(now);
        if (saved.size() > 8) {
            saved.removeFirst();
        }
        now = state;
    }

    int stroke(int keys) {
        if (keys < 1 || keys > 4095) {
            throw new IllegalArgumentException();
        }
        if (now.strokes().size() == 60) {
            throw new IllegalStateException();
        }
        become(withStroke(keys));
        return now.items().size();
    }

    private State withStroke(int keys) {
        return settled(now.dictionary, now.fixed, joined(now.openStrokes(), List.of(keys)), now.window);
    }

    int takeBack() {
        List<Integer> strokes = now.strokes();
        if (strokes.isEmpty()) {
            throw new IllegalStateException();
        }
        List<Item> fixed = new ArrayList<>(now.fixed);
        List<Integer> open = now.openStrokes();
        if (open.isEmpty()) {
            open = fixed.remove(fixed.size() - 1).strokes;
        }
        become(settled(now.dictionary, fixed, open.subList(0, open.size() - 1), now.window));
        return strokes.get(strokes.size() - 1);
    }

    int fixAll() {
        int open = now.open.size();
        State none = settled(now.dictionary, now.fixed, now.openStrokes(), 0);
        become(new State(none.dictionary, none.fixed, none.open, now.window));
        return open;
    }

    int setWindow(int window) {
        if (window < 0 || window > 30) {
            throw new IllegalArgumentException();
        }
        int previous = now.window;
        become(settled(now.dictionary, now.fixed, now.openStrokes(), window));
        return previous;
    }

    private Entry entryAt(int number) {
        if (number < 0 || number >= now.dictionary.size()) {
            throw new IndexOutOfBoundsException();
        }
        return now.dictionary.get(number);
    }

    private State withDictionary(List<Entry> dictionary) {
        return settled(dictionary, now.fixed, now.openStrokes(), now.window);
    }

    private State without(int entry) {
        entryAt(entry);
        List<Entry> dictionary = new ArrayList<>(now.dictionary);
        dictionary.remove(entry);
        return withDictionary(dictionary);
    }

    int removeEntry(int entry) {
        become(without(entry));
        return now.items().size();
    }

    int renameEntry(int entry, int of) {
        List<Entry> dictionary = new ArrayList<>(now.dictionary);
        dictionary.set(dictionary.indexOf(entryAt(entry)), new Entry(entryAt(entry).outline, entryAt(of).word));
        List<Item> before = now.open;
        become(withDictionary(dictionary));
        int others = 0;
        for (int item = 0; item < before.size(); item++) {
            others += before.get(item).text.equals(now.open.get(item).text) ? 0 : 1;
        }
        return others;
    }

    int learn(int from, int to) {
        int items = now.items().size();
        if (from < 0 || from >= items || to < 0 || to >= items) {
            throw new IndexOutOfBoundsException();
        }
        if (from > to || strokesOf(now.items().subList(from, to + 1)).size() > 4) {
            throw new IllegalArgumentException();
        }
        StringBuilder text = new StringBuilder();
        for (Item item : now.items().subList(from, to + 1)) {
            text.append(item.text.toLowerCase());
        }
        text.setLength(Math.min(8, text.length()));
        List<Integer> outline = strokesOf(now.items().subList(from, to + 1));
        List<Entry> dictionary = joined(now.dictionary, List.of(new Entry(outline, text.toString())));
        if (!isGood(dictionary)) {
            throw new IllegalStateException();
        }
        become(withDictionary(dictionary));
        return dictionary.size() - 1;
    }

    private static boolean isGood(List<Entry> dictionary) {
        return dictionary.size() <= 24
            && dictionary.stream().map(Entry::outline).distinct().count() == dictionary.size();
    }

    /** The word of an entry, for runs that write with the dictionary's words. */
    String wordOf(int number) {
        return entryAt(number).word;
    }

    int append(int code) {
        if (code < 33 || code > 126) {
            throw new IllegalArgumentException();
        }
        if (buffer.length() == 60) {
            throw new IllegalStateException();
        }
        buffer += (char) code;
        return buffer.length();
    }

    int clearBuffer() {
        int length = buffer.length();
        buffer = "";
        return length;
    }

    private static final String STROKE = "(?=[A-Z])S?T?P?H?A?O?E?U?F?R?B?G?";
    private static final String ENTRY = STROKE + "(/" + STROKE + "){0,3}=[a-z]{1,8}";
    private static final Pattern WHOLE = Pattern.compile(ENTRY + "(;" + ENTRY + ")*");
    private static final String[] ENDINGS = {"", "S", "=a", "S=a", "a"};

    private static boolean isList(String text) {
        return WHOLE.matcher(text).matches();
    }

    /** A beginning of a list becomes a list by one of a few endings. */
    private static boolean beginsList(String text) {
        for (String ending : ENDINGS) {
            if (isList(text + ending)) {
                return true;
            }
        }
        return false;
    }

    int firstError() {
        for (int length = 1; length <= buffer.length(); length++) {
            if (!beginsList(buffer.substring(0, length))) {
                return length - 1;
            }
        }
        return buffer.length();
    }

    int load() {
        if (!isList(buffer)) {
            throw new IllegalArgumentException();
        }
        List<Entry> dictionary = new ArrayList<>(now.dictionary);
        for (String text : buffer.split(";")) {
            String[] sides = text.split("=");
            List<Integer> outline = new ArrayList<>();
            for (String stroke : sides[0].split("/")) {
                outline.add(stroke.chars().map(letter -> 1 << LETTERS.indexOf(letter)).sum());
            }
            dictionary.add(new Entry(outline, sides[1]));
        }
        if (!isGood(dictionary)) {
            throw new IllegalStateException();
        }
        become(withDictionary(dictionary));
        buffer = "";
        return dictionary.size();
    }

    int undo() {
        if (saved.isEmpty()) {
            throw new IllegalStateException();
        }
        now = saved.removeLast();
        return saved.size();
    }

    int strokeAt(int number, int what) {
        return pick(strokeValues(number), what);
    }

    private List<Integer> strokeValues(int number) {
        List<Integer> strokes = now.strokes();
        if (number < 0 || number >= strokes.size()) {
            throw new IndexOutOfBoundsException();
        }
        int keys = strokes.get(number);
        int item = 0;
        int end = 0;
        for (Item one : now.items()) {
            end += one.strokes.size();
            item += end <= number ? 1 : 0;
        }
        return List.of(keys, lettersOf(keys).length(), item);
    }

    private static int pick(List<Integer> values, int what) {
        if (what < 0 || what >= values.size()) {
            throw new IllegalArgumentException();
        }
        return values.get(what);
    }

    int item(int number, int what) {
        return pick(itemValues(number), what);
    }

    private List<Integer> itemValues(int number) {
        List<Item> items = now.items();
        if (number < 0 || number >= items.size()) {
            throw new IndexOutOfBoundsException();
        }
        Item item = items.get(number);
        List<Integer> values = new ArrayList<>();
        values.add(strokesOf(items.subList(0, number)).size());
        values.add(item.strokes.size());
        values.add(item.entry == null ? -1 : now.dictionary.indexOf(item.entry));
        values.add(number < now.fixed.size() ? 1 : 0);
        values.add(item.text.length());
        item.text.chars().forEach(values::add);
        return values;
    }

    int entry(int number, int what) {
        return pick(entryValues(number), what);
    }

    private List<Integer> entryValues(int number) {
        Entry entry = entryAt(number);
        List<Integer> values = new ArrayList<>();
        values.add(entry.outline.size());
        for (int place = 0; place < 4; place++) {
            values.add(place < entry.outline.size() ? entry.outline.get(place) : -1);
        }
        values.add(entry.word.length());
        values.add(clashOf(entry));
        values.add((int) now.open.stream().filter(item -> entry.equals(item.entry)).count());
        for (int place = 0; place < 8; place++) {
            values.add(place < entry.word.length() ? entry.word.charAt(place) : -1);
        }
        return values;
    }

    private int clashOf(Entry entry) {
        int clash = 9;
        for (Entry one : now.dictionary) {
            if (one.outline.size() > entry.outline.size() && begins(one.outline, entry.outline)) {
                clash = Math.min(clash, 1);
            }
            for (Entry two : now.dictionary) {
                if (begins(entry.outline, one.outline)
                    && entry.outline.subList(one.outline.size(), entry.outline.size()).equals(two.outline)) {
                    clash = Math.min(clash, 2);
                }
            }
            if (one.outline.size() < entry.outline.size() && begins(entry.outline, one.outline)) {
                clash = Math.min(clash, 3);
            }
            if (one != entry && one.word.equals(entry.word)) {
                clash = Math.min(clash, 4);
            }
        }
        return clash == 9 ? 0 : clash;
    }

    private static int lettersOfAll(State state) {
        return state.items().stream().mapToInt(item -> item.text.length()).sum();
    }

    int count(int what) {
        return pick(List.of(now.strokes().size(), now.items().size(), now.fixed.size(), now.openStrokes().size(),
            now.dictionary.size(), now.window, lettersOfAll(now),
            (int) now.open.stream().filter(item -> item.entry == null).count(),
            (int) now.dictionary.stream().filter(entry -> clashOf(entry) != 0).count(), saved.size()), what);
    }

    int ifStroke(int keys, int what) {
        if (keys < 1 || keys > 4095) {
            throw new IllegalArgumentException();
        }
        State then = withStroke(keys);
        Item last = then.items().get(then.items().size() - 1);
        return pick(List.of(then.items().size(), then.fixed.size(), lettersOfAll(then), last.strokes.size()), what);
    }

    int ifRemoved(int entry) {
        return without(entry).open.size();
    }

    private static int strokesIn(List<Entry> way) {
        return way.stream().mapToInt(entry -> entry.outline.size()).sum();
    }

    /** Whether one way comes before another one: fewer strokes, then lower numbers from the first entry on. */
    private boolean isBetter(List<Entry> one, List<Entry> two) {
        if (two == null || strokesIn(one) != strokesIn(two)) {
            return two == null || strokesIn(one) < strokesIn(two);
        }
        for (int place = 0; place < Math.min(one.size(), two.size()); place++) {
            int number = now.dictionary.indexOf(one.get(place));
            int other = now.dictionary.indexOf(two.get(place));
            if (number != other) {
                return number < other;
            }
        }
        return false;
    }

    /** The best way to write the buffer; null if there is none. */
    private List<Entry> bestWay() {
        List<List<Entry>> ways = new ArrayList<>();
        ways.add(List.of());
        for (int end = 1; end <= buffer.length(); end++) {
            List<Entry> best = null;
            for (Entry entry : now.dictionary) {
                int from = end - entry.word.length();
                if (from >= 0 && ways.get(from) != null && buffer.substring(from, end).equals(entry.word)) {
                    List<Entry> way = joined(ways.get(from), List.of(entry));
                    best = isBetter(way, best) ? way : best;
                }
            }
            ways.add(best);
        }
        return ways.get(buffer.length());
    }

    int fewestStrokes() {
        List<Entry> way = bestWay();
        return way == null ? -1 : strokesIn(way);
    }

    int readsBack() {
        List<Entry> way = bestWay();
        if (way == null) {
            return -1;
        }
        List<Integer> strokes = new ArrayList<>();
        way.forEach(entry -> strokes.addAll(entry.outline));
        StringBuilder text = new StringBuilder();
        translated(now.dictionary, strokes).forEach(item -> text.append(item.text));
        return text.toString().equals(buffer) ? 1 : 0;
    }

    private static int keysOf(Entry entry) {
        return entry.outline.stream().mapToInt(Integer::bitCount).sum();
    }

    int shortest(int number) {
        String word = entryAt(number).word;
        return now.dictionary.stream().filter(entry -> entry.word.equals(word))
            .sorted((a, b) -> a.outline.size() != b.outline.size() ? a.outline.size() - b.outline.size()
                : keysOf(a) != keysOf(b) ? keysOf(a) - keysOf(b)
                : now.dictionary.indexOf(a) - now.dictionary.indexOf(b))
            .map(entry -> now.dictionary.indexOf(entry)).findFirst().get();
    }

    double lettersPerStroke() {
        int strokes = now.strokes().size();
        return strokes == 0 ? 0.0 : (double) lettersOfAll(now) / strokes;
    }

    long digest() {
        List<Integer> numbers = new ArrayList<>();
        for (int what = 0; what < 10; what++) {
            numbers.add(count(what));
        }
        int strokes = now.strokes().size();
        for (int number = 0; number < strokes; number++) {
            numbers.addAll(strokeValues(number));
        }
        int items = now.items().size();
        for (int item = 0; item < items; item++) {
            numbers.addAll(itemValues(item));
        }
        for (int entry = 0; entry < now.dictionary.size(); entry++) {
            numbers.addAll(entryValues(entry));
            numbers.add(shortest(entry));
        }
        numbers.add(fewestStrokes());
        numbers.add(readsBack());
        List<Long> values = new ArrayList<>();
        numbers.forEach(number -> values.add((long) number));
        values.add(Double.doubleToLongBits(lettersPerStroke()));
        values.add((long) buffer.length());
        buffer.chars().forEach(code -> values.add((long) code));
        return hashOf(values);
    }

    private static long hashOf(List<Long> values) {
        long hash = 2221;
        for (long value : values) {
            hash = 31 * hash + value;
        }
        return hash;
    }
}
