/** A desk for chords; ../shared/DOC.md tells what it promises. */
public final class ChordDesk {
    public static final int NONE = -1;

    private static final int KEYS = 12;
    private static final int ALL_KEYS = 4095;
    private static final int MOST_STROKES = 60;
    private static final int MOST_ENTRIES = 24;
    private static final int LONGEST_OUTLINE = 4;
    private static final int LONGEST_WORD = 8;
    private static final int WIDEST_WINDOW = 30;
    private static final int FIRST_WINDOW = 8;
    private static final int MOST_SAVED = 8;
    private static final int LONGEST_BUFFER = 60;
    private static final int LOWEST_CODE = 33;
    private static final int HIGHEST_CODE = 126;
    private static final int LETTER_BITS = 8;
    private static final int LETTER_MASK = 255;
    private static final int SMALLER = 'a' - 'A';
    private static final int STROKE_NUMBERS = 3;
    private static final int ITEM_NUMBERS = 5;
    private static final int ENTRY_NUMBERS = 16;
    private static final int FIRST_LETTER_NUMBER = 8;
    private static final int COUNTS = 10;
    private static final int GUESSES = 4;
    private static final long FIRST_HASH = 2221L;
    private static final int EXPONENT_BIAS = 1023;
    private static final int FRACTION_BITS = 52;
    private static final int MOST_HALVINGS = 1100;
    private static final char[] KEY_LETTERS = {'S', 'T', 'P', 'H', 'A', 'O', 'E', 'U', 'F', 'R', 'B', 'G'};

    private final State now = new State();
    /** What would be is tried on this copy, so that such a call changes nothing and makes nothing. */
    private final State trial = new State();
    private final History history = new History();
    private final Buffer buffer = new Buffer();
    private final ListReader reader = new ListReader();
    private final Writing writing = new Writing();

    public ChordDesk() {
    }

    // ---- the session

    public int stroke(int keys) throws IllegalArgumentException, IllegalStateException {
        if (!isStroke(keys)) {
            throw new IllegalArgumentException("keys are 1 to 4095");
        }
        if (now.session.strokeCount >= MOST_STROKES) {
            throw new IllegalStateException("there are 60 strokes");
        }
        history.push(now);
        now.press(keys);
        return now.session.itemCount;
    }

    public int takeBack() throws IllegalStateException {
        if (now.session.strokeCount == 0) {
            throw new IllegalStateException("there are no strokes");
        }
        history.push(now);
        int keys = Rows.at(now.session.strokes, now.session.strokeCount - 1);
        now.session.dropLast();
        now.translate();
        return keys;
    }

    public int fixAll() {
        history.push(now);
        int open = now.session.openItems();
        now.session.fixDownTo(0);
        return open;
    }

    public int setWindow(int window) throws IllegalArgumentException {
        if (window < 0 || window > WIDEST_WINDOW) {
            throw new IllegalArgumentException("a window is 0 to 30");
        }
        history.push(now);
        int previous = now.session.window;
        now.session.window = window;
        now.session.fixDownTo(window);
        return previous;
    }

    // ---- the dictionary

    public int removeEntry(int entry) throws IndexOutOfBoundsException {
        if (!isEntry(entry)) {
            throw new IndexOutOfBoundsException("no such entry");
        }
        history.push(now);
        now.dictionary.remove(entry);
        now.translate();
        return now.session.itemCount;
    }

    public int renameEntry(int entry, int of) throws IndexOutOfBoundsException {
        if (!isEntry(entry) || !isEntry(of)) {
            throw new IndexOutOfBoundsException("no such entry");
        }
        history.push(now);
        long before = now.dictionary.wordOf(entry);
        long after = now.dictionary.wordOf(of);
        Rows.put(now.dictionary.words, entry, after);
        now.translate();
        return before == after ? 0 : now.session.openItemsOf(entry);
    }

    public int learn(int from, int to)
            throws IndexOutOfBoundsException, IllegalArgumentException, IllegalStateException {
        if (!isItem(from) || !isItem(to)) {
            throw new IndexOutOfBoundsException("no such item");
        }
        int first = now.session.firstOf(from);
        int strokes = now.session.firstOf(to + 1) - first;
        if (from > to || strokes > LONGEST_OUTLINE) {
            throw new IllegalArgumentException("the items are one behind the other and have up to 4 strokes");
        }
        long outline = Outline.of(now.session.strokes, first, strokes);
        if (!now.dictionary.hasRoomFor(outline)) {
            throw new IllegalStateException("the dictionary is full or has this outline");
        }
        history.push(now);
        now.dictionary.add(outline, now.session.wordOf(from, to));
        now.translate();
        return now.dictionary.size - 1;
    }

    // ---- texts

    public int append(int code) throws IllegalArgumentException, IllegalStateException {
        if (code < LOWEST_CODE || code > HIGHEST_CODE) {
            throw new IllegalArgumentException("a character code is 33 to 126");
        }
        if (buffer.length >= LONGEST_BUFFER) {
            throw new IllegalStateException("the buffer has 60 characters");
        }
        buffer.add(code);
        return buffer.length;
    }

    public int clearBuffer() {
        int length = buffer.length;
        buffer.length = 0;
        return length;
    }

    public int firstError() {
        return reader.firstErrorOf(buffer);
    }

    public int load() throws IllegalArgumentException, IllegalStateException {
        if (!reader.isList(buffer)) {
            throw new IllegalArgumentException("the buffer is not a complete list");
        }
        trial.copyFrom(now);
        if (!reader.addEntries(buffer, trial.dictionary)) {
            throw new IllegalStateException("too many entries, or two with the same outline");
        }
        history.push(now);
        now.dictionary.copyFrom(trial.dictionary);
        now.translate();
        buffer.length = 0;
        return now.dictionary.size;
    }

    public int undo() throws IllegalStateException {
        if (history.size == 0) {
            throw new IllegalStateException("there is no saved state");
        }
        history.pop(now);
        return history.size;
    }

    // ---- what there is

    public int strokeAt(int number, int what) throws IndexOutOfBoundsException, IllegalArgumentException {
        if (number < 0 || number >= now.session.strokeCount) {
            throw new IndexOutOfBoundsException("no such stroke");
        }
        if (what < 0 || what >= STROKE_NUMBERS) {
            throw new IllegalArgumentException("a stroke has the properties 0 to 2");
        }
        int keys = Rows.at(now.session.strokes, number);
        switch (what) {
            case 0: return keys;
            case 1: return Integer.bitCount(keys);
            default: return now.session.itemWith(number);
        }
    }

    public int item(int item, int what) throws IndexOutOfBoundsException, IllegalArgumentException {
        if (!isItem(item)) {
            throw new IndexOutOfBoundsException("no such item");
        }
        int letters = now.session.lettersOf(item);
        if (what < 0 || what >= ITEM_NUMBERS + letters) {
            throw new IllegalArgumentException("the item has no such property");
        }
        switch (what) {
            case 0: return now.session.firstOf(item);
            case 1: return now.session.strokesOf(item);
            case 2: return Rows.at(now.session.entries, item);
            case 3: return item < now.session.fixedCount ? 1 : 0;
            case 4: return letters;
            default: return now.session.letterOf(item, what - ITEM_NUMBERS);
        }
    }

    public int entry(int entry, int what) throws IndexOutOfBoundsException, IllegalArgumentException {
        if (!isEntry(entry)) {
            throw new IndexOutOfBoundsException("no such entry");
        }
        if (what < 0 || what >= ENTRY_NUMBERS) {
            throw new IllegalArgumentException("an entry has the properties 0 to 15");
        }
        long outline = now.dictionary.outlineOf(entry);
        long word = now.dictionary.wordOf(entry);
        switch (what) {
            case 0: return Outline.length(outline);
            case 1: case 2: case 3: case 4: return noneForZero(Outline.strokeOf(outline, what - 1));
            case 5: return Word.length(word);
            case 6: return now.dictionary.clashOf(entry);
            case 7: return now.session.openItemsOf(entry);
            default: return noneForZero(Word.letterOf(word, what - FIRST_LETTER_NUMBER));
        }
    }

    public int count(int what) throws IllegalArgumentException {
        if (what < 0 || what >= COUNTS) {
            throw new IllegalArgumentException("the counts are 0 to 9");
        }
        switch (what) {
            case 0: return now.session.strokeCount;
            case 1: return now.session.itemCount;
            case 2: return now.session.fixedCount;
            case 3: return now.session.openStrokes();
            case 4: return now.dictionary.size;
            case 5: return now.session.window;
            case 6: return now.session.allLetters();
            case 7: return now.session.openItemsOf(NONE);
            case 8: return now.dictionary.clashes();
            default: return history.size;
        }
    }

    // ---- what would be; nothing is changed

    public int ifStroke(int keys, int what) throws IllegalArgumentException {
        if (!isStroke(keys) || what < 0 || what >= GUESSES) {
            throw new IllegalArgumentException("keys are 1 to 4095, what is 0 to 3");
        }
        trial.copyFrom(now);
        trial.press(keys);
        switch (what) {
            case 0: return trial.session.itemCount;
            case 1: return trial.session.fixedCount;
            case 2: return trial.session.allLetters();
            default: return trial.session.strokesOf(trial.session.itemCount - 1);
        }
    }

    public int ifRemoved(int entry) throws IndexOutOfBoundsException {
        if (!isEntry(entry)) {
            throw new IndexOutOfBoundsException("no such entry");
        }
        trial.copyFrom(now);
        trial.dictionary.remove(entry);
        trial.translate();
        return trial.session.openItems();
    }

    public int fewestStrokes() {
        return writing.fewestFor(buffer, now.dictionary);
    }

    public int readsBack() {
        if (writing.fewestFor(buffer, now.dictionary) == NONE) {
            return NONE;
        }
        writing.write(buffer, now.dictionary);
        return writing.isReadAs(buffer, now.dictionary) ? 1 : 0;
    }

    public int shortest(int entry) throws IndexOutOfBoundsException {
        if (!isEntry(entry)) {
            throw new IndexOutOfBoundsException("no such entry");
        }
        return now.dictionary.shortestLike(entry);
    }

    public double lettersPerStroke() {
        int strokes = now.session.strokeCount;
        return strokes == 0 ? 0.0 : (double) now.session.allLetters() / (double) strokes;
    }

    public long digest() {
        long hash = FIRST_HASH;
        for (int what = 0; what < COUNTS; what++) {
            hash = mix(hash, count(what));
        }
        hash = mixSession(hash);
        hash = mixDictionary(hash);
        hash = mix(hash, fewestStrokes());
        hash = mix(hash, readsBack());
        hash = mix(hash, bitsOf(lettersPerStroke()));
        hash = mix(hash, buffer.length);
        for (int place = 0; place < buffer.length; place++) {
            hash = mix(hash, Rows.at(buffer.codes, place));
        }
        return hash;
    }

    private long mixSession(long before) {
        long hash = before;
        for (int number = 0; number < now.session.strokeCount; number++) {
            for (int what = 0; what < STROKE_NUMBERS; what++) {
                hash = mix(hash, strokeAt(number, what));
            }
        }
        for (int item = 0; item < now.session.itemCount; item++) {
            int numbers = ITEM_NUMBERS + now.session.lettersOf(item);
            for (int what = 0; what < numbers; what++) {
                hash = mix(hash, item(item, what));
            }
        }
        return hash;
    }

    private long mixDictionary(long before) {
        long hash = before;
        for (int entry = 0; entry < now.dictionary.size; entry++) {
            for (int what = 0; what < ENTRY_NUMBERS; what++) {
                hash = mix(hash, entry(entry, what));
            }
            hash = mix(hash, shortest(entry));
        }
        return hash;
    }

    private static long mix(long hash, long value) {
        return 31L * hash + value;
    }

    /**
     * The bits of a double that is zero or a positive normal number, as Double.doubleToLongBits tells them;
     * that function is not in the library that LANGUAGE.md leaves.
     */
    private static long bitsOf(double value) {
        if (!(value > 0.0)) {
            return 0L;
        }
        double fraction = value;
        long exponent = EXPONENT_BIAS;
        for (int round = 0; round < MOST_HALVINGS && fraction >= 2.0; round++) {
            fraction = fraction / 2.0;
            exponent++;
        }
        for (int round = 0; round < MOST_HALVINGS && fraction < 1.0; round++) {
            fraction = fraction * 2.0;
            exponent--;
        }
        long one = 1L << FRACTION_BITS;
        return (exponent << FRACTION_BITS) + ((long) (fraction * (double) one) - one);
    }

    private static boolean isStroke(int keys) {
        return keys >= 1 && keys <= ALL_KEYS;
    }

    private boolean isItem(int item) {
        return item >= 0 && item < now.session.itemCount;
    }

    private boolean isEntry(int entry) {
        return entry >= 0 && entry < now.dictionary.size;
    }

    private static int noneForZero(int value) {
        return value == 0 ? NONE : value;
    }

    /** Rows whose index is looked at before it is used: outside there are zeros, and nothing is kept. */
    private static final class Rows {
        static int at(int[] row, int index) {
            return index >= 0 && index < row.length ? row[index] : 0;
        }

        static long at(long[] row, int index) {
            return index >= 0 && index < row.length ? row[index] : 0L;
        }

        static void put(int[] row, int index, int value) {
            if (index >= 0 && index < row.length) {
                row[index] = value;
            }
        }

        static void put(long[] row, int index, long value) {
            if (index >= 0 && index < row.length) {
                row[index] = value;
            }
        }

        static void copy(int[] from, int[] to) {
            System.arraycopy(from, 0, to, 0, Math.min(from.length, to.length));
        }

        static void copy(long[] from, long[] to) {
            System.arraycopy(from, 0, to, 0, Math.min(from.length, to.length));
        }
    }

    /** Outlines as longs, so that two are the same just if they are ==: 12 bits a stroke, the first one lowest. */
    private static final class Outline {
        static long of(int[] strokes, int first, int length) {
            long outline = 0L;
            for (int place = 0; place < length && place < LONGEST_OUTLINE; place++) {
                outline = with(outline, place, Rows.at(strokes, first + place));
            }
            return outline;
        }

        static long with(long outline, int place, int keys) {
            return outline | (long) keys << place * KEYS;
        }

        static int strokeOf(long outline, int place) {
            return (int) (outline >>> place * KEYS) & ALL_KEYS;
        }

        static int length(long outline) {
            int length = 0;
            for (int place = 0; place < LONGEST_OUTLINE; place++) {
                if (strokeOf(outline, place) != 0) {
                    length++;
                }
            }
            return length;
        }

        static long beginning(long outline, int length) {
            return outline & (1L << length * KEYS) - 1L;
        }

        static long rest(long outline, int length) {
            return outline >>> length * KEYS;
        }
    }

    /** Words as longs, so that two are the same just if they are ==: 8 bits a letter, the first one lowest. */
    private static final class Word {
        static long with(long word, int place, int code) {
            return word | (long) code << place * LETTER_BITS;
        }

        static int letterOf(long word, int place) {
            return (int) (word >>> place * LETTER_BITS) & LETTER_MASK;
        }

        static int length(long word) {
            int length = 0;
            for (int place = 0; place < LONGEST_WORD; place++) {
                if (letterOf(word, place) != 0) {
                    length++;
                }
            }
            return length;
        }
    }

    /** The letters of a stroke that has no entry. */
    private static final class Letters {
        static int codeOf(int key) {
            return key >= 0 && key < KEY_LETTERS.length ? KEY_LETTERS[key] : 0;
        }

        static int keyOf(int code) {
            for (int key = 0; key < KEYS; key++) {
                if (codeOf(key) == code) {
                    return key;
                }
            }
            return NONE;
        }

        static int codeAt(int keys, int place) {
            int passed = 0;
            for (int key = 0; key < KEYS; key++) {
                if ((keys >> key & 1) == 0) {
                    continue;
                }
                if (passed == place) {
                    return codeOf(key);
                }
                passed++;
            }
            return 0;
        }
    }

    private static final class Dictionary {
        final long[] outlines = new long[MOST_ENTRIES];
        final long[] words = new long[MOST_ENTRIES];
        int size = 0;

        void copyFrom(Dictionary other) {
            Rows.copy(other.outlines, outlines);
            Rows.copy(other.words, words);
            size = other.size;
        }

        long outlineOf(int entry) {
            return Rows.at(outlines, entry);
        }

        long wordOf(int entry) {
            return Rows.at(words, entry);
        }

        boolean hasRoomFor(long outline) {
            return size < MOST_ENTRIES && find(outline) == NONE;
        }

        void add(long outline, long word) {
            Rows.put(outlines, size, outline);
            Rows.put(words, size, word);
            size++;
        }

        void remove(int entry) {
            for (int later = entry + 1; later < size; later++) {
                Rows.put(outlines, later - 1, outlineOf(later));
                Rows.put(words, later - 1, wordOf(later));
            }
            size--;
        }

        int find(long outline) {
            for (int entry = 0; entry < size; entry++) {
                if (Rows.at(outlines, entry) == outline) {
                    return entry;
                }
            }
            return NONE;
        }

        /** The entry with the longest outline that the strokes from first on begin with. */
        int longestAt(int[] strokes, int first, int end) {
            int most = Math.min(LONGEST_OUTLINE, end - first);
            long ahead = Outline.of(strokes, first, most);
            for (int length = most; length > 0; length--) {
                int entry = find(Outline.beginning(ahead, length));
                if (entry != NONE) {
                    return entry;
                }
            }
            return NONE;
        }

        int clashOf(int entry) {
            long outline = outlineOf(entry);
            if (beginsLonger(outline)) {
                return 1;
            }
            if (isTwo(outline)) {
                return 2;
            }
            if (beginsWithShorter(outline)) {
                return 3;
            }
            return hasTwin(entry) ? 4 : 0;
        }

        int clashes() {
            int clashes = 0;
            for (int entry = 0; entry < size; entry++) {
                if (clashOf(entry) != 0) {
                    clashes++;
                }
            }
            return clashes;
        }

        private boolean beginsLonger(long outline) {
            int length = Outline.length(outline);
            for (int other = 0; other < size; other++) {
                long longer = outlineOf(other);
                if (longer != outline && Outline.beginning(longer, length) == outline) {
                    return true;
                }
            }
            return false;
        }

        private boolean isTwo(long outline) {
            int length = Outline.length(outline);
            for (int part = 1; part < length; part++) {
                if (find(Outline.beginning(outline, part)) != NONE && find(Outline.rest(outline, part)) != NONE) {
                    return true;
                }
            }
            return false;
        }

        private boolean beginsWithShorter(long outline) {
            int length = Outline.length(outline);
            for (int part = 1; part < length; part++) {
                if (find(Outline.beginning(outline, part)) != NONE) {
                    return true;
                }
            }
            return false;
        }

        private boolean hasTwin(int entry) {
            for (int other = 0; other < size; other++) {
                if (other != entry && wordOf(other) == wordOf(entry)) {
                    return true;
                }
            }
            return false;
        }

        int shortestLike(int entry) {
            int best = NONE;
            for (int other = 0; other < size; other++) {
                if (wordOf(other) == wordOf(entry) && (best == NONE || isShorter(other, best))) {
                    best = other;
                }
            }
            return best;
        }

        private boolean isShorter(int entry, int than) {
            int strokes = Outline.length(outlineOf(entry));
            int strokesThere = Outline.length(outlineOf(than));
            if (strokes != strokesThere) {
                return strokes < strokesThere;
            }
            return Long.bitCount(outlineOf(entry)) < Long.bitCount(outlineOf(than));
        }
    }

    private static final class Session {
        /** One more than there may be, for the further stroke of ifStroke. */
        static final int ROOM = MOST_STROKES + 1;

        final int[] strokes = new int[ROOM];
        final int[] firsts = new int[ROOM];
        final int[] entries = new int[ROOM];
        /** Kept for each item, since a fixed one keeps its text when its entry goes; 0: the letters of its stroke. */
        final long[] words = new long[ROOM];
        int strokeCount = 0;
        int itemCount = 0;
        int fixedCount = 0;
        int firstOpen = 0;
        int window = FIRST_WINDOW;

        void copyFrom(Session other) {
            Rows.copy(other.strokes, strokes);
            Rows.copy(other.firsts, firsts);
            Rows.copy(other.entries, entries);
            Rows.copy(other.words, words);
            strokeCount = other.strokeCount;
            itemCount = other.itemCount;
            fixedCount = other.fixedCount;
            firstOpen = other.firstOpen;
            window = other.window;
        }

        void add(int keys) {
            Rows.put(strokes, strokeCount, keys);
            strokeCount++;
        }

        void dropLast() {
            if (openStrokes() == 0) {
                fixedCount--;
                firstOpen = Rows.at(firsts, fixedCount);
            }
            strokeCount--;
        }

        /** Makes the open items anew, and fixes those behind the window. */
        void translate(Dictionary dictionary) {
            itemCount = fixedCount;
            int next = firstOpen;
            for (int round = 0; round < ROOM && next < strokeCount; round++) {
                int entry = dictionary.longestAt(strokes, next, strokeCount);
                Rows.put(firsts, itemCount, next);
                Rows.put(entries, itemCount, entry);
                Rows.put(words, itemCount, entry == NONE ? 0L : dictionary.wordOf(entry));
                itemCount++;
                next += entry == NONE ? 1 : Outline.length(dictionary.outlineOf(entry));
            }
            fixDownTo(window);
        }

        void fixDownTo(int mostOpen) {
            for (int round = 0; round < ROOM && openStrokes() > mostOpen; round++) {
                Rows.put(entries, fixedCount, NONE);
                fixedCount++;
                firstOpen = firstOf(fixedCount);
            }
        }

        int openStrokes() {
            return strokeCount - firstOpen;
        }

        int openItems() {
            return itemCount - fixedCount;
        }

        int openItemsOf(int entry) {
            int items = 0;
            for (int item = fixedCount; item < itemCount; item++) {
                if (Rows.at(entries, item) == entry) {
                    items++;
                }
            }
            return items;
        }

        /** The first stroke of an item; behind the last item it is the number of strokes. */
        int firstOf(int item) {
            return item < itemCount ? Rows.at(firsts, item) : strokeCount;
        }

        int strokesOf(int item) {
            return firstOf(item + 1) - firstOf(item);
        }

        int itemWith(int stroke) {
            for (int item = itemCount - 1; item > 0; item--) {
                if (firstOf(item) <= stroke) {
                    return item;
                }
            }
            return 0;
        }

        int lettersOf(int item) {
            long word = Rows.at(words, item);
            return word == 0L ? Integer.bitCount(Rows.at(strokes, firstOf(item))) : Word.length(word);
        }

        int letterOf(int item, int place) {
            long word = Rows.at(words, item);
            return word == 0L ? Letters.codeAt(Rows.at(strokes, firstOf(item)), place) : Word.letterOf(word, place);
        }

        int allLetters() {
            int letters = 0;
            for (int item = 0; item < itemCount; item++) {
                letters += lettersOf(item);
            }
            return letters;
        }

        /** The texts of the items joined, in small letters, as far as a word goes. */
        long wordOf(int from, int to) {
            long word = 0L;
            int length = 0;
            for (int item = from; item <= to && item < itemCount; item++) {
                int letters = lettersOf(item);
                for (int place = 0; place < letters && length < LONGEST_WORD; place++) {
                    word = Word.with(word, length, small(letterOf(item, place)));
                    length++;
                }
            }
            return word;
        }

        private static int small(int code) {
            return code >= 'A' && code <= 'Z' ? code + SMALLER : code;
        }
    }

    /** What undo brings back. */
    private static final class State {
        final Dictionary dictionary = new Dictionary();
        final Session session = new Session();

        void copyFrom(State other) {
            dictionary.copyFrom(other.dictionary);
            session.copyFrom(other.session);
        }

        void press(int keys) {
            session.add(keys);
            translate();
        }

        void translate() {
            session.translate(dictionary);
        }
    }

    /** The saved states, the oldest one first; their objects are made once and used again. */
    private static final class History {
        final State[] states = new State[MOST_SAVED];
        int size = 0;

        History() {
            for (int place = 0; place < states.length; place++) {
                states[place] = new State();
            }
        }

        void push(State state) {
            if (size >= states.length) {
                dropOldest();
            }
            State place = stateAt(size);
            if (place != null) {
                place.copyFrom(state);
                size++;
            }
        }

        void pop(State into) {
            State latest = stateAt(size - 1);
            if (latest != null) {
                into.copyFrom(latest);
                size--;
            }
        }

        private State stateAt(int place) {
            return place >= 0 && place < states.length ? states[place] : null;
        }

        private void dropOldest() {
            State oldest = stateAt(0);
            for (int place = 1; place < states.length; place++) {
                states[place - 1] = states[place];
            }
            if (states.length > 0) {
                states[states.length - 1] = oldest;
            }
            size--;
        }
    }

    private static final class Buffer {
        final int[] codes = new int[LONGEST_BUFFER];
        int length = 0;

        void add(int code) {
            Rows.put(codes, length, code);
            length++;
        }

        boolean hasAt(int place, long word) {
            int letters = Word.length(word);
            if (place + letters > length) {
                return false;
            }
            for (int letter = 0; letter < letters; letter++) {
                if (Rows.at(codes, place + letter) != Word.letterOf(word, letter)) {
                    return false;
                }
            }
            return true;
        }
    }

    /** Reads a list of entries character by character; what it has read of the latest entry is in its fields. */
    private static final class ListReader {
        long outline = 0L;
        int strokes = 0;
        int keys = 0;
        boolean inWord = false;
        long word = 0L;
        int letters = 0;

        int firstErrorOf(Buffer buffer) {
            restart();
            for (int place = 0; place < buffer.length; place++) {
                if (!reads(Rows.at(buffer.codes, place))) {
                    return place;
                }
            }
            return buffer.length;
        }

        boolean isList(Buffer buffer) {
            return firstErrorOf(buffer) == buffer.length && letters > 0;
        }

        /** Adds the entries of a list; tells whether there was room for all of them. */
        boolean addEntries(Buffer buffer, Dictionary dictionary) {
            restart();
            for (int place = 0; place <= buffer.length; place++) {
                int code = place < buffer.length ? Rows.at(buffer.codes, place) : ';';
                if (code == ';') {
                    if (!dictionary.hasRoomFor(outline)) {
                        return false;
                    }
                    dictionary.add(outline, word);
                }
                reads(code);
            }
            return true;
        }

        private void restart() {
            outline = 0L;
            strokes = 0;
            keys = 0;
            inWord = false;
            word = 0L;
            letters = 0;
        }

        /** Reads a character, or tells that no list goes on with it. */
        private boolean reads(int code) {
            return inWord ? readsInWord(code) : readsInOutline(code);
        }

        private boolean readsInOutline(int code) {
            int key = Letters.keyOf(code);
            if (key != NONE) {
                return readsKey(key);
            }
            if (keys == 0) {
                return false;
            }
            if (code == '/' && strokes + 1 < LONGEST_OUTLINE) {
                endStroke();
                return true;
            }
            if (code == '=') {
                endStroke();
                inWord = true;
                return true;
            }
            return false;
        }

        private boolean readsKey(int key) {
            if (keys >> key != 0) {
                return false;
            }
            keys |= 1 << key;
            return true;
        }

        private void endStroke() {
            outline = Outline.with(outline, strokes, keys);
            strokes++;
            keys = 0;
        }

        private boolean readsInWord(int code) {
            if (code >= 'a' && code <= 'z' && letters < LONGEST_WORD) {
                word = Word.with(word, letters, code);
                letters++;
                return true;
            }
            if (code == ';' && letters > 0) {
                restart();
                return true;
            }
            return false;
        }
    }

    /** Writes a text with the fewest strokes, and reads the strokes back. */
    private static final class Writing {
        /** For each place of the text, the fewest strokes for what follows; NONE if that cannot be written. */
        final int[] fewest = new int[LONGEST_BUFFER + 1];
        final int[] strokes = new int[LONGEST_BUFFER * LONGEST_OUTLINE];
        int strokeCount = 0;

        int fewestFor(Buffer buffer, Dictionary dictionary) {
            Rows.put(fewest, buffer.length, 0);
            for (int place = buffer.length - 1; place >= 0; place--) {
                int best = NONE;
                for (int entry = 0; entry < dictionary.size; entry++) {
                    int strokesSo = fewestWith(entry, place, buffer, dictionary);
                    if (strokesSo != NONE && (best == NONE || strokesSo < best)) {
                        best = strokesSo;
                    }
                }
                Rows.put(fewest, place, best);
            }
            return Rows.at(fewest, 0);
        }

        /** The fewest strokes from a place on if an entry's word comes next. */
        private int fewestWith(int entry, int place, Buffer buffer, Dictionary dictionary) {
            long word = dictionary.wordOf(entry);
            if (!buffer.hasAt(place, word)) {
                return NONE;
            }
            int behind = Rows.at(fewest, place + Word.length(word));
            return behind == NONE ? NONE : Outline.length(dictionary.outlineOf(entry)) + behind;
        }

        /** Writes a text whose fewest strokes have just been found. */
        void write(Buffer buffer, Dictionary dictionary) {
            strokeCount = 0;
            int place = 0;
            for (int round = 0; round < LONGEST_BUFFER && place < buffer.length; round++) {
                int entry = firstBestAt(place, buffer, dictionary);
                addOutline(dictionary.outlineOf(entry));
                place += Word.length(dictionary.wordOf(entry));
            }
        }

        private int firstBestAt(int place, Buffer buffer, Dictionary dictionary) {
            for (int entry = 0; entry < dictionary.size; entry++) {
                if (fewestWith(entry, place, buffer, dictionary) == Rows.at(fewest, place)) {
                    return entry;
                }
            }
            return NONE;
        }

        private void addOutline(long outline) {
            int length = Outline.length(outline);
            for (int place = 0; place < length; place++) {
                Rows.put(strokes, strokeCount, Outline.strokeOf(outline, place));
                strokeCount++;
            }
        }

        boolean isReadAs(Buffer buffer, Dictionary dictionary) {
            int place = 0;
            int next = 0;
            for (int round = 0; round < strokes.length && next < strokeCount; round++) {
                int entry = dictionary.longestAt(strokes, next, strokeCount);
                // A stroke without an entry gives capitals, and a text that can be written has none.
                if (entry == NONE || !buffer.hasAt(place, dictionary.wordOf(entry))) {
                    return false;
                }
                place += Word.length(dictionary.wordOf(entry));
                next += Outline.length(dictionary.outlineOf(entry));
            }
            return place == buffer.length;
        }
    }
}
