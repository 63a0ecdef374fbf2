import java.util.ArrayList;
import java.util.List;
import java.util.function.Function;
import java.util.function.Supplier;

/** All that a desk shows, in parts: each part is asked of a desk of its own, since a desk is used for 512 calls. */
final class Whole {
    record Part(String name, Function<ChordDesk, String> shows) {
    }

    static final List<Part> PARTS = List.of(
        new Part("counts", Whole::counts), new Part("strokes", Whole::strokes),
        new Part("numbers of items", Whole::itemNumbers), new Part("texts of items", Whole::itemTexts),
        new Part("numbers of entries", Whole::entryNumbers), new Part("words of entries", Whole::entryWords),
        new Part("what would be", Whole::whatWouldBe), new Part("buffer", Whole::buffer),
        new Part("saved states", Whole::savedStates));

    private Whole() {
    }

    private static String counts(ChordDesk desk) {
        List<Long> values = new ArrayList<>();
        addCounts(desk, values);
        return values + " " + desk.lettersPerStroke() + " " + desk.digest();
    }

    private static String strokes(ChordDesk desk) {
        List<Long> values = new ArrayList<>();
        addStrokes(desk, values);
        return values.toString();
    }

    private static String itemNumbers(ChordDesk desk) {
        List<Long> values = new ArrayList<>();
        addItemNumbers(desk, values);
        return values.toString();
    }

    private static String itemTexts(ChordDesk desk) {
        List<String> texts = new ArrayList<>();
        for (int item = 0; item < desk.count(1); item++) {
            texts.add(Check.itemText(desk, item));
        }
        return texts.toString();
    }

    private static String entryNumbers(ChordDesk desk) {
        List<Long> values = new ArrayList<>();
        addEntries(desk, 0, 7, values);
        return values.toString();
    }

    private static String entryWords(ChordDesk desk) {
        List<Long> values = new ArrayList<>();
        addEntries(desk, 8, 15, values);
        return values.toString();
    }

    private static String whatWouldBe(ChordDesk desk) {
        List<Integer> values = new ArrayList<>();
        for (int what = 0; what < 4; what++) {
            values.add(desk.ifStroke(1, what));
            values.add(desk.ifStroke(2, what));
            values.add(desk.ifStroke(4095, what));
        }
        int entries = desk.count(4);
        for (int entry = 0; entry < entries; entry++) {
            values.add(desk.ifRemoved(entry));
            values.add(desk.shortest(entry));
        }
        return values.toString();
    }

    /** A digest has the buffer's characters in it; clearBuffer tells its length. */
    private static String buffer(ChordDesk desk) {
        return desk.fewestStrokes() + " " + desk.readsBack() + " " + desk.firstError() + " " + desk.digest() + " "
            + desk.clearBuffer() + " " + desk.digest();
    }

    /** What undo brings back, down to the oldest state, and that there is none behind it. */
    private static String savedStates(ChordDesk desk) {
        List<String> states = new ArrayList<>();
        int saved = desk.count(9);
        for (int state = 0; state < saved; state++) {
            states.add(desk.undo() + " " + desk.digest());
        }
        states.add(Check.answer(desk, ChordDesk::undo));
        return states.toString();
    }

    private static void addCounts(ChordDesk desk, List<Long> values) {
        for (int what = 0; what < 10; what++) {
            values.add((long) desk.count(what));
        }
    }

    private static void addStrokes(ChordDesk desk, List<Long> values) {
        int strokes = desk.count(0);
        for (int number = 0; number < strokes; number++) {
            for (int what = 0; what < 3; what++) {
                values.add((long) desk.strokeAt(number, what));
            }
        }
    }

    private static void addItemNumbers(ChordDesk desk, List<Long> values) {
        int items = desk.count(1);
        for (int item = 0; item < items; item++) {
            for (int what = 0; what < 5; what++) {
                values.add((long) desk.item(item, what));
            }
        }
    }

    private static void addEntries(ChordDesk desk, int from, int to, List<Long> values) {
        int entries = desk.count(4);
        for (int entry = 0; entry < entries; entry++) {
            for (int what = from; what <= to; what++) {
                values.add((long) desk.entry(entry, what));
            }
        }
    }

    /** The digest that is due for a desk, made of what such desks tell by their other methods, and of the buffer's text. */
    static long digestDue(Supplier<ChordDesk> recipe, String buffer) {
        List<Long> values = new ArrayList<>();
        addCounts(recipe.get(), values);
        addStrokes(recipe.get(), values);
        addWholeItems(recipe, values);
        addWholeEntries(recipe, values);
        ChordDesk desk = recipe.get();
        values.add((long) desk.fewestStrokes());
        values.add((long) desk.readsBack());
        values.add(Double.doubleToLongBits(desk.lettersPerStroke()));
        values.add((long) buffer.length());
        buffer.chars().forEach(code -> values.add((long) code));
        long hash = 2221;
        for (long value : values) {
            hash = 31 * hash + value;
        }
        return hash;
    }

    private static void addWholeItems(Supplier<ChordDesk> recipe, List<Long> values) {
        int items = recipe.get().count(1);
        for (int item = 0; item < items; item++) {
            ChordDesk desk = recipe.get();
            int length = desk.item(item, 4);
            for (int what = 0; what < 5 + length; what++) {
                values.add((long) desk.item(item, what));
            }
        }
    }

    private static void addWholeEntries(Supplier<ChordDesk> recipe, List<Long> values) {
        int entries = recipe.get().count(4);
        for (int entry = 0; entry < entries; entry++) {
            ChordDesk desk = recipe.get();
            for (int what = 0; what < 16; what++) {
                values.add((long) desk.entry(entry, what));
            }
            values.add((long) desk.shortest(entry));
        }
    }
}
