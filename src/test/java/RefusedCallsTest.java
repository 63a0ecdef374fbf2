import java.util.function.Supplier;

/**
 * Every exception that a promise names: which one it is, which one comes first where several apply, and that the call
 * changes nothing, as all that a desk shows tells afterwards (Whole). The values are the first that are not allowed, on
 * both sides, and the furthest an int goes; EdgesOfPromisesTest has the last that are.
 */
public final class RefusedCallsTest {
    private static final String ARGUMENT = "IllegalArgumentException";
    private static final String STATE = "IllegalStateException";
    private static final String INDEX = "IndexOutOfBoundsException";
    private static final int LOWEST = Integer.MIN_VALUE;
    private static final int HIGHEST = Integer.MAX_VALUE;
    private static final int[] NO_KEYS = {0, -1, 4096, 8192, LOWEST, HIGHEST};

    public static void main(String[] args) {
        promise2Stroke();
        promise3TakeBack();
        promise5SetWindow();
        promise6RemoveEntry();
        promise7RenameEntry();
        promise8LearnWithoutItems();
        promise8LearnOfWrongItems();
        promise8LearnIntoFullDictionary();
        promise8LearnOfAnOutlineThatIsThere();
        promise9Append();
        promise12LoadOfWrongTexts();
        promise12LoadOfWrongEntries();
        promise12LoadIntoFullDictionary();
        promise13Undo();
        promise14StrokeAt();
        promise15Item();
        promise16Entry();
        promise17Count();
        promise18IfStroke();
        promises19And22IfRemovedAndShortest();
        Check.end("RefusedCallsTest");
    }

    private static void refuses(String what, Supplier<ChordDesk> recipe, String due, Check.Call call) {
        Check.fails(what, recipe, due, call);
    }

    private static void promise2Stroke() {
        for (int keys : NO_KEYS) {
            refuses("stroke(" + keys + ")", Desks::empty, ARGUMENT, desk -> desk.stroke(keys));
            refuses("stroke(" + keys + ") of some", Desks::some, ARGUMENT, desk -> desk.stroke(keys));
            refuses("stroke(" + keys + ") as the 61st", Desks::full, ARGUMENT, desk -> desk.stroke(keys));
        }
        for (int keys : new int[] {1, 4095}) {
            refuses("stroke(" + keys + ") as the 61st", Desks::full, STATE, desk -> desk.stroke(keys));
            refuses("stroke(" + keys + ") behind 60", () -> Desks.withStrokes(60), STATE, desk -> desk.stroke(keys));
        }
    }

    private static void promise3TakeBack() {
        refuses("takeBack of a new desk", Desks::empty, STATE, ChordDesk::takeBack);
        refuses("takeBack without strokes", () -> Desks.loaded("S=a"), STATE, ChordDesk::takeBack);
        refuses("takeBack of more than there were", () -> Check.after(() -> Desks.withStrokes(1), ChordDesk::takeBack),
            STATE, ChordDesk::takeBack);
    }

    private static void promise5SetWindow() {
        for (int window : new int[] {-1, 31, LOWEST, HIGHEST}) {
            refuses("setWindow(" + window + ")", Desks::empty, ARGUMENT, desk -> desk.setWindow(window));
            refuses("setWindow(" + window + ") of some", Desks::some, ARGUMENT, desk -> desk.setWindow(window));
            refuses("setWindow(" + window + ") of a full desk", Desks::full, ARGUMENT, desk -> desk.setWindow(window));
        }
    }

    /** The call with each number that no entry has: without entries, with four and with 24. */
    private static void refusesEntry(String what, NumberedCall call) {
        for (int entry : new int[] {-1, 0, 1, LOWEST, HIGHEST}) {
            refuses(what + " " + entry + " of none", Desks::empty, INDEX, desk -> call.on(desk, entry));
        }
        for (int entry : new int[] {-1, 4, 5, LOWEST, HIGHEST}) {
            refuses(what + " " + entry + " of four", Desks::some, INDEX, desk -> call.on(desk, entry));
        }
        for (int entry : new int[] {-1, 24, LOWEST, HIGHEST}) {
            refuses(what + " " + entry + " of 24", Desks::full, INDEX, desk -> call.on(desk, entry));
        }
        Supplier<ChordDesk> removed = () -> Check.after(() -> Desks.loaded("S=a;T=b"), desk -> desk.removeEntry(0));
        refuses(what + " 1 of two, one of which was removed", removed, INDEX, desk -> call.on(desk, 1));
    }

    interface NumberedCall {
        Object on(ChordDesk desk, int number);
    }

    private static void promise6RemoveEntry() {
        refusesEntry("removeEntry", ChordDesk::removeEntry);
    }

    private static void promise7RenameEntry() {
        refusesEntry("renameEntry with itself", (desk, entry) -> desk.renameEntry(entry, entry));
        refusesEntry("renameEntry of the first with", (desk, entry) -> desk.renameEntry(0, entry));
        refusesEntry("renameEntry with the first of", (desk, entry) -> desk.renameEntry(entry, 0));
    }

    private static void learnRefuses(Supplier<ChordDesk> recipe, String due, int from, int to) {
        refuses("learn(" + from + ", " + to + ")", recipe, due, desk -> desk.learn(from, to));
    }

    private static void promise8LearnWithoutItems() {
        learnRefuses(Desks::empty, INDEX, 0, 0);
        learnRefuses(() -> Desks.loaded("S=a"), INDEX, 0, 0);
        for (int item : new int[] {-1, 3, 4, LOWEST, HIGHEST}) {
            learnRefuses(Desks::some, INDEX, item, item);
            learnRefuses(Desks::some, INDEX, 0, item);
            learnRefuses(Desks::some, INDEX, item, 2);
        }
        // These are from behind to as well, or too long, or there already, or one entry too many.
        learnRefuses(Desks::some, INDEX, 3, 0);
        learnRefuses(Desks::some, INDEX, 0, -1);
        for (int item : new int[] {-1, 60, LOWEST, HIGHEST}) {
            learnRefuses(Desks::full, INDEX, item, 0);
            learnRefuses(Desks::full, INDEX, 0, item);
            learnRefuses(Desks::full, INDEX, item, item);
        }
    }

    private static void promise8LearnOfWrongItems() {
        learnRefuses(Desks::some, ARGUMENT, 1, 0);
        learnRefuses(Desks::some, ARGUMENT, 2, 0);
        learnRefuses(Desks::some, ARGUMENT, 2, 1);
        learnRefuses(Desks::some, ARGUMENT, 0, 2);
        learnRefuses(Desks::fixed, ARGUMENT, 0, 2);
        learnRefuses(() -> Desks.withStrokes(5), ARGUMENT, 0, 4);
        learnRefuses(() -> Desks.pressed("S/S=a;T/T/T=b", "S S T T T"), ARGUMENT, 0, 1);
        learnRefuses(() -> Desks.pressed("S/S/S/S=a", "S S S S T"), ARGUMENT, 0, 1);
        learnRefuses(() -> Desks.pressed("S/S/S/S=a", "T S S S S"), ARGUMENT, 0, 1);
        learnRefuses(() -> Desks.pressed("S/S/S/S=a", "S S S S S S S S"), ARGUMENT, 0, 1);
        // The dictionary is full as well.
        learnRefuses(Desks::full, ARGUMENT, 1, 0);
        learnRefuses(Desks::full, ARGUMENT, 59, 0);
        learnRefuses(Desks::full, ARGUMENT, 0, 4);
        learnRefuses(Desks::full, ARGUMENT, 0, 59);
    }

    private static void promise8LearnIntoFullDictionary() {
        learnRefuses(Desks::full, STATE, 24, 24);
        learnRefuses(Desks::full, STATE, 0, 3);
        learnRefuses(Desks::full, STATE, 0, 0);
    }

    private static void promise8LearnOfAnOutlineThatIsThere() {
        learnRefuses(Desks::some, STATE, 0, 0);
        learnRefuses(Desks::some, STATE, 2, 2);
        learnRefuses(Desks::fixed, STATE, 0, 0);
        learnRefuses(() -> Desks.pressed("S/T/P/H=a", "S T P H"), STATE, 0, 0);
        // A fixed item of the outline's first stroke and an open one make it as well.
        Supplier<ChordDesk> parts = () -> {
            ChordDesk desk = new ChordDesk();
            desk.setWindow(1);
            Check.press(desk, "S T");
            Check.load(desk, "S/T=a");
            return desk;
        };
        learnRefuses(parts, STATE, 0, 1);
    }

    private static void promise9Append() {
        for (int code : new int[] {32, 127, 0, -1, 256 + 'a', 65536 + 'a', LOWEST, HIGHEST}) {
            refuses("append(" + code + ")", Desks::empty, ARGUMENT, desk -> desk.append(code));
            refuses("append(" + code + ") to some", Desks::some, ARGUMENT, desk -> desk.append(code));
            refuses("append(" + code + ") as the 61st", Desks::full, ARGUMENT, desk -> desk.append(code));
        }
        for (int code : new int[] {33, 's', 126}) {
            refuses("append(" + code + ") as the 61st", Desks::full, STATE, desk -> desk.append(code));
        }
    }

    private static void loadRefuses(Supplier<ChordDesk> recipe, String due, String text) {
        refuses("load of " + text, Desks.withText(recipe, text), due, ChordDesk::load);
    }

    private static void promise12LoadOfWrongTexts() {
        String[] texts = {"", "U", "U/", "U=", "=", ";", "/", "=a", "a", "U=a;", "U=a;B", "U=a;B=", "U=a;;B=b", "U=a,B=b",
            ";U=a", "/U=a", "U/=a", "U//B=a", "U=a/B=b", "U=A", "u=a", "U=a=b", "UU=a", "UE=a", "U/A/O/E/B=a",
            "U=abcdefghi", "U=a;B=abcdefghi", "U=`", "U={", "U=a;B=b;", "U=a;BU=b"};
        for (String text : texts) {
            loadRefuses(Desks::empty, ARGUMENT, text);
            loadRefuses(Desks::some, ARGUMENT, text);
        }
        loadRefuses(Desks::full, ARGUMENT, "");
        loadRefuses(Desks::some, ARGUMENT, "U=a;".repeat(15));
        loadRefuses(Desks::full, ARGUMENT, "s".repeat(60));
        // Entries that would be too many or there already come before the mistake.
        loadRefuses(Desks::some, ARGUMENT, "S=x;U=y;U=");
        loadRefuses(Desks::full, ARGUMENT, "G=x;S=y;");
    }

    private static void promise12LoadOfWrongEntries() {
        loadRefuses(Desks::some, STATE, "S=x");
        loadRefuses(Desks::some, STATE, "S=ab");
        loadRefuses(Desks::some, STATE, "S/T/P=x");
        loadRefuses(Desks::some, STATE, "U=x;P=y");
        loadRefuses(Desks::some, STATE, "P=y;U=x");
        loadRefuses(Desks::some, STATE, "U=x;U=x");
        loadRefuses(Desks::some, STATE, "U/B=x;B=y;U/B=z");
        loadRefuses(Desks::empty, STATE, "U/A/O/E=x;U/A/O/E=y");
        loadRefuses(Desks::empty, STATE, "STPHAOEUFRBG=x;S=z;STPHAOEUFRBG=y");
    }

    private static void promise12LoadIntoFullDictionary() {
        loadRefuses(Desks::full, STATE, "G=x");
        loadRefuses(Desks::full, STATE, "S=x");
        loadRefuses(() -> Desks.withEntries(23), STATE, "G=x;B=y");
        loadRefuses(() -> Desks.withEntries(22), STATE, "G=x;B=y;R=z");
        loadRefuses(() -> Desks.withEntries(12), STATE, Desks.THIRTEEN);
    }

    private static void promise13Undo() {
        refuses("undo of a new desk", Desks::empty, STATE, ChordDesk::undo);
        refuses("undo of appended characters", Desks.withText(Desks::empty, "S=a"), STATE, ChordDesk::undo);
        Supplier<ChordDesk> undone = () -> Check.after(() -> Desks.withStrokes(1), ChordDesk::undo);
        refuses("undo of more than there was", undone, STATE, ChordDesk::undo);
        Supplier<ChordDesk> eight = () -> {
            ChordDesk desk = Desks.full();
            for (int state = 0; state < 8; state++) {
                desk.undo();
            }
            return desk;
        };
        refuses("undo of a ninth state", eight, STATE, ChordDesk::undo);
    }

    private static void promise14StrokeAt() {
        refuses("strokeAt(0, 0) of none", Desks::empty, INDEX, desk -> desk.strokeAt(0, 0));
        for (int what : new int[] {0, 1, 2, -1, 3, LOWEST, HIGHEST}) {
            for (int number : new int[] {-1, 5, LOWEST, HIGHEST}) {
                refuses("strokeAt(" + number + ", " + what + ")", Desks::some, INDEX,
                    desk -> desk.strokeAt(number, what));
            }
            refuses("strokeAt(60, " + what + ")", Desks::full, INDEX, desk -> desk.strokeAt(60, what));
        }
        for (int what : new int[] {-1, 3, LOWEST, HIGHEST}) {
            refuses("strokeAt(0, " + what + ")", Desks::some, ARGUMENT, desk -> desk.strokeAt(0, what));
            refuses("strokeAt(59, " + what + ")", Desks::full, ARGUMENT, desk -> desk.strokeAt(59, what));
        }
    }

    private static void promise15Item() {
        refuses("item(0, 0) of none", Desks::empty, INDEX, desk -> desk.item(0, 0));
        for (int what : new int[] {0, 4, 5, -1, 17, LOWEST, HIGHEST}) {
            for (int item : new int[] {-1, 3, LOWEST, HIGHEST}) {
                refuses("item(" + item + ", " + what + ")", Desks::some, INDEX, desk -> desk.item(item, what));
            }
            refuses("item(60, " + what + ")", Desks::full, INDEX, desk -> desk.item(60, what));
        }
        // The texts have 8, 1 and 1 letters.
        int[][] wrong = {{0, 13}, {0, 14}, {1, 6}, {2, 6}, {2, 13}};
        for (int[] call : wrong) {
            refuses("item(" + call[0] + ", " + call[1] + ")", Desks::some, ARGUMENT, desk -> desk.item(call[0], call[1]));
        }
        for (int what : new int[] {-1, LOWEST, HIGHEST}) {
            refuses("item(1, " + what + ")", Desks::some, ARGUMENT, desk -> desk.item(1, what));
        }
        refuses("item of twelve letters, 17", () -> Desks.pressed("S=a", "STPHAOEUFRBG"), ARGUMENT,
            desk -> desk.item(0, 17));
    }

    private static void promise16Entry() {
        refusesEntry("entry 0 of", (desk, entry) -> desk.entry(entry, 0));
        refusesEntry("entry 15 of", (desk, entry) -> desk.entry(entry, 15));
        refusesEntry("entry -1 of", (desk, entry) -> desk.entry(entry, -1));
        refusesEntry("entry 16 of", (desk, entry) -> desk.entry(entry, 16));
        for (int what : new int[] {-1, 16, LOWEST, HIGHEST}) {
            refuses("entry(0, " + what + ")", Desks::some, ARGUMENT, desk -> desk.entry(0, what));
            refuses("entry(2, " + what + ")", Desks::some, ARGUMENT, desk -> desk.entry(2, what));
            refuses("entry(23, " + what + ")", Desks::full, ARGUMENT, desk -> desk.entry(23, what));
        }
    }

    private static void promise17Count() {
        for (int what : new int[] {-1, 10, LOWEST, HIGHEST}) {
            refuses("count(" + what + ")", Desks::empty, ARGUMENT, desk -> desk.count(what));
            refuses("count(" + what + ") of some", Desks::some, ARGUMENT, desk -> desk.count(what));
            refuses("count(" + what + ") of a full desk", Desks::full, ARGUMENT, desk -> desk.count(what));
        }
    }

    private static void promise18IfStroke() {
        for (int keys : NO_KEYS) {
            for (int what : new int[] {0, 1, 2, 3, -1, 4}) {
                refuses("ifStroke(" + keys + ", " + what + ")", Desks::some, ARGUMENT, desk -> desk.ifStroke(keys, what));
            }
            refuses("ifStroke(" + keys + ", 0) as the 61st", Desks::full, ARGUMENT, desk -> desk.ifStroke(keys, 0));
        }
        for (int what : new int[] {-1, 4, LOWEST, HIGHEST}) {
            for (int keys : new int[] {1, 4095}) {
                refuses("ifStroke(" + keys + ", " + what + ")", Desks::some, ARGUMENT, desk -> desk.ifStroke(keys, what));
            }
            refuses("ifStroke(1, " + what + ") as the 61st", Desks::full, ARGUMENT, desk -> desk.ifStroke(1, what));
        }
    }

    private static void promises19And22IfRemovedAndShortest() {
        refusesEntry("ifRemoved", ChordDesk::ifRemoved);
        refusesEntry("shortest", ChordDesk::shortest);
    }
}
