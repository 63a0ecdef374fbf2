/**
 * The edges that promises 1 to 17 name, in their order: the last value that is allowed on both sides, what is empty and
 * what is full, and what the call answers there. The first values that are not allowed stand in RefusedCallsTest.
 */
public final class EdgesOfPromisesTest {
    private static final String ARGUMENT = "IllegalArgumentException";
    private static final String STATE = "IllegalStateException";
    private static final String INDEX = "IndexOutOfBoundsException";

    public static void main(String[] args) {
        promise1NewObject();
        promise2Stroke();
        promise3TakeBack();
        promise4FixAll();
        promise5SetWindow();
        promise5SetWindowFixesAtOnce();
        promise6RemoveEntry();
        promise6RemoveEntryOfFullDictionary();
        promise7RenameEntry();
        promise7RenameEntryCountsTexts();
        promise8LearnOfFirstAndLastItems();
        promise8LearnAsFarAsEightLettersGo();
        promise8LearnInSmallLetters();
        promise9Append();
        promise10ClearBuffer();
        promise11FirstError();
        promise12Load();
        promise13Undo();
        promise14StrokeAt();
        promise15Item();
        promise16Entry();
        promise16EntryOpenItems();
        promise17CountOfNothing();
        promise17CountOfMuch();
        Check.end("EdgesOfPromisesTest");
    }

    private static void shows(String what, ChordDesk desk, String due) {
        Check.same(what, Check.show(desk), due);
    }

    // "Creates a desk with an empty dictionary, without strokes, with an empty buffer."
    private static void promise1NewObject() {
        int[] counts = {0, 0, 0, 0, 0, 8, 0, 0, 0, 0};
        for (int what = 0; what < counts.length; what++) {
            Check.same("count(" + what + ") of a new desk", new ChordDesk().count(what), counts[what]);
        }
        Check.refused("no stroke 0", new ChordDesk(), INDEX, desk -> desk.strokeAt(0, 0));
        Check.refused("no item 0", new ChordDesk(), INDEX, desk -> desk.item(0, 0));
        Check.refused("no entry 0", new ChordDesk(), INDEX, desk -> desk.entry(0, 0));
        Check.refused("no saved state", new ChordDesk(), STATE, ChordDesk::undo);
        Check.same("an empty buffer", new ChordDesk().clearBuffer(), 0);
        Check.same("no error in it", new ChordDesk().firstError(), 0);
        Check.refused("no list in it", new ChordDesk(), ARGUMENT, ChordDesk::load);
        Check.same("no strokes for it", new ChordDesk().fewestStrokes(), 0);
        Check.same("it is read back", new ChordDesk().readsBack(), 1);
        Check.same("no letters", new ChordDesk().lettersPerStroke(), 0.0);
        Check.same("the window of eight", new ChordDesk().setWindow(8), 8);
        ChordDesk used = Desks.full();
        Check.same("the full one is full", used.count(0), 60);
        Check.same("one made beside it has nothing of it", new ChordDesk().digest(), -8434513455649893962L);
    }

    // "keys: 1 to 4095"; "Returns the number of items then."
    private static void promise2Stroke() {
        ChordDesk desk = Desks.loaded("S/T/P/H=abcd");
        int[] strokes = {1, 2, 4, 8, 4095, 1, 2, 4, 8, 1};
        int[] items = {1, 2, 3, 1, 2, 3, 4, 5, 3, 4};
        for (int number = 0; number < strokes.length; number++) {
            Check.same("stroke " + number, desk.stroke(strokes[number]), items[number]);
        }
        shows("the first items are fixed", desk, "[abcd] STPHAOEUFRBG abcd:0 S");
        Check.same("with the fixed ones", desk.stroke(2), 5);
        Check.same("the 60th", Desks.withStrokes(59).stroke(4095), 60);
    }

    // "Returns the stroke."
    private static void promise3TakeBack() {
        for (int keys : new int[] {1, 2, 2047, 2048, 4095}) {
            ChordDesk desk = new ChordDesk();
            desk.stroke(keys);
            Check.same("takeBack of the only stroke", desk.takeBack(), keys);
            Check.same("no strokes", desk.count(0) + " " + desk.count(1), "0 0");
            desk.stroke(keys);
            desk.fixAll();
            Check.same("takeBack of the only stroke, fixed", desk.takeBack(), keys);
            Check.same("no strokes, nothing fixed", desk.count(0) + " " + desk.count(2), "0 0");
        }
        ChordDesk full = Desks.full();
        Check.same("takeBack of the 60th", full.takeBack(), 10);
        Check.same("59 are left", full.count(0), 59);
    }

    // "Fixes all items."; "Returns how many items become fixed."
    private static void promise4FixAll() {
        Check.same("of none", new ChordDesk().fixAll(), 0);
        Check.same("of one", Desks.withStrokes(1).fixAll(), 1);
        Check.same("of eight", Desks.withStrokes(8).fixAll(), 8);
        Check.same("of eight behind one that is fixed", Desks.withStrokes(9).fixAll(), 8);
        Check.same("of thirty behind thirty", Desks.full().fixAll(), 30);
        ChordDesk desk = Desks.pressed("S/T=ab", "S T P");
        Check.same("items, not strokes", desk.fixAll(), 2);
        Check.same("once more", desk.fixAll(), 0);
        Check.same("no open strokes", desk.count(3), 0);
        Check.same("the window stays", desk.count(5), 8);
    }

    // "window: 0 to 30"; "Returns the previous window."
    private static void promise5SetWindow() {
        ChordDesk desk = new ChordDesk();
        int previous = 8;
        for (int window = 0; window <= 30; window++) {
            Check.same("setWindow(" + window + ")", desk.setWindow(window), previous);
            Check.same("the window then", desk.count(5), window);
            previous = window;
        }
        Check.same("from 30 to 0", desk.setWindow(0), 30);
        Check.same("from 0 to 0", desk.setWindow(0), 0);
        Check.same("from 0 to 30", desk.setWindow(30), 0);
    }

    // "(Items that are fixed stay so; items become fixed at once, if there are more open strokes than the window tells)"
    private static void promise5SetWindowFixesAtOnce() {
        ChordDesk desk = Desks.pressed("S/T=ab", "P P S T P P");
        desk.setWindow(6);
        shows("as wide as the strokes", desk, "P P ab:0 P P");
        desk.setWindow(5);
        shows("one less", desk, "[P] P ab:0 P P");
        desk.setWindow(3);
        shows("less by an item of two and one", desk, "[P] [P] [ab] P P");
        desk.setWindow(2);
        shows("two are left in two", desk, "[P] [P] [ab] P P");
        desk.setWindow(30);
        shows("fixed ones stay so", desk, "[P] [P] [ab] P P");
        desk.setWindow(0);
        shows("none", desk, "[P] [P] [ab] [P] [P]");
        ChordDesk full = Desks.full();
        full.setWindow(29);
        Check.same("one of thirty", full.count(2), 31);
    }

    // "Removes an entry; the numbers of the later ones decrease by 1."; "Returns the number of items then."
    private static void promise6RemoveEntry() {
        ChordDesk first = Desks.pressed("S=a;T=b;P=c;T/P=d", "S T P");
        Check.same("of the first", first.removeEntry(0), 2);
        Check.same("the later ones", Check.list(first), "T=b;P=c;T/P=d");
        shows("items with them", first, "S d:2");
        Check.same("of the last", first.removeEntry(2), 3);
        shows("items without it", first, "S b:0 c:1");
        Check.same("of the first again", first.removeEntry(0), 3);
        shows("the other decreases", first, "S T c:0");
        Check.same("of the only one", first.removeEntry(0), 3);
        Check.same("none is left", first.count(4), 0);
        Check.refused("of none", first, INDEX, desk -> desk.removeEntry(0));
        Check.same("without items", Desks.loaded("S=a").removeEntry(0), 0);
        ChordDesk last = Desks.loaded("S=a;S/T=b");
        last.removeEntry(1);
        Check.press(last, "S T");
        shows("strokes that come after the last one went", last, "a:0 T");
        Check.same("learn of its outline", last.learn(0, 1), 1);
        ChordDesk fixed = Desks.pressed("S/T=ab", "S T");
        fixed.fixAll();
        Check.press(fixed, "S T");
        Check.same("with fixed items", fixed.removeEntry(0), 3);
    }

    private static void promise6RemoveEntryOfFullDictionary() {
        ChordDesk desk = Desks.full();
        Check.same("of the 24th", desk.removeEntry(23), 60);
        Check.same("23 are left", desk.count(4), 23);
        Check.same("the last one now", desk.entry(22, 1), 23);
        Check.same("of the first", desk.removeEntry(0), 60);
        for (int entry = 0; entry < 22; entry++) {
            Check.same("entry " + entry + " now", desk.entry(entry, 1), entry + 2);
        }
        Check.refused("the last number now", desk, INDEX, one -> one.entry(22, 0));
    }

    // "Gives an entry the word of another one."; "of: the number of the other one, perhaps the same"
    private static void promise7RenameEntry() {
        ChordDesk desk = Desks.pressed("S=a;T=bcdefghi;P=c", "S T P");
        Check.same("the first as the last", desk.renameEntry(0, 2), 1);
        Check.same("then", Check.list(desk), "S=c;T=bcdefghi;P=c");
        Check.same("the last as the longest", desk.renameEntry(2, 1), 1);
        Check.same("then", Check.list(desk), "S=c;T=bcdefghi;P=bcdefghi");
        Check.same("the longest as the shortest", desk.renameEntry(1, 0), 1);
        Check.same("then", Check.list(desk), "S=c;T=c;P=bcdefghi");
        shows("their items", desk, "c:0 c:1 bcdefghi:2");
        for (int entry = 0; entry < 3; entry++) {
            Check.same("with itself", desk.renameEntry(entry, entry), 0);
        }
        Check.same("nothing changes by that", Check.list(desk), "S=c;T=c;P=bcdefghi");
        Check.same("the only one", Desks.pressed("S=a", "S").renameEntry(0, 0), 0);
        ChordDesk full = Desks.full();
        Check.same("the last of 24 as the first", full.renameEntry(23, 0), 1);
        Check.same("the first as the last but one", full.renameEntry(0, 22), 1);
        Check.same("their words", full.entry(23, 5) + " " + full.entry(0, 5), "1 4");
    }

    // "Returns how many open items have another text than before by that."
    private static void promise7RenameEntryCountsTexts() {
        String list = "S=a;T=b;P=a;S/T=c";
        Check.same("no items", Desks.loaded(list).renameEntry(0, 1), 0);
        Check.same("one", Desks.pressed(list, "S P T").renameEntry(0, 1), 1);
        Check.same("three", Desks.pressed(list, "S S T S P S").renameEntry(0, 1), 3);
        Check.same("items of longer outlines are not its", Desks.pressed(list, "S T S T").renameEntry(0, 1), 0);
        Check.same("of a longer outline", Desks.pressed(list, "S T S T").renameEntry(3, 1), 2);
        Check.same("the same word of another one", Desks.pressed(list, "S S P").renameEntry(0, 2), 0);
        Check.same("items of the other one", Desks.pressed(list, "T T").renameEntry(0, 1), 0);
        ChordDesk fixed = Desks.pressed(list, "S S");
        fixed.fixAll();
        Check.same("fixed ones", fixed.renameEntry(0, 1), 0);
        Check.press(fixed, "S");
        Check.same("an open one behind them", fixed.renameEntry(0, 2), 1);
        ChordDesk window = Desks.pressed(list, "S S S S S S S S S");
        Check.same("those within the window", window.renameEntry(0, 1), 8);
    }

    // "Makes an entry of items: its outline are all strokes of some items one behind the other"
    private static void promise8LearnOfFirstAndLastItems() {
        ChordDesk one = Desks.withStrokes(1);
        Check.same("of the only item", one.learn(0, 0), 0);
        Check.same("its entry", Check.list(one), "S=s");
        ChordDesk desk = Desks.pressed("S/T=ab", "H S T P");
        Check.same("from the first to the last", desk.learn(0, 2), 1);
        Check.same("its entry", Check.list(desk), "S/T=ab;H/S/T/P=habp");
        shows("its item", desk, "habp:1");
        ChordDesk full = Desks.withStrokes(60);
        Check.same("of the 60th item", full.learn(59, 59), 0);
        Check.same("of the first of 60", full.learn(0, 1), 1);
        ChordDesk four = Desks.withStrokes(60);
        Check.same("of the last four", four.learn(56, 59), 0);
        ChordDesk mixed = Desks.pressed("S/T=ab", "S T");
        mixed.fixAll();
        Check.press(mixed, "P H");
        Check.same("of fixed and open ones", mixed.learn(0, 2), 1);
        Check.same("its entry", Check.list(mixed), "S/T=ab;S/T/P/H=abph");
        shows("a fixed item takes no part in it", mixed, "[ab] P H");
    }

    private static void learnedWordIs(String list, String strokes, int from, int to, String due) {
        ChordDesk desk = Desks.pressed(list, strokes);
        int entry = desk.learn(from, to);
        Check.same("word of " + strokes, Check.list(desk).split(";")[entry].split("=")[1], due);
        Check.same("its letters", desk.entry(entry, 5), due.length());
    }

    // "its word is their texts joined, in small letters, as far as 8 letters go"
    private static void promise8LearnAsFarAsEightLettersGo() {
        learnedWordIs("P=x", "S", 0, 0, "s");
        learnedWordIs("P=x", "STPHAOE", 0, 0, "stphaoe");
        learnedWordIs("P=x", "STPHAOEU", 0, 0, "stphaoeu");
        learnedWordIs("P=x", "STPHAOEUF", 0, 0, "stphaoeu");
        learnedWordIs("P=x", "STPHAOEUFRBG", 0, 0, "stphaoeu");
        learnedWordIs("P=abcdef", "P S", 0, 1, "abcdefs");
        learnedWordIs("P=abcdef", "P ST", 0, 1, "abcdefst");
        learnedWordIs("P=abcdef", "P STP", 0, 1, "abcdefst");
        learnedWordIs("P=abcdefgh", "P S", 0, 1, "abcdefgh");
        learnedWordIs("P=abcdefgh", "S P", 0, 1, "sabcdefg");
        learnedWordIs("P=abcdefgh", "P P P P", 0, 3, "abcdefgh");
        learnedWordIs("P=a", "P P P P", 0, 3, "aaaa");
        learnedWordIs("P=ab", "P P P P", 0, 3, "abababab");
        learnedWordIs("P=abc", "P P P P", 0, 3, "abcabcab");
    }

    private static void promise8LearnInSmallLetters() {
        String letters = "STPHAOEUFRBG";
        for (int key = 0; key < 12; key++) {
            String letter = letters.substring(key, key + 1);
            learnedWordIs("ST=x", letter, 0, 0, letter.toLowerCase());
        }
        learnedWordIs("S=az", "S T", 0, 1, "azt");
    }

    // "code: the character code, 33 to 126"; "Returns the new length of the buffer."
    private static void promise9Append() {
        ChordDesk desk = new ChordDesk();
        for (int code = 33; code <= 92; code++) {
            Check.same("append(" + code + ")", desk.append(code), code - 32);
        }
        ChordDesk other = new ChordDesk();
        for (int code = 93; code <= 126; code++) {
            Check.same("append(" + code + ")", other.append(code), code - 92);
        }
        Check.same("clearBuffer of 60", desk.clearBuffer(), 60);
        Check.same("clearBuffer of 34", other.clearBuffer(), 34);
    }

    // "Clears the buffer."; "Returns the length that it had."
    private static void promise10ClearBuffer() {
        for (int length = 0; length <= 60; length++) {
            ChordDesk desk = Desks.withText(Desks::empty, "a".repeat(length)).get();
            Check.same("clearBuffer of " + length, desk.clearBuffer(), length);
            Check.same("it is empty then", desk.clearBuffer(), 0);
        }
        ChordDesk desk = Desks.withText(Desks::some, "S=").get();
        desk.clearBuffer();
        Check.same("no error is left", desk.firstError(), 0);
        Check.same("nothing to write", desk.fewestStrokes() + " " + desk.readsBack(), "0 1");
        Check.type(desk, "c");
        Check.same("what comes then stands alone", desk.fewestStrokes(), 1);
    }

    // "Returns the index of the first character that is a syntax error; the length of the buffer if there is none."
    private static void promise11FirstError() {
        Check.same("of an empty buffer", new ChordDesk().firstError(), 0);
        Check.same("in the first place", Desks.withText(Desks::empty, "!").get().firstError(), 0);
        Check.same("none in one character", Desks.withText(Desks::empty, "S").get().firstError(), 1);
        String good = "STPHAOEUFRBG/STPHAOEUFRBG/STPHAOEUFRBG/STPHAOEUFRBG=abcdefgh";
        Check.same("none in 60", Desks.withText(Desks::empty, good).get().firstError(), 60);
        String bad = good.substring(0, 59) + "!";
        Check.same("in the last place of 60", Desks.withText(Desks::empty, bad).get().firstError(), 59);
        Check.same("in the first place of 60", Desks.withText(Desks::empty, "!" + bad.substring(1)).get().firstError(), 0);
        Check.same("an incomplete list is none", Desks.withText(Desks::empty, "S=a;T/").get().firstError(), 6);
    }

    // "Adds the entries in the buffer to the dictionary, and clears the buffer."; "Returns the number of entries then."
    private static void promise12Load() {
        Check.same("the first entry", Desks.withText(Desks::empty, "S=a").get().load(), 1);
        String widest = "STPHAOEUFRBG/STPHAOEUFRBG/STPHAOEUFRBG/STPHAOEUFRBG=abcdefgh";
        ChordDesk desk = Desks.withText(Desks::empty, widest).get();
        Check.same("of 60 characters", desk.load(), 1);
        Check.same("the widest entry", Check.list(desk), widest);
        Check.same("the buffer is empty", desk.clearBuffer(), 0);
        Check.same("then", desk.append('S'), 1);
        Check.refused("what is left is no list", desk, ARGUMENT, ChordDesk::load);
        ChordDesk full = Desks.withText(() -> Desks.withEntries(23), "G=x").get();
        Check.same("the 24th", full.load(), 24);
        Check.same("the buffer of a full dictionary is empty too", full.clearBuffer(), 0);
        ChordDesk refused = Desks.withText(() -> Desks.withEntries(24), "G=x").get();
        Check.refused("the 25th", refused, STATE, ChordDesk::load);
        Check.same("the buffer stays", refused.clearBuffer(), 3);
    }

    // "Restores the latest saved state, and drops it."; "Returns how many saved states are left."
    private static void promise13Undo() {
        Check.same("of the only state", Check.answer(Desks.withStrokes(1), ChordDesk::undo), "0");
        ChordDesk desk = Desks.withStrokes(60);
        for (int left = 7; left >= 0; left--) {
            Check.same("of " + (left + 1), desk.undo(), left);
            Check.same("strokes then", desk.count(0), 52 + left);
            Check.same("fixed ones then", desk.count(2), 44 + left);
        }
        Check.refused("of none", desk, STATE, ChordDesk::undo);
        Check.same("strokes still", desk.count(0), 52);
        ChordDesk again = Desks.withStrokes(2);
        again.undo();
        again.stroke(5);
        Check.same("of a state behind one that was undone", again.undo(), 1);
        Check.same("it is dropped", again.undo(), 0);
        Check.same("no strokes", again.count(0), 0);
    }

    // "0: its keys; 1: how many keys it has; 2: the item to which it belongs"
    private static void promise14StrokeAt() {
        ChordDesk desk = Desks.pressed("S/S/S/S=a", "S S S S G STPHAOEUFRBG S S S S");
        int[] keys = {1, 1, 1, 1, 2048, 4095, 1, 1, 1, 1};
        int[] items = {0, 0, 0, 0, 1, 2, 3, 3, 3, 3};
        for (int number = 0; number < keys.length; number++) {
            Check.same("keys of " + number, desk.strokeAt(number, 0), keys[number]);
            Check.same("how many keys", desk.strokeAt(number, 1), Integer.bitCount(keys[number]));
            Check.same("the item", desk.strokeAt(number, 2), items[number]);
        }
        ChordDesk full = Desks.full();
        for (int number : new int[] {0, 1, 29, 30, 58, 59}) {
            Check.same("keys of " + number + " of 60", full.strokeAt(number, 0), number % 25 + 1);
            Check.same("the item of " + number + " of 60", full.strokeAt(number, 2), number);
        }
    }

    // "5 and more: the character code at the place what - 5 of its text"
    private static void promise15Item() {
        ChordDesk desk = Desks.pressed("S/S/S/S=abcdefgh;T=z", "S S S S T STPHAOEUFRBG");
        int[][] due = {{0, 4, 0, 0, 8, 'a', 'b', 'c', 'd', 'e', 'f', 'g', 'h'}, {4, 1, 1, 0, 1, 'z'},
            {5, 1, -1, 0, 12, 'S', 'T', 'P', 'H', 'A', 'O', 'E', 'U', 'F', 'R', 'B', 'G'}};
        for (int fixed = 0; fixed <= 1; fixed++) {
            for (int item = 0; item < due.length; item++) {
                due[item][2] = fixed == 1 ? ChordDesk.NONE : due[item][2];
                due[item][3] = fixed;
                itemIs(desk, item, due[item]);
            }
            desk.fixAll();
        }
        ChordDesk full = Desks.full();
        Check.same("the first stroke of the 60th item", full.item(59, 0), 59);
        Check.same("its entry", full.item(59, 2), 9);
        Check.same("the first item is fixed", full.item(0, 3), 1);
        Check.same("the 30th too", full.item(29, 3), 1);
        Check.same("the 31st is open", full.item(30, 3), 0);
        Check.same("an open one without an entry", full.item(49, 2), ChordDesk.NONE);
    }

    private static void itemIs(ChordDesk desk, int item, int[] due) {
        for (int what = 0; what < due.length; what++) {
            Check.same("item(" + item + ", " + what + ")", desk.item(item, what), due[what]);
        }
        Check.refused("behind its text", desk, ARGUMENT, one -> one.item(item, due.length));
        Check.refused("before its numbers", desk, ARGUMENT, one -> one.item(item, -1));
    }

    // "1 to 4: its stroke what - 1, NONE if it has not so many"; "8 to 15: ... NONE if it is not so long"
    private static void promise16Entry() {
        ChordDesk desk = Desks.loaded("S=a;S/G=abcdefg;G/G/STPHAOEUFRBG/G=abcdefgh;G/S/T=zz");
        int[][] due = {
            {1, 1, -1, -1, -1, 1, 1, 0, 'a', -1, -1, -1, -1, -1, -1, -1},
            {2, 1, 2048, -1, -1, 7, 3, 0, 'a', 'b', 'c', 'd', 'e', 'f', 'g', -1},
            {4, 2048, 2048, 4095, 2048, 8, 0, 0, 'a', 'b', 'c', 'd', 'e', 'f', 'g', 'h'},
            {3, 2048, 1, 2, -1, 2, 0, 0, 'z', 'z', -1, -1, -1, -1, -1, -1}};
        for (int entry = 0; entry < due.length; entry++) {
            for (int what = 0; what < 16; what++) {
                Check.same("entry(" + entry + ", " + what + ")", desk.entry(entry, what), due[entry][what]);
            }
        }
        ChordDesk full = Desks.full();
        Check.same("the stroke of the first of 24", full.entry(0, 1), 1);
        Check.same("the stroke of the last of 24", full.entry(23, 1), 24);
        Check.same("the last letter there may be", full.entry(23, 15), ChordDesk.NONE);
    }

    // "7: how many open items it makes"
    private static void promise16EntryOpenItems() {
        ChordDesk desk = Desks.loaded("S=a;T=b");
        Check.same("without strokes", desk.entry(0, 7), 0);
        desk.setWindow(2);
        int[] items = {1, 2, 2, 2};
        for (int due : items) {
            desk.stroke(1);
            Check.same("within a window of two", desk.entry(0, 7), due);
        }
        Check.same("the other one", desk.entry(1, 7), 0);
        desk.fixAll();
        Check.same("all fixed", desk.entry(0, 7), 0);
        ChordDesk wide = Desks.loaded("S=a");
        wide.setWindow(30);
        for (int stroke = 0; stroke < 60; stroke++) {
            wide.stroke(1);
        }
        Check.same("thirty of sixty", wide.entry(0, 7), 30);
    }

    private static void countsAre(String what, ChordDesk desk, int... due) {
        for (int number = 0; number < due.length; number++) {
            Check.same(what + ", count(" + number + ")", desk.count(number), due[number]);
        }
    }

    private static void promise17CountOfNothing() {
        countsAre("a new desk", new ChordDesk(), 0, 0, 0, 0, 0, 8, 0, 0, 0, 0);
        countsAre("entries alone", Desks.loaded("S=a;T=a"), 0, 0, 0, 0, 2, 8, 0, 0, 2, 1);
        countsAre("strokes alone", Desks.withStrokes(9), 9, 9, 1, 8, 0, 8, 9, 8, 0, 8);
        countsAre("characters alone", Desks.withText(Desks::empty, "S=a").get(), 0, 0, 0, 0, 0, 8, 0, 0, 0, 0);
    }

    private static void promise17CountOfMuch() {
        countsAre("some", Desks.some(), 5, 3, 1, 2, 4, 3, 10, 1, 3, 7);
        countsAre("fixed", Desks.fixed(), 5, 3, 3, 0, 4, 8, 10, 0, 3, 7);
        ChordDesk full = Desks.full();
        // The letters of 1 to 25, twice, and of 1 to 10 once more.
        int letters = 0;
        for (int stroke = 0; stroke < 60; stroke++) {
            letters += Integer.bitCount(stroke % 25 + 1);
        }
        countsAre("a full desk", full, 60, 60, 30, 30, 24, 30, letters, 1, 0, 8);
        ChordDesk wide = new ChordDesk();
        for (int stroke = 0; stroke < 60; stroke++) {
            wide.stroke(4095);
        }
        Check.same("the most letters", wide.count(6), 720);
        ChordDesk clashing = Desks.loaded("S=a;T=a;P=a;H=a;A=a;O=a;E=a;U=a;F=a;R=a;B=a;G=a");
        Check.write(clashing, "ST=a;SP=a;SH=a;SA=a;SO=a;SE=a;SU=a;SF=a;SR=a;SB=a;SG=a;TG=a");
        clashing.load();
        Check.same("24 clashes", clashing.count(8), 24);
        clashing.renameEntry(0, 1);
        Check.same("24 still", clashing.count(8), 24);
    }
}
