import java.util.function.Supplier;

/**
 * The edges that the document names under "The session", in its order. Above each test stands the sentence that it holds.
 * Items are shown as Check.show writes them: fixed ones in brackets, open ones with their entry behind a colon.
 */
public final class EdgesOfSessionTest {
    private static final String STATE = "IllegalStateException";

    public static void main(String[] args) {
        at60Strokes();
        itemsOfOneToFourStrokes();
        firstItemsAreFixed();
        translatedAfterEachChange();
        fromTheFirstOpenStrokeOn();
        theLongestOutlineFirst();
        outlinesThatEndWithTheStrokes();
        aStrokeAlone();
        windowsAreWholeOrShort();
        atFirstEight();
        noWindowAtAll();
        thirtyOpenStrokes();
        fixedItemsKeepTheirTexts();
        fixedItemsHaveNoEntry();
        takeBackWithoutOpenStrokes();
        takeBackOfTheOnlyOpenStroke();
        takeBackOpensOnlyOneItem();
        takeBackTranslatesWithTheDictionaryOfNow();
        takeBackFixesAtOnce();
        takeBackOfAllStrokes();
        Check.end("EdgesOfSessionTest");
    }

    private static void shows(String what, ChordDesk desk, String due) {
        Check.same(what, Check.show(desk), due);
    }

    // "There are at most 60 strokes, numbered from 0."
    private static void at60Strokes() {
        ChordDesk desk = Desks.withStrokes(59);
        Check.same("the 60th stroke", desk.stroke(2), 60);
        Check.same("there are 60", desk.count(0), 60);
        Check.refused("the 61st", desk, STATE, one -> one.stroke(2));
        Check.same("the first number", desk.strokeAt(0, 0), 1);
        Check.same("the last number", desk.strokeAt(59, 0), 2);
        Check.same("takeBack of the 60th", desk.takeBack(), 2);
        Check.same("another 60th", desk.stroke(3), 60);
        Check.refused("another 61st", desk, STATE, one -> one.stroke(3));
        desk.fixAll();
        Check.refused("fixed strokes count as well", desk, STATE, one -> one.stroke(3));
        desk.undo();
        desk.undo();
        Check.same("a 60th after undo", desk.stroke(4), 60);
        ChordDesk fours = Desks.loaded("S/S/S/S=a");
        for (int stroke = 0; stroke < 60; stroke++) {
            fours.stroke(1);
        }
        Check.same("60 strokes in 15 items", fours.count(1), 15);
        Check.refused("strokes are counted, not items", fours, STATE, one -> one.stroke(1));
    }

    // "each item has 1 to 4 strokes and a text"
    private static void itemsOfOneToFourStrokes() {
        ChordDesk desk = Desks.pressed("S/S=b;T/T/T=c;P/P/P/P=dddddddd", "H S S T T T P P P P");
        shows("one to four", desk, "[H] [b] c:1 dddddddd:2");
        for (int item = 0; item < 4; item++) {
            Check.same("strokes of item " + item, desk.item(item, 1), item + 1);
            Check.same("its first stroke", desk.item(item, 0), item * (item + 1) / 2);
        }
        Check.press(desk, "P");
        shows("a fifth stroke is the next item's", desk, "[H] [b] c:1 dddddddd:2 P");
    }

    // "The first items can be fixed; the others are open. The strokes of open items are open."
    private static void firstItemsAreFixed() {
        ChordDesk desk = Desks.pressed("S/T=ab", "S T P");
        fixedItemsAndOpenStrokes("none is fixed", desk, 0, 3);
        desk.fixAll();
        fixedItemsAndOpenStrokes("all are fixed", desk, 2, 0);
        desk.stroke(8);
        fixedItemsAndOpenStrokes("the next is open", desk, 2, 1);
        Check.press(desk, "S T");
        fixedItemsAndOpenStrokes("strokes, not items", desk, 2, 3);
        desk.fixAll();
        fixedItemsAndOpenStrokes("all are fixed again", desk, 4, 0);
        for (int item = 0; item < 4; item++) {
            Check.same("item " + item + " is fixed", desk.item(item, 3), 1);
        }
    }

    private static void fixedItemsAndOpenStrokes(String what, ChordDesk desk, int items, int strokes) {
        Check.same(what + ", fixed items", desk.count(2), items);
        Check.same(what + ", open strokes", desk.count(3), strokes);
    }

    // "The open strokes are translated anew after each change of strokes or of the dictionary"
    private static void translatedAfterEachChange() {
        ChordDesk desk = Desks.pressed("S=a", "S T");
        shows("after stroke", desk, "a:0 T");
        desk.takeBack();
        shows("after takeBack", desk, "a:0");
        Check.press(desk, "T");
        desk.learn(0, 1);
        shows("after learn", desk, "at:1");
        desk.renameEntry(1, 0);
        shows("after renameEntry", desk, "a:1");
        desk.removeEntry(1);
        shows("after removeEntry", desk, "a:0 T");
        Check.load(desk, "T=b");
        shows("after load", desk, "a:0 b:1");
        Check.load(desk, "S/T=c");
        shows("after another load", desk, "c:2");
        desk.undo();
        shows("after undo", desk, "a:0 b:1");
    }

    // "from the first open stroke on"
    private static void fromTheFirstOpenStrokeOn() {
        ChordDesk desk = Desks.pressed("S/T=ab;T/P=cd", "S");
        desk.fixAll();
        Check.press(desk, "T P");
        shows("a fixed stroke begins no open item", desk, "[S] cd:1");
        ChordDesk last = Desks.pressed("S/T=ab", "P S");
        last.fixAll();
        Check.press(last, "T");
        shows("not even the last one", last, "[P] [S] T");
        last.undo();
        last.undo();
        Check.press(last, "T");
        shows("open ones do", last, "P ab:0");
    }

    // "the entry with the longest outline that the next strokes begin with makes an item, whose text is its word"
    private static void theLongestOutlineFirst() {
        String[] lists = {"S=a;S/S=b;S/S/S=c;S/S/S/S=d", "S/S/S/S=d;S/S/S=c;S/S=b;S=a", "S/S=b;S/S/S/S=d;S=a;S/S/S=c"};
        String[] due = {"a", "b", "c", "d", "da", "db", "dc", "dd"};
        for (String list : lists) {
            ChordDesk desk = Desks.loaded(list);
            for (String texts : due) {
                desk.stroke(1);
                Check.same(list, Check.show(desk).replaceAll("[: 0-9]", ""), texts);
            }
        }
        ChordDesk greedy = Desks.pressed("S/T=a;T/P/H/A=b", "S T P H A");
        shows("from the left, though the next would be longer", greedy, "a:0 P H A");
        ChordDesk hole = Desks.pressed("S=a;S/S/S/S=d", "S S S");
        shows("four are not there yet", hole, "a:0 a:0 a:0");
        hole.stroke(1);
        shows("now they are", hole, "d:1");
    }

    // "that the next strokes begin with": an outline that goes beyond the last stroke does not count
    private static void outlinesThatEndWithTheStrokes() {
        for (int length = 1; length <= 4; length++) {
            String outline = "S/T/P/H".substring(0, 2 * length - 1);
            ChordDesk desk = Desks.loaded(outline + "=x");
            for (int stroke = 0; stroke < length - 1; stroke++) {
                desk.stroke(1 << stroke);
            }
            Check.same(outline + " with a stroke too few", desk.entry(0, 7), 0);
            desk.stroke(1 << length - 1);
            Check.same(outline + " with its last stroke", desk.entry(0, 7), 1);
            Check.same(outline + " is one item", desk.count(1), 1);
        }
    }

    // "if there is none, the next stroke alone makes an item without an entry, whose text are the letters of the stroke"
    private static void aStrokeAlone() {
        ChordDesk desk = Desks.pressed("S/T=a", "S S T STPHAOEUFRBG");
        shows("without an entry", desk, "S a:0 STPHAOEUFRBG");
        Check.same("NONE", desk.item(0, 2), ChordDesk.NONE);
        Check.same("one stroke", desk.item(0, 1), 1);
        Check.same("twelve letters", desk.item(2, 4), 12);
        shows("without any entries", Desks.pressed("S=a", "T"), "T");
    }

    // "as long as there are more open strokes than the window tells ..., the first open item becomes fixed"
    private static void windowsAreWholeOrShort() {
        for (int window = 0; window <= 30; window++) {
            ChordDesk desk = new ChordDesk();
            desk.setWindow(window);
            for (int stroke = 0; stroke < window; stroke++) {
                desk.stroke(1);
            }
            Check.same("as many strokes as the window " + window, desk.count(2), 0);
            desk.stroke(1);
            Check.same("one more", desk.count(2), 1);
            Check.same("the window stays filled", desk.count(3), window);
        }
        ChordDesk whole = Desks.loaded("S/S/S/S=a");
        whole.setWindow(4);
        Check.press(whole, "S S S S");
        shows("four in a window of four", whole, "a:0");
        Check.press(whole, "T");
        shows("all four become fixed", whole, "[a] T");
        Check.same("fewer are open than the window tells", whole.count(3), 1);
        whole.undo();
        whole.setWindow(3);
        shows("in a window of three", whole, "[a]");
        ChordDesk several = Desks.pressed("S/S=a", "T T S S P");
        several.setWindow(2);
        shows("as many as it takes", several, "[T] [T] [a] P");
        several.undo();
        several.setWindow(3);
        shows("and no more", several, "[T] [T] a:0 P");
    }

    // "(0 to 30, at first 8)"
    private static void atFirstEight() {
        ChordDesk desk = Desks.withStrokes(8);
        Check.same("eight strokes are open", desk.count(3), 8);
        Check.same("none is fixed", desk.count(2), 0);
        desk.stroke(1);
        Check.same("the ninth fixes one", desk.count(2), 1);
        Check.same("eight stay open", desk.count(3), 8);
        Check.same("the window", desk.count(5), 8);
    }

    private static void noWindowAtAll() {
        ChordDesk desk = Desks.loaded("S=a;S/T=b");
        desk.setWindow(0);
        Check.press(desk, "S T P");
        shows("a window of 0", desk, "[a] [T] [P]");
        desk.setWindow(1);
        Check.press(desk, "S");
        shows("a window of 1", desk, "[a] [T] [P] a:0");
        Check.press(desk, "T");
        shows("a match goes over the window and is fixed whole", desk, "[a] [T] [P] [b]");
    }

    private static void thirtyOpenStrokes() {
        ChordDesk desk = new ChordDesk();
        desk.setWindow(30);
        for (int stroke = 0; stroke < 30; stroke++) {
            desk.stroke(1);
        }
        Check.same("thirty are open", desk.count(3), 30);
        Check.same("none is fixed", desk.count(2), 0);
        desk.stroke(1);
        Check.same("the 31st fixes one", desk.count(2), 1);
        for (int stroke = 31; stroke < 60; stroke++) {
            desk.stroke(1);
        }
        Check.same("thirty of sixty", desk.count(3), 30);
        Check.same("the others are fixed", desk.count(2), 30);
    }

    private static ChordDesk fixedOf(String list, String strokes) {
        ChordDesk desk = Desks.pressed(list, strokes);
        desk.fixAll();
        return desk;
    }

    // "A fixed item keeps its strokes and its text, whatever happens to the dictionary"
    private static void fixedItemsKeepTheirTexts() {
        Supplier<ChordDesk> recipe = () -> fixedOf("S/T=ab;P=c", "S T P H");
        ChordDesk removed = recipe.get();
        removed.removeEntry(0);
        shows("removeEntry", removed, "[ab] [c] [H]");
        removed.removeEntry(0);
        shows("of all", removed, "[ab] [c] [H]");
        Check.same("the strokes stay", removed.item(0, 1), 2);
        ChordDesk renamed = recipe.get();
        renamed.renameEntry(0, 1);
        renamed.renameEntry(1, 0);
        shows("renameEntry", renamed, "[ab] [c] [H]");
        ChordDesk learned = recipe.get();
        learned.learn(0, 1);
        learned.learn(2, 2);
        shows("learn", learned, "[ab] [c] [H]");
        ChordDesk loaded = recipe.get();
        Check.load(loaded, "S/T/P/H=x;H=y;S=z;T=z");
        shows("load", loaded, "[ab] [c] [H]");
        loaded.undo();
        shows("undo", loaded, "[ab] [c] [H]");
        ChordDesk windowed = Desks.pressed("S/T=ab", "S T P H");
        windowed.setWindow(2);
        windowed.removeEntry(0);
        shows("fixed by the window", windowed, "[ab] P H");
    }

    // "it has no entry any more"
    private static void fixedItemsHaveNoEntry() {
        ChordDesk desk = Desks.pressed("S/T=ab;P=c", "S T P");
        Check.same("an open one has it", desk.item(1, 2), 1);
        desk.fixAll();
        Check.same("a fixed one has none", desk.item(0, 2) + " " + desk.item(1, 2), "-1 -1");
        Check.same("its entry makes no item", desk.entry(0, 7) + " " + desk.entry(1, 7), "0 0");
        Check.same("it is no open item without an entry", desk.count(7), 0);
        ChordDesk windowed = Desks.pressed("S/T=ab;P=c", "S T P");
        windowed.setWindow(1);
        Check.same("nor has one behind the window", windowed.item(0, 2) + " " + windowed.item(1, 2), "-1 1");
    }

    // "When the latest stroke is taken back, and there are no open strokes, the last fixed item is opened first."
    private static void takeBackWithoutOpenStrokes() {
        ChordDesk four = fixedOf("S/T/P/H=d;S/T=b", "A S T P H");
        Check.same("takeBack", four.takeBack(), 8);
        shows("the item opens, and is translated anew", four, "[A] b:1 P");
        Check.same("takeBack again", four.takeBack(), 4);
        shows("an open stroke goes", four, "[A] b:1");
        ChordDesk one = fixedOf("S=a", "A S");
        Check.same("takeBack of an item of one stroke", one.takeBack(), 1);
        shows("nothing is open then", one, "[A]");
        Check.same("no open strokes", one.count(3), 0);
        Check.same("one fixed item", one.count(2), 1);
        Check.press(one, "S");
        shows("what comes then is open", one, "[A] a:0");
    }

    // ... and where there are open strokes, none is opened
    private static void takeBackOfTheOnlyOpenStroke() {
        ChordDesk desk = fixedOf("S/T=ab", "S T");
        Check.press(desk, "P");
        Check.same("takeBack of the only open stroke", desk.takeBack(), 4);
        shows("the fixed one stays fixed", desk, "[ab]");
        Check.same("no open strokes", desk.count(3), 0);
        Check.same("then it is opened", desk.takeBack(), 2);
        shows("with one stroke less", desk, "S");
    }

    private static void takeBackOpensOnlyOneItem() {
        ChordDesk desk = fixedOf("S/T=ab", "S T S T S T");
        desk.takeBack();
        shows("the last fixed item", desk, "[ab] [ab] S");
        desk.takeBack();
        shows("its last stroke", desk, "[ab] [ab]");
        desk.takeBack();
        shows("the next one", desk, "[ab] S");
    }

    // "Then the last stroke is removed, and the open strokes are translated anew"
    private static void takeBackTranslatesWithTheDictionaryOfNow() {
        ChordDesk desk = fixedOf("S/T/P=abc", "S T P");
        desk.removeEntry(0);
        Check.load(desk, "S=x;T=y;P=z");
        desk.takeBack();
        shows("entries that came later", desk, "x:0 y:1");
        ChordDesk gone = fixedOf("S=a;S/T=b", "S T");
        gone.removeEntry(0);
        gone.takeBack();
        shows("an entry that went", gone, "S");
        Check.same("it has no entry", gone.item(0, 2), -1);
        Check.same("it is open", gone.count(7), 1);
    }

    // "(so items can become fixed again at once)"
    private static void takeBackFixesAtOnce() {
        ChordDesk none = Desks.pressed("S/T/P/H=d;S/T=b", "S T P H");
        none.setWindow(0);
        none.takeBack();
        shows("with a window of 0", none, "[b] [P]");
        none.takeBack();
        shows("again", none, "[b]");
        none.takeBack();
        shows("and again", none, "[S]");
        ChordDesk two = Desks.pressed("S/T/P/H=d", "S T P H");
        two.setWindow(2);
        two.takeBack();
        shows("with a window of 2", two, "[S] T P");
        ChordDesk three = Desks.pressed("S/T/P/H=d", "S T P H");
        three.setWindow(3);
        three.takeBack();
        shows("with a window of 3", three, "S T P");
    }

    private static void takeBackOfAllStrokes() {
        ChordDesk desk = Desks.withStrokes(60);
        for (int left = 59; left >= 0; left--) {
            Check.same("takeBack", desk.takeBack(), 1);
            Check.same("strokes left", desk.count(0), left);
            Check.same("items left", desk.count(1), left);
            Check.same("fixed ones", desk.count(2), Math.min(left, 52));
        }
        Check.refused("takeBack of none", desk, STATE, ChordDesk::takeBack);
        Check.same("a stroke after all", desk.stroke(5), 1);
    }
}
