/** Promises 1 to 5: a new object, stroke, takeBack, fixAll, setWindow. */
public final class SessionTest {
    public static void main(String[] args) {
        newObject();
        strokeAddsAndTranslates();
        longestMatchFromTheLeft();
        strokesBecomeFixedBehindTheWindow();
        takeBackOpensWords();
        takeBackFixesAgain();
        fixAllFixes();
        fixedItemsKeepTheirTexts();
        setWindowFixes();
        Check.end("SessionTest");
    }

    private static void newObject() {
        ChordDesk desk = new ChordDesk();
        int[] counts = {0, 0, 0, 0, 0, 8, 0, 0, 0, 0};
        for (int what = 0; what < counts.length; what++) {
            Check.same("count(" + what + ") of a new desk", desk.count(what), counts[what]);
        }
        Check.same("the buffer of a new desk", desk.clearBuffer(), 0);
        ChordDesk other = new ChordDesk();
        other.stroke(1);
        Check.same("two desks share nothing", desk.count(0), 0);
    }

    private static void strokeAddsAndTranslates() {
        ChordDesk desk = Check.deskWith("S/T=ab");
        Check.same("stroke(1)", desk.stroke(1), 1);
        Check.same("after S", Check.show(desk), "S");
        Check.same("stroke(2) makes one item of two", desk.stroke(2), 1);
        Check.same("after S T", Check.show(desk), "ab:0");
        Check.same("stroke(4095)", desk.stroke(4095), 2);
        Check.same("all keys", Check.show(desk), "ab:0 STPHAOEUFRBG");
        Check.same("stroke is undoable", desk.undo(), 3);
        Check.same("after undo", Check.show(desk), "ab:0");
    }

    private static void longestMatchFromTheLeft() {
        ChordDesk desk = Check.deskWith("S=a;S/T=b;S/T/P=c;S/T/P/H=d;T/P=e;P/S=f");
        String[] strokes = {"S", "T", "P", "H", "S", "T", "P", "S"};
        String[] due = {"a:0", "b:1", "c:2", "d:3", "d:3 a:0", "d:3 b:1", "d:3 c:2", "d:3 c:2 a:0"};
        for (int i = 0; i < strokes.length; i++) {
            Check.press(desk, strokes[i]);
            Check.same("longest match after " + (i + 1) + " strokes", Check.show(desk), due[i]);
        }
        ChordDesk gap = Check.deskWith("S/T/P/H=d;S/T=b;P/H/S=g");
        Check.press(gap, "S T P");
        Check.same("a longer outline that is not complete", Check.show(gap), "b:1 P");
        Check.press(gap, "S");
        Check.same("one in the middle that does not match", Check.show(gap), "b:1 P S");
        ChordDesk order = Check.deskWith("T/S=x");
        Check.press(order, "S T");
        Check.same("the order of strokes matters", Check.show(order), "S T");
        ChordDesk subset = Check.deskWith("ST=x");
        Check.press(subset, "S T STP ST");
        Check.same("a stroke matches whole", Check.show(subset), "S T STP x:0");
    }

    private static void strokesBecomeFixedBehindTheWindow() {
        ChordDesk desk = Check.deskWith("S/T=ab;P/P/P=ccc");
        desk.setWindow(3);
        Check.press(desk, "S T P");
        Check.same("three strokes in a window of three", Check.show(desk), "ab:0 P");
        Check.press(desk, "P");
        Check.same("the fourth fixes an item of two", Check.show(desk), "[ab] P P");
        Check.press(desk, "P");
        Check.same("within the window they still join", Check.show(desk), "[ab] ccc:1");
        Check.press(desk, "S");
        Check.same("all of an item becomes fixed", Check.show(desk), "[ab] [ccc] S");
        Check.same("fixed items", desk.count(2), 2);
        Check.same("open strokes", desk.count(3), 1);
        ChordDesk eight = new ChordDesk();
        Check.press(eight, "S T P H A O E U");
        Check.same("at first the window is eight", eight.count(2), 0);
        eight.stroke(1);
        Check.same("the ninth stroke fixes the first", eight.count(2), 1);
        ChordDesk none = Check.deskWith("S/T=ab;P=c");
        none.setWindow(0);
        Check.press(none, "S T P");
        Check.same("a window of 0 fixes at once", Check.show(none), "[S] [T] [c]");
    }

    private static void takeBackOpensWords() {
        ChordDesk desk = Check.deskWith("S=a;S/T=b;S/T/P=c");
        Check.press(desk, "H S T P");
        Check.same("before", Check.show(desk), "H c:2");
        Check.same("takeBack answers the stroke", desk.takeBack(), 4);
        Check.same("the rest is translated anew", Check.show(desk), "H b:1");
        Check.same("takeBack of T", desk.takeBack(), 2);
        Check.same("then", Check.show(desk), "H a:0");
        desk.fixAll();
        Check.same("fixed", Check.show(desk), "[H] [a]");
        Check.same("takeBack of a fixed item", desk.takeBack(), 1);
        Check.same("only the last item was opened", Check.show(desk), "[H]");
        Check.same("takeBack of the first", desk.takeBack(), Check.keys("H"));
        Check.same("nothing is left", Check.show(desk), "");
        Check.same("takeBack is undoable", desk.undo(), 7);
        Check.same("after undo", Check.show(desk), "[H]");
    }

    private static void takeBackFixesAgain() {
        ChordDesk desk = Check.deskWith("S/T/P/H=d;S/T=b");
        Check.press(desk, "S T P H");
        desk.setWindow(2);
        Check.same("fixed by the window", Check.show(desk), "[d]");
        desk.takeBack();
        Check.same("opened, and the first item fixed again", Check.show(desk), "[b] P");
        desk.takeBack();
        Check.same("an open stroke goes, nothing is opened", Check.show(desk), "[b]");
        desk.takeBack();
        Check.same("the fixed one is opened, its rest stays open", Check.show(desk), "S");
        ChordDesk closed = Check.deskWith("S/T/P=d");
        Check.press(closed, "S T P");
        closed.setWindow(0);
        closed.takeBack();
        Check.same("with a window of 0 the rest is fixed at once", Check.show(closed), "[S] [T]");
        ChordDesk changed = Check.deskWith("S/T=b");
        Check.press(changed, "S T P");
        changed.fixAll();
        Check.load(changed, "S=a");
        changed.takeBack();
        Check.same("an item of one stroke goes, the others stay fixed", Check.show(changed), "[b]");
        changed.takeBack();
        Check.same("an opened item takes the dictionary of now", Check.show(changed), "a:1");
    }

    private static void fixAllFixes() {
        ChordDesk desk = Check.deskWith("S/T=ab");
        Check.same("fixAll of nothing", desk.fixAll(), 0);
        Check.same("it is saved all the same", desk.count(9), 2);
        Check.press(desk, "S T P");
        Check.same("fixAll counts items", desk.fixAll(), 2);
        Check.same("they are fixed", Check.show(desk), "[ab] [P]");
        Check.press(desk, "S");
        Check.same("fixAll counts those that become fixed", desk.fixAll(), 1);
        Check.press(desk, "T");
        Check.same("fixed strokes do not join open ones", Check.show(desk), "[ab] [P] [S] T");
        desk.undo();
        desk.undo();
        Check.same("fixAll is undoable", Check.show(desk), "[ab] [P] S");
    }

    private static void fixedItemsKeepTheirTexts() {
        ChordDesk desk = Check.deskWith("S/T=ab;P=c;H=d");
        Check.press(desk, "S T P H");
        desk.fixAll();
        Check.press(desk, "S T P");
        desk.renameEntry(1, 2);
        desk.removeEntry(0);
        Check.same("open ones change, fixed ones stay", Check.show(desk), "[ab] [c] [d] S T d:0");
        Check.same("a fixed item has its strokes", desk.item(0, 1), 2);
        Check.same("a fixed item has no entry", desk.item(1, 2), ChordDesk.NONE);
    }

    private static void setWindowFixes() {
        ChordDesk desk = Check.deskWith("S/T=ab");
        Check.press(desk, "S T P H A");
        Check.same("setWindow answers the one before", desk.setWindow(5), 8);
        Check.same("five strokes in five", Check.show(desk), "ab:0 P H A");
        Check.same("then", desk.setWindow(4), 5);
        Check.same("items become fixed at once, whole", Check.show(desk), "[ab] P H A");
        Check.same("then", desk.setWindow(30), 4);
        Check.same("fixed ones stay so", Check.show(desk), "[ab] P H A");
        desk.undo();
        Check.same("setWindow is undoable", desk.count(5), 4);
        desk.undo();
        Check.same("its fixing too", Check.show(desk), "ab:0 P H A");
        desk.setWindow(0);
        Check.same("no open strokes", Check.show(desk), "[ab] [P] [H] [A]");
        ChordDesk wide = new ChordDesk();
        wide.setWindow(30);
        for (int stroke = 0; stroke < 31; stroke++) {
            wide.stroke(1);
        }
        Check.same("a window of thirty", wide.count(3), 30);
    }
}
