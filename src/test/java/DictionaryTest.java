/** Promises 6 to 8: removeEntry, renameEntry, learn. */
public final class DictionaryTest {
    public static void main(String[] args) {
        removeEntryRemoves();
        renameEntryRenames();
        learnMakesAnEntry();
        learnWritesSmallLettersUpToEight();
        learnFromFixedItems();
        Check.end("DictionaryTest");
    }

    private static void removeEntryRemoves() {
        ChordDesk desk = Check.deskWith("S=a;S/T=b;P=c");
        Check.press(desk, "S T P");
        Check.same("before", Check.show(desk), "b:1 c:2");
        Check.same("removeEntry answers the items", desk.removeEntry(1), 3);
        Check.same("the later numbers decrease", Check.show(desk), "a:0 T c:1");
        Check.same("the dictionary", Check.list(desk), "S=a;P=c");
        Check.same("removing the last", desk.removeEntry(1), 3);
        Check.same("removing the only one", desk.removeEntry(0), 3);
        Check.same("all gone", Check.show(desk), "S T P");
        Check.same("removeEntry is undoable", desk.undo(), 7);
        Check.same("it is back", Check.list(desk), "S=a");
        desk.undo();
        desk.undo();
        Check.same("the items too", Check.show(desk), "b:1 c:2");
    }

    private static void renameEntryRenames() {
        ChordDesk desk = Check.deskWith("S=a;T=bc;P=a");
        Check.press(desk, "S S");
        desk.fixAll();
        Check.press(desk, "S T S P");
        Check.same("renameEntry counts open items", desk.renameEntry(0, 1), 2);
        Check.same("the texts", Check.show(desk), "[a] [a] bc:0 bc:1 bc:0 a:2");
        Check.same("the dictionary", Check.list(desk), "S=bc;T=bc;P=a");
        Check.same("the same word again", desk.renameEntry(0, 1), 0);
        Check.same("its own word", desk.renameEntry(2, 2), 0);
        Check.same("a shorter word", desk.renameEntry(1, 2), 1);
        Check.same("no longer letters are left", Check.list(desk), "S=bc;T=a;P=a");
        Check.same("saved, also if nothing changes", desk.count(9), 8);
        desk.undo();
        Check.same("renameEntry is undoable", Check.list(desk), "S=bc;T=bc;P=a");
        Check.same("without items of it", Check.deskWith("S=a;T=b").renameEntry(0, 1), 0);
    }

    private static void learnMakesAnEntry() {
        ChordDesk desk = Check.deskWith("S=a;T/P=bc");
        Check.press(desk, "H S T P");
        Check.same("before", Check.show(desk), "H a:0 bc:1");
        Check.same("learn answers the entry's number", desk.learn(1, 2), 2);
        Check.same("its outline and word", Check.list(desk), "S=a;T/P=bc;S/T/P=abc");
        Check.same("the open strokes are translated anew", Check.show(desk), "H abc:2");
        Check.same("learn of one item", desk.learn(0, 0), 3);
        Check.same("its letter is small", Check.list(desk), "S=a;T/P=bc;S/T/P=abc;H=h");
        Check.same("learn of four strokes", desk.learn(0, 1), 4);
        Check.same("all of them", Check.show(desk), "habc:4");
        Check.same("learn is undoable", desk.undo(), 8 - 1);
        Check.same("after undo", Check.show(desk), "h:3 abc:2");
    }

    private static void learnWritesSmallLettersUpToEight() {
        ChordDesk desk = Check.deskWith("P=abcdef");
        Check.press(desk, "STPHAOEUFRBG P ST P H");
        desk.learn(0, 0);
        Check.same("twelve letters of one stroke", Check.list(desk), "P=abcdef;STPHAOEUFRBG=stphaoeu");
        desk.learn(1, 2);
        Check.same("just eight", Check.list(desk).split(";")[2], "P/ST=abcdefst");
        desk.undo();
        desk.learn(2, 3);
        Check.same("eight again", Check.list(desk).split(";")[2], "ST/P=stabcdef");
        desk.undo();
        desk.learn(1, 4);
        Check.same("as far as eight go", Check.list(desk).split(";")[2], "P/ST/P/H=abcdefst");
        desk.undo();
        desk.learn(3, 4);
        Check.same("seven", Check.list(desk).split(";")[2], "P/H=abcdefh");
    }

    private static void learnFromFixedItems() {
        ChordDesk desk = Check.deskWith("S=xy");
        Check.press(desk, "S T");
        desk.fixAll();
        desk.removeEntry(0);
        Check.press(desk, "S T");
        Check.same("fixed and open items", Check.show(desk), "[xy] [T] S T");
        Check.same("learn of fixed items", desk.learn(0, 1), 0);
        Check.same("their texts", Check.list(desk), "S/T=xyt");
        Check.same("only open ones change", Check.show(desk), "[xy] [T] xyt:0");
        Check.same("a fixed and an open item", desk.learn(1, 2), 1);
        Check.same("joined", Check.list(desk), "S/T=xyt;T/S/T=txyt");
        Check.same("a fixed stroke joins no open ones", Check.show(desk), "[xy] [T] xyt:0");
    }
}
