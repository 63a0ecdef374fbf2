/** Promises 9 to 13: append, clearBuffer, firstError, load, undo. */
public final class TextsTest {
    public static void main(String[] args) {
        appendAppends();
        clearBufferClears();
        firstErrorOfGoodTexts();
        firstErrorOfBadTexts();
        everyCharacterInEveryPlace();
        loadAddsEntries();
        loadTranslatesAnew();
        undoRestores();
        undoSavesEight();
        undoKeepsTheBuffer();
        Check.end("TextsTest");
    }

    private static void appendAppends() {
        ChordDesk desk = new ChordDesk();
        Check.same("append(33)", desk.append(33), 1);
        Check.same("append(126)", desk.append(126), 2);
        for (int length = 3; length <= 60; length++) {
            Check.same("append to a length of " + length, desk.append('a'), length);
        }
        Check.same("append is not undoable", desk.count(9), 0);
    }

    private static void clearBufferClears() {
        ChordDesk desk = new ChordDesk();
        Check.same("clearBuffer of nothing", desk.clearBuffer(), 0);
        Check.type(desk, "S=a");
        Check.same("clearBuffer answers the length", desk.clearBuffer(), 3);
        Check.same("it is empty then", desk.clearBuffer(), 0);
        Check.same("clearBuffer is not undoable", desk.count(9), 0);
        Check.same("append begins anew", desk.append('x'), 1);
    }

    private static void firstErrorOfGoodTexts() {
        String[] good = {"", "S", "G", "SG", "STPHAOEUFRBG", "S/", "S/S/S/S", "S=", "S=a", "S=z", "S=abcdefgh", "S=a;",
            "S=a;S", "S=a;S=a", "S/S/S/S=abcdefgh;G/G=z", "STPHAOEUFRBG/STPHAOEUFRBG/STPHAOEUFRBG/STPHAOEUFRBG=abcdefgh",
            "S=a;S=a;S=a;S=a;S=a;S=a;S=a;S=a;S=a;S=a;S=a;S=a;S=a;S=a;S=a;"};
        ChordDesk desk = new ChordDesk();
        for (String text : good) {
            Check.write(desk, text);
            Check.same("firstError of " + text, desk.firstError(), text.length());
        }
    }

    private static void firstErrorOfBadTexts() {
        // The mark | stands before the first error.
        String[] bad = {"|/", "|=", "|;", "|a", "|s", "|1", "S|S", "T|S", "G|S", "SG|B", "STP|h", "S|a", "S|;", "S|:", "S/|/",
            "S/|=", "S/|;", "S/|a", "S/S/S/S|/", "S/S/S/S|/S", "S=|=", "S=|/", "S=|;", "S=|A", "S=|S", "S=a|/", "S=a|=",
            "S=a|S", "S=a|A", "S=a|`", "S=a|{", "S=abcdefgh|i", "S=a;|;", "S=a;|a", "S=a;|=", "S=a;T|S",
            "S=a;S/S/S/S|/", "S=a;S=abcdefgh|i", "S/T=ab|1;S=;;", "S|!a", "SP|T", "AE|O", "FB|R"};
        ChordDesk desk = new ChordDesk();
        for (String marked : bad) {
            String text = marked.replace("|", "");
            Check.write(desk, text);
            Check.same("firstError of " + marked, desk.firstError(), marked.indexOf('|'));
        }
    }

    /** Which characters go on behind a beginning; an oracle of its own, by the letters that may follow. */
    private static void everyCharacterInEveryPlace() {
        String small = "abcdefghijklmnopqrstuvwxyz";
        String[][] goesOn = {
            {"", "STPHAOEUFRBG"}, {"S", "TPHAOEUFRBG/="}, {"SA", "OEUFRBG/="}, {"R", "BG/="}, {"G", "/="},
            {"G/", "STPHAOEUFRBG"}, {"S/T/P", "HAOEUFRBG/="}, {"S/T/P/H", "AOEUFRBG="}, {"S/T/P/G", "="},
            {"S=", small}, {"S=a", small + ";"}, {"S=abcdefg", small + ";"}, {"S=abcdefgh", ";"},
            {"S=a;", "STPHAOEUFRBG"}, {"S/T/P/H=a;O", "EUFRBG/="}, {"S=abcdefgh;T=a", small + ";"}};
        for (String[] row : goesOn) {
            for (char code = 33; code <= 126; code++) {
                ChordDesk desk = new ChordDesk();
                Check.type(desk, row[0] + code);
                boolean goes = row[1].indexOf(code) >= 0;
                Check.same(row[0] + " with " + code, desk.firstError(), row[0].length() + (goes ? 1 : 0));
            }
        }
    }

    private static void loadAddsEntries() {
        ChordDesk desk = new ChordDesk();
        Check.type(desk, "S=a;STPHAOEUFRBG/G=abcdefgh;S/T/P/H=z");
        Check.same("load answers the entries", desk.load(), 3);
        Check.same("in their order", Check.list(desk), "S=a;STPHAOEUFRBG/G=abcdefgh;S/T/P/H=z");
        Check.same("load clears the buffer", desk.clearBuffer(), 0);
        Check.type(desk, "T=a");
        Check.same("load adds", desk.load(), 4);
        Check.same("behind the others", Check.list(desk), "S=a;STPHAOEUFRBG/G=abcdefgh;S/T/P/H=z;T=a");
        Check.same("load is undoable", desk.undo(), 1);
        Check.same("after undo", desk.count(4), 3);
    }

    private static void loadTranslatesAnew() {
        ChordDesk desk = new ChordDesk();
        Check.press(desk, "S T");
        desk.fixAll();
        Check.press(desk, "S T P");
        Check.write(desk, "S/T=ab;P=c");
        desk.load();
        Check.same("open items change", Check.show(desk), "[S] [T] ab:0 c:1");
    }

    private static void undoRestores() {
        ChordDesk desk = new ChordDesk();
        Check.write(desk, "S=a;T=b;S/T=c");
        desk.load();
        Check.press(desk, "S T P");
        long before = digestWithoutSaved(desk);
        desk.fixAll();
        Check.same("undo of fixAll", desk.undo(), 4);
        Check.same("the state", digestWithoutSaved(desk), before);
        desk.setWindow(1);
        Check.same("undo of setWindow", desk.undo(), 4);
        Check.same("the state", digestWithoutSaved(desk), before);
        desk.removeEntry(0);
        desk.takeBack();
        desk.setWindow(0);
        Check.same("undo drops the latest", desk.undo(), 6);
        Check.same("only one step", Check.show(desk), "c:1");
        Check.same("undo of takeBack", desk.undo(), 5);
        Check.same("undo of removeEntry", desk.undo(), 4);
        Check.same("the state", digestWithoutSaved(desk), before);
        for (int left = 3; left >= 0; left--) {
            Check.same("undo to " + left, desk.undo(), left);
        }
        Check.same("all is as it was new", Check.show(desk) + Check.list(desk), "");
    }

    /** What undo restores, as one number. */
    private static long digestWithoutSaved(ChordDesk desk) {
        long hash = 7;
        for (int what = 0; what < 9; what++) {
            hash = hash * 31 + desk.count(what);
        }
        return hash * 31 + (Check.show(desk) + "/" + Check.list(desk)).hashCode();
    }

    private static void undoSavesEight() {
        ChordDesk desk = new ChordDesk();
        for (int stroke = 1; stroke <= 20; stroke++) {
            desk.stroke(stroke);
            Check.same("saved states", desk.count(9), Math.min(stroke, 8));
        }
        for (int left = 7; left >= 0; left--) {
            Check.same("undo", desk.undo(), left);
            Check.same("strokes then", desk.count(0), 12 + left);
            Check.same("the last stroke then", desk.strokeAt(11 + left, 0), 12 + left);
        }
        Check.refused("the ninth undo", desk, "IllegalStateException", ChordDesk::undo);
        desk.stroke(5);
        Check.same("it saves again", desk.undo(), 0);
        Check.same("strokes after all", desk.count(0), 12);
    }

    private static void undoKeepsTheBuffer() {
        ChordDesk desk = new ChordDesk();
        Check.write(desk, "S=a");
        desk.load();
        Check.write(desk, "T=bc");
        desk.undo();
        Check.same("undo leaves the buffer", desk.clearBuffer(), 4);
        Check.write(desk, "S=a");
        Check.same("an outline that was undone can come again", desk.load(), 1);
        desk.undo();
        Check.same("the buffer that load cleared does not come back", desk.clearBuffer(), 0);
    }
}
