/** Promises 18 to 24: ifStroke, ifRemoved, fewestStrokes, readsBack, shortest, lettersPerStroke, digest. */
public final class WhatWouldBeTest {
    public static void main(String[] args) {
        ifStrokeTells();
        ifStrokeBeyondTheLimit();
        ifRemovedTells();
        fewestStrokesFinds();
        readsBackTells();
        readsBackTakesTheLowestNumbers();
        theLongestText();
        shortestFinds();
        lettersPerStrokeDivides();
        digestOfNumbersKnown();
        digestFollowsTheDocument();
        digestOfLettersPerStroke();
        Check.end("WhatWouldBeTest");
    }

    private static void ifStrokeIs(String what, ChordDesk desk, String keys, int[] due) {
        for (int number = 0; number < 4; number++) {
            Check.same(what + ", ifStroke(" + keys + ", " + number + ")", desk.ifStroke(Check.keys(keys), number),
                due[number]);
        }
    }

    private static void ifStrokeTells() {
        ChordDesk desk = Check.deskWith("S/T=abcd;S/T/P=x;P=yy");
        ifStrokeIs("without strokes", desk, "P", new int[] {1, 0, 2, 1});
        Check.press(desk, "H S T");
        ifStrokeIs("a longer match", desk, "P", new int[] {2, 0, 2, 3});
        ifStrokeIs("no match", desk, "STPHAOEUFRBG", new int[] {3, 0, 17, 1});
        desk.setWindow(3);
        ifStrokeIs("one becomes fixed", desk, "P", new int[] {2, 1, 2, 3});
        desk.setWindow(2);
        Check.same("items", Check.show(desk), "[H] abcd:0");
        ifStrokeIs("the match is fixed whole", desk, "P", new int[] {2, 2, 2, 3});
        desk.setWindow(0);
        ifStrokeIs("with no window", desk, "P", new int[] {3, 3, 7, 1});
    }

    private static void ifStrokeBeyondTheLimit() {
        ChordDesk desk = Check.deskWith("S/T=abc");
        for (int stroke = 0; stroke < 60; stroke++) {
            desk.stroke(1);
        }
        ifStrokeIs("with 60 strokes", desk, "T", new int[] {60, 53, 62, 2});
        ifStrokeIs("with 60 strokes", desk, "SP", new int[] {61, 53, 62, 1});
    }

    private static void ifRemovedTells() {
        ChordDesk desk = Check.deskWith("S/T/P=a;S/T=b;T/P/H=c;P=d");
        Check.press(desk, "S T P");
        desk.fixAll();
        Check.press(desk, "S T P H");
        Check.same("items", Check.show(desk), "[a] a:0 H");
        int[] due = {3, 2, 2, 2};
        for (int entry = 0; entry < due.length; entry++) {
            Check.same("ifRemoved(" + entry + ")", desk.ifRemoved(entry), due[entry]);
        }
        desk.removeEntry(1);
        Check.same("without S/T the parts join otherwise", desk.ifRemoved(0), 2);
        Check.same("and would be", Check.show(desk), "[a] a:0 H");
        desk.fixAll();
        Check.same("without open items", desk.ifRemoved(0), 0);
    }

    private static void fewestStrokesFinds() {
        Check.fewestIs("S=a", "", 0);
        Check.fewestIs("S=a", "a", 1);
        Check.fewestIs("S=a", "aaa", 3);
        Check.fewestIs("S=a", "ab", -1);
        Check.fewestIs("S=a", "ba", -1);
        Check.fewestIs("S=a", "A", -1);
        Check.fewestIs("S=a", "S", -1);
        Check.fewestIs("S=ab", "a", -1);
        Check.fewestIs("S=ab", "aba", -1);
        Check.fewestIs("S/T/P/H=a;T=ab;P=b", "ab", 1);
        Check.fewestIs("S/T/P/H=ab;T=a;P=b", "ab", 2);
        Check.fewestIs("S/T=a;T=aa;P=b", "aaab", 4);
        Check.fewestIs("S/T=a;T=aa;P=ab", "aaab", 2);
        Check.fewestIs("S/T/P/H=a;S/T=a", "aa", 4);
        Check.fewestIs("T=aa;S=aaa", "aaaaa", 2);
        Check.fewestIs("T=aa;S=aaa", "aaaaaaa", 3);
        Check.fewestIs("S=abcdefgh;T=abcdefg;P=h", "abcdefghabcdefg", 2);
        Check.fewestIs("S=a;T=b", "a;b", -1);
        ChordDesk desk = Check.deskWith("S/T=ab;P=c;H=b");
        String[] texts = {"ababc", "abab", "xab", "ab", "a", "cabc", "", "b", "cb"};
        int[] due = {5, 4, -1, 2, -1, 4, 0, 1, 2};
        for (int text = 0; text < texts.length; text++) {
            Check.write(desk, texts[text]);
            Check.same("fewestStrokes of one text after another, " + texts[text], desk.fewestStrokes(), due[text]);
            Check.same("read back", desk.readsBack(), due[text] < 0 ? -1 : 1);
        }
        ChordDesk empty = new ChordDesk();
        Check.same("an empty buffer without entries", empty.fewestStrokes(), 0);
        empty.append('a');
        Check.same("without entries", empty.fewestStrokes(), ChordDesk.NONE);
    }

    private static void readsBackTells() {
        Check.readsBackIs("S=a", "", 1);
        Check.readsBackIs("S=a", "b", -1);
        Check.readsBackIs("S=a", "S", -1);
        Check.readsBackIs("S=a;T=b", "abab", 1);
        Check.readsBackIs("S=a;T=b;S/T=ab", "ab", 1);
        Check.readsBackIs("S=a;T=b;S/T=x", "ab", 0);
        Check.readsBackIs("S=a;T=b;S/T=x", "ba", 1);
        Check.readsBackIs("S=a;T=b;S/T=a", "ab", 0);
        Check.readsBackIs("S=a;T=b;S/T=abc", "ab", 0);
        Check.readsBackIs("S=a;T=b;S/T=abc;P=c", "abc", 1);
        Check.readsBackIs("S=a;T=b;S/T/P=x;P=d", "ab", 1);
        Check.readsBackIs("S/T=a;P=b;S/T/P=ab;T=x", "ab", 1);
        Check.readsBackIs("S/T=a;P/H=b;S/T/P=y", "ab", 0);
        Check.readsBackIs("S/T=a;P/H=b;S/T/P=y;H=z", "ab", 0);
        Check.readsBackIs("S/T=ab;P=c;S/T/P=a;H=d", "abc", 0);
        Check.readsBackIs("S=a;T=b;P=c;S/T=ab;P/S=ca", "abcab", 1);
        Check.readsBackIs("S=a;T=aa;S/T=aaa;T/S=aaa", "aaaa", 1);
    }

    private static void readsBackTakesTheLowestNumbers() {
        // Both S and T write "a"; S is followed by P in an outline of its own, T is not.
        Check.readsBackIs("S=a;T=a;P=b;S/P=x", "ab", 0);
        Check.readsBackIs("T=a;S=a;P=b;S/P=x", "ab", 1);
        // "aab" is 0 2 or 1 3 with two strokes each; the first entry decides.
        Check.readsBackIs("S=a;T=aa;P=ab;H=b;S/P=x", "aab", 0);
        Check.readsBackIs("T=aa;S=a;P=ab;H=b;S/P=x", "aab", 1);
        Check.readsBackIs("S=a;T=aa;P=ab;H=b;T/H=x", "aab", 1);
        // The fewest strokes come before the lowest numbers.
        Check.readsBackIs("S/T=a;T=a;P=b;S/T/P=x", "ab", 1);
        // The second entry decides among ways that begin alike.
        Check.readsBackIs("S=a;T=b;P=b;S/T=x", "ab", 0);
        Check.readsBackIs("S=a;P=b;T=b;S/T=x", "ab", 1);
    }

    private static void theLongestText() {
        ChordDesk desk = Check.deskWith("S/T/P/H=a");
        Check.write(desk, "a".repeat(60));
        Check.same("60 letters of four strokes", desk.fewestStrokes(), 240);
        Check.same("are read back", desk.readsBack(), 1);
        Check.load(desk, "H/S=b");
        Check.write(desk, "a".repeat(60));
        Check.same("they are read from the left", desk.readsBack(), 1);
        Check.load(desk, "A/O/E/U=c;U/S/T/P=d;H/A=e;A/O/E=f");
        Check.write(desk, "ca".repeat(30));
        Check.same("no match goes over", desk.readsBack(), 1);
        Check.same("the fewest strokes", desk.fewestStrokes(), 240);
    }

    private static void shortestFinds() {
        ChordDesk desk = Check.deskWith("S/T=a;STPHAOEUFRBG=a;ST=b;P=a;T=a;S=b;S/P=c;HA/T=c;G/O=c;S/T/P=d;ST/PH=d");
        int[] due = {3, 3, 5, 3, 3, 5, 6, 6, 6, 10, 10};
        for (int entry = 0; entry < due.length; entry++) {
            Check.same("shortest(" + entry + ")", desk.shortest(entry), due[entry]);
        }
        ChordDesk first = Check.deskWith("S=a;T=a;S/T=a");
        for (int entry = 0; entry < 3; entry++) {
            Check.same("shortest(" + entry + ") where the first is it", first.shortest(entry), 0);
        }
        ChordDesk keys = Check.deskWith("STP/H=a;S/TPH=a;ST/P=a;P/ST=a");
        Check.same("the fewest keys together", keys.shortest(0), 2);
        Check.same("of several the lowest number", keys.shortest(3), 2);
    }

    private static void lettersPerStrokeDivides() {
        ChordDesk desk = Check.deskWith("S=abcdefgh;S/T=a;S/T/P=ab;S/T/P/H=c");
        Check.same("without strokes", desk.lettersPerStroke(), 0.0);
        desk.stroke(1);
        Check.same("eight letters", desk.lettersPerStroke(), 8.0);
        desk.stroke(2);
        Check.same("one of two", desk.lettersPerStroke(), 0.5);
        desk.stroke(4);
        Check.same("two of three", desk.lettersPerStroke(), 2.0 / 3.0);
        desk.stroke(8);
        Check.same("one of four", desk.lettersPerStroke(), 0.25);
        desk.fixAll();
        desk.stroke(4095);
        Check.same("fixed ones count too", desk.lettersPerStroke(), 13.0 / 5.0);
    }

    /** Numbers computed by hand, outside Java, from the document's words. */
    private static void digestOfNumbersKnown() {
        Check.same("digest of a new desk", new ChordDesk().digest(), NEW_DIGEST);
        ChordDesk desk = new ChordDesk();
        desk.stroke(5);
        desk.append('a');
        Check.same("digest after stroke(5), append(97)", desk.digest(), STROKE_DIGEST);
    }

    private static final long NEW_DIGEST = -8434513455649893962L;
    private static final long STROKE_DIGEST = -5446214956486652112L;

    private static ChordDesk pressed(String list, String strokes, String text) {
        ChordDesk desk = Check.deskWith(list);
        Check.press(desk, strokes);
        Check.write(desk, text);
        return desk;
    }

    private static void digestIs(String list, String strokes, String text) {
        Check.same("digest of " + list + ", " + strokes + ", " + text, pressed(list, strokes, text).digest(),
            Whole.digestDue(() -> pressed(list, strokes, text), text));
    }

    private static void digestFollowsTheDocument() {
        String list = "S=abc;S/T=de;P=abc;STPHAOEUFRBG/G=abcdefgh";
        StringBuilder strokes = new StringBuilder("S");
        for (String stroke : "S T P HA G S S T STPHAOEUFRBG G T T P".split(" ")) {
            strokes.append(' ').append(stroke);
            digestIs(list, strokes.toString(), "");
        }
        for (String text : new String[] {"abcde", "abcdx", "~!", "abcdefghabc"}) {
            digestIs(list, strokes.toString(), text);
        }
    }

    /** The digest has the bits of a double: below 1, at 1 and between, a power of two, and behind it. */
    private static void digestOfLettersPerStroke() {
        String list = "S/S/S/S=a;T/T/T=a;P/P=a;A/A/A=ab;O/O/O/O=abc;E/E=abc";
        StringBuilder all = new StringBuilder("G");
        for (String strokes : new String[] {"S S S S", "T T T", "P P", "A A A", "O O O O", "H", "E E", "ST", "STP", "STPH",
            "STPHAOEUFRB", "STPHAOEUFRBG"}) {
            all.append(' ').append(strokes);
            digestIs(list, strokes, "");
            digestIs(list, all.toString(), "");
        }
    }
}
