/**
 * The edges that promises 18 to 24 name, in their order: the last value that is allowed on both sides, what is empty and
 * what is full. The first values that are not allowed stand in RefusedCallsTest; that such calls change nothing, in
 * EdgesOfTextsTest.
 */
public final class EdgesOfWhatWouldBeTest {
    public static void main(String[] args) {
        promise18WithoutStrokes();
        promise18AtTheWindow();
        promise18BeyondSixty();
        promise18AsStrokeDoes();
        promise19IfRemoved();
        promise19AsRemoveEntryDoes();
        promise20EmptyBuffer();
        promise20FullBuffer();
        promise20WithoutGaps();
        promise20Fewest();
        promise20OneTextAfterAnother();
        promise21EmptyBuffer();
        promise21FullBuffer();
        promise21ReadBack();
        promise21LowestNumbers();
        promise21WithNoWindow();
        promise22Shortest();
        promise23LettersPerStroke();
        promise24Digest();
        promise24WrapsAround();
        Check.end("EdgesOfWhatWouldBeTest");
    }

    private static void wouldBe(String what, ChordDesk desk, int keys, int items, int fixed, int letters, int strokes) {
        int[] due = {items, fixed, letters, strokes};
        for (int number = 0; number < 4; number++) {
            Check.same(what + ", ifStroke(" + keys + ", " + number + ")", desk.ifStroke(keys, number), due[number]);
        }
    }

    // "keys: 1 to 4095"
    private static void promise18WithoutStrokes() {
        wouldBe("of a new desk", new ChordDesk(), 1, 1, 0, 1, 1);
        wouldBe("of a new desk", new ChordDesk(), 4095, 1, 0, 12, 1);
        wouldBe("with an entry", Desks.loaded("S=abcdefgh"), 1, 1, 0, 8, 1);
        ChordDesk none = Desks.loaded("S=abcdefgh");
        none.setWindow(0);
        wouldBe("with a window of 0", none, 1, 1, 1, 8, 1);
    }

    private static void promise18AtTheWindow() {
        wouldBe("the eighth", Desks.withStrokes(7), 1, 8, 0, 8, 1);
        wouldBe("the ninth", Desks.withStrokes(8), 1, 9, 1, 9, 1);
        ChordDesk desk = Desks.pressed("S/T=a;S/T/P/H=bcd;P=e", "S T P");
        wouldBe("four strokes that join", desk, 8, 1, 0, 3, 4);
        wouldBe("three and one", desk, 4, 3, 0, 3, 1);
        desk.setWindow(3);
        wouldBe("four that join behind a window of three", desk, 8, 1, 1, 3, 4);
        wouldBe("two of four go", desk, 4, 3, 1, 3, 1);
        ChordDesk fixed = Desks.pressed("S/T=abc", "S");
        fixed.fixAll();
        wouldBe("a fixed stroke joins nothing", fixed, 2, 2, 1, 2, 1);
    }

    // "(the limit of 60 strokes does not matter)"
    private static void promise18BeyondSixty() {
        wouldBe("the 60th", Desks.withStrokes(59), 1, 60, 52, 60, 1);
        wouldBe("the 61st", Desks.withStrokes(60), 1, 61, 53, 61, 1);
        wouldBe("the 61st with all keys", Desks.withStrokes(60), 4095, 61, 53, 72, 1);
        ChordDesk joined = Desks.withStrokes(60);
        Check.load(joined, "S/S/S/T=xy");
        wouldBe("the 61st joins three", joined, 2, 58, 53, 59, 4);
        joined.setWindow(0);
        wouldBe("the 61st with a window of 0", joined, 2, 61, 61, 61, 1);
        ChordDesk full = Desks.full();
        int letters = full.count(6);
        wouldBe("a full desk", full, 4095, 61, 31, letters + 12, 1);
        Check.same("60 strokes are there still", full.count(0), 60);
    }

    private static void promise18AsStrokeDoes() {
        for (int keys : new int[] {1, 2, 4, 8, 3, 4095}) {
            ChordDesk desk = Desks.some();
            ChordDesk after = Check.after(Desks::some, one -> one.stroke(keys));
            wouldBe("as stroke does", desk, keys, after.count(1), after.count(2), after.count(6),
                after.item(after.count(1) - 1, 1));
        }
    }

    private static void openItemsWouldBe(String what, ChordDesk desk, int... due) {
        for (int entry = 0; entry < due.length; entry++) {
            Check.same(what + ", ifRemoved(" + entry + ")", desk.ifRemoved(entry), due[entry]);
        }
    }

    // "Tells how many open items there would be if an entry was not there."
    private static void promise19IfRemoved() {
        openItemsWouldBe("without strokes", Desks.loaded("S=a;T=b"), 0, 0);
        openItemsWouldBe("the only entry", Desks.pressed("S/T/P/H=a", "S T P H"), 4);
        openItemsWouldBe("the first and the last", Desks.pressed("S/T=a;P=b;P/H=c", "S T P H"), 3, 2, 3);
        ChordDesk fixed = Desks.pressed("S/T=a;P/H=b", "S T P H");
        fixed.fixAll();
        openItemsWouldBe("without open strokes", fixed, 0, 0);
        Check.press(fixed, "P H P");
        openItemsWouldBe("fixed items are not counted", fixed, 2, 3);
        ChordDesk next = Desks.pressed("S/T=a;T/P=b;S=c", "S T P");
        openItemsWouldBe("others match then", next, 2, 2, 2);
        Check.same("the entry is there still", Check.show(next), "a:0 P");
        openItemsWouldBe("the last of 24", Desks.withEntries(24), 8, 8, 8, 8, 8, 8, 8, 8, 8, 8, 8, 8, 8, 8, 8, 8, 8, 8, 8, 8,
            8, 8, 8, 8);
    }

    private static void promise19AsRemoveEntryDoes() {
        for (int entry = 0; entry < 4; entry++) {
            int number = entry;
            ChordDesk after = Check.after(Desks::some, one -> one.removeEntry(number));
            Check.same("as removeEntry does", Desks.some().ifRemoved(entry), after.count(1) - after.count(2));
        }
    }

    private static ChordDesk writing(String list, String text) {
        return Desks.withText(() -> Check.deskWith(list), text).get();
    }

    // "(an empty buffer: 0)"
    private static void promise20EmptyBuffer() {
        Check.same("without entries", new ChordDesk().fewestStrokes(), 0);
        Check.fewestIs("S=a", "", 0);
        ChordDesk cleared = writing("S=a", "aa");
        cleared.clearBuffer();
        Check.same("cleared", cleared.fewestStrokes(), 0);
        Check.same("without entries, but with a character",
            Desks.withText(Desks::empty, "a").get().fewestStrokes(), ChordDesk.NONE);
    }

    private static void promise20FullBuffer() {
        Check.fewestIs("S=a", "a".repeat(60), 60);
        Check.fewestIs("S/T/P/H=a", "a".repeat(60), 240);
        Check.fewestIs("S=abcdefgh;T=abcd", "abcdefgh".repeat(7) + "abcd", 8);
        Check.fewestIs("S=a", "a".repeat(59) + "b", -1);
        Check.fewestIs("S=a", "b" + "a".repeat(59), -1);
        Check.fewestIs("S=abcdefgh", "abcdefgh".repeat(7) + "abcd", -1);
        Check.same("with 24 entries", Desks.full().fewestStrokes(), 60);
    }

    // "written as words of the dictionary, one behind the other without gaps"; "NONE if it cannot be written"
    private static void promise20WithoutGaps() {
        Check.fewestIs("S=ab", "ab", 1);
        Check.fewestIs("S=ab", "a", -1);
        Check.fewestIs("S=ab", "b", -1);
        Check.fewestIs("S=ab", "abc", -1);
        Check.fewestIs("S=ab", "xab", -1);
        Check.fewestIs("S=ab;T=cd", "abxcd", -1);
        Check.fewestIs("S=ab;T=cd", "abcd", 2);
        Check.fewestIs("S=ab;T=bc", "abc", -1);
        Check.fewestIs("S=ab;T=bc", "abbc", 2);
        Check.fewestIs("S=s", "S", -1);
        for (String sign : new String[] {"!", "~", ";", "/", "=", "A"}) {
            Check.fewestIs("S=a", sign, -1);
            Check.fewestIs("S=a", "a" + sign, -1);
        }
    }

    private static void promise20Fewest() {
        Check.fewestIs("S/T=a;P=a", "a", 1);
        Check.fewestIs("P=a;S/T=a", "a", 1);
        Check.fewestIs("S=a;T=b;S/T/P=ab", "ab", 2);
        Check.fewestIs("S=a;T=b;S/T=ab", "ab", 2);
        Check.fewestIs("S=a;T=b;H=ab", "ab", 1);
        Check.fewestIs("S=aaaaaaaa;T=a", "aaaaaaaaa", 2);
        Check.fewestIs("S=ab;T=c;P=a;H=bcdefghi", "abcdefghi", 2);
    }

    /** A text has nothing of the text before it, whether that was longer or shorter. */
    private static void promise20OneTextAfterAnother() {
        ChordDesk desk = Check.deskWith("S/T=a;P=abc;H=bc");
        String[] texts = {"abc", "ab", "a", "abca", "", "aa", "bc", "b", "abcabcabc", "ab", "aaa", "a"};
        int[] due = {1, -1, 2, 3, 0, 4, 1, -1, 3, -1, 6, 2};
        for (int number = 0; number < texts.length; number++) {
            Check.write(desk, texts[number]);
            Check.same("fewestStrokes of " + texts[number] + " behind others", desk.fewestStrokes(), due[number]);
            Check.same("readsBack of it", desk.readsBack(), due[number] < 0 ? -1 : 1);
        }
        ChordDesk gone = Check.deskWith("S/T=a;P=a");
        Check.write(gone, "a");
        gone.removeEntry(1);
        Check.same("without an entry that went", gone.fewestStrokes(), 2);
        gone.removeEntry(0);
        Check.same("without any", gone.fewestStrokes() + " " + gone.readsBack(), "-1 -1");
    }

    // "Returns 1 if they do (also if the buffer is empty), 0 if they give another text; NONE if they cannot be written."
    private static void promise21EmptyBuffer() {
        Check.same("without entries", new ChordDesk().readsBack(), 1);
        Check.readsBackIs("S=a", "", 1);
        Check.same("without entries, but with a character",
            Desks.withText(Desks::empty, "a").get().readsBack(), ChordDesk.NONE);
        ChordDesk cleared = writing("S=a;T=b;S/T=c", "ab");
        Check.same("before", cleared.readsBack(), 0);
        cleared.clearBuffer();
        Check.same("cleared", cleared.readsBack(), 1);
    }

    private static void promise21FullBuffer() {
        Check.readsBackIs("S=a", "a".repeat(60), 1);
        Check.readsBackIs("S/T/P/H=a", "a".repeat(60), 1);
        Check.readsBackIs("S=a", "a".repeat(59) + "b", -1);
        Check.readsBackIs("S=a;T=b;S/T=x", "a".repeat(59) + "b", 0);
        Check.readsBackIs("S=a;T=b;S/T=x", "b" + "a".repeat(59), 1);
        Check.readsBackIs("S/T/P/H=a;H/S/T/P=b;H=c", "a".repeat(60), 1);
        Check.same("with 24 entries", Desks.full().readsBack(), 1);
    }

    private static void promise21ReadBack() {
        Check.readsBackIs("S=a;T=b;S/T=x", "ab", 0);
        Check.readsBackIs("S=a;T=b;S/T=ab", "ab", 1);
        // Read as other items, but as the same text.
        Check.readsBackIs("S=a;T=bc;S/T=abc", "abc", 1);
        Check.readsBackIs("S/T=a;P/H=b;S/T/P=ab", "ab", 1);
        Check.readsBackIs("S/T=a;P/H=b;S/T/P=ac", "ab", 0);
        Check.readsBackIs("S/T=a;P=b;H=c;S/T/P=ab;P/H=x", "abc", 1);
        Check.readsBackIs("S/T=a;P/H=b;S/T/P=a;H=b", "ab", 1);
        // Shorter and longer texts that begin alike.
        Check.readsBackIs("S=a;T=b;S/T=a", "ab", 0);
        Check.readsBackIs("S=a;T=b;S/T=abc", "ab", 0);
        Check.readsBackIs("S=a;S/S=a", "aa", 0);
        Check.readsBackIs("S=a;S/S=a", "a", 1);
        Check.readsBackIs("S=ab;T=c", "abx", -1);
        // A stroke that is left alone gives its letters, not small ones.
        Check.readsBackIs("S/T=s;P/H=h;S/T/P=s", "sh", 0);
    }

    // "(of several ways that in which the first entry has the lowest number, then the second, and so on)"
    private static void promise21LowestNumbers() {
        Check.readsBackIs("S=a;H=a;T=b;S/T=x", "ab", 0);
        Check.readsBackIs("H=a;S=a;T=b;S/T=x", "ab", 1);
        Check.readsBackIs("S=a;T=b;H=b;S/T=x", "ab", 0);
        Check.readsBackIs("S=a;H=b;T=b;S/T=x", "ab", 1);
        Check.readsBackIs("S=a;T=b;P=c;H=c;T/P=x", "abc", 0);
        Check.readsBackIs("S=a;T=b;H=c;P=c;T/P=x", "abc", 1);
        // The first entry decides before the second, though the other way's second has a lower number.
        Check.readsBackIs("T=b;S=a;P=ab;H=c;A=bc;S/A=x", "abc", 0);
        Check.readsBackIs("T=b;P=ab;S=a;H=c;A=bc;S/A=x", "abc", 1);
        Check.readsBackIs("A=bc;S=a;P=ab;T=c;P/T=x", "abc", 1);
        Check.readsBackIs("A=bc;P=ab;S=a;T=c;P/T=x", "abc", 0);
        // Fewer strokes come before lower numbers.
        Check.readsBackIs("S/T=a;H=a;P=b;S/T/P=x", "ab", 1);
        Check.readsBackIs("S/T=a;H/A=a;P=b;S/T/P=x", "ab", 0);
    }

    // "translated from the first stroke on with no window"
    private static void promise21WithNoWindow() {
        for (int window : new int[] {0, 1, 2, 8, 30}) {
            ChordDesk desk = writing("S/T=ab;S=a;T=x;S/T/P/H=y;P=c;H=d", "abababab");
            desk.setWindow(window);
            Check.same("with a window of " + window, desk.readsBack(), 1);
            Check.write(desk, "abcd");
            Check.same("another text with a window of " + window, desk.readsBack(), 0);
            Check.press(desk, "S T");
            desk.fixAll();
            Check.press(desk, "S T");
            Check.same("the session does not matter", desk.readsBack(), 0);
            Check.write(desk, "ab");
            Check.same("nor do its strokes go before", desk.readsBack(), 1);
        }
    }

    private static void shortestAre(String list, int... due) {
        ChordDesk desk = Check.deskWith(list);
        for (int entry = 0; entry < due.length; entry++) {
            Check.same("shortest(" + entry + ") of " + list, desk.shortest(entry), due[entry]);
        }
    }

    // "whose outline has the fewest strokes, of several the one with the fewest keys together, of several the lowest number"
    private static void promise22Shortest() {
        shortestAre("S=a", 0);
        shortestAre("S=a;T=b", 0, 1);
        shortestAre("S=a;T=a", 0, 0);
        shortestAre("S/T=a;T=a", 1, 1);
        shortestAre("S/T/P/H=a;S/T/P=a;S/T=a;S=a", 3, 3, 3, 3);
        shortestAre("ST=a;S=a", 1, 1);
        shortestAre("STPHAOEUFRBG=a;S/T=a", 0, 0);
        shortestAre("S/T=a;STPHAOEUFRBG=a", 1, 1);
        shortestAre("ST/P=a;S/TP=a;S/P=a;P/S=a", 2, 2, 2, 2);
        shortestAre("ST/P=a;S/TP=a", 0, 0);
        shortestAre("S/T=a;S=ab;T=aa;P=b", 0, 1, 2, 3);
        shortestAre("S/T=abcdefgh;S=abcdefg;T=abcdefgi", 0, 1, 2);
        ChordDesk full = Desks.full();
        Check.same("the last of 24", full.shortest(23), 23);
        full.renameEntry(23, 0);
        Check.same("the last as the first", full.shortest(23), 0);
        full.renameEntry(0, 22);
        Check.same("alone with its word", full.shortest(23), 23);
        ChordDesk gone = Check.deskWith("S/T=a;S=a");
        gone.removeEntry(1);
        Check.same("without a shorter one that went", gone.shortest(0), 0);
        Check.same("the lowest of two", full.shortest(22), 0);
    }

    // "Returns count(6), as a double, divided by the number of strokes; 0.0 if there are none."
    private static void promise23LettersPerStroke() {
        Check.same("of none", new ChordDesk().lettersPerStroke(), 0.0);
        Check.same("of none with entries", Desks.loaded("S=a").lettersPerStroke(), 0.0);
        Check.same("of one", Desks.withStrokes(1).lettersPerStroke(), 1.0);
        Check.same("the most", Desks.pressed("T=a", "STPHAOEUFRBG").lettersPerStroke(), 12.0);
        Check.same("the least", Desks.pressed("S/S/S/S=a", "S S S S").lettersPerStroke(), 0.25);
        Check.same("a third", Desks.pressed("S/S/S=a", "S S S").lettersPerStroke(), 1.0 / 3.0);
        Check.same("by strokes, not by items", Desks.pressed("S/S=abc", "S S").lettersPerStroke(), 1.5);
        Check.same("fixed ones too", Desks.fixed().lettersPerStroke(), 2.0);
        ChordDesk sixty = Desks.withStrokes(59);
        sixty.stroke(3);
        Check.same("of sixty", sixty.lettersPerStroke(), 61.0 / 60.0);
        sixty.takeBack();
        Check.same("of 59", sixty.lettersPerStroke(), 1.0);
        ChordDesk gone = Desks.withStrokes(1);
        gone.takeBack();
        Check.same("of none any more", gone.lettersPerStroke(), 0.0);
    }

    // Computed outside Java, from the document's words; "in long arithmetic with overflow": three of them are beyond 2^63.
    private static void promise24Digest() {
        Check.same("of a new desk", new ChordDesk().digest(), -8434513455649893962L);
        ChordDesk desk = Desks.withText(() -> Desks.pressed("S=ab", "S T"), "ab").get();
        Check.same("of two strokes", desk.digest(), -2274740838765389567L);
        ChordDesk fixed = Desks.loaded("S/T=abc");
        fixed.setWindow(1);
        Check.press(fixed, "S T P H");
        Check.write(fixed, "x");
        Check.same("of fixed items", fixed.digest(), 6281617333465851456L);
    }

    private static void promise24WrapsAround() {
        Check.same("of an empty desk", Desks.empty().digest(), Whole.digestDue(Desks::empty, ""));
        Check.same("of some", Desks.some().digest(), Whole.digestDue(Desks::some, "abc"));
        Check.same("of fixed", Desks.fixed().digest(), Whole.digestDue(Desks::fixed, ""));
        Check.same("of a full desk", Desks.full().digest(), Whole.digestDue(Desks::full, "s".repeat(60)));
        String list = "S/S/S/S=a;T/T/T=a;P/P=a";
        for (String strokes : new String[] {"S S S S", "T T T", "P P", "T T T S S S S", "H P P", "HA P P", "HAO"}) {
            Check.same("of letters per stroke of " + strokes, Desks.pressed(list, strokes).digest(),
                Whole.digestDue(() -> Desks.pressed(list, strokes), ""));
        }
        ChordDesk asked = Desks.some();
        long first = asked.digest();
        Check.same("asked again", asked.digest(), first);
    }
}
