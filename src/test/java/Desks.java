import java.util.function.Supplier;

/** Desks that the tests of the edges begin with; each is made anew, so that one test leaves nothing to another. */
final class Desks {
    static final int MOST_STROKES = 60;
    static final int MOST_ENTRIES = 24;
    static final int MOST_CHARACTERS = 60;
    /** Thirteen entries in one buffer, none of them in withEntries. */
    static final String THIRTEEN = "A=a;O=a;E=a;U=a;F=a;R=a;B=a;G=a;AO=a;AE=a;AU=a;AF=a;AR=a";

    private Desks() {
    }

    static ChordDesk empty() {
        return new ChordDesk();
    }

    /** Fixed and open items, with and without an entry; a text that can be written; seven saved states, so one more shows. */
    static ChordDesk some() {
        ChordDesk desk = loaded("S=ab;T=c;S/T/P=defghijk;P=ab");
        desk.setWindow(3);
        Check.press(desk, "S T P H T");
        Check.write(desk, "abc");
        return desk;
    }

    /** As some, but with nothing open. */
    static ChordDesk fixed() {
        ChordDesk desk = loaded("S=ab;T=c;S/T/P=defghijk;P=ab");
        Check.press(desk, "S T P H T");
        desk.fixAll();
        return desk;
    }

    /** 60 strokes in as many items, 30 of them open; 24 entries; a buffer of 60 characters; 8 saved states. */
    static ChordDesk full() {
        ChordDesk desk = new ChordDesk();
        desk.setWindow(30);
        for (int stroke = 0; stroke < MOST_STROKES; stroke++) {
            desk.stroke(stroke % (MOST_ENTRIES + 1) + 1);
        }
        for (int item = 0; item < MOST_ENTRIES; item++) {
            desk.learn(item, item);
        }
        Check.write(desk, "s".repeat(MOST_CHARACTERS));
        return desk;
    }

    /** So many entries, of the strokes 1, 2, 3 and so on; the session is as long. */
    static ChordDesk withEntries(int entries) {
        ChordDesk desk = new ChordDesk();
        for (int entry = 0; entry < entries; entry++) {
            desk.stroke(entry + 1);
            desk.learn(entry, entry);
        }
        return desk;
    }

    static ChordDesk withStrokes(int strokes) {
        ChordDesk desk = new ChordDesk();
        for (int stroke = 0; stroke < strokes; stroke++) {
            desk.stroke(1);
        }
        return desk;
    }

    /** A desk whose entries came with one call of load. */
    static ChordDesk loaded(String list) {
        ChordDesk desk = new ChordDesk();
        Check.write(desk, list);
        desk.load();
        return desk;
    }

    static ChordDesk pressed(String list, String strokes) {
        ChordDesk desk = Check.deskWith(list);
        Check.press(desk, strokes);
        return desk;
    }

    static Supplier<ChordDesk> withText(Supplier<ChordDesk> recipe, String text) {
        return () -> {
            ChordDesk desk = recipe.get();
            Check.write(desk, text);
            return desk;
        };
    }
}
