import java.util.Objects;
import java.util.function.Supplier;

/** What the tests share: a desk made from texts, what it shows as a text, and the counting of wrong answers. */
final class Check {
    static final String LETTERS = "STPHAOEUFRBG";
    private static int wrong = 0;
    private static int right = 0;

    interface Call {
        Object on(ChordDesk desk);
    }

    private Check() {
    }

    static void same(String what, Object got, Object due) {
        if (Objects.equals(got, due)) {
            right++;
            return;
        }
        wrong++;
        System.out.println(what + ": answered " + got + ", due is " + due);
    }

    static void isTrue(String what, boolean holds) {
        same(what, holds, true);
    }

    /** What a call answers, or which exception it throws. */
    static String answer(ChordDesk desk, Call call) {
        try {
            return String.valueOf(call.on(desk));
        } catch (RuntimeException e) {
            return "throws." + e.getClass().getSimpleName();
        }
    }

    /** The call throws just this exception; what it leaves is not looked at. */
    static void refused(String what, ChordDesk desk, String due, Call call) {
        same(what, answer(desk, call), "throws." + due);
    }

    /** The call throws just this exception and changes nothing, as a desk made alike without the call shows. */
    static void fails(String what, Supplier<ChordDesk> recipe, String due, Call call) {
        refused(what, recipe.get(), due, call);
        keeps(what, recipe, call);
    }

    /** The call changes nothing, whatever it answers or throws. */
    static void keeps(String what, Supplier<ChordDesk> recipe, Call call) {
        sameWhole(what + " changes nothing", () -> after(recipe, call), recipe);
    }

    /** Two desks show the same in all that they show. */
    static void sameWhole(String what, Supplier<ChordDesk> got, Supplier<ChordDesk> due) {
        for (Whole.Part part : Whole.PARTS) {
            same(what + ", " + part.name(), part.shows().apply(got.get()), part.shows().apply(due.get()));
        }
    }

    /** A desk after a call more. */
    static ChordDesk after(Supplier<ChordDesk> recipe, Call call) {
        ChordDesk desk = recipe.get();
        answer(desk, call);
        return desk;
    }

    static int keys(String letters) {
        int keys = 0;
        for (char letter : letters.toCharArray()) {
            keys |= 1 << LETTERS.indexOf(letter);
        }
        return keys;
    }

    static void type(ChordDesk desk, String text) {
        for (char sign : text.toCharArray()) {
            desk.append(sign);
        }
    }

    /** Sets the buffer to a text. */
    static void write(ChordDesk desk, String text) {
        desk.clearBuffer();
        type(desk, text);
    }

    /** Loads entries, one by one, so that there can be more than a buffer holds. */
    static void load(ChordDesk desk, String list) {
        for (String entry : list.split(";")) {
            write(desk, entry);
            desk.load();
        }
    }

    static ChordDesk deskWith(String list) {
        ChordDesk desk = new ChordDesk();
        load(desk, list);
        return desk;
    }

    /** Presses strokes that are written with blanks between them. */
    static void press(ChordDesk desk, String strokes) {
        for (String letters : strokes.split(" ")) {
            desk.stroke(keys(letters));
        }
    }

    static String itemText(ChordDesk desk, int item) {
        StringBuilder text = new StringBuilder();
        int length = desk.item(item, 4);
        for (int place = 0; place < length; place++) {
            text.append((char) desk.item(item, 5 + place));
        }
        return text.toString();
    }

    /** The items' texts, fixed ones in brackets, open ones with their entry behind a colon. */
    static String show(ChordDesk desk) {
        StringBuilder text = new StringBuilder();
        for (int item = 0; item < desk.count(1); item++) {
            if (item > 0) {
                text.append(' ');
            }
            boolean fixed = desk.item(item, 3) == 1;
            text.append(fixed ? "[" : "").append(itemText(desk, item)).append(fixed ? "]" : "");
            if (desk.item(item, 2) != -1) {
                text.append(':').append(desk.item(item, 2));
            }
        }
        return text.toString();
    }

    /** The dictionary, as a list. */
    static String list(ChordDesk desk) {
        StringBuilder text = new StringBuilder();
        for (int entry = 0; entry < desk.count(4); entry++) {
            if (entry > 0) {
                text.append(';');
            }
            for (int stroke = 0; stroke < desk.entry(entry, 0); stroke++) {
                text.append(stroke > 0 ? "/" : "").append(lettersOf(desk.entry(entry, 1 + stroke)));
            }
            text.append('=');
            for (int place = 0; place < desk.entry(entry, 5); place++) {
                text.append((char) desk.entry(entry, 8 + place));
            }
        }
        return text.toString();
    }

    static String lettersOf(int keys) {
        StringBuilder text = new StringBuilder();
        for (int key = 0; key < LETTERS.length(); key++) {
            if ((keys & 1 << key) != 0) {
                text.append(LETTERS.charAt(key));
            }
        }
        return text.toString();
    }

    /** The clashes of a list's entries, a digit each, and how many there are. */
    static void clashesAre(String list, String due) {
        ChordDesk desk = deskWith(list);
        StringBuilder got = new StringBuilder();
        for (int entry = 0; entry < desk.count(4); entry++) {
            got.append(desk.entry(entry, 6));
        }
        same("clashes of " + list, got.toString(), due);
        same("entries with a clash in " + list, desk.count(8), due.replace("0", "").length());
    }

    static void fewestIs(String list, String text, int due) {
        ChordDesk desk = deskWith(list);
        write(desk, text);
        same("fewestStrokes of " + text + " with " + list, desk.fewestStrokes(), due);
    }

    static void readsBackIs(String list, String text, int due) {
        ChordDesk desk = deskWith(list);
        write(desk, text);
        same("readsBack of " + text + " with " + list, desk.readsBack(), due);
    }

    static void end(String test) {
        System.out.println(test + ": " + right + " answers as due, " + wrong + " not");
        if (wrong != 0 || right == 0) {
            System.exit(1);
        }
    }
}
