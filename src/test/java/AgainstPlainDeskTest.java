import java.util.function.LongSupplier;

/** Long runs of calls, each answered by ChordDesk and by PlainDesk; always the same runs. */
public final class AgainstPlainDeskTest {
    private static final int RUNS = 300;
    /** A desk is used for 512 calls; the last one is the digest at the end. */
    private static final int CALLS = 511;
    /** How many entries a run of each style tries to begin with. */
    private static final int[] STARTS = {0, 12, 26, 4};
    private static final String[] OUTLINES = {"S", "T", "P", "ST", "S/T", "T/S", "S/S", "S/T/P", "T/P", "P/S/T", "S/T/P/S",
        "STP", "T/T/T/T", "ST/P", "P/P", "S/P/S", "STPHAOEUFRBG", "T/P/T", "ST/ST", "P/T",
        "P", "SP", "TP", "T/T", "P/S", "S/P", "T/S/P"};
    private static final String[] WORDS = {"a", "b", "ab", "ba", "aa", "aab", "abc", "c", "abcdefgh", "st", "s"};
    private static final String SPICE = "STPHAOEUFRBG/=;abz~!";

    private long seed;
    private final int style;
    private final ChordDesk desk = new ChordDesk();
    private final PlainDesk plain = new PlainDesk();
    private int calls = 0;

    private AgainstPlainDeskTest(int run) {
        seed = run * 7919L + 17;
        style = run % 4;
    }

    public static void main(String[] args) {
        for (int run = 0; run < RUNS; run++) {
            new AgainstPlainDeskTest(run).go();
        }
        Check.end("AgainstPlainDeskTest");
    }

    /** A row of numbers that is the same in every run of the test. */
    private int below(int bound) {
        seed = seed * 6364136223846793005L + 1442695040888963407L;
        return (int) ((seed >>> 33) % bound);
    }

    private static String answer(LongSupplier call) {
        try {
            return Long.toString(call.getAsLong());
        } catch (RuntimeException e) {
            return "throws." + e.getClass().getSimpleName();
        }
    }

    private void same(String what, LongSupplier got, LongSupplier due) {
        if (calls >= CALLS) {
            return;
        }
        calls++;
        Check.same("call " + calls + " of style " + style + ", " + what, answer(got), answer(due));
    }

    private void go() {
        for (int entry = 0; entry < STARTS[style]; entry++) {
            loadOne(OUTLINES[(entry * 7 + style) % OUTLINES.length] + "=" + WORDS[below(WORDS.length)]);
        }
        while (calls < CALLS) {
            step();
            if (below(4) == 0) {
                same("digest", desk::digest, plain::digest);
            }
        }
        Check.same("the last call, digest", desk.digest(), plain.digest());
    }

    private void step() {
        switch (below(style == 3 ? 16 : 12)) {
            case 0: case 1: case 2: pressSome(); break;
            case 3: takeBackSome(); break;
            case 4: changeWindow(); break;
            case 5: changeDictionary(); break;
            case 6: loadSome(); break;
            case 7: writeSome(); break;
            case 8: same("undo", desk::undo, plain::undo); break;
            case 9: askWhatThereIs(); break;
            case 10: askWhatWouldBe(); break;
            case 11: spoilBuffer(); break;
            default: pressSome(); break;
        }
    }

    private int someKeys() {
        int kind = below(20);
        if (kind == 0) {
            return below(5000) - 400;
        }
        return kind == 1 ? 4095 : 1 + below(7);
    }

    private void pressSome() {
        int strokes = 1 + below(3);
        for (int i = 0; i < strokes; i++) {
            int keys = someKeys();
            same("stroke(" + keys + ")", () -> desk.stroke(keys), () -> plain.stroke(keys));
        }
    }

    private void takeBackSome() {
        int strokes = 1 + below(plain.count(0) > 40 ? 30 : 3);
        for (int i = 0; i < strokes; i++) {
            same("takeBack", desk::takeBack, plain::takeBack);
        }
    }

    private void changeWindow() {
        if (below(3) == 0) {
            same("fixAll", desk::fixAll, plain::fixAll);
            return;
        }
        int window = below(3) == 0 ? below(36) - 3 : below(8);
        same("setWindow(" + window + ")", () -> desk.setWindow(window), () -> plain.setWindow(window));
    }

    private int someEntry() {
        return below(Math.max(1, plain.count(4)) + 1) - below(12) / 11;
    }

    private int someItem() {
        return Math.max(plain.count(1) - 1 - below(8), -1) + below(20) / 19;
    }

    private void changeDictionary() {
        int entry = someEntry();
        int of = someEntry();
        int from = someItem();
        int to = from + below(3) - below(8) / 7;
        switch (below(4)) {
            case 0:
                same("removeEntry(" + entry + ")", () -> desk.removeEntry(entry), () -> plain.removeEntry(entry));
                break;
            case 1:
                same("renameEntry(" + entry + ", " + of + ")", () -> desk.renameEntry(entry, of),
                    () -> plain.renameEntry(entry, of));
                break;
            default:
                same("learn(" + from + ", " + to + ")", () -> desk.learn(from, to), () -> plain.learn(from, to));
                break;
        }
    }

    private void type(String text) {
        for (char sign : text.toCharArray()) {
            same("append(" + sign + ")", () -> desk.append(sign), () -> plain.append(sign));
        }
    }

    private String someEntryText() {
        return OUTLINES[below(OUTLINES.length)] + "=" + WORDS[below(WORDS.length)];
    }

    private void loadOne(String entry) {
        type(entry);
        same("load", desk::load, plain::load);
        same("clearBuffer", desk::clearBuffer, plain::clearBuffer);
    }

    private void loadSome() {
        if (below(5) != 0) {
            same("clearBuffer", desk::clearBuffer, plain::clearBuffer);
        }
        int entries = 1 + below(style == 2 ? 4 : 2);
        for (int i = 0; i < entries; i++) {
            type((i > 0 ? ";" : "") + someEntryText());
        }
        if (below(6) == 0) {
            type(String.valueOf(SPICE.charAt(below(SPICE.length()))));
        }
        same("firstError", desk::firstError, plain::firstError);
        same("load", desk::load, plain::load);
    }

    private void writeSome() {
        same("clearBuffer", desk::clearBuffer, plain::clearBuffer);
        int words = below(7);
        for (int i = 0; i < words; i++) {
            type(below(12) == 0 || plain.count(4) == 0 ? WORDS[below(WORDS.length)] : plain.wordOf(below(plain.count(4))));
        }
        same("fewestStrokes", desk::fewestStrokes, plain::fewestStrokes);
        same("readsBack", desk::readsBack, plain::readsBack);
    }

    private void spoilBuffer() {
        int code = below(10) == 0 ? below(140) : SPICE.charAt(below(SPICE.length()));
        same("append(" + code + ")", () -> desk.append(code), () -> plain.append(code));
        same("firstError", desk::firstError, plain::firstError);
    }

    private void askWhatThereIs() {
        int number = below(64) - 2;
        int what = below(19) - 1;
        int entry = someEntry();
        same("strokeAt", () -> desk.strokeAt(number, what % 4), () -> plain.strokeAt(number, what % 4));
        same("item", () -> desk.item(number, what), () -> plain.item(number, what));
        same("entry", () -> desk.entry(entry, what), () -> plain.entry(entry, what));
        same("count", () -> desk.count(what), () -> plain.count(what));
    }

    private void askWhatWouldBe() {
        int keys = someKeys();
        int what = below(24) == 0 ? 4 : below(4);
        int entry = someEntry();
        same("ifStroke(" + keys + ", " + what + ")", () -> desk.ifStroke(keys, what), () -> plain.ifStroke(keys, what));
        same("ifRemoved(" + entry + ")", () -> desk.ifRemoved(entry), () -> plain.ifRemoved(entry));
        same("shortest(" + entry + ")", () -> desk.shortest(entry), () -> plain.shortest(entry));
        same("lettersPerStroke", () -> Double.doubleToLongBits(desk.lettersPerStroke()),
            () -> Double.doubleToLongBits(plain.lettersPerStroke()));
    }
}
