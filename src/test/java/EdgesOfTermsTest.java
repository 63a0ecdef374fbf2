import java.util.function.Supplier;

/**
 * The edges that the document's Terms name, in its order: the last value that is allowed and the first one that is not,
 * what is empty and what is full. Above each test stands the sentence that it holds.
 */
public final class EdgesOfTermsTest {
    private static final String ARGUMENT = "IllegalArgumentException";
    private static final String STATE = "IllegalStateException";

    public static void main(String[] args) {
        used512Times();
        twelveKeys();
        oneOrMoreKeys();
        ascendingLetters();
        ascendingLettersInLists();
        outlinesOfOneToFourStrokes();
        learnedOutlinesOfOneToFourStrokes();
        at24EntriesByLoad();
        at24EntriesByOneList();
        at24EntriesByLearn();
        numberedAsTheyCame();
        wordsOfOneToEightLetters();
        smallLettersAToZ();
        noTwoWithTheSameOutline();
        severalWithTheSameWord();
        Check.end("EdgesOfTermsTest");
    }

    // "An object is used for at most 512 calls after it has been made"
    private static void used512Times() {
        ChordDesk pressed = new ChordDesk();
        for (int pair = 0; pair < 255; pair++) {
            Check.same("call " + (2 * pair + 1) + ", stroke", pressed.stroke(pair + 1), 1);
            Check.same("call " + (2 * pair + 2) + ", takeBack", pressed.takeBack(), pair + 1);
        }
        Check.same("call 511, stroke", pressed.stroke(4095), 1);
        Check.same("call 512, strokeAt", pressed.strokeAt(0, 0), 4095);
        ChordDesk undone = new ChordDesk();
        for (int pair = 0; pair < 255; pair++) {
            undone.setWindow(pair % 31);
            Check.same("call " + (2 * pair + 2) + ", undo", undone.undo(), 0);
        }
        Check.same("call 511, setWindow", undone.setWindow(0), 8);
        Check.same("call 512, count", undone.count(9), 1);
        ChordDesk fixed = new ChordDesk();
        for (int call = 1; call <= 511; call++) {
            Check.same("call " + call + ", fixAll", fixed.fixAll(), 0);
        }
        Check.same("call 512, count", fixed.count(9), 8);
        ChordDesk asked = new ChordDesk();
        for (int call = 1; call <= 512; call++) {
            Check.same("call " + call + ", readsBack", asked.readsBack(), 1);
        }
    }

    // "There are 12 keys, numbered 0 to 11, written as the letters S, T, P, H, A, O, E, U, F, R, B, G in this order"
    // "told as a bit mask, 1 to 4095 (bit n for key n)"
    private static void twelveKeys() {
        String letters = "STPHAOEUFRBG";
        for (int key = 0; key < 12; key++) {
            int keys = 1 << key;
            Supplier<ChordDesk> recipe = () -> {
                ChordDesk desk = new ChordDesk();
                desk.stroke(keys);
                return desk;
            };
            Check.same("the text of key " + key, Check.show(recipe.get()), letters.substring(key, key + 1));
            Check.same("the keys of key " + key, recipe.get().strokeAt(0, 0), keys);
            Check.same("key " + key + " is one key", recipe.get().strokeAt(0, 1), 1);
            ChordDesk desk = Desks.loaded(letters.charAt(key) + "=a");
            Check.same("the letter of key " + key + " in a list", desk.entry(0, 1), keys);
            Check.same("its match", desk.stroke(keys) + Check.show(desk), "1a:0");
        }
        Check.refused("a 13th key", new ChordDesk(), ARGUMENT, desk -> desk.stroke(1 << 12));
        Check.refused("a 13th key with a 1st one", new ChordDesk(), ARGUMENT, desk -> desk.stroke(1 << 12 | 1));
    }

    // "A stroke is a set of one or more keys, told as a bit mask, 1 to 4095"
    private static void oneOrMoreKeys() {
        ChordDesk desk = new ChordDesk();
        Check.refused("no key", desk, ARGUMENT, one -> one.stroke(0));
        Check.same("the lowest stroke", desk.stroke(1), 1);
        Check.same("the highest stroke", desk.stroke(4095), 2);
        Check.refused("one more than the highest", desk, ARGUMENT, one -> one.stroke(4096));
        Check.same("one key", desk.strokeAt(0, 1), 1);
        Check.same("twelve keys", desk.strokeAt(1, 1), 12);
        Check.same("their letters", Check.show(desk), "S STPHAOEUFRBG");
    }

    // "It is written with the letters of its keys, in ascending order of the keys."
    private static void ascendingLetters() {
        String letters = "STPHAOEUFRBG";
        for (int low = 0; low < 12; low++) {
            for (int high = low + 1; high < 12; high++) {
                ChordDesk desk = new ChordDesk();
                desk.stroke(1 << low | 1 << high);
                Check.same("keys " + low + " and " + high, Check.show(desk),
                    "" + letters.charAt(low) + letters.charAt(high));
            }
        }
    }

    private static void ascendingLettersInLists() {
        String letters = "STPHAOEUFRBG";
        for (int first = 0; first < 12; first++) {
            for (int second = 0; second < 12; second++) {
                String text = "" + letters.charAt(first) + letters.charAt(second) + "=a";
                ChordDesk desk = new ChordDesk();
                Check.write(desk, text);
                Check.same("firstError of " + text, desk.firstError(), first < second ? 4 : 1);
                Check.same("load of " + text, Check.answer(desk, ChordDesk::load),
                    first < second ? "1" : "throws." + ARGUMENT);
            }
        }
    }

    // "An outline is a row of 1 to 4 strokes."
    private static void outlinesOfOneToFourStrokes() {
        String[] outlines = {"S", "S/T", "S/T/P", "S/T/P/H"};
        for (int length = 1; length <= 4; length++) {
            ChordDesk desk = Desks.loaded(outlines[length - 1] + "=a");
            Check.same("strokes of " + outlines[length - 1], desk.entry(0, 0), length);
            for (int place = 0; place < 4; place++) {
                Check.same("stroke " + place + " of " + length, desk.entry(0, 1 + place), place < length ? 1 << place : -1);
            }
        }
        ChordDesk none = Desks.withText(Desks::empty, "=a").get();
        Check.same("no stroke", none.firstError(), 0);
        Check.refused("no stroke", none, ARGUMENT, ChordDesk::load);
        ChordDesk five = Desks.withText(Desks::empty, "S/T/P/H/A=a").get();
        Check.same("a fifth stroke", five.firstError(), 7);
        Check.refused("a fifth stroke", five, ARGUMENT, ChordDesk::load);
    }

    private static void learnedOutlinesOfOneToFourStrokes() {
        for (int length = 1; length <= 4; length++) {
            ChordDesk desk = Desks.withStrokes(6);
            Check.same("learn of " + length, desk.learn(1, length), 0);
            Check.same("its strokes", desk.entry(0, 0), length);
        }
        Check.refused("learn of five", Desks.withStrokes(6), ARGUMENT, desk -> desk.learn(1, 5));
        ChordDesk four = Desks.pressed("S/T=a", "S T S T S T");
        Check.same("learn of two items with four strokes", four.learn(0, 1), 1);
        ChordDesk five = Desks.pressed("S/T=a;P/H/A=b", "S T P H A");
        Check.refused("learn of two items with five strokes", five, ARGUMENT, desk -> desk.learn(0, 1));
        ChordDesk one = Desks.pressed("S/T/P/H=a", "S T P H");
        one.fixAll();
        one.removeEntry(0);
        Check.same("learn of one item with four strokes", one.learn(0, 0), 0);
        Check.same("its outline", Check.list(one), "S/T/P/H=a");
    }

    // "The dictionary has at most 24 entries"
    private static void at24EntriesByLoad() {
        ChordDesk last = Desks.withText(() -> Desks.withEntries(23), "G=x").get();
        Check.same("load of the 24th", last.load(), 24);
        Check.same("there are 24", last.count(4), 24);
        Check.same("the last one", last.entry(23, 1), 2048);
        Check.write(last, "B=x");
        Check.refused("load of the 25th", last, STATE, ChordDesk::load);
        Check.same("there are 24 still", last.count(4), 24);
        last.removeEntry(0);
        Check.same("load after one went", last.load(), 24);
        ChordDesk two = Desks.withText(() -> Desks.withEntries(22), "G=x;B=y").get();
        Check.same("load of the 23rd and 24th", two.load(), 24);
    }

    private static void at24EntriesByOneList() {
        ChordDesk fits = Desks.withText(() -> Desks.withEntries(11), Desks.THIRTEEN).get();
        Check.same("11 and 13", fits.load(), 24);
        ChordDesk over = Desks.withText(() -> Desks.withEntries(12), Desks.THIRTEEN).get();
        Check.refused("12 and 13", over, STATE, ChordDesk::load);
        Check.same("none of them came", over.count(4), 12);
    }

    private static void at24EntriesByLearn() {
        ChordDesk desk = Desks.withEntries(23);
        desk.stroke(2048);
        Check.same("learn of the 24th", desk.learn(23, 23), 23);
        desk.stroke(1024);
        Check.refused("learn of the 25th", desk, STATE, one -> one.learn(24, 24));
        desk.removeEntry(5);
        Check.same("learn after one went", desk.learn(24, 24), 23);
        Check.same("there are 24", desk.count(4), 24);
    }

    // "numbered from 0 in the order in which they came"
    private static void numberedAsTheyCame() {
        ChordDesk desk = Desks.loaded("T=b;S=a");
        Check.same("by one list", Check.list(desk), "T=b;S=a");
        Check.press(desk, "G P");
        desk.learn(1, 1);
        Check.same("by learn", Check.list(desk), "T=b;S=a;P=p");
        Check.load(desk, "G=g");
        desk.removeEntry(0);
        Check.load(desk, "T=b");
        Check.same("one that came again", Check.list(desk), "S=a;P=p;G=g;T=b");
        Check.same("the first number", desk.entry(0, 1), 1);
        Check.same("the last number", desk.entry(3, 1), 2);
    }

    // "An entry has an outline and a word of 1 to 8 letters"
    private static void wordsOfOneToEightLetters() {
        String letters = "abcdefghi";
        for (int length = 1; length <= 8; length++) {
            ChordDesk desk = Desks.loaded("S=" + letters.substring(0, length));
            Check.same("letters of a word of " + length, desk.entry(0, 5), length);
            for (int place = 0; place < 8; place++) {
                Check.same("letter " + place, desk.entry(0, 8 + place), place < length ? 'a' + place : -1);
            }
        }
        ChordDesk none = Desks.withText(Desks::empty, "S=").get();
        Check.refused("no letter", none, ARGUMENT, ChordDesk::load);
        Check.same("no letter yet", none.firstError(), 2);
        none.append(';');
        Check.same("no letter", none.firstError(), 2);
        ChordDesk nine = Desks.withText(Desks::empty, "S=" + letters).get();
        Check.same("a ninth letter", nine.firstError(), 10);
        Check.refused("a ninth letter", nine, ARGUMENT, ChordDesk::load);
        ChordDesk nextNine = Desks.withText(Desks::empty, "S=abcdefgh;T=" + letters).get();
        Check.same("a ninth letter of the second word", nextNine.firstError(), 21);
    }

    // "letters "a" to "z""
    private static void smallLettersAToZ() {
        Check.same("a and z", Check.list(Desks.loaded("S=az")), "S=az");
        for (char letter = 'a'; letter <= 'z'; letter++) {
            ChordDesk desk = Desks.loaded("S=" + letter);
            Check.same("the letter " + letter, desk.entry(0, 8), (int) letter);
        }
        for (char letter : new char[] {'a' - 1, 'z' + 1, 'A', 'S', 'Z', '1', '-'}) {
            ChordDesk first = Desks.withText(Desks::empty, "S=" + letter).get();
            Check.same("firstError with " + letter, first.firstError(), 2);
            ChordDesk second = Desks.withText(Desks::empty, "S=a" + letter).get();
            Check.same("firstError with a second " + letter, second.firstError(), 3);
        }
    }

    // "No two entries have the same outline"
    private static void noTwoWithTheSameOutline() {
        Supplier<ChordDesk> recipe = () -> Desks.loaded("S/T=a;P/P/P/P=b");
        for (String same : new String[] {"S/T=a", "S/T=x", "P/P/P/P=b"}) {
            Check.refused("load of " + same, Desks.withText(recipe, same).get(), STATE, ChordDesk::load);
        }
        for (String other : new String[] {"S=a", "T=a", "ST=a", "T/S=a", "S/S=a", "T/T=a", "S/TP=a", "SP/T=a", "S/T/S=a",
            "S/T/S/T=a", "P/S/T=a", "P=b", "P/P=b", "P/P/P=b", "P/P/P/S=b", "S/P/P/P=b"}) {
            Check.same("load of " + other, Desks.withText(recipe, other).get().load(), 3);
        }
        ChordDesk within = Desks.withText(Desks::empty, "S=a;T=b;S=c").get();
        Check.refused("load of two with one outline", within, STATE, ChordDesk::load);
        ChordDesk gone = recipe.get();
        gone.removeEntry(0);
        Check.write(gone, "S/T=c");
        Check.same("an outline that went can come again", gone.load(), 2);
        gone.undo();
        Check.write(gone, "S/T=d");
        Check.same("one that was undone too", gone.load(), 2);
        ChordDesk learned = Desks.pressed("S/T=a", "P S T");
        Check.refused("learn of the same outline", learned, STATE, desk -> desk.learn(1, 1));
        Check.same("learn of a longer one", learned.learn(0, 1), 1);
    }

    // "several can have the same word"
    private static void severalWithTheSameWord() {
        ChordDesk desk = Desks.loaded("S=abcdefgh;T=abcdefgh;S/T=abcdefgh");
        Check.same("three with one word", desk.count(4), 3);
        Check.press(desk, "P P");
        Check.same("learn of p", desk.learn(0, 0), 3);
        Check.same("learn of pp", desk.learn(0, 1), 4);
        desk.renameEntry(4, 3);
        Check.same("by renameEntry", Check.list(desk), "S=abcdefgh;T=abcdefgh;S/T=abcdefgh;P=p;P/P=p");
        ChordDesk learned = Desks.pressed("S=t", "T");
        learned.learn(0, 0);
        Check.same("by learn", Check.list(learned), "S=t;T=t");
    }
}
