import java.util.function.Supplier;

/**
 * The edges that the document names under "Clashes", "Input text", "Undo" and "Exceptions", in its order. Above each
 * test stands the sentence that it holds.
 */
public final class EdgesOfTextsTest {
    private static final String STATE = "IllegalStateException";

    public static void main(String[] args) {
        noClash();
        beginningOfALongerOutline();
        outlineOfTwoEntries();
        outlineOfTheSameEntryTwice();
        outlineOfThreeEntriesIsNone();
        beginningWithAShorterOutline();
        anotherEntryWithTheSameWord();
        theFirstThatHolds();
        clashesGoWithTheirEntries();
        removedEntriesLeaveNoClash();
        at60Characters();
        oneOrMoreEntries();
        listsOfAnyLength();
        firstErrorInEachPlace();
        onlyTheFirstError();
        undoableMethodsSave();
        undoableMethodsSaveThoughNothingChanges();
        otherMethodsDoNotSave();
        refusedCallsDoNotSave();
        whatIsSaved();
        atEightStates();
        theOldestIsDroppedFirst();
        Check.end("EdgesOfTextsTest");
    }

    // "otherwise it is 0"
    private static void noClash() {
        Check.same("no entries, no clashes", new ChordDesk().count(8), 0);
        Check.clashesAre("S=a", "0");
        Check.clashesAre("S/S/S/S=a", "0");
        Check.clashesAre("S=a;T=b;P/H=c;P/A=d;H/P=e", "00000");
        Check.clashesAre("S=a;ST=b;T/S=c", "000");
        Check.clashesAre("S=aa;T=a;P=aaa", "000");
        Check.clashesAre("S=abcdefgh;T=abcdefgi", "00");
    }

    // "1: its outline is the beginning of a longer outline"
    private static void beginningOfALongerOutline() {
        Check.clashesAre("S=a;S/T=b", "13");
        Check.clashesAre("S=a;S/T/P/H=b", "13");
        Check.clashesAre("S/T=a;S/T/P=b", "13");
        Check.clashesAre("S/T/P=a;S/T/P/H=b", "13");
        Check.clashesAre("S/T/P/H=b;S/T/P=a", "31");
        Check.clashesAre("T=a;S/T=b", "00");
        Check.clashesAre("S/P=a;S/T/P=b", "00");
        Check.clashesAre("S/T=a;S/P=b", "00");
        Check.clashesAre("S=a;ST/T=b", "00");
    }

    // "2: the outline is that of two entries (perhaps the same one twice), one behind the other"
    private static void outlineOfTwoEntries() {
        Check.clashesAre("S=a;T=b;S/T=c", "102");
        Check.clashesAre("S/T=c;T=b;S=a", "201");
        Check.clashesAre("S=a;T/P=b;S/T/P=c", "102");
        Check.clashesAre("S/T=a;P=b;S/T/P=c", "102");
        Check.clashesAre("S=a;T/P/H=b;S/T/P/H=c", "102");
        Check.clashesAre("S/T=a;P/H=b;S/T/P/H=c", "102");
        Check.clashesAre("S/T/P=a;H=b;S/T/P/H=c", "102");
        // One of the two parts is missing, or they stand the other way round.
        Check.clashesAre("S=a;S/T=c", "13");
        Check.clashesAre("T=b;S/T=c", "00");
        Check.clashesAre("T=a;S=b;P=d;S/T/P=c", "0103");
        Check.clashesAre("S/T=a;H/P=b;S/T/P/H=c", "103");
        Check.clashesAre("S=a;P=b;S/T=c", "103");
    }

    private static void outlineOfTheSameEntryTwice() {
        Check.clashesAre("S=a;S/S=c", "12");
        Check.clashesAre("S/T=a;S/T/S/T=c", "12");
        Check.clashesAre("S/T=a;S/T/T/S=c", "13");
        Check.clashesAre("S=a;S/S/S=c", "13");
    }

    private static void outlineOfThreeEntriesIsNone() {
        Check.clashesAre("S=a;T=b;P=d;S/T/P=c", "1003");
        Check.clashesAre("S=a;T=b;P=d;H=e;S/T/P/H=c", "10003");
        Check.clashesAre("S=a;T=b;P/H=d;S/T/P/H=c", "1003");
        Check.clashesAre("S=a;S/S/S/S=c", "13");
    }

    // "3: it begins with another (shorter) outline"
    private static void beginningWithAShorterOutline() {
        Check.clashesAre("S/T/P/H=b;S=a", "31");
        Check.clashesAre("S/T/P/H=b;S/T=a", "31");
        Check.clashesAre("S/T/P/H=b;S/T/P=a", "31");
        Check.clashesAre("S/T/P/H=b;H=a;P/H=c;T/P/H=d", "0000");
        Check.clashesAre("S/S=b;S=a", "21");
    }

    // "4: another entry has the same word"
    private static void anotherEntryWithTheSameWord() {
        Check.clashesAre("S=a;T=a", "44");
        Check.clashesAre("S=a;T=b;P=a", "404");
        Check.clashesAre("S=abcdefgh;T=abcdefgh", "44");
        Check.clashesAre("S=ab;T=a;P=ba;H=ab", "4004");
        Check.clashesAre("S=a;T=a;P=a", "444");
    }

    // "The clash of an entry is the first of these that holds"
    private static void theFirstThatHolds() {
        // S/T is the beginning of S/T/P, two entries, begins with S, and has S's word.
        Check.clashesAre("S=a;T=b;S/T=a;S/T/P=c", "1013");
        Check.clashesAre("S=a;S/S=a;S/S/S=c", "112");
        // S/T is two entries, begins with S, and has S's word.
        Check.clashesAre("S=a;T=b;S/T=a", "102");
        // S/T begins with S, and has S's word.
        Check.clashesAre("S=a;S/T=a", "13");
        Check.clashesAre("P=b;S/T=b;S=a", "431");
        // S/T is the beginning of S/T/P, and begins with S.
        Check.clashesAre("S=a;S/T=b;S/T/P=c", "113");
        // S has T's word, and is the beginning of S/P.
        Check.clashesAre("S=a;T=a;S/P=b", "143");
    }

    private static void clashesGoWithTheirEntries() {
        ChordDesk desk = Desks.loaded("S=a;S/T=b;P=a");
        Check.same("with three", desk.entry(0, 6) + " " + desk.entry(1, 6) + " " + desk.entry(2, 6), "1 3 4");
        desk.removeEntry(1);
        Check.same("without the longer one", desk.entry(0, 6) + " " + desk.entry(1, 6), "4 4");
        desk.removeEntry(1);
        Check.same("alone", desk.entry(0, 6), 0);
        Check.same("no clashes", desk.count(8), 0);
        desk.undo();
        Check.same("again two", desk.count(8), 2);
    }

    private static void clashWithoutTheLast(String list, int entry, int due) {
        ChordDesk desk = Check.deskWith(list);
        desk.removeEntry(desk.count(4) - 1);
        Check.same("clash of " + entry + " in " + list + " without the last", desk.entry(entry, 6), due);
    }

    /** What was in the dictionary's last place is not looked at any more. */
    private static void removedEntriesLeaveNoClash() {
        clashWithoutTheLast("S=a;S/T=b", 0, 0);
        clashWithoutTheLast("S=a;S/S/T=c;S/T=b", 1, 3);
        clashWithoutTheLast("S=a;S/T=c;T=b", 1, 3);
        clashWithoutTheLast("S/T=c;T=b;S=a", 0, 0);
        clashWithoutTheLast("S/T=c;S=a", 0, 0);
        clashWithoutTheLast("S=a;T=a", 0, 0);
        clashWithoutTheLast("S=a;T=b;P=a", 0, 0);
        ChordDesk undone = Desks.loaded("S=a");
        Check.load(undone, "S/T=b");
        undone.undo();
        Check.same("a load that was undone", undone.entry(0, 6) + " " + undone.count(8), "0 0");
    }

    // "The buffer has at most 60 characters."
    private static void at60Characters() {
        ChordDesk desk = Desks.withText(Desks::empty, "a".repeat(59)).get();
        Check.same("the 60th character", desk.append('b'), 60);
        Check.refused("the 61st", desk, STATE, one -> one.append('b'));
        Check.same("clearBuffer of 60", desk.clearBuffer(), 60);
        Check.same("then there is room", desk.append('b'), 1);
    }

    // "A list is one or more entries separated by ";""
    private static void oneOrMoreEntries() {
        Check.refused("no entry", new ChordDesk(), "IllegalArgumentException", ChordDesk::load);
        Check.same("one entry", Desks.withText(Desks::empty, "S=a").get().load(), 1);
        String most = "S=a;T=b;P=c;H=d;A=e;O=f;E=g;U=h;F=i;R=j;B=k;G=l;ST=m;SP=n";
        ChordDesk desk = Desks.withText(Desks::empty, most).get();
        Check.same("fourteen entries", desk.load(), 14);
        Check.same("all of them", Check.list(desk), most);
    }

    // "a character is a syntax error if no list, of any length, begins with the characters before it and this character"
    private static void listsOfAnyLength() {
        // Each goes on only beyond 60 characters, or beyond 24 entries, or to an outline that was there.
        String[] beginnings = {"S=a;".repeat(15), "S=a;".repeat(14) + "S=ab", "S=a;".repeat(14) + "S/S/",
            "S=a;".repeat(14) + "STPH", "S=a;".repeat(14) + "S/S=", "STPHAOEUFRBG/".repeat(3) + "STPHAOEUFRBG=abcdefg;"};
        for (String text : beginnings) {
            Check.same("characters of " + text, text.length(), 60);
            ChordDesk desk = Desks.withText(() -> Desks.withEntries(23), text).get();
            Check.same("firstError of " + text, desk.firstError(), 60);
        }
        Check.same("firstError of nothing", new ChordDesk().firstError(), 0);
        Check.same("firstError with a full dictionary", Desks.withText(Desks::full, "S=s;S=s").get().firstError(), 7);
    }

    private static void firstErrorInEachPlace() {
        String good = "S=a;T=b;P=c;H=d;A=e;O=f;E=g;U=h;F=i;R=j;B=k;G=l;S/S=mn;ST/T=";
        Check.same("characters of " + good, good.length(), 60);
        for (int place = 0; place < 60; place++) {
            String text = good.substring(0, place) + "!" + good.substring(place + 1);
            ChordDesk desk = Desks.withText(Desks::empty, text).get();
            Check.same("firstError of " + text, desk.firstError(), place);
            ChordDesk whole = Desks.withText(Desks::empty, good.substring(0, place)).get();
            Check.same("firstError of " + good.substring(0, place), whole.firstError(), place);
        }
    }

    private static void onlyTheFirstError() {
        ChordDesk desk = Desks.withText(Desks::empty, "S=;a!").get();
        Check.same("of several errors the first", desk.firstError(), 2);
        desk.append('S');
        Check.same("it stays the first", desk.firstError(), 2);
        desk.clearBuffer();
        Check.same("none in an empty buffer", desk.firstError(), 0);
    }

    /** Each undoable method, on a desk where it changes something. */
    private static final Check.Call[] UNDOABLE = {
        desk -> desk.stroke(4), ChordDesk::takeBack, ChordDesk::fixAll, desk -> desk.setWindow(1),
        desk -> desk.removeEntry(1), desk -> desk.renameEntry(1, 0), desk -> desk.learn(1, 2), ChordDesk::load};

    private static Supplier<ChordDesk> toLoad(Supplier<ChordDesk> recipe) {
        return Desks.withText(recipe, "A=xyz;H/T=x");
    }

    // "Each method that is marked "undoable" and does not throw an exception saves the state from before it"
    private static void undoableMethodsSave() {
        for (int method = 0; method < UNDOABLE.length; method++) {
            Check.Call call = UNDOABLE[method];
            Supplier<ChordDesk> recipe = toLoad(Desks::some);
            ChordDesk desk = Check.after(recipe, call);
            Check.same("undoable method " + method + " saves", desk.count(9), 8);
            Check.isTrue("undoable method " + method + " changes something", !saved(desk).equals(saved(recipe.get())));
            // The buffer is no part of a state; both desks go on without it.
            Check.sameWhole("undo of method " + method, () -> undone(recipe, call),
                () -> Check.after(recipe, ChordDesk::clearBuffer));
        }
    }

    /** The session, the dictionary and the window. */
    private static String saved(ChordDesk desk) {
        return Check.show(desk) + " " + Check.list(desk) + " " + desk.count(5);
    }

    private static ChordDesk undone(Supplier<ChordDesk> recipe, Check.Call call) {
        ChordDesk desk = Check.after(recipe, call);
        Check.same("undo tells how many are left", desk.undo(), recipe.get().count(9));
        desk.clearBuffer();
        return desk;
    }

    // "(also if it changes nothing)"
    private static void undoableMethodsSaveThoughNothingChanges() {
        Check.Call[] calls = {ChordDesk::fixAll, desk -> desk.setWindow(8), desk -> desk.renameEntry(0, 0),
            desk -> desk.renameEntry(1, 2)};
        Supplier<ChordDesk> recipe = () -> Desks.loaded("S=a;T=b;P=b");
        for (int number = 0; number < calls.length; number++) {
            Check.Call call = calls[number];
            Check.same("call " + number + " saves", Check.after(recipe, call).count(9), 2);
            Check.sameWhole("undo of call " + number, () -> undone(recipe, call), recipe);
        }
    }

    private static void otherMethodsDoNotSave() {
        Check.Call[] calls = {desk -> desk.append('a'), ChordDesk::clearBuffer, ChordDesk::firstError,
            desk -> desk.strokeAt(0, 0), desk -> desk.item(0, 0), desk -> desk.entry(0, 0), desk -> desk.count(9),
            desk -> desk.ifStroke(1, 0), desk -> desk.ifRemoved(0), ChordDesk::fewestStrokes, ChordDesk::readsBack,
            desk -> desk.shortest(0), ChordDesk::lettersPerStroke, ChordDesk::digest};
        for (int number = 0; number < calls.length; number++) {
            Check.same("call " + number + " saves nothing", Check.after(Desks::some, calls[number]).count(9), 7);
            if (number > 1) {
                Check.keeps("call " + number, Desks::some, calls[number]);
                Check.keeps("call " + number + " on a full desk", Desks::full, calls[number]);
            }
        }
        Check.same("undo saves nothing", Check.after(Desks::some, ChordDesk::undo).count(9), 6);
    }

    // "and does not throw an exception"
    private static void refusedCallsDoNotSave() {
        Check.Call[] calls = {desk -> desk.stroke(0), desk -> desk.setWindow(31), desk -> desk.removeEntry(4),
            desk -> desk.renameEntry(0, 4), desk -> desk.learn(0, 3), ChordDesk::load};
        for (int number = 0; number < calls.length; number++) {
            Check.same("refused call " + number, Check.after(Desks::some, calls[number]).count(9), 7);
        }
        ChordDesk none = Desks.loaded("S=a");
        Check.refused("takeBack of none", none, STATE, ChordDesk::takeBack);
        Check.same("it saves nothing", none.count(9), 1);
        none.undo();
        Check.refused("undo of none", none, STATE, ChordDesk::undo);
        Check.same("nor does that", none.count(9), 0);
    }

    // "the dictionary, the session and the window"
    private static void whatIsSaved() {
        ChordDesk desk = toLoad(Desks::some).get();
        desk.load();
        Check.same("entries after load", desk.count(4), 6);
        Check.type(desk, "later");
        desk.undo();
        Check.same("the dictionary", desk.count(4), 4);
        Check.same("not the buffer", desk.clearBuffer(), 5);
        desk.setWindow(0);
        Check.same("all is fixed", Check.show(desk), "[defghijk] [H] [c]");
        desk.undo();
        Check.same("the window", desk.count(5), 3);
        Check.same("fixed items open again", Check.show(desk), "[defghijk] H c:1");
        desk.removeEntry(1);
        desk.takeBack();
        desk.undo();
        Check.same("one step alone", Check.show(desk), "[defghijk] H T");
        desk.undo();
        Check.same("and one more", Check.show(desk), "[defghijk] H c:1");
    }

    // "At most 8 states are saved"
    private static void atEightStates() {
        ChordDesk desk = new ChordDesk();
        for (int call = 1; call <= 12; call++) {
            desk.stroke(call);
            Check.same("saved after " + call, desk.count(9), Math.min(call, 8));
        }
        for (int left = 7; left >= 0; left--) {
            Check.same("undo leaves", desk.undo(), left);
            Check.same("saved then", desk.count(9), left);
        }
        Check.refused("the ninth undo", desk, STATE, ChordDesk::undo);
    }

    // "the oldest one is dropped first"
    private static void theOldestIsDroppedFirst() {
        for (int calls = 7; calls <= 17; calls++) {
            ChordDesk desk = new ChordDesk();
            for (int call = 0; call < calls; call++) {
                desk.setWindow(call);
            }
            int undone = Math.min(calls, 8);
            for (int state = 1; state <= undone; state++) {
                desk.undo();
                int due = calls - state - 1;
                Check.same("the window after " + calls + " calls, " + state + " undone", desk.count(5), due < 0 ? 8 : due);
            }
            Check.refused("one undo more", desk, STATE, ChordDesk::undo);
            desk.setWindow(30);
            Check.same("it saves again", desk.undo(), 0);
        }
    }
}
