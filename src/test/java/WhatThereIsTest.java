/** Promises 14 to 17: strokeAt, item, entry, count. */
public final class WhatThereIsTest {
    public static void main(String[] args) {
        strokeAtTells();
        itemTells();
        entryTells();
        clashes();
        entryMakesItems();
        countTells();
        Check.end("WhatThereIsTest");
    }

    private static void strokeAtTells() {
        ChordDesk desk = Check.deskWith("S/TP=ab");
        Check.press(desk, "STPHAOEUFRBG S TP G");
        int[][] due = {{4095, 12, 0}, {1, 1, 1}, {6, 2, 1}, {2048, 1, 2}};
        for (int number = 0; number < due.length; number++) {
            for (int what = 0; what < 3; what++) {
                Check.same("strokeAt(" + number + ", " + what + ")", desk.strokeAt(number, what), due[number][what]);
            }
        }
        desk.fixAll();
        Check.same("the item of a fixed stroke", desk.strokeAt(3, 2), 2);
    }

    private static void itemTells() {
        ChordDesk desk = Check.deskWith("T=x;S/T=word");
        Check.press(desk, "S T");
        desk.fixAll();
        Check.press(desk, "S T PG STPHAOEUFRBG");
        int[][] due = {
            {0, 2, -1, 1, 4, 'w', 'o', 'r', 'd'},
            {2, 2, 1, 0, 4, 'w', 'o', 'r', 'd'},
            {4, 1, -1, 0, 2, 'P', 'G'},
            {5, 1, -1, 0, 12, 'S', 'T', 'P', 'H', 'A', 'O', 'E', 'U', 'F', 'R', 'B', 'G'}};
        for (int item = 0; item < due.length; item++) {
            for (int what = 0; what < due[item].length; what++) {
                Check.same("item(" + item + ", " + what + ")", desk.item(item, what), due[item][what]);
            }
        }
    }

    private static void entryTells() {
        ChordDesk desk = Check.deskWith("S/TP/G/STPHAOEUFRBG=abcdefgh;T=z");
        int[][] due = {
            {4, 1, 6, 2048, 4095, 8, 0, 0, 'a', 'b', 'c', 'd', 'e', 'f', 'g', 'h'},
            {1, 2, -1, -1, -1, 1, 0, 0, 'z', -1, -1, -1, -1, -1, -1, -1}};
        for (int entry = 0; entry < due.length; entry++) {
            for (int what = 0; what < 16; what++) {
                Check.same("entry(" + entry + ", " + what + ")", desk.entry(entry, what), due[entry][what]);
            }
        }
    }

    private static void clashes() {
        Check.clashesAre("S=a", "0");
        Check.clashesAre("S=a;T=b", "00");
        Check.clashesAre("S=a;T=a", "44");
        Check.clashesAre("S=a;S/T=b", "13");
        Check.clashesAre("S/T=b;S=a", "31");
        Check.clashesAre("S=a;S/T=a", "13");
        Check.clashesAre("S=a;T=b;S/T=c", "102");
        Check.clashesAre("S=a;S/S=c", "12");
        Check.clashesAre("S=a;T=b;T/S=c", "012");
        Check.clashesAre("S/T=a;P/H=b;S/T/P/H=c", "102");
        Check.clashesAre("S/T=a;S/T/S/T=c", "12");
        Check.clashesAre("S=a;T/P/H=b;S/T/P/H=c", "102");
        Check.clashesAre("S/T/P=a;H=b;S/T/P/H=c", "102");
        Check.clashesAre("T/P=a;S/T/P=b", "00");
        Check.clashesAre("S=a;T=b;P=d;S/T/P=c", "1003");
        Check.clashesAre("S=a;T=b;S/T=c;S/T/P=d", "1013");
        Check.clashesAre("S=a;T=b;S/T=c;P=e;S/T/P=d", "10102");
        Check.clashesAre("S=a;ST=b;STP=c", "000");
        Check.clashesAre("S/T=a;S/TP=b", "00");
        Check.clashesAre("S=aa;T=a;P=aa;H=ab", "4040");
        Check.clashesAre("S=a;S/T=b;P=b", "134");
        Check.clashesAre("S/T/P/H=a;S/T/P=b;S/T=c;S=d", "3111");
    }

    private static void entryMakesItems() {
        ChordDesk desk = Check.deskWith("S=a;T=a;S/T=b");
        Check.press(desk, "S");
        desk.fixAll();
        Check.press(desk, "S S T T S S");
        Check.same("items", Check.show(desk), "[a] a:0 b:2 a:1 a:0 a:0");
        Check.same("open items of entry 0", desk.entry(0, 7), 3);
        Check.same("open items of entry 1", desk.entry(1, 7), 1);
        Check.same("open items of entry 2", desk.entry(2, 7), 1);
    }

    private static void countTells() {
        ChordDesk desk = Check.deskWith("S=abc;S/T=de;P=abc");
        Check.press(desk, "S S T HA");
        desk.setWindow(3);
        Check.press(desk, "P");
        Check.same("items", Check.show(desk), "[abc] [de] HA abc:2");
        int[] due = {5, 4, 2, 2, 3, 3, 10, 1, 3, 8};
        for (int what = 0; what < due.length; what++) {
            Check.same("count(" + what + ")", desk.count(what), due[what]);
        }
        desk.fixAll();
        Check.same("no open items without an entry", desk.count(7), 0);
        Check.same("no open strokes", desk.count(3), 0);
    }
}
