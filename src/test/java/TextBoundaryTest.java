/**
 * The boundary cases of section 1 and of promises 2 to 4: the text's length, its numbers, its clauses, its faults and
 * where they stand. Above each test stands the document's sentence that it would miss. No object is used for more than 512 calls.
 */
public final class TextBoundaryTest {
    private static final int NONE = -1, OUTSIDE = -1000000002, FULL = -1000000004;
    private static final int[] FAR = {Integer.MIN_VALUE, -1000000001, -256, -2, -1, 256, 257, 1000, Integer.MAX_VALUE};
    private static final String SIX_C = "c0 0;c0 0;c0 0;c0 0;c0 0;c0 0;", SIX_D = "d0 0 0 9;d0 0 0 9;d0 0 0 9;d0 0 0 9;d0 0 0 9;d0 0 0 9;";

    private static int wrong = 0;

    private static void due(String call, long got, long want) {
        if (got != want) {
            wrong++;
            System.out.println(call + " answered " + got + ", due is " + want);
        }
    }

    private static void feedAll(DummyHunt x, String text) {
        for (int i = 0; i < text.length(); i++) {
            due("feed(" + (int) text.charAt(i) + ")", x.feed(text.charAt(i)), i + 1);
        }
    }

    /** Reads it on a new object, which it answers. */
    private static DummyHunt read(String text, int answer, int fault) {
        DummyHunt x = new DummyHunt();
        feedAll(x, text);
        due("nursery() of '" + text + "'", x.nursery(), answer);
        due("fault() of '" + text + "'", x.fault(), fault);
        due("told(4) behind '" + text + "'", x.told(4), 0);
        return x;
    }

    private static void sound(String text, int children) {
        read(text, children, NONE);
    }

    public static void main(String[] args) {
        lettersFed();
        lettersFull();
        numbersInBounds();
        figures();
        owners();
        sixAtMost();
        headFirstOnce();
        everyLetterEverywhere();
        everyEnd();
        blanksAnywhere();
        blanksBetweenNumbers();
        leastFaultAtOneLetter();
        firstLetterWithFault();
        emptyTexts();
        textIsEmptyThen();
        faultOfTheLatest();
        System.out.println(wrong == 0 ? "all answers are as due" : wrong + " answers are not as due");
        if (wrong != 0) {
            System.exit(1);
        }
    }

    /** "One letter (a number 0 .. 255) comes behind THE TEXT: how many it has. OUTSIDE". */
    private static void lettersFed() {
        for (int letter = 0; letter <= 255; letter++) {
            DummyHunt x = new DummyHunt();
            due("feed(" + letter + ")", x.feed(letter), 1);
            due("told(4) behind it", x.told(4), 1);
        }
        DummyHunt x = new DummyHunt();
        feedAll(x, "n1 0");
        for (int letter : FAR) {
            due("feed(" + letter + ")", x.feed(letter), OUTSIDE);
            due("told(4) behind it", x.told(4), 4);
        }
        due("feed(';')", x.feed(';'), 5);
        due("nursery(): nothing of what was outside came in", x.nursery(), 0);
    }

    /** "(240 letters at most)", "FULL (240)"; of several refusals OUTSIDE comes ahead of FULL. */
    private static void lettersFull() {
        DummyHunt x = new DummyHunt();
        String text = "n1 0;c3 60" + " ".repeat(229) + ";";
        due("letters", text.length(), 240);
        feedAll(x, text);
        due("a letter more", x.feed('x'), FULL);
        due("the least letter more", x.feed(0), FULL);
        due("the greatest letter more", x.feed(255), FULL);
        for (int letter : FAR) {
            due("feed(" + letter + ") when full", x.feed(letter), OUTSIDE);
        }
        due("told(4) when full", x.told(4), 240);
        due("nursery(): what was refused did not come in", x.nursery(), 1);
        due("child(0, 1)", x.child(0, 1), 60);
        due("there is room again", x.feed('n'), 1);
        read("n1 0;c3 60" + " ".repeat(230), -11, 240);
        read("n1 0;" + " ".repeat(234) + "c", -11, 240);
        read("n1 0;" + " ".repeat(234) + "n", -13, 239);
        read(" ".repeat(239) + "n", -11, 240);
        read(" ".repeat(239) + "c", -11, 239);
        sound("n" + " ".repeat(235) + "1 0;", 0);
    }

    /** "H HOURS, 1 .. 99", "Q of a hundred, 0 .. 100", B 0 .. 3, "A months old, 0 .. 60", "K, 0 .. 9", "S, 0 .. 3", "M BOILINGS, 0 .. 30". */
    private static void numbersInBounds() {
        numberAt("n", " 0;", 1, 99, 'H');
        numberAt("n1 ", ";", 0, 100, 'Q');
        numberAt("n1 0;c", " 0;", 0, 3, 'B');
        numberAt("n1 0;c0 ", ";", 0, 60, 'A');
        numberAt("n1 0;d", " 0 0 9;", 0, 9, 'K');
        numberAt("n1 0;d0 ", " 0 9;", 0, 3, 'S');
        numberAt("n1 0;d0 0 ", " 9;", 0, 30, 'M');
    }

    private static int valueRead(DummyHunt x, char name) {
        switch (name) {
            case 'H': return x.told(0);
            case 'Q': return x.told(1);
            case 'B': return x.child(0, 0);
            case 'A': return x.child(0, 1);
            case 'K': return x.dummy(0, 0);
            case 'S': return x.dummy(0, 1);
            default: return x.dummy(0, 2);
        }
    }

    private static void numberAt(String ahead, String behind, int least, int most, char name) {
        for (int value = 0; value <= 999; value++) {
            String text = ahead + value + behind;
            if (value >= least && value <= most) {
                DummyHunt x = read(text, name == 'B' || name == 'A' ? 1 : 0, NONE);
                due(name + " of '" + text + "'", valueRead(x, name), value);
            } else {
                read(text, -12, ahead.length());
            }
        }
        read(ahead + "-1" + behind, -11, ahead.length());
        read(ahead + "+1" + behind, -11, ahead.length());
        for (String figures : new String[] {"0001", "1000", "9999", "00000", "4294967297", "18446744073709551617"}) {
            read(ahead + figures + behind, -12, ahead.length());
        }
    }

    /** "NUMBERS have one to three figures", "a NUMBER of four figures or more". */
    private static void figures() {
        due("H", read("n9 0;", 0, NONE).told(0), 9);
        due("H", read("n09 0;", 0, NONE).told(0), 9);
        due("H", read("n009 0;", 0, NONE).told(0), 9);
        read("n0009 0;", -12, 1);
        read("n00009 0;", -12, 1);
        sound("n1 000;", 0);
        read("n1 0000;", -12, 3);
        sound("n001 100;c003 060;d009 003 030 009;", 1);
        read("n001 100;c003 060;d009 003 030 0009;", -12, 31);
        read("n" + "1".repeat(239), -12, 1);
        read("n" + "0".repeat(239), -12, 1);
        read("n0 0;", -12, 1);
        read("n00 0;", -12, 1);
        read("n000 0;", -12, 1);
    }

    /** "of CHILD O told ahead, or 9: a spare one; no CHILD has two", "an O that is neither 9 nor a CHILD told ahead (at its first)". */
    private static void owners() {
        for (int children = 0; children <= 6; children++) {
            String ahead = "n1 0;" + SIX_C.substring(0, 5 * children) + "d0 0 0 ";
            for (int o = 0; o <= 999; o++) {
                if (o == 9 || o < children) {
                    DummyHunt x = read(ahead + o + ";", children, NONE);
                    due("dummy(0, 3)", x.dummy(0, 3), o);
                    due("child(o, 3)", o == 9 ? 0 : x.child(o, 3), 0);
                } else {
                    read(ahead + o + ";", -12, ahead.length());
                }
            }
        }
        read("n1 0;c0 0;d0 0 0 1;c0 0;", -12, 17);
        sound("n1 0;c0 0;c0 0;d0 0 0 1;", 2);
        sound("n1 0;" + SIX_C + "d0 0 0 5;d0 0 0 4;d0 0 0 3;d0 0 0 2;d0 0 0 1;d0 0 0 0;", 6);
        sound("n1 0;c0 0;d0 0 0 9;d0 0 0 0;d0 0 0 9;", 1);
        read("n1 0;c0 0;d0 0 0 0;d0 0 0 9;d0 0 0 0;", -14, 35);
        read("n1 0;c0 0;d0 0 0 0;d0 0 0 000;", -14, 26);
        read("n1 0;c0 0;d0 0 0 0;c0 0;d0 0 0 1;d0 0 0 1;", -14, 40);
    }

    /** "6 CHILDREN at most", "6 DUMMIES at most", "a seventh 'c', 'd' (at it)". */
    private static void sixAtMost() {
        sound("n1 0;" + SIX_C, 6);
        sound("n1 0;" + SIX_D, 0);
        sound("n1 0;" + SIX_C + SIX_D, 6);
        sound("n1 0;" + SIX_D + SIX_C, 6);
        read("n1 0;" + SIX_C + "c0 0;", -13, 35);
        read("n1 0;" + SIX_C + "c", -13, 35);
        read("n1 0;" + SIX_C + "  c9999", -13, 37);
        read("n1 0;" + SIX_D + "d0 0 0 9;", -13, 59);
        read("n1 0;" + SIX_D + "d", -13, 59);
        read("n1 0;" + SIX_C + SIX_D + "c0 0;", -13, 89);
        read("n1 0;" + SIX_D + SIX_C + " d0 0 0 9;", -13, 90);
        DummyHunt x = read("n1 0;" + SIX_D + SIX_C, 6, NONE);
        due("told(2)", x.told(2), 6);
        due("told(3)", x.told(3), 6);
        due("the last child", x.child(5, 0), 0);
        due("the last dummy", x.dummy(5, 3), 9);
    }

    /** "first, once", "another word first than 'n'", "'n' again". */
    private static void headFirstOnce() {
        read("c0 0;n1 0;", -11, 0);
        read("d0 0 0 9;n1 0;", -11, 0);
        read(";n1 0;", -11, 0);
        read("1n1 0;", -11, 0);
        read("N1 0;", -11, 0);
        read("  c0 0;", -11, 2);
        read("n1 0;n1 0;", -13, 5);
        read("n1 0; n", -13, 6);
        read("n1 0;c0 0;n1 0;", -13, 10);
        read("n1 0;d0 0 0 9;n", -13, 14);
    }

    /** "it cannot stand there (a letter that is no word ..)", of all letters there are, at each kind of place. */
    private static void everyLetterEverywhere() {
        for (int l = 0; l <= 255; l++) {
            boolean figure = l >= '0' && l <= '9';
            boolean blank = l == ' ';
            String s = String.valueOf((char) l);
            read(s, blank ? 0 : -11, blank ? NONE : l == 'n' ? 1 : 0);
            read("n" + s, l == '0' ? -12 : -11, l == '0' ? 1 : figure || blank ? 2 : 1);
            read("n1" + s, -11, figure || blank ? 3 : 2);
            read("n1 " + s, -11, figure || blank ? 4 : 3);
            read("n1 0" + s, l == ';' ? 0 : -11, l == ';' ? NONE : figure || blank ? 5 : 4);
            read("n1 0 " + s, l == ';' ? 0 : -11, l == ';' ? NONE : blank ? 6 : 5);
            int open = l == 'c' || l == 'd' ? 6 : 5;
            read("n1 0;" + s, blank ? 0 : l == 'n' ? -13 : -11, blank ? NONE : open);
            read("n1 0;c0 0" + s, l == ';' ? 1 : -11, l == ';' ? NONE : figure || blank ? 10 : 9);
            read("n1 0;d0 0 0 9" + s, l == ';' ? 0 : figure ? -12 : -11, l == ';' ? NONE : figure ? 12 : blank ? 14 : 13);
        }
    }

    /** "(the end at the text's length)": a sound text cut short anywhere; it ends well behind clauses alone. */
    private static void everyEnd() {
        String whole = " n99 100 ; c3 60; d9 3 30 0 ;d1 1 10 9;c1 1;d0 0 0 1; ";
        int children = 0;
        boolean within = false;
        for (int length = 0; length <= whole.length(); length++) {
            char last = length == 0 ? ' ' : whole.charAt(length - 1);
            if (last == 'n' || last == 'c' || last == 'd') {
                within = true;
                children += last == 'c' ? 1 : 0;
            } else if (last == ';') {
                within = false;
            }
            read(whole.substring(0, length), within ? -11 : children, within ? length : NONE);
        }
    }

    /** "blanks (32) may stand anywhere but within NUMBERS". */
    private static void blanksAnywhere() {
        String[] parts = {"n", "99", " ", "100", ";", "c", "3", " ", "60", ";", "d", "9", " ", "3", " ", "30", " ", "0", ";"};
        for (int blanks = 0; blanks <= 9; blanks++) {
            StringBuilder text = new StringBuilder(" ".repeat(blanks));
            for (String part : parts) {
                text.append(part).append(" ".repeat(blanks));
            }
            sound(text.toString(), 1);
        }
        read("n9 9 0;", -11, 5);
        read("n99 1 00;", -11, 6);
        read("n1 0;c3 6 0;", -11, 10);
        read("n1 0;d9 3 3 0 9;", -12, 12);
        for (char other : new char[] {0, 9, 10, 13, 31, 33, 160}) {
            read(other + "n1 0;", -11, 0);
            read("n" + other + "1 0;", -11, 1);
            read("n1" + other + "0;", -11, 2);
            read("n1 0;" + other, -11, 5);
        }
    }

    /** "two NUMBERS side by side need one". */
    private static void blanksBetweenNumbers() {
        read("n10;", -11, 3);
        read("n990;", -12, 1);
        read("n9910;", -12, 1);
        read("n1 0;c00;", -11, 8);
        read("n1 0;c360;", -12, 6);
        read("n1 0;d00 0 9;", -11, 12);
        read("n1 0;d0 0 09;", -11, 12);
        read("n1 0;d0 0 309;", -12, 10);
        sound("n1 0;c0 0;d0 0 0 0;", 1);
    }

    /** "of these the least". */
    private static void leastFaultAtOneLetter() {
        read("n1 n", -11, 3);
        read("nn", -11, 1);
        read("n1 0;c0 0n1 0;", -11, 9);
        read("n1 0;" + SIX_C + "d0 c", -11, 38);
        read("n1 0;" + SIX_C + "dc", -11, 36);
        read("n1 0;" + SIX_D + "cd", -11, 60);
        read("n1 0 5555;", -11, 5);
        read("n1 0;c0 0 999;", -11, 10);
        read("n1 0;5555", -11, 5);
        read("9999", -11, 0);
        read("n1 0;c0 0;d0 0 0 0;d0 0 0 0000;", -12, 26);
        read("n1 0;c0 0;d0 0 0 0;d0 0 0 n", -11, 26);
    }

    /** "FAULTS, at the first letter that has one": what comes behind it does not count, however small its number. */
    private static void firstLetterWithFault() {
        read("n0x", -12, 1);
        read("n100 101;", -12, 1);
        read("n1 101x", -12, 3);
        read("n1 0;n x", -13, 5);
        read("n1 0;c4 61;x", -12, 6);
        read("n1 0;c0 61;n", -12, 8);
        read("n1 0;d10 4 31 8;", -12, 6);
        read("n1 0;d9 4 31 8;", -12, 8);
        read("n1 0;d9 3 31 8;", -12, 10);
        read("n1 0;d9 3 30 8;", -12, 13);
        read("n1 0;c0 0;d0 0 0 0;d0 0 0 0", -14, 26);
        read("n1 0;c0 0;d0 0 0 0;d0 0 0 0 0000", -14, 26);
        read("n1 0;c0 0;d0 0 0 0;d0 4 0 0;", -12, 22);
        read("x n0 0;", -11, 0);
    }

    /** "An empty text: no NURSERY.", and by issue 5 one of blanks alone. */
    private static void emptyTexts() {
        for (int blanks : new int[] {0, 1, 2, 239, 240}) {
            DummyHunt x = read(" ".repeat(blanks), 0, NONE);
            due("hour(1) without a nursery", x.hour(1), -1000000003);
            x = read("n5 7;c3 0;d0 0 1 9;", 1, NONE);
            due("hour(1)", x.hour(1), 1);
            feedAll(x, " ".repeat(blanks));
            due("nursery() of an empty text, with one there", x.nursery(), 0);
            for (int what = 0; what <= 12; what++) {
                due("told(" + what + ")", x.told(what), 0);
            }
            due("fault()", x.fault(), NONE);
            due("hour(1) again", x.hour(1), -1000000003);
        }
        due("a nursery without children and dummies is one", read("n1 0;", 0, NONE).hour(1), 1);
    }

    /** "THE TEXT (it is empty then, with a FAULT, too)". */
    private static void textIsEmptyThen() {
        DummyHunt x = new DummyHunt();
        feedAll(x, "n1 0");
        due("nursery()", x.nursery(), -11);
        feedAll(x, ";");
        due("the letters ahead are gone", x.nursery(), -11);
        due("fault()", x.fault(), 0);
        feedAll(x, "n2 0;c0 0;");
        due("nursery()", x.nursery(), 1);
        feedAll(x, "c0 0;");
        due("the sound text is gone, too", x.nursery(), -11);
        due("told(2)", x.told(2), 1);
        due("nothing is left", x.nursery(), 0);
        due("told(2)", x.told(2), 0);
    }

    /** "The letter of the FAULT of the latest nursery(); NONE." */
    private static void faultOfTheLatest() {
        DummyHunt x = new DummyHunt();
        due("fault() of a new one", x.fault(), NONE);
        feedAll(x, "n1 0;x");
        due("fault() ahead of nursery()", x.fault(), NONE);
        due("nursery()", x.nursery(), -11);
        due("fault()", x.fault(), 5);
        due("fault() again", x.fault(), 5);
        feedAll(x, "n0");
        due("fault() stays while letters come", x.fault(), 5);
        due("nursery()", x.nursery(), -12);
        due("fault()", x.fault(), 1);
        feedAll(x, "n1 0;");
        due("nursery()", x.nursery(), 0);
        due("fault()", x.fault(), NONE);
        feedAll(x, "?");
        due("nursery()", x.nursery(), -11);
        due("the first letter is 0", x.fault(), 0);
        due("nursery() of an empty text", x.nursery(), 0);
        due("fault()", x.fault(), NONE);
    }
}
