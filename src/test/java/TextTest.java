/** Promises 8, 11 and 12: perform, type, clearText. */
public final class TextTest {
    private static final Due DUE = new Due("TextTest");

    public static void main(String[] args) {
        types();
        typesAnyCharacter();
        textIsNoState();
        faults();
        faultsOfStrangeCharacters();
        longTexts();
        performs();
        performsAllOrNone();
        firstErrorOfSeveral();
        performsAllShapesOfNumbers();
        DUE.end();
    }

    private static void types() {
        LentSectors x = new LentSectors();
        DUE.is("12: clearText()", x.clearText(), 0);
        for (int length = 1; length <= 60; length++) {
            DUE.is("11: type('r')", x.type('r'), length);
            DUE.is("11: count(13)", x.count(13), length);
        }
        DUE.is("11: type(';')", x.type(';'), LentSectors.FULL);
        DUE.is("11: count(13)", x.count(13), 60);
        DUE.is("12: clearText()", x.clearText(), 60);
        DUE.is("12: count(13)", x.count(13), 0);
        DUE.is("12: clearText()", x.clearText(), 0);
        DUE.is("11: type('r')", x.type('r'), 1);
    }

    private static void typesAnyCharacter() {
        LentSectors x = new LentSectors();
        int[] codes = {0, 9, 10, 32, 127, 128, 233, 255, 256, 0x660, 0xD800, 0xFFFF};
        for (int i = 0; i < codes.length; i++) {
            DUE.is("11: type((char) " + codes[i] + ")", x.type((char) codes[i]), i + 1);
        }
        DUE.is("8: perform()", x.perform(), -100);
        DUE.is("12: clearText()", x.clearText(), codes.length);
    }

    private static void textIsNoState() {
        LentSectors x = new LentSectors();
        x.keep();
        Calls.typeAll(x, "r1");
        DUE.is("11: count(12)", x.count(12), 0);
        DUE.is("11: undo()", x.undo(), LentSectors.NONE);
        DUE.is("8: perform()", x.perform(), 1);
        DUE.is("8: count(13), the text stays", x.count(13), 2);
        DUE.is("8: perform()", x.perform(), 1);
        x.undo();
        DUE.is("11: count(13)", x.count(13), 2);
        x.clearText();
        DUE.is("12: count(12)", x.count(12), 1);
        x.undo();
        DUE.is("12: count(13)", x.count(13), 0);
        x.type('r');
        x.restore();
        DUE.is("11: count(13)", x.count(13), 1);
    }

    private static void faults() {
        Object[][] rows = {
            {"", 0}, {"x", 0}, {"R1", 0}, {"W1=1", 0}, {" r1", 0}, {";", 0}, {"1", 0}, {"=", 0},
            {"r", 1}, {"rr", 1}, {"r;", 1}, {"r ", 1}, {"r-1", 1}, {"r+1", 1}, {"r=", 1}, {"r/", 1}, {"r:", 1},
            {"r00", 2}, {"r05", 2}, {"r64", 2}, {"r65", 2}, {"r69", 2}, {"r70", 2}, {"r99", 2}, {"r1=", 2},
            {"r1=5", 2}, {"r1r2", 2}, {"r1 ", 2}, {"r1/", 2}, {"r1:", 2}, {"r100", 3}, {"r600", 3}, {"r63 ", 3},
            {"r630", 3}, {"r1;", 3}, {"r0;", 3}, {"r10;", 4}, {"r1;;", 3}, {"r1;x", 3}, {"r1; r2", 3},
            {"w", 1}, {"w=", 1}, {"w;", 1}, {"wx", 1}, {"w5", 2}, {"w5;", 2}, {"w5 ", 2}, {"w0", 2}, {"w00", 2},
            {"w05=7", 2}, {"w64=1", 2}, {"w63", 3}, {"w635", 3}, {"w5=", 3}, {"w5==", 3}, {"w5=;", 3}, {"w5=x", 3},
            {"w5=-1", 3}, {"w63=", 4}, {"w5=00", 4}, {"w5=05", 4}, {"w5=1x", 4}, {"w5=1=", 4}, {"w5=1000", 6},
            {"w5=9999", 6}, {"w5=999x", 6}, {"w5=999;", 7}, {"w5=0;", 5}, {"w5=0;r", 6}, {"w5=1;r5;w", 9},
            {"w5=1;r5;w6=1000", 14}, {"r1;r64", 5}, {"r1;w2=3;r4;q", 11},
        };
        LentSectors x = new LentSectors();
        for (int i = 0; i < rows.length; i++) {
            if (i % 20 == 19) {
                x = new LentSectors();
            }
            String text = (String) rows[i][0];
            int fault = (Integer) rows[i][1];
            DUE.is("8: perform() of \"" + text + "\"", Calls.perform(x, text), -100 - fault);
            DUE.is("8: count(10) + count(11)", x.count(10) + x.count(11), 0);
            DUE.is("8: count(12)", x.count(12), 0);
            DUE.is("8: count(13)", x.count(13), text.length());
        }
    }

    private static void faultsOfStrangeCharacters() {
        char[] strange = {0, '\n', (char) ('r' + 256), (char) 0x661, (char) 0xFF11, (char) 0xFFFF};
        for (char one : strange) {
            LentSectors x = new LentSectors();
            DUE.is("8: perform() of character " + (int) one, Calls.perform(x, "" + one), -100);
            DUE.is("8: perform() of r and character " + (int) one, Calls.perform(x, "r" + one), -101);
            DUE.is("8: perform() of r1 and character " + (int) one, Calls.perform(x, "r1" + one), -102);
            DUE.is("8: perform() of w1= and character " + (int) one, Calls.perform(x, "w1=" + one), -103);
        }
    }

    private static void longTexts() {
        LentSectors x = new LentSectors();
        String nineteen = "r0;r1;r2;r3;r4;r5;r6;r7;r8;r9;r0;r1;r2;r3;r4;r5;r6;r7;r8;";
        DUE.is("8: perform() of 20 commands", Calls.perform(x, nineteen + "r9"), 20);
        DUE.is("8: count(10)", x.count(10), 20);
        DUE.is("8: perform() of 20 commands and ;", Calls.perform(x, nineteen + "r9;"), -160);
        DUE.is("8: perform() of 19 and one that is cut", Calls.perform(x, nineteen + "w1="), -160);
        DUE.is("8: perform() of 20, the last of three", Calls.perform(x, nineteen + "r11"), 20);
        LentSectors y = new LentSectors();
        DUE.is("8: perform() of 9 writes",
            Calls.perform(y, "w0=1;w1=22;w2=333;w3=4;w4=55;w5=666;w6=7;w7=88;w8=999;r10"), 10);
        DUE.is("8: address(8, 0)", y.address(8, 0), 999);
        DUE.is("8: address(2, 0)", y.address(2, 0), 333);
    }

    private static void performs() {
        LentSectors x = new LentSectors();
        DUE.is("8: perform()", Calls.perform(x, "w5=9;r5;w16=800;r16;w5=7"), 5);
        DUE.is("8: address(5, 0)", x.address(5, 0), 7);
        DUE.is("8: address(16, 0)", x.address(16, 0), 800);
        DUE.is("8: sector(5, 0)", x.sector(5, 0), 5);
        DUE.is("8: sector(16, 0)", x.sector(16, 0), 6);
        DUE.is("8: count(7), 5 and 7 and 7", x.count(7), 19);
        DUE.is("8: count(10)", x.count(10), 2);
        DUE.is("8: count(11)", x.count(11), 3);
        DUE.is("8: count(12), one act", x.count(12), 1);
        DUE.is("8: undo()", x.undo(), 0);
        DUE.is("8: address(16, 0)", x.address(16, 0), 0);
        DUE.is("8: count(7)", x.count(7), 0);
    }

    private static void performsAllOrNone() {
        LentSectors x = Calls.withOneSpareEach();
        x.setLimit(1);
        for (int i = 0; i < 4; i++) {
            x.write(0, 1);
        }
        DUE.is("8: perform(), 0 is lost by the write ahead", Calls.perform(x, "w9=8;w0=5;r0"), LentSectors.NOT_POSSIBLE);
        DUE.is("8: address(9, 0)", x.address(9, 0), 0);
        DUE.is("8: address(9, 1)", x.address(9, 1), 9);
        DUE.is("8: address(0, 0)", x.address(0, 0), 1);
        DUE.is("8: count(9)", x.count(9), 0);
        DUE.is("8: count(11)", x.count(11), 4);
        DUE.is("8: count(12)", x.count(12), 4);
        DUE.is("8: perform(), nothing can be lent", Calls.perform(x, "w0=5;w0=6"), LentSectors.NOT_POSSIBLE);
        DUE.is("8: perform(), the last one loses", Calls.perform(x, "w9=8;w0=5"), 2);
        DUE.is("8: address(0, 1)", x.address(0, 1), LentSectors.NONE);
        DUE.is("8: address(9, 1)", x.address(9, 1), LentSectors.NONE);
        DUE.is("8: count(9)", x.count(9), 2);
    }

    private static void firstErrorOfSeveral() {
        LentSectors x = new LentSectors();
        DUE.is("8: perform(), a spare one", Calls.perform(x, "r12"), LentSectors.UNKNOWN);
        DUE.is("8: perform(), a spare one", Calls.perform(x, "w63=1"), LentSectors.UNKNOWN);
        DUE.is("8: perform(), a spare one last", Calls.perform(x, "w1=1;r1;r28"), LentSectors.UNKNOWN);
        DUE.is("8: count(11)", x.count(11), 0);
        DUE.is("8: count(12)", x.count(12), 0);
        DUE.is("8: perform(), the fault is first", Calls.perform(x, "r12;r64"), -106);
        LentSectors y = Calls.withOneSpareEach();
        y.giveUp(0);
        y.giveUp(1);
        DUE.is("8: perform(), lost and no address", Calls.perform(y, "r16;r15"), LentSectors.NOT_POSSIBLE);
        DUE.is("8: perform(), no address and lost", Calls.perform(y, "r15;r16"), LentSectors.UNKNOWN);
    }

    private static void performsAllShapesOfNumbers() {
        LentSectors x = Calls.withOneSpareEach();
        for (String text : new String[] {"r0", "r9", "r10", "r59", "r60", "r62", "w0=0", "w62=10", "w0=99", "w0=100", "w0=909"}) {
            DUE.is("8: perform() of " + text, Calls.perform(x, text), 1);
        }
        DUE.is("8: address(0, 0)", x.address(0, 0), 909);
        DUE.is("8: address(62, 0)", x.address(62, 0), 10);
    }
}
