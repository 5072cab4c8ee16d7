/** The boundary cases of promises 8, 11 and 12, a test for each sentence: perform, type, clearText. */
public final class BoundaryTextTest {
    private static final Due DUE = new Due("BoundaryTextTest");
    private static final Unchanged UNCHANGED = new Unchanged(DUE);
    /** Each of the first 300 characters, and some that are like others in their last bits. */
    private static final char[] SIGNS = signs();

    public static void main(String[] args) {
        DUE.runSentences(BoundaryTextTest.class, 8, 11, 12);
        DUE.end();
    }

    private static char[] signs() {
        char[] signs = new char[306];
        for (int code = 0; code < 300; code++) {
            signs[code] = (char) code;
        }
        int[] more = {'r' + 0x100, 'w' + 0x8000, '0' + 0x400, 0x0660, 0xFF11, 0xFFFF};
        for (int i = 0; i < more.length; i++) {
            signs[300 + i] = (char) more[i];
        }
        return signs;
    }

    private static void faultOf(String text, int fault) {
        DUE.is("perform() of \"" + text + "\"", Calls.perform(new LentSectors(), text), -100 - fault);
    }

    private static void done(String text, int commands) {
        DUE.is("perform() of \"" + text + "\"", Calls.perform(Calls.withOneSpareEach(), text), commands);
    }

    /** Behind a start, the signs that are allowed leave no fault there, and all others have it there. */
    private static void allowedBehind(String start, String allowed) {
        for (char sign : SIGNS) {
            int answer = Calls.perform(new LentSectors(), start + sign);
            boolean fault = answer == -100 - start.length();
            boolean due = allowed.indexOf(sign) < 0;
            DUE.is("perform() of \"" + start + "\" and character " + (int) sign + ", a fault there", fault ? 1 : 0, due ? 1 : 0);
        }
    }

    // "A text of commands is one or more commands with ";" between two"; "The fault of the text is the index,
    // from 0, of the first character that is not allowed at its place, or the length of the text if it ends too
    // early (the empty text does)."

    static void promise08TheEmptyTextEndsTooEarly() {
        UNCHANGED.on(LentSectors::new, -100, "perform()", LentSectors::perform);
        LentSectors x = Calls.used();
        x.clearText();
        DUE.is("perform()", x.perform(), -100);
    }

    static void promise08OneCommandIsEnough() {
        done("r0", 1);
        done("w0=0", 1);
    }

    static void promise08ACommandBeginsWithROrWAlone() {
        allowedBehind("", "rw");
        allowedBehind("r5;", "rw");
        allowedBehind("w5=0;", "rw");
    }

    static void promise08BehindRAndWStandsADigitAlone() {
        allowedBehind("r", "0123456789");
        allowedBehind("w", "0123456789");
    }

    static void promise08SectorsUpTo63HaveTwoDigits() {
        for (char first = '1'; first <= '5'; first++) {
            allowedBehind("r" + first, "0123456789;");
            allowedBehind("w" + first, "0123456789=");
        }
        allowedBehind("r6", "0123;");
        allowedBehind("w6", "0123=");
        for (char first = '7'; first <= '9'; first++) {
            allowedBehind("r" + first, ";");
            allowedBehind("w" + first, "=");
        }
    }

    static void promise08ASectorHasNoThirdDigit() {
        for (int sector : new int[] {10, 59, 60, 63}) {
            allowedBehind("r" + sector, ";");
            allowedBehind("w" + sector, "=");
        }
    }

    static void promise08ASectorHasNoZeroInFront() {
        allowedBehind("r0", ";");
        allowedBehind("w0", "=");
        faultOf("r00", 2);
        faultOf("r05", 2);
        faultOf("w07=1", 2);
        done("r0", 1);
        done("r10", 1);
    }

    static void promise08ASectorOf63IsAllowedAnd64IsNot() {
        for (int sector = 0; sector < 64; sector++) {
            LentSectors x = new LentSectors();
            int due = sector % 16 < 12 ? 1 : LentSectors.UNKNOWN;
            DUE.is("perform() of r" + sector, Calls.perform(x, "r" + sector), due);
            DUE.is("perform() of w" + sector + "=7", Calls.perform(x, "w" + sector + "=7"), due);
            DUE.is("address(" + sector + ", 0)", x.address(sector, 0), due == 1 ? 7 : LentSectors.UNKNOWN);
        }
        for (int sector = 64; sector < 100; sector++) {
            faultOf("r" + sector, 2);
            faultOf("w" + sector + "=7", 2);
        }
        faultOf("r100", 3);
        faultOf("w630=7", 3);
    }

    static void promise08BehindTheEqualsSignStandsADigitAlone() {
        allowedBehind("w5=", "0123456789");
        allowedBehind("w63=", "0123456789");
    }

    static void promise08AValueHasUpToThreeDigits() {
        for (String value : new String[] {"1", "9", "10", "99"}) {
            allowedBehind("w5=" + value, "0123456789;");
        }
        for (String value : new String[] {"100", "999", "123"}) {
            allowedBehind("w5=" + value, ";");
        }
        faultOf("w5=1000", 6);
        faultOf("w63=9990", 7);
    }

    static void promise08AValueHasNoZeroInFront() {
        allowedBehind("w5=0", ";");
        faultOf("w5=00", 4);
        faultOf("w5=09", 4);
        done("w5=0", 1);
        done("w5=100", 1);
    }

    static void promise08EachValueFrom0To999IsWritten() {
        for (int start = 0; start < 1000; start += 20) {
            LentSectors x = new LentSectors();
            x.setLimit(999);
            for (int value = start; value < start + 20; value++) {
                DUE.is("perform() of w5=" + value, Calls.perform(x, "w5=" + value), 1);
                DUE.is("address(5, 0)", x.address(5, 0), value);
            }
        }
    }

    static void promise08ATextThatEndsTooEarlyHasItsLengthAsFault() {
        for (String text : new String[] {"r", "w", "w5", "w63", "w5=", "w63=", "r5;", "r63;", "w5=1;", "r5;w", "r5;w5", "r5;r"}) {
            faultOf(text, text.length());
        }
    }

    static void promise08SemicolonsStandBetweenTwoAlone() {
        faultOf(";", 0);
        faultOf(";r5", 0);
        faultOf("r5;;r5", 3);
        faultOf("r5;", 3);
        faultOf("r5r5", 2);
        faultOf("w5=1r5", 4);
        done("r5;r5", 2);
    }

    static void promise08TheFirstCharacterThatIsNotAllowedIsTheFault() {
        faultOf("x;y", 0);
        faultOf("r64;x", 2);
        faultOf("r5;x;r64", 3);
        faultOf("r5;w5=1;r6;w6=01", 15);
    }

    static void promise08AReadHasNoValue() {
        faultOf("r5=1", 2);
        faultOf("r63=1", 3);
    }

    static void promise08TwentyCommandsAreDone() {
        String nineteen = "r0;".repeat(19);
        LentSectors x = new LentSectors();
        DUE.is("perform() of 20", Calls.perform(x, nineteen + "r1"), 20);
        DUE.is("sector(0, 0)", x.sector(0, 0), 19);
        DUE.is("sector(1, 0)", x.sector(1, 0), 1);
        DUE.is("count(13)", x.count(13), 59);
        done(nineteen + "r10", 20);
    }

    static void promise08AFullTextMayEndTooEarly() {
        faultOf("r0;".repeat(20), 60);
        faultOf("r0;".repeat(19) + "w1=", 60);
        faultOf("r0;".repeat(18) + "r10;w1", 60);
    }

    static void promise08AFullTextMayHaveAFaultAtItsEnd() {
        faultOf("r0;".repeat(19) + "r00", 59);
        faultOf("r0;".repeat(19) + "r6x", 59);
    }

    static void promise08AFaultChangesNothing() {
        for (String text : new String[] {"r5;", "w5=1;x", "w5=1;r5;w6=1000", "r12;r64"}) {
            UNCHANGED.on(() -> {
                LentSectors x = Calls.used();
                x.clearText();
                Calls.typeAll(x, text);
                return x;
            }, -100 - (text.equals("r5;") ? 3 : text.equals("w5=1;x") ? 5 : text.equals("r12;r64") ? 6 : 14),
                "perform() of " + text, LentSectors::perform);
        }
    }

    // "Does the commands of the text, which stays, one after the other; all of them, or none. This is one act."

    static void promise08TheTextStays() {
        LentSectors x = new LentSectors();
        DUE.is("perform()", Calls.perform(x, "w5=9;r5"), 2);
        DUE.is("count(13)", x.count(13), 7);
        DUE.is("perform()", x.perform(), 2);
        DUE.is("count(10)", x.count(10), 2);
        DUE.is("perform() of a fault", Calls.perform(x, "w5=9;r"), -106);
        DUE.is("type('5')", x.type('5'), 7);
        DUE.is("perform()", x.perform(), 2);
        DUE.is("perform() of an error", Calls.perform(x, "r12"), LentSectors.UNKNOWN);
        DUE.is("clearText()", x.clearText(), 3);
    }

    static void promise08ItIsOneAct() {
        LentSectors x = new LentSectors();
        DUE.is("perform()", Calls.perform(x, "w5=9;w6=8;w7=7;w8=6;w9=5;r9"), 6);
        DUE.is("count(12)", x.count(12), 1);
        DUE.is("undo()", x.undo(), 0);
        DUE.is("address(5, 0)", x.address(5, 0), 0);
        DUE.is("count(11)", x.count(11), 0);
    }

    static void promise08TheCommandsAreDoneOneAfterTheOther() {
        LentSectors x = new LentSectors();
        DUE.is("perform()", Calls.perform(x, "w5=9;w5=8;r37;w5=7"), 4);
        DUE.is("address(5, 0)", x.address(5, 0), 7);
        DUE.is("sector(5, 0)", x.sector(5, 0), 6);
        DUE.is("count(7)", x.count(7), 5 + 2 + 2);
        DUE.is("count(10)", x.count(10), 1);
        DUE.is("count(11)", x.count(11), 3);
    }

    private static LentSectors with0LostAndText(String text) {
        LentSectors x = Calls.with0Lost();
        Calls.typeAll(x, text);
        return x;
    }

    static void promise08AnErrorOfTheFirstCommandIsReturned() {
        UNCHANGED.on(() -> with0LostAndText("r15;r0"), LentSectors.UNKNOWN, "r15;r0", LentSectors::perform);
        UNCHANGED.on(() -> with0LostAndText("r0;r15"), LentSectors.NOT_POSSIBLE, "r0;r15", LentSectors::perform);
        UNCHANGED.on(() -> with0LostAndText("w0=1;r15"), LentSectors.NOT_POSSIBLE, "w0=1;r15", LentSectors::perform);
        UNCHANGED.on(() -> with0LostAndText("w63=1;r0"), LentSectors.UNKNOWN, "w63=1;r0", LentSectors::perform);
    }

    static void promise08AnErrorOfTheLastCommandUndoesAll() {
        UNCHANGED.on(() -> with0LostAndText("w9=8;r9;r0"), LentSectors.NOT_POSSIBLE, "w9=8;r9;r0", LentSectors::perform);
        UNCHANGED.on(() -> with0LostAndText("w9=8;r8;w0=1"), LentSectors.NOT_POSSIBLE, "w9=8;r8;w0=1", LentSectors::perform);
        UNCHANGED.on(() -> with0LostAndText("w9=8;r8;r31"), LentSectors.UNKNOWN, "w9=8;r8;r31", LentSectors::perform);
    }

    static void promise08AnErrorCountsWhenItsTurnComes() {
        UNCHANGED.on(() -> with0LostAndText("r1;r1;r1"), LentSectors.NOT_POSSIBLE, "r1;r1;r1", LentSectors::perform);
        LentSectors x = with0LostAndText("r1;r1");
        DUE.is("perform(), 1 is lost by the last command", x.perform(), 2);
        DUE.is("address(1, 1)", x.address(1, 1), LentSectors.NONE);
        LentSectors y = with0LostAndText("w0=7;r0");
        DUE.is("perform()", y.perform(), LentSectors.NOT_POSSIBLE);
        y.setLimit(9);
        DUE.is("perform(), 0 is not lost any more when it is read", y.perform(), 2);
        DUE.is("address(0, 0)", y.address(0, 0), 7);
    }

    static void promise08AFaultComesAheadOfAnError() {
        faultOf("r12;r", 5);
        faultOf("w28=1;r5;x", 9);
        LentSectors x = with0LostAndText("r0;r64");
        DUE.is("perform()", x.perform(), -105);
    }

    // "There is a text of at most 60 characters, empty at first." "Returns the length of the text then; FULL if
    // it has 60 characters."

    static void promise11The60thCharacterIsTaken() {
        LentSectors x = new LentSectors();
        for (int length = 1; length <= 60; length++) {
            DUE.is("type(';')", x.type(';'), length);
        }
        DUE.is("count(13)", x.count(13), 60);
    }

    private static LentSectors withFullText() {
        LentSectors x = Calls.used();
        x.clearText();
        Calls.typeAll(x, "w0=1;".repeat(11) + "r1;r2");
        return x;
    }

    static void promise11The61stCharacterIsFull() {
        DUE.is("count(13)", withFullText().count(13), 60);
        DUE.is("perform()", withFullText().perform(), 13);
        UNCHANGED.on(BoundaryTextTest::withFullText, LentSectors.FULL, "type('0')", x -> x.type('0'));
        UNCHANGED.on(BoundaryTextTest::withFullText, LentSectors.FULL, "type(0)", x -> x.type((char) 0));
    }

    static void promise11AClearedTextHasRoomAgain() {
        LentSectors x = withFullText();
        DUE.is("type('r')", x.type('r'), LentSectors.FULL);
        x.clearText();
        DUE.is("type('r')", x.type('r'), 1);
        DUE.is("type('3')", x.type('3'), 2);
        DUE.is("perform()", x.perform(), 1);
    }

    static void promise11AnyCharacterIsTyped() {
        for (char sign : SIGNS) {
            LentSectors x = new LentSectors();
            DUE.is("type((char) " + (int) sign + ")", x.type(sign), 1);
        }
        DUE.is("type((char) 0xD800)", new LentSectors().type((char) 0xD800), 1);
    }

    static void promise11ItIsTypedBehindTheText() {
        LentSectors x = new LentSectors();
        DUE.is("perform()", Calls.perform(x, "w5=12"), 1);
        DUE.is("address(5, 0)", x.address(5, 0), 12);
        DUE.is("type('3')", x.type('3'), 6);
        DUE.is("perform()", x.perform(), 1);
        DUE.is("address(5, 0)", x.address(5, 0), 123);
    }

    static void promise11ItIsNoAct() {
        LentSectors x = new LentSectors();
        x.read(1);
        x.type('r');
        DUE.is("count(12)", x.count(12), 1);
        DUE.is("undo()", x.undo(), 0);
        DUE.is("count(13), no part of the state", x.count(13), 1);
    }

    // "Empties the text." "Returns the length that it had."

    static void promise12TheEmptyTextHad0() {
        LentSectors x = new LentSectors();
        DUE.is("clearText()", x.clearText(), 0);
        DUE.is("clearText()", x.clearText(), 0);
        DUE.is("count(13)", x.count(13), 0);
    }

    static void promise12TheFullTextHad60() {
        LentSectors x = withFullText();
        DUE.is("clearText()", x.clearText(), 60);
        DUE.is("clearText()", x.clearText(), 0);
        DUE.is("perform()", x.perform(), -100);
    }

    static void promise12OneCharacterHad1() {
        LentSectors x = new LentSectors();
        x.type('r');
        DUE.is("clearText()", x.clearText(), 1);
        DUE.is("count(13)", x.count(13), 0);
    }

    static void promise12ItIsNoAct() {
        LentSectors x = new LentSectors();
        x.keep();
        Calls.typeAll(x, "r5");
        DUE.is("clearText()", x.clearText(), 2);
        DUE.is("count(12)", x.count(12), 0);
        DUE.is("undo()", x.undo(), LentSectors.NONE);
        x.restore();
        DUE.is("count(13), the text does not come back", x.count(13), 0);
        x.undo();
        DUE.is("count(13), the text does not come back", x.count(13), 0);
    }
}
