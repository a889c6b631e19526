/** Texts (the terms), and the promises 11 and 12. */
final class TextsTest {
    private static final String TEXTS = "TEXTS";

    /** Ten cues in 60 characters, as many as there can be. */
    private static final String LONGEST = "0@1s0,0@1s1,0@1s2,0@1s3,0@1s4,0@1s5,0@1s6,0@1s7,0@1s8,"
            + "0@10s9";

    private TextsTest() {
    }

    static void run() {
        lengths();
        commas();
        scenesAndTicks();
        sounds();
        lasting();
        zeros();
        greaterDigits();
        whereTheFaultIs();
        eachCharacterFirst();
        type();
        clearText();
    }

    private static void lengths() {
        Check.of(TEXTS, "There is a text of at most 60 characters, empty at first.").runs("""
                count(11) = 0
                readCues() = -100
                """).runs("text " + LONGEST + """

                count(11) = 60
                type(44) = FULL
                count(11) = 60
                readCues() = 10
                """);
    }

    private static void commas() {
        Check.of(TEXTS, "A text of cues is one or more cues with \",\" between two:").runs("""
                read 0@1s1 = 1
                read 0@2s1,0@3s1 = 3
                read 0@4s1*2,0@5s1*3,0@6s1*4 = 6
                read , = -100
                read ,0@7s1 = -100
                read 0@7s1, = -106
                read 0@7s1,,0@8s1 = -106
                read 0@7s10@8s1 = -105
                read 0@7s1;0@8s1 = -105
                read 0@7s1 0@8s1 = -105
                read 0@7s1*2,, = -108
                count(0) = 6
                """);
        Check.that("ten cues in a text");
        new Board().runs("read " + LONGEST + " = 10\n count(11) = 60\n cue(0, 1) = 1\n"
                + "cue(9, 1) = 10\n cue(9, 2) = 9");
    }

    private static void scenesAndTicks() {
        Check.of(TEXTS, "a scene (0 to 5)").runs("""
                read 0@1s1,1@1s1,2@1s1,3@1s1,4@1s1,5@1s1 = 6
                cues = 0@1s1*1,1@1s1*1,2@1s1*1,3@1s1*1,4@1s1*1,5@1s1*1
                read 6@1s1 = -100
                read 9@1s1 = -100
                read -1@1s1 = -100
                read /@1s1 = -100
                read @1s1 = -100
                read 10@1s1 = -101
                read 0@2s2,6@2s2 = -106
                """);
        Check.of(TEXTS, "\"@\"").runs("""
                read 0 = -101
                read 01s1 = -101
                read 0?1s1 = -101
                read 0A1s1 = -101
                read 0@@1s1 = -102
                read 0@1s1 = 1
                """);
        Check.of(TEXTS, "a tick (0 to 999)").runs("""
                read 0@0s1,0@9s1,0@10s1,0@99s1,0@100s1,0@999s1 = 6
                cues = 0@0s1*1,0@9s1*1,0@10s1*1,0@99s1*1,0@100s1*1,0@999s1*1
                read 1@1000s1 = -105
                read 1@9999s1 = -105
                read 1@s1 = -102
                read 1@-1s1 = -102
                read 1@ 1s1 = -102
                read 1@1 s1 = -103
                read 1@1:s1 = -103
                """);
    }

    private static void sounds() {
        Check.of(TEXTS, "\"s\"").runs("""
                read 0@1 = -103
                read 0@11 = -104
                read 0@111 = -105
                read 0@1S1 = -103
                read 0@1r1 = -103
                read 0@1t1 = -103
                read 0@1,1 = -103
                read 0@1ss1 = -104
                read 0@1s1 = 1
                """);
        Check.of(TEXTS, "a sound (0 to 9)").runs("""
                read 0@1s0,0@1s1,0@1s2,0@1s3,0@1s4 = 5
                read 0@1s5,0@1s6,0@1s7,0@1s8,0@1s9 = 10
                cue(0, 2) = 0
                cue(5, 2) = 5
                cue(9, 2) = 9
                read 0@2s10 = -105
                read 0@2s99 = -105
                read 0@2s/ = -104
                read 0@2s: = -104
                read 0@2s*2 = -104
                read 0@2s,0@2s1 = -104
                """);
    }

    private static void lasting() {
        Check.of(TEXTS, "and perhaps \"*\" and how long it lasts (1 to 20; without it 1).").runs("""
                read 0@0s1,0@1s1*1,0@2s1*2,0@3s1*9 = 4
                read 0@4s1*10,0@5s1*19,0@6s1*20 = 7
                cues = 0@0s1*1,0@1s1*1,0@2s1*2,0@3s1*9,0@4s1*10,0@5s1*19,0@6s1*20
                read 1@1s1* = -106
                read 1@1s1*0 = -106
                read 1@1s1*-1 = -106
                read 1@1s1** = -106
                read 1@1s1*,1@2s1 = -106
                read 1@1s1*21 = -107
                read 1@1s1*29 = -107
                read 1@1s1*30 = -107
                read 1@1s1*99 = -107
                read 1@1s1*200 = -108
                read 1@1s1*1*1 = -107
                read 1@1s1+1 = -105
                """);
    }

    private static void zeros() {
        Check.of(TEXTS, "Numbers have no zero in front unless they are the single digit 0;")
                .runs("""
                read 00@1s1 = -101
                read 05@1s1 = -101
                read 0@00s1 = -103
                read 0@01s1 = -103
                read 0@09s1 = -103
                read 0@0999s1 = -103
                read 0@1s00 = -105
                read 0@1s01 = -105
                read 0@1s1*01 = -106
                read 0@1s1*00 = -106
                read 0@1s1,0@2s1*020 = -112
                read 0@0s0 = 1
                read 0@100s0*10 = 2
                """);
    }

    private static void greaterDigits() {
        Check.of(TEXTS, "a digit by which a number would be greater than told is not allowed.")
                .runs("""
                read 6@1s1 = -100
                read 50@1s1 = -101
                read 55@1s1 = -101
                read 0@1000s1 = -105
                read 0@9990s1 = -105
                read 0@100000s1 = -105
                read 0@1s10 = -105
                read 0@1s90 = -105
                read 0@1s1*21 = -107
                read 0@1s1*201 = -108
                read 0@1s1*100 = -108
                read 0@1s1*190 = -108
                read 5@999s9*20 = 1
                """);
        Check.that("digits so many that no int holds them");
        new Board().runs("""
                read 0@1s1*4294967297 = -107
                read 4294967296@1s1 = -101
                read 0@42949672961s1 = -105
                read 0@1s4294967297 = -105
                """);
    }

    private static void whereTheFaultIs() {
        String good = "3@104s7*15,0@9s9";
        Board first = Check.of(TEXTS, "The fault of the text is the index, from 0, of the first"
                + " character that is not allowed at its place,");
        for (int index = 0; index < good.length(); index++) {
            String bad = good.substring(0, index) + "x" + good.substring(index + 1);
            first.runs("read " + bad + " = " + (-100 - index));
        }
        Check.that("of two faults the first one is told");
        new Board().runs("""
                read 0@1x1,6@1s1 = -103
                read 6@1s1,0@1x1 = -100
                read 0@1s1*21,0@01s1 = -107
                read x0@1s1x = -100
                """);
        Check.of(TEXTS, "or the length of the text if it ends too early (the empty text does).")
                .runs("""
                read  = -100
                read 3 = -101
                read 3@ = -102
                read 3@1 = -103
                read 3@10 = -104
                read 3@104 = -105
                read 3@104s = -106
                read 3@104s7* = -108
                read 3@104s7*15, = -111
                read 3@104s7*15,0 = -112
                read 3@104s7*15,0@ = -113
                read 3@104s7*15,0@9 = -114
                read 3@104s7*15,0@9s = -115
                read 3@104s7 = 1
                removeCue(0) = 0
                read 3@104s7*1 = 1
                removeCue(0) = 0
                read 3@104s7*15 = 1
                """);
        Check.that("faults at the end of a text of 60 characters");
        String tenth = LONGEST.substring(0, 59);
        new Board().runs("read " + tenth + "s = -159\n count(11) = 60");
        new Board().runs("read " + tenth.substring(0, 56) + "1s9* = -160\n count(11) = 60");
    }

    /** A scene alone ends too early, any other character is not allowed. */
    private static void eachCharacterFirst() {
        Board x = Check.of("Promise 11", "`character`: any character");
        for (int character = 0; character <= Character.MAX_VALUE; character++) {
            boolean isScene = character >= '0' && character <= '5';
            x.due("type(" + character + ")", 1).due("readCues()", isScene ? -101 : -100)
                    .due("clearText()", 1);
            x = x.calls() + 3 > Board.LAST_CALL ? new Board() : x;
        }
        Check.that("characters that look like a sign, or are like one but for their high bits");
        new Board().runs("read 0@\u0661s1 = -102\n read 0@1s\u0131 = -104\n"
                + "read \u0130@1s1 = -100\n read 0\u01401s1 = -101\n read 0@1\u01731 = -103\n read 0@1s1\u012a2 = -105");
    }

    private static void type() {
        Board x = Check.of("Promise 11", "Types a character behind the text.").runs("""
                type(48) = 1
                type(64) = 2
                type(49) = 3
                readCues() = -103
                type(115) = 4
                type(51) = 5
                readCues() = 1
                type(42) = 6
                type(52) = 7
                removeCue(0) = 0
                readCues() = 1
                cues = 0@1s3*4
                """);
        x.runs("count(10) = 3");
        Board full = Check.of("Promise 11", "Returns the length of the text then; FULL if it has 60"
                + " characters.");
        for (int length = 1; length <= 60; length++) {
            full.due("type(" + length * 1000 + ")", length);
        }
        full.runs("""
                type(48) = FULL
                type(48) = FULL
                count(11) = 60
                clearText() = 60
                type(48) = 1
                """);
    }

    private static void clearText() {
        Check.of("Promise 12", "Empties the text.").runs("""
                text 0@1s1
                clearText() = 5
                count(11) = 0
                readCues() = -100
                type(53) = 1
                readCues() = -101
                """);
        Check.of("Promise 12", "Returns the length that it had.").runs("""
                clearText() = 0
                type(48) = 1
                clearText() = 1
                clearText() = 0
                """).runs("text " + LONGEST + "\n clearText() = 60\n clearText() = 0\n"
                + "count(10) = 0");
    }
}
