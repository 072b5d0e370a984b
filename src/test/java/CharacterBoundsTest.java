import java.util.Arrays;

/** The term CHARACTERS, sentence by sentence, and for every byte, every pair of bytes and every number. */
public final class CharacterBoundsTest {
    private static final Check CHECK = new Check();
    /** An object is only good for so many calls. */
    private static final int MOST_TURNS = 50;
    private static MarkupJudge reused = new MarkupJudge();
    private static int turns;

    public static void main(String[] args) {
        oneByte();
        twoBytes();
        threeBytes();
        cutOff();
        allowed();
        everyByte();
        everyPair();
        everyCharacter();
        everyNumber();
        lineEnds();
        decodedFirst();
        CHECK.end();
    }

    /** The characters of the text that these bytes are, or what is thrown. */
    private static String textOf(int... inside) {
        turns++;
        if (turns % MOST_TURNS == 0) {
            reused = new MarkupJudge();
        }
        reused.clear();
        Check.feed(reused, "<a>");
        byte[] row = new byte[inside.length];
        for (int k = 0; k < row.length; k++) {
            row[k] = (byte) inside[k];
        }
        Check.feed(reused, row);
        Check.feed(reused, "</a>");
        return judgedText();
    }

    private static String judgedText() {
        String answer = Check.answerOf(() -> reused.judge(0));
        if (!answer.equals("1")) {
            return answer;
        }
        if (reused.events() != 3) {
            return reused.events() + " events";
        }
        StringBuilder numbers = new StringBuilder();
        for (int k = 0; k < reused.event(1, 2); k++) {
            numbers.append(k == 0 ? "" : " ").append(reused.character(1, k));
        }
        return numbers.toString();
    }

    private static void text(Object due, int... inside) {
        CHECK.same("the text of " + Arrays.toString(inside), textOf(inside), due);
    }

    private static void wrong(int... inside) {
        text(Check.WRONG, inside);
    }

    private static void oneByte() {
        CHECK.says("0 .. 127 is one itself");
        text(9, 9);
        text(32, 32);
        text(126, 126);
        text(127, 127);
        wrong(128);
    }

    private static void twoBytes() {
        CHECK.says("194 .. 223 and one FOLLOWER (128 .. 191): 64 * (first - 192) + (follower - 128)");
        wrong(192, 128);
        wrong(193, 191);
        text(128, 194, 128);
        text(191, 194, 191);
        text(192, 195, 128);
        text(1984, 223, 128);
        text(2047, 223, 191);
        wrong(194, 127);
        wrong(194, 192);
        wrong(223, 127);
        wrong(223, 192);
        wrong(224, 160);
        text("128 49", 194, 128, 49);
        wrong(194, 128, 128);
    }

    private static void threeBytes() {
        CHECK.says("224 .. 239 and two followers: 4096 * (first - 224) + 64 * (.. - 128) + (.. - 128)");
        text(2048, 224, 160, 128);
        text(4095, 224, 191, 191);
        text(4096, 225, 128, 128);
        text(4096 + 64, 225, 129, 128);
        text(4096 + 1, 225, 128, 129);
        text(8191, 225, 191, 191);
        text(61440, 239, 128, 128);
        wrong(225, 127, 128);
        wrong(225, 192, 128);
        wrong(225, 128, 127);
        wrong(225, 128, 192);
        wrong(240, 160, 128);
        wrong(240, 160, 128, 128);
        text("4096 49", 225, 128, 128, 49);
        wrong(225, 128, 128, 128);
        CHECK.says("which must be at least 2048");
        wrong(224, 159, 191);
        wrong(224, 128, 128);
        wrong(224, 129, 129);
    }

    private static void cutOff() {
        CHECK.says("Anything else .. is WRONG: a follower that is not there any more");
        int[][] rows = {{194}, {223}, {224}, {224, 160}, {239}, {239, 191}};
        for (int[] row : rows) {
            wrong(row);
            // Behind everything else, so that only the missing follower is wrong.
            MarkupJudge judge = Check.fed("<a/><!--");
            byte[] end = new byte[row.length];
            for (int k = 0; k < row.length; k++) {
                end[k] = (byte) row[k];
            }
            Check.feed(judge, end);
            CHECK.call("judge(0) of a document that ends in " + Arrays.toString(row), () -> judge.judge(0), Check.WRONG);
            MarkupJudge full = Check.fed(" ".repeat(360 - row.length));
            Check.feed(full, end);
            CHECK.call("judge(0) of 360 bytes that end in " + Arrays.toString(row), () -> full.judge(0), Check.WRONG);
        }
    }

    private static void allowed() {
        CHECK.says("any character but 9, 10, 13, 32 .. 55295, 57344 .. 65533, is WRONG");
        for (int c : new int[] {0, 1, 8, 11, 12, 14, 31}) {
            wrong(c);
        }
        text(9, 9);
        text(10, 10);
        text(10, 13);
        text(32, 32);
        text(55295, 237, 159, 191);
        wrong(237, 160, 128);
        wrong(237, 191, 191);
        text(57344, 238, 128, 128);
        text(65533, 239, 191, 189);
        wrong(239, 191, 190);
        wrong(239, 191, 191);
    }

    private static boolean isAllowed(int c) {
        return c == 9 || c == 10 || c == 13 || c >= 32 && c <= 55295 || c >= 57344 && c <= 65533;
    }

    private static void everyByte() {
        CHECK.says("every byte by itself");
        for (int b = 0; b < 256; b++) {
            if (b != '<' && b != '&') {
                int c = b == 13 ? 10 : b;
                text(b < 128 && isAllowed(b) ? c : Check.WRONG, b);
            }
        }
    }

    private static void everyPair() {
        CHECK.says("every pair of bytes that begins above 127");
        for (int first = 128; first < 256; first++) {
            for (int second = 0; second < 256; second++) {
                boolean fits = first >= 194 && first <= 223 && second >= 128 && second <= 191;
                text(fits ? 64 * (first - 192) + second - 128 : Check.WRONG, first, second);
            }
        }
    }

    private static void everyCharacter() {
        CHECK.says("every three bytes, the last two of them followers");
        for (int first = 224; first < 240; first++) {
            for (int second = 128; second < 192; second++) {
                for (int third = 128; third < 192; third++) {
                    int c = 4096 * (first - 224) + 64 * (second - 128) + third - 128;
                    text(c >= 2048 && isAllowed(c) ? c : Check.WRONG, first, second, third);
                }
            }
        }
    }

    private static void number(String digits, Object due) {
        turns++;
        if (turns % MOST_TURNS == 0) {
            reused = new MarkupJudge();
        }
        reused.clear();
        Check.feed(reused, "<a>&#" + digits + ";</a>");
        CHECK.same("the text of &#" + digits + ";", judgedText(), due);
    }

    private static void everyNumber() {
        CHECK.says("one to six digits, a character as above");
        number("", Check.WRONG);
        number("9", 9);
        number("000009", 9);
        number("0000009", Check.WRONG);
        number("000000", Check.WRONG);
        number("65533", 65533);
        number("065533", 65533);
        number("0065533", Check.WRONG);
        number("999999", Check.WRONG);
        // 65536 more, or as many as wrap around, is not the character itself.
        number("65601", Check.WRONG);
        number("131137", Check.WRONG);
        number("4294967361", Check.WRONG);
        for (String not : new String[] {"/", ":", "6/", "6:", "a", "6a", "x41", "-9", "+9", " 9", "9 ", "\u0666"}) {
            number(not, Check.WRONG);
        }
        for (int n = 0; n <= 66000; n++) {
            number(String.valueOf(n), isAllowed(n) ? n : Check.WRONG);
        }
    }

    private static void lineEnds() {
        CHECK.says("Then each 13 and a 10 behind it become one 10, each other 13 becomes 10");
        text("10", 13, 10);
        text("10", 13);
        text("10 10", 10, 13);
        text("10 10", 13, 13);
        text("10 10", 13, 13, 10);
        text("10 10", 13, 10, 10);
        text("10 10", 13, 10, 13);
        text("10 10", 13, 10, 13, 10);
        text("10 49 10", 13, 49, 10);
        text("49 10 50", 49, 13, 10, 50);
        CHECK.found("<a x=\"\r\n\r\"/>\r", 1, "+a x[  ] -a");
        CHECK.found("\r\n<a\r\n/>\r\n", 1, "+a -a");
        CHECK.says("13, which only a number can make");
        CHECK.found("<a>&#13;</a>", 1, "+a [{13}] -a");
        CHECK.found("<a>&#13;\n</a>", 1, "+a [{13}{10}] -a");
        CHECK.found("<a>\r&#10;</a>", 1, "+a [{10}{10}] -a");
        CHECK.found("<a>&#13;&#10;</a>", 1, "+a [{13}{10}] -a");
    }

    private static void decodedFirst() {
        CHECK.says("The bytes are decoded first, all of them");
        for (String before : new String[] {"", "x", "<!DOCTYPE a SYSTEM", "<a>".repeat(17), "<!DOCTYPE a [<!ENTITY % ", "<a/>"}) {
            CHECK.judged(before + "\u0001", Check.WRONG);
            CHECK.judged(before + " ".repeat(300) + "\uFFFE", Check.WRONG);
        }
        CHECK.judged("<!DOCTYPE a SYSTEM\t", Check.UNSUPPORTED);
        CHECK.judged("<a>".repeat(17) + "\uFFFD", Check.TOO_MUCH);
    }
}
