import java.nio.charset.StandardCharsets;

/** What the tests share: feeding a judge, writing its answers as texts, and holding them against what is due. */
final class Check {
    static final String WRONG = "throws.IllegalArgumentException";
    static final String TOO_MUCH = "throws.IllegalStateException";
    static final String UNSUPPORTED = "throws.UnsupportedOperationException";
    static final String NO_INDEX = "throws.IndexOutOfBoundsException";

    /** A call that may throw. */
    interface Call {
        int answer();
    }

    private int wrong;
    private int asked;
    private String words = "";

    /** The document's words that the answers behind this call are held against. */
    void says(String newWords) {
        words = "[" + newWords + "] ";
    }

    void same(String what, Object got, Object due) {
        asked++;
        if (!String.valueOf(due).equals(String.valueOf(got))) {
            wrong++;
            System.out.println(words + what + " answered " + got + ", due is " + due);
        }
    }

    void call(String what, Call call, Object due) {
        same(what, answerOf(call), due);
    }

    /** A new judge's answer to the document, with a limit that is seldom reached. */
    void judged(String document, Object due) {
        judged(document, 2000, due);
    }

    void judged(String document, int limit, Object due) {
        MarkupJudge judge = fed(document);
        call("judge(" + limit + ") of " + document, () -> judge.judge(limit), due);
    }

    /** As judged, and what the references cost. */
    void costs(String document, int limit, Object due, int cost) {
        MarkupJudge judge = fed(document);
        call("judge(" + limit + ") of " + document, () -> judge.judge(limit), due);
        same("cost() of " + document, judge.cost(), cost);
    }

    /** As judged, and the events, as eventsOf writes them. */
    void found(String document, Object due, String events) {
        MarkupJudge judge = fed(document);
        call("judge(2000) of " + document, () -> judge.judge(2000), due);
        same("the events of " + document, eventsOf(judge), events);
    }

    /** All of these are judged alike. */
    void each(Object due, String... documents) {
        for (String document : documents) {
            judged(document, due);
        }
    }

    /** What is due is found when the last characters were read, and not before: cut off there, a document is wrong. */
    void foundAt(String before, String last, Object due) {
        foundAt(before, last, 2000, due);
    }

    void foundAt(String before, String last, int limit, Object due) {
        judged(before, limit, WRONG);
        judged(before + last, limit, due);
    }

    /** Ends the program, with exit code 1 if an answer was not as due. */
    void end() {
        System.out.println(wrong == 0 ? asked + " answers are as due" : wrong + " of " + asked + " answers are not as due");
        if (wrong != 0) {
            System.exit(1);
        }
    }

    static String answerOf(Call call) {
        try {
            return String.valueOf(call.answer());
        } catch (RuntimeException e) {
            return "throws." + e.getClass().getSimpleName();
        }
    }

    static MarkupJudge fed(String document) {
        MarkupJudge judge = new MarkupJudge();
        feed(judge, document);
        return judge;
    }

    static void feed(MarkupJudge judge, String document) {
        feed(judge, document.getBytes(StandardCharsets.UTF_8));
    }

    static void feed(MarkupJudge judge, byte[] row) {
        for (int from = 0; from < row.length; from += 8) {
            int n = Math.min(8, row.length - from);
            long eight = 0;
            for (int k = 0; k < n; k++) {
                eight |= (row[from + k] & 255L) << (8 * k);
            }
            judge.bytes(eight, n);
        }
    }

    /** BEGIN of a is +a, ATTRIBUTE is x[value], TEXT is [text], END is -a; odd characters are {number}. */
    static String eventsOf(MarkupJudge judge) {
        StringBuilder line = new StringBuilder();
        for (int i = 0; i < judge.events(); i++) {
            line.append(i == 0 ? "" : " ");
            int kind = judge.event(i, 0);
            line.append(kind == 1 ? "+" : kind == 4 ? "-" : "");
            if (kind != 3) {
                line.append((char) judge.event(i, 1));
            } else if (judge.event(i, 1) != 0) {
                line.append("a text with a name");
            }
            if (kind == 2 || kind == 3) {
                line.append('[');
                for (int k = 0; k < judge.event(i, 2); k++) {
                    int c = judge.character(i, k);
                    line.append(c >= 32 && c <= 126 ? String.valueOf((char) c) : "{" + c + "}");
                }
                line.append(']');
            } else if (judge.event(i, 2) != 0) {
                line.append("characters without a text");
            }
        }
        return line.toString();
    }
}
