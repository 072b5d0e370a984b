import java.nio.charset.StandardCharsets;
import java.util.Map;
import java.util.TreeMap;

/**
 * The program and PlainJudge, which is written apart from it, judge generated documents alike: the same answer, cost
 * and events. The seed is fixed; the first argument may be another one, the second how many documents there are.
 */
public final class SideBySideTest {
    private static final Check CHECK = new Check();
    private static final Map<String, Integer> ANSWERS = new TreeMap<>();

    public static void main(String[] args) {
        Documents documents = new Documents(args.length > 0 ? Long.parseLong(args[0]) : 20261115L);
        int most = args.length > 1 ? Integer.parseInt(args[1]) : 30000;
        MarkupJudge judge = new MarkupJudge();
        for (int k = 0; k < most; k++) {
            // An object is good for 512 calls, and a document takes up to fifty.
            judge = k % 8 == 0 ? new MarkupJudge() : judge;
            compare(judge, documents.next(), documents.limit());
        }
        everyAnswerWasThere();
        CHECK.end();
    }

    private static void compare(MarkupJudge judge, byte[] row, int limit) {
        judge.clear();
        Check.feed(judge, row);
        String answer = Check.answerOf(() -> judge.judge(limit));
        String seen = answer + " " + judge.cost() + " " + eventsOf(judge.events(), row, limit);
        CHECK.same("judge(" + limit + ") of " + new String(row, StandardCharsets.UTF_8), seen, PlainJudge.judged(row, limit));
        count(answer);
    }

    /** Asked of a new object, as that takes many calls; for the longest rows more than 512, which the program bears. */
    private static String eventsOf(int events, byte[] row, int limit) {
        if (events == 0) {
            return "";
        }
        MarkupJudge judge = new MarkupJudge();
        Check.feed(judge, row);
        judge.judge(limit);
        CHECK.same("events() of a used object", events, judge.events());
        return Check.eventsOf(judge);
    }

    private static void count(String answer) {
        if (answer.equals("0") || answer.startsWith("throws")) {
            ANSWERS.merge(answer, 1, Integer::sum);
            return;
        }
        for (int bit = 1; bit <= 1024; bit *= 2) {
            if ((Integer.parseInt(answer) & bit) != 0) {
                ANSWERS.merge("fault " + bit, 1, Integer::sum);
            }
        }
    }

    /** Documents that are all judged alike would show nothing. */
    private static void everyAnswerWasThere() {
        for (int bit = 1; bit <= 1024; bit *= 2) {
            CHECK.same("there was fault " + bit, ANSWERS.containsKey("fault " + bit), true);
        }
        for (String answer : new String[] {"0", Check.WRONG, Check.TOO_MUCH, Check.UNSUPPORTED}) {
            CHECK.same("there was answer " + answer, ANSWERS.containsKey(answer), true);
        }
    }
}
