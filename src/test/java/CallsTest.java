/** Promises 1 to 9: what each call answers and changes, whatever the document. */
public final class CallsTest {
    private static final Check CHECK = new Check();

    public static void main(String[] args) {
        newObject();
        bytes();
        clear();
        limits();
        eventsAndCharacters();
        noEventsAfterAThrow();
        cost();
        count();
        CHECK.end();
    }

    private static void newObject() {
        MarkupJudge judge = new MarkupJudge();
        CHECK.same("NONE", MarkupJudge.NONE, -1);
        CHECK.same("events() of a new object", judge.events(), 0);
        CHECK.same("cost() of a new object", judge.cost(), 0);
        for (int what = 0; what < 3; what++) {
            CHECK.same("count(" + what + ") of a new object", judge.count(what), 0);
        }
        CHECK.call("event(0, 0) of a new object", () -> judge.event(0, 0), Check.NO_INDEX);
        CHECK.call("character(0, 0) of a new object", () -> judge.character(0, 0), Check.NO_INDEX);
        CHECK.call("judge(0) of no bytes", () -> judge.judge(0), Check.WRONG);
        CHECK.same("clear() of a new object", judge.clear(), 0);
    }

    private static void bytes() {
        MarkupJudge judge = new MarkupJudge();
        for (int n : new int[] {0, 9, -1, Integer.MIN_VALUE, Integer.MAX_VALUE}) {
            CHECK.call("bytes(1, " + n + ")", () -> judge.bytes(1, n), Check.WRONG);
        }
        CHECK.call("three of eight bytes", () -> judge.bytes(0xFFFFFFFFFF2F613CL, 3), 3);
        CHECK.call("one byte behind them", () -> judge.bytes(0x3EL, 1), 4);
        CHECK.call("judge(0) of <a/>", () -> judge.judge(0), 1);
        for (int size = 12; size <= 356; size += 8) {
            judge.bytes(0x2020202020202020L, 8);
        }
        CHECK.call("bytes up to 361", () -> judge.bytes(0, 5), Check.TOO_MUCH);
        CHECK.call("bytes up to 360", () -> judge.bytes(0x20202020, 4), 360);
        CHECK.call("the 361st byte", () -> judge.bytes(0, 1), Check.TOO_MUCH);
        CHECK.call("no byte behind 360", () -> judge.bytes(0, 0), Check.WRONG);
        CHECK.call("judge(0) of 360 bytes", () -> judge.judge(0), 1);
        CHECK.same("clear() of 360 bytes", judge.clear(), 360);
        CHECK.call("the eight bytes of <b a=''/", () -> judge.bytes(0x2F22223D6120623CL, 8), 8);
        CHECK.call("the last byte", () -> judge.bytes(0x3E, 1), 9);
        CHECK.call("judge(0) of the nine", () -> judge.judge(0), 1);
        CHECK.same("events of the nine", Check.eventsOf(judge), "+b a[] -b");
    }

    private static void clear() {
        MarkupJudge judge = Check.fed("<a>t</a>");
        judge.judge(0);
        CHECK.same("clear()", judge.clear(), 8);
        CHECK.same("clear() again", judge.clear(), 0);
        CHECK.same("the events stay", Check.eventsOf(judge), "+a [t] -a");
        Check.feed(judge, "<b/>");
        CHECK.same("the events stay when bytes come", Check.eventsOf(judge), "+a [t] -a");
        CHECK.call("judge(0) of the new bytes", () -> judge.judge(0), 1);
        CHECK.same("the new events", Check.eventsOf(judge), "+b -b");
    }

    private static void limits() {
        MarkupJudge judge = Check.fed("<a/>");
        for (int limit : new int[] {-1, 2001, Integer.MIN_VALUE, Integer.MAX_VALUE}) {
            CHECK.call("judge(" + limit + ")", () -> judge.judge(limit), Check.WRONG);
        }
        CHECK.call("judge(0)", () -> judge.judge(0), 1);
        CHECK.call("judge(2000): the bytes stay", () -> judge.judge(2000), 1);
        CHECK.same("events", judge.events(), 2);
    }

    private static void eventsAndCharacters() {
        MarkupJudge judge = Check.fed("<a x=\"12\">tuv</a>");
        judge.judge(0);
        CHECK.same("events()", judge.events(), 4);
        int[][] due = {{1, 'a', 0}, {2, 'x', 2}, {3, 0, 3}, {4, 'a', 0}};
        for (int i = 0; i < 4; i++) {
            for (int what = 0; what < 3; what++) {
                CHECK.same("event(" + i + ", " + what + ")", judge.event(i, what), due[i][what]);
            }
        }
        int[][] none = {{-1, 0}, {4, 0}, {0, -1}, {0, 3}, {Integer.MIN_VALUE, 0}, {Integer.MAX_VALUE, 2}, {1, Integer.MAX_VALUE}};
        for (int[] pair : none) {
            CHECK.call("event(" + pair[0] + ", " + pair[1] + ")", () -> judge.event(pair[0], pair[1]), Check.NO_INDEX);
        }
        MarkupJudge again = Check.fed("<a><b/>t</a>");
        again.judge(0);
        again.clear();
        Check.feed(again, "<a>x</a>");
        again.judge(0);
        CHECK.call("event(3, 0) of three events", () -> again.event(3, 0), Check.NO_INDEX);
        CHECK.call("character(3, 0) of three events", () -> again.character(3, 0), Check.NO_INDEX);
        CHECK.same("character(1, 1)", judge.character(1, 1), (int) '2');
        CHECK.same("character(2, 0)", judge.character(2, 0), (int) 't');
        CHECK.same("character(2, 2)", judge.character(2, 2), (int) 'v');
        int[][] outside = {{0, 0}, {1, 2}, {1, -1}, {2, 3}, {3, 0}, {4, 0}, {-1, 0}, {2, Integer.MAX_VALUE}, {2, Integer.MIN_VALUE}};
        for (int[] pair : outside) {
            CHECK.call("character(" + pair[0] + ", " + pair[1] + ")", () -> judge.character(pair[0], pair[1]), Check.NO_INDEX);
        }
    }

    private static void noEventsAfterAThrow() {
        MarkupJudge judge = Check.fed("<a>t</a>");
        judge.judge(0);
        CHECK.call("judge(-1)", () -> judge.judge(-1), Check.WRONG);
        CHECK.same("events() behind judge(-1)", judge.events(), 0);
        judge.judge(0);
        CHECK.same("events() behind judge(0)", judge.events(), 3);
        Check.feed(judge, "<");
        CHECK.call("judge(0) of a wrong document", () -> judge.judge(0), Check.WRONG);
        CHECK.same("events() behind it", judge.events(), 0);
        CHECK.call("event(0, 0) behind it", () -> judge.event(0, 0), Check.NO_INDEX);
        CHECK.call("character(1, 0) behind it", () -> judge.character(1, 0), Check.NO_INDEX);
        CHECK.same("the bytes stay", judge.clear(), 9);
    }

    private static void cost() {
        MarkupJudge judge = Check.fed("<!DOCTYPE a [<!ENTITY e \"xyz\">]><a>&e;&e;</a>");
        judge.judge(8);
        CHECK.same("cost()", judge.cost(), 8);
        judge.judge(9);
        CHECK.same("cost() of the latest alone", judge.cost(), 8);
        CHECK.call("judge(7)", () -> judge.judge(7), Check.TOO_MUCH);
        CHECK.same("cost() tells the one that was too much", judge.cost(), 8);
        CHECK.call("judge(3)", () -> judge.judge(3), Check.TOO_MUCH);
        CHECK.same("cost() as far as it came", judge.cost(), 4);
        judge.clear();
        CHECK.same("clear leaves it", judge.cost(), 4);
        CHECK.call("judge(2001) came nowhere", () -> judge.judge(2001), Check.WRONG);
        CHECK.same("cost() behind it", judge.cost(), 0);
    }

    private static void count() {
        MarkupJudge judge = new MarkupJudge();
        String[] documents = {"<a/>", "<a>", "<!DOCTYPE a SYSTEM>", "<!DOCTYPE a [<!ELEMENT a ANY>]><a/>",
            "<!DOCTYPE a [<!ENTITY e \"\">]><a>&e;</a>", "<!DOCTYPE a><a/>"};
        for (String document : documents) {
            judge.clear();
            Check.feed(judge, document);
            Check.answerOf(() -> judge.judge(0));
        }
        Check.answerOf(() -> judge.judge(-1));
        Check.answerOf(() -> judge.judge(2001));
        CHECK.same("count(0)", judge.count(0), 1);
        CHECK.same("count(1)", judge.count(1), 2);
        CHECK.same("count(2)", judge.count(2), 3);
        for (int what : new int[] {-1, 3, Integer.MIN_VALUE, Integer.MAX_VALUE}) {
            CHECK.same("count(" + what + ")", judge.count(what), MarkupJudge.NONE);
        }
    }
}
