/** Promises 23 to 32: insert, clear, isWhole, post, finish, taskOf, messages, signs, signAt, signBack. */
public final class ChatTest {
    private static final int NONE = BoilerLog.NONE;
    private static final char HIGH = (char) 0xD83D, LOW = (char) 0xDE00;
    private static final int PAIR = 0x1F600;

    public static void main(String[] args) {
        testInsert();
        testInsertThrows();
        testClear();
        testIsWhole();
        testIsWholeAtTheEdges();
        testPost();
        testPostThrows();
        testSixtyMessages();
        testTasks();
        testTaskPlaces();
        testTaskOfOneWhoLeft();
        testFinish();
        testFinishThrows();
        testTaskOf();
        testMessages();
        testSigns();
        testSignAt();
        testSignBack();
        testPairsAtTheEdges();
        Check.end();
    }

    private static void testInsert() {
        BoilerLog house = new BoilerLog();
        Check.same("first", 1, house.insert(0, 'b'));
        Check.same("ahead", 2, house.insert(0, 'a'));
        Check.same("behind", 3, house.insert(2, 'd'));
        Check.same("between", 4, house.insert(2, 'c'));
        Check.same("no character at all", 5, house.insert(4, (char) 0));
        Check.same("the last one", 6, house.insert(5, (char) 0xFFFF));
        house.post(0, NONE);
        checkMessage(house, 0, 'a', 'b', 'c', 'd', 0, 0xFFFF);
    }

    private static void testInsertThrows() {
        BoilerLog house = new BoilerLog();
        Check.write(house, "ab");
        for (int place : new int[] {-1, 3, Integer.MIN_VALUE, Integer.MAX_VALUE}) {
            Check.throwsArgument("insert at " + place, house, () -> house.insert(place, 'x'));
        }
        for (int length = 3; length <= 40; length++) {
            Check.same("length", length, house.insert(length - 1, 'c'));
        }
        for (int place : new int[] {0, 1, 39, 40}) {
            Check.throwsState("a full text at " + place, house, () -> house.insert(place, 'x'));
        }
        for (int place : new int[] {-1, 41, Integer.MIN_VALUE, Integer.MAX_VALUE}) {
            Check.throwsArgument("a full text, out of range, at " + place, house, () -> house.insert(place, 'x'));
        }
        house.post(0, NONE);
        Check.same("forty signs", 40, house.signs(0));
        Check.same("the first", 'a', house.signAt(0, 0));
        Check.same("the last", 'c', house.signAt(0, 39));
        Check.throwsArgument("empty after posting", house, () -> house.insert(1, 'x'));
        Check.same("empty after posting", 1, house.insert(0, 'x'));
    }

    private static void testClear() {
        BoilerLog house = new BoilerLog();
        Check.same("empty", 0, house.clear());
        house.insert(0, 'a');
        house.insert(1, HIGH);
        Check.same("two", 2, house.clear());
        Check.same("empty again", 0, house.clear());
        Check.same("nothing is left", 1, house.insert(0, 'z'));
        house.post(0, NONE);
        checkMessage(house, 0, 'z');
    }

    private static void testIsWhole() {
        String pair = "" + HIGH + LOW;
        checkWhole("", false);
        checkWhole("a", true);
        checkWhole(pair, true);
        checkWhole("" + HIGH, false);
        checkWhole("" + LOW, false);
        checkWhole("" + LOW + HIGH, false);
        checkWhole("a" + HIGH, false);
        checkWhole("a" + LOW, false);
        checkWhole("" + HIGH + "a", false);
        checkWhole("" + HIGH + "a" + LOW, false);
        checkWhole("" + HIGH + pair, false);
        checkWhole(pair + LOW, false);
        checkWhole(pair + pair, true);
        checkWhole("a" + pair + "b" + pair + "c", true);
        checkWhole(pair + HIGH, false);
        checkWhole(pair.repeat(20), true);
        checkWhole("x" + pair.repeat(19) + HIGH, false);
    }

    private static void testIsWholeAtTheEdges() {
        checkWhole("" + (char) 0xD7FF, true);
        checkWhole("" + (char) 0xD800, false);
        checkWhole("" + (char) 0xDBFF, false);
        checkWhole("" + (char) 0xDC00, false);
        checkWhole("" + (char) 0xDFFF, false);
        checkWhole("" + (char) 0xE000, true);
        checkWhole("" + (char) 0xD800 + (char) 0xDC00, true);
        checkWhole("" + (char) 0xDBFF + (char) 0xDFFF, true);
        checkWhole("" + (char) 0xD7FF + (char) 0xDC00, false);
        checkWhole("" + (char) 0xD800 + (char) 0xE000, false);
    }

    private static void checkWhole(String text, boolean due) {
        BoilerLog house = new BoilerLog();
        Check.write(house, text);
        Check.same("whole " + escape(text), due, house.isWhole());
        if (!due) {
            Check.throwsState("post " + escape(text), house, () -> house.post(0, NONE));
            Check.same("kept " + escape(text), text.length(), house.clear());
        }
    }

    private static String escape(String text) {
        StringBuilder numbers = new StringBuilder();
        for (int place = 0; place < text.length(); place++) {
            numbers.append(Integer.toHexString(text.charAt(place))).append(' ');
        }
        return numbers.toString();
    }

    private static void testPost() {
        BoilerLog house = new BoilerLog();
        Check.same("opens a thread", 0, Check.post(house, 0, NONE, "a"));
        Check.same("the text is empty then", 0, house.clear());
        Check.same("opens another, off duty", 1, Check.post(house, 1, NONE, "b"));
        Check.same("put to the first", 0, Check.post(house, 8, 0, "c"));
        Check.same("put to the second", 1, Check.post(house, 8, 1, "d"));
        Check.same("messages and threads are numbered apart", 2, Check.post(house, 0, NONE, "e"));
        Check.same("five messages", 5, house.messages());
        Check.same("no entries", 0, house.entries());
        checkMessage(house, 2, 'c');
    }

    private static void testPostThrows() {
        BoilerLog house = new BoilerLog();
        Check.post(house, 0, NONE, "a");
        Check.write(house, "b");
        for (int person : new int[] {-1, 9, Integer.MIN_VALUE, Integer.MAX_VALUE}) {
            Check.throwsBounds("post by " + person, house, () -> house.post(person, NONE));
        }
        for (int thread : new int[] {-2, 1, 59, 60, Integer.MIN_VALUE, Integer.MAX_VALUE}) {
            Check.throwsBounds("post to " + thread, house, () -> house.post(0, thread));
        }
        house.leave(0);
        Check.throwsState("post after leaving", house, () -> house.post(0, NONE));
        Check.throwsState("post to a thread after leaving", house, () -> house.post(0, 0));
        Check.throwsBounds("post to none after leaving", house, () -> house.post(0, 1));
        Check.same("the text stays", 1, house.clear());
        Check.throwsState("post nothing", house, () -> house.post(1, 0));
        Check.throwsBounds("post nothing to none", house, () -> house.post(1, 1));
    }

    private static void testSixtyMessages() {
        BoilerLog house = new BoilerLog();
        for (int message = 0; message < 60; message++) {
            Check.same("thread", message, Check.post(house, message % 9, NONE, "" + (char) (100 + message)));
        }
        Check.write(house, "@1");
        Check.throwsState("one too many", house, () -> house.post(0, NONE));
        Check.throwsState("one too many in a thread", house, () -> house.post(0, 59));
        Check.throwsBounds("one too many in no thread", house, () -> house.post(0, 60));
        Check.same("the text stays", 2, house.clear());
        Check.same("sixty", 60, house.messages());
        Check.same("the last", 159, house.signAt(59, 0));
    }

    private static void testTasks() {
        BoilerLog house = new BoilerLog();
        house.advance(5);
        int thread = Check.post(house, 4, NONE, "oil @3");
        Check.same("task of 3", 3, house.taskOf(thread));
        Check.same("entry", 55400, house.entryAt(0));
        Check.post(house, 4, thread, "no one");
        Check.same("still of 3", 3, house.taskOf(thread));
        Check.same("no entry", 1, house.entries());
        Check.post(house, 4, thread, "@3");
        Check.same("of 3 again is an entry", 2, house.entries());
        Check.post(house, 4, thread, "@0");
        Check.same("of 0 now", 0, house.taskOf(thread));
        Check.same("entry of 0", 55100, house.entryAt(2));
        int other = Check.post(house, 4, NONE, "@8!");
        Check.same("of 8", 8, house.taskOf(other));
        Check.same("entry of 8", 55901, house.entryAt(3));
        Check.same("the other's is as it was", 0, house.taskOf(thread));
    }

    private static void testTaskPlaces() {
        checkTask("@0", 0);
        checkTask("@8", 8);
        checkTask("@9", NONE);
        checkTask("@", NONE);
        checkTask("3", NONE);
        checkTask("3@", NONE);
        checkTask("@ 3", NONE);
        checkTask("@/", NONE);
        checkTask("@:", NONE);
        checkTask("@@3", 3);
        checkTask("@1@2", 2);
        checkTask("@2@1", 1);
        checkTask("@1 and @9", 1);
        checkTask("@4 @", 4);
        checkTask("@45", 4);
        checkTask("x@7y", 7);
        checkTask("@" + (char) 0x0663, NONE);
        checkTask("" + HIGH + LOW + "@6" + HIGH + LOW, 6);
        checkTask("@" + HIGH + LOW + "6", NONE);
        checkTask((char) (0x0100 + '@') + "6", NONE);
    }

    private static void checkTask(String text, int due) {
        BoilerLog house = new BoilerLog();
        Check.post(house, 0, NONE, text);
        Check.same("task by " + text, due, house.taskOf(0));
        Check.same("entries by " + text, due == NONE ? 0 : 1, house.entries());
    }

    private static void testTaskOfOneWhoLeft() {
        BoilerLog house = new BoilerLog();
        house.leave(2);
        Check.post(house, 0, NONE, "@2");
        Check.same("task of one who left", 2, house.taskOf(0));
        Check.throwsState("who cannot finish it", house, () -> house.finish(2, 0));
        Check.post(house, 0, NONE, "@5");
        house.leave(5);
        Check.same("stays its task", 5, house.taskOf(1));
        Check.throwsState("who cannot finish it either", house, () -> house.finish(5, 1));
    }

    private static void testFinish() {
        BoilerLog house = new BoilerLog();
        Check.post(house, 0, NONE, "@1");
        Check.post(house, 0, NONE, "@1");
        house.advance(20);
        house.finish(1, 1);
        Check.same("done", NONE, house.taskOf(1));
        Check.same("the other is not", 1, house.taskOf(0));
        Check.same("entry", 206201, house.entryAt(2));
        Check.throwsState("done already", house, () -> house.finish(1, 1));
        Check.post(house, 0, 1, "thanks");
        Check.same("still done", NONE, house.taskOf(1));
        Check.post(house, 0, 1, "again @1");
        Check.same("a task again", 1, house.taskOf(1));
        house.finish(1, 1);
        Check.same("done again", NONE, house.taskOf(1));
    }

    private static void testFinishThrows() {
        BoilerLog house = new BoilerLog();
        Check.post(house, 0, NONE, "@1");
        Check.post(house, 0, NONE, "free");
        for (int person : new int[] {-1, 9, Integer.MIN_VALUE, Integer.MAX_VALUE}) {
            Check.throwsBounds("finish by " + person, house, () -> house.finish(person, 0));
            Check.throwsBounds("finish no task by " + person, house, () -> house.finish(person, 1));
        }
        for (int thread : new int[] {-1, 2, 60, Integer.MIN_VALUE, Integer.MAX_VALUE}) {
            Check.throwsBounds("finish " + thread, house, () -> house.finish(1, thread));
        }
        Check.throwsState("another's", house, () -> house.finish(0, 0));
        Check.throwsState("no task", house, () -> house.finish(1, 1));
        house.leave(1);
        Check.throwsState("left", house, () -> house.finish(1, 0));
        Check.throwsBounds("left, and no thread", house, () -> house.finish(1, 2));
    }

    private static void testTaskOf() {
        BoilerLog house = new BoilerLog();
        Check.post(house, 0, NONE, "a");
        Check.same("no task", NONE, house.taskOf(0));
        Check.post(house, 0, 0, "@6");
        Check.same("a task by a later message", 6, house.taskOf(0));
        for (int thread : new int[] {-1, 1, 59, 60, Integer.MIN_VALUE, Integer.MAX_VALUE}) {
            Check.throwsBounds("taskOf " + thread, house, () -> house.taskOf(thread));
        }
    }

    private static void testMessages() {
        BoilerLog house = new BoilerLog();
        for (int message = 1; message < 5; message++) {
            Check.post(house, 0, message == 1 ? NONE : 0, "a");
            Check.same("messages", message, house.messages());
        }
        house.insert(0, 'x');
        Check.same("not posted", 4, house.messages());
    }

    private static void testSigns() {
        BoilerLog house = new BoilerLog();
        Check.post(house, 0, NONE, "abc");
        Check.post(house, 0, NONE, "" + HIGH + LOW);
        Check.post(house, 0, NONE, "a" + HIGH + LOW + "b" + HIGH + LOW);
        Check.post(house, 0, NONE, ("" + HIGH + LOW).repeat(20));
        Check.same("three", 3, house.signs(0));
        Check.same("a pair", 1, house.signs(1));
        Check.same("four", 4, house.signs(2));
        Check.same("twenty", 20, house.signs(3));
        for (int message : new int[] {-1, 4, Integer.MIN_VALUE, Integer.MAX_VALUE}) {
            Check.throwsBounds("signs " + message, house, () -> house.signs(message));
        }
    }

    private static void testSignAt() {
        BoilerLog house = new BoilerLog();
        Check.post(house, 0, NONE, "" + HIGH + LOW + "b" + HIGH + LOW);
        int[] due = {PAIR, 'b', PAIR, NONE, NONE};
        for (int place = 0; place < due.length; place++) {
            Check.same("sign " + place, due[place], house.signAt(0, place));
        }
        Check.same("far behind", NONE, house.signAt(0, Integer.MAX_VALUE));
        for (int message : new int[] {-1, 1, Integer.MIN_VALUE, Integer.MAX_VALUE}) {
            Check.throwsBounds("signAt of " + message, house, () -> house.signAt(message, 0));
        }
        for (int place : new int[] {-1, -2, Integer.MIN_VALUE}) {
            Check.throwsBounds("signAt " + place, house, () -> house.signAt(0, place));
        }
    }

    private static void testSignBack() {
        BoilerLog house = new BoilerLog();
        Check.post(house, 0, NONE, "a" + HIGH + LOW + "c");
        int[] due = {'c', PAIR, 'a', NONE, NONE};
        for (int place = 0; place < due.length; place++) {
            Check.same("sign back " + place, due[place], house.signBack(0, place));
        }
        Check.same("far ahead", NONE, house.signBack(0, Integer.MAX_VALUE));
        for (int message : new int[] {-1, 1, Integer.MIN_VALUE, Integer.MAX_VALUE}) {
            Check.throwsBounds("signBack of " + message, house, () -> house.signBack(message, 0));
        }
        for (int place : new int[] {-1, -2, Integer.MIN_VALUE}) {
            Check.throwsBounds("signBack " + place, house, () -> house.signBack(0, place));
        }
    }

    private static void testPairsAtTheEdges() {
        BoilerLog house = new BoilerLog();
        Check.post(house, 0, NONE, "" + (char) 0xD800 + (char) 0xDC00 + (char) 0xDBFF + (char) 0xDFFF
            + (char) 0xD800 + (char) 0xDFFF + (char) 0xDBFF + (char) 0xDC00);
        checkMessage(house, 0, 0x10000, 0x10FFFF, 0x103FF, 0x10FC00);
    }

    private static void checkMessage(BoilerLog house, int message, int... due) {
        Check.same("signs of " + message, due.length, house.signs(message));
        for (int place = 0; place < due.length; place++) {
            Check.same("sign " + place, due[place], house.signAt(message, place));
            Check.same("sign back " + place, due[due.length - 1 - place], house.signBack(message, place));
        }
    }
}
