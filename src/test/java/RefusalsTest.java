/**
 * Each cause of each @throws line, and each two lines that apply to one call: the one named first is
 * thrown. And "a call that throws an exception changes nothing": the refused one goes on just as its
 * twin that was never asked.
 */
public final class RefusalsTest {
    private static final int NONE = BoilerLog.NONE;
    private static final int LEAST = Integer.MIN_VALUE, MOST = Integer.MAX_VALUE;
    private static final int[] NO_PERSON = {LEAST, -1, 9, MOST};
    private static final int[] NO_VALVE = {LEAST, -1, 8, MOST};
    private static final int[] NO_VESSEL = {LEAST, -1, 3, MOST};
    private static final int[] NO_END = {LEAST, -2, 3, MOST};
    private static final int[] NO_LIMIT = {LEAST, -1, 1001, MOST};
    private static final int[] NO_HOURS = {LEAST, -1, 0, 101, MOST};
    private static final char HIGH = (char) 0xD83D, LOW = (char) 0xDE00;

    // The people of the busy house: 0 and 3 can act, 1 is off duty, 6 has left.
    private static final int ABLE = 0, ABLE_TOO = 3, OFF_DUTY = 1, LEFT = 6;
    private static final int OPEN = 1, TAGGED_BY_BOTH = 2, TAGGED_BY_ABLE_TOO = 3, TAGGED_BY_LEFT = 4;
    private static final int TAG_OF_ABLE = 0, TAG_OFF = 1, TAG_OF_LEFT = 4, TAGS = 5;
    private static final int TASK_OF_ABLE_TOO = 0, NO_TASK = 1, TASK_OF_LEFT = 2, TASK_DONE = 3, THREADS = 4;

    private interface Step {
        void on(BoilerLog house);
    }

    public static void main(String[] args) {
        testPipe();
        testTurn();
        testObstacle();
        testLooks();
        testHang();
        testTakeOff();
        testReadAndLeave();
        testAdvance();
        testAlarm();
        testInsert();
        testPost();
        testPostOfATextThatIsNotWhole();
        testFinish();
        testSigns();
        Check.end();
    }

    // ---- the houses that are asked

    private static void busy(BoilerLog house) {
        house.pipe(5, NONE, 2);
        house.turn(ABLE, OPEN, true);
        house.hang(ABLE, TAGGED_BY_BOTH);
        house.hang(ABLE, TAGGED_BY_BOTH);
        house.takeOff(ABLE, TAG_OFF);
        house.hang(ABLE_TOO, TAGGED_BY_BOTH);
        house.hang(ABLE_TOO, TAGGED_BY_ABLE_TOO);
        house.hang(LEFT, TAGGED_BY_LEFT);
        house.alarm(0, 20, true, TAGGED_BY_BOTH, true);
        house.advance(3);
        Check.post(house, 8, NONE, "@3");
        Check.post(house, 8, NONE, "x");
        Check.post(house, 8, NONE, "@6");
        Check.post(house, 8, NONE, "@0");
        house.finish(ABLE, TASK_DONE);
        house.leave(LEFT);
        Check.write(house, "ab");
    }

    // The next shift: 1 has not read, 4 has.
    private static void nextShift(BoilerLog house) {
        busy(house);
        house.advance(5);
        house.read(4);
    }

    private static void full(BoilerLog house) {
        for (int tag = 0; tag < 40; tag++) {
            house.hang(3, tag % 8);
        }
        for (int alarm = 0; alarm < 10; alarm++) {
            house.alarm(0, 0, true, alarm % 8, true);
        }
        for (int message = 0; message < 60; message++) {
            Check.post(house, 1, message < 30 ? NONE : 7, "@0");
        }
        Check.write(house, "@".repeat(39) + "3");
    }

    private static void late(BoilerLog house) {
        house.turn(0, 0, true);
        house.pipe(1, 0, 1);
        house.turn(0, 1, true);
        for (int hours = 0; hours < 19; hours++) {
            house.advance(100);
        }
        house.advance(1);
    }

    private static void last(BoilerLog house) {
        late(house);
        house.advance(99);
    }

    // ---- valves

    private static void testPipe() {
        for (int valve : NO_VALVE) {
            bounds("no valve: " + valve, RefusalsTest::busy, h -> h.pipe(valve, NONE, 0));
            bounds("no valve, no from: " + valve, RefusalsTest::busy, h -> h.pipe(valve, 3, 0));
            bounds("no valve, no to: " + valve, RefusalsTest::busy, h -> h.pipe(valve, 0, -2));
            bounds("no valve, both the same: " + valve, RefusalsTest::busy, h -> h.pipe(valve, 1, 1));
        }
        for (int end : NO_END) {
            argument("no from: " + end, RefusalsTest::busy, h -> h.pipe(0, end, 0));
            argument("no to: " + end, RefusalsTest::busy, h -> h.pipe(0, 0, end));
            argument("no from to outside: " + end, RefusalsTest::busy, h -> h.pipe(0, end, NONE));
            argument("no to from outside: " + end, RefusalsTest::busy, h -> h.pipe(0, NONE, end));
            argument("no from, no to: " + end, RefusalsTest::busy, h -> h.pipe(0, end, end));
            argument("no from, open: " + end, RefusalsTest::busy, h -> h.pipe(OPEN, end, 0));
            argument("no to, open: " + end, RefusalsTest::busy, h -> h.pipe(OPEN, 0, end));
        }
        for (int end = NONE; end < 3; end++) {
            int same = end;
            argument("both the same: " + end, RefusalsTest::busy, h -> h.pipe(0, same, same));
            argument("both the same, open: " + end, RefusalsTest::busy, h -> h.pipe(OPEN, same, same));
        }
        state("open", RefusalsTest::busy, h -> h.pipe(OPEN, NONE, 1));
        state("open, as it leads", RefusalsTest::busy, h -> h.pipe(OPEN, NONE, 0));
    }

    private static void testTurn() {
        for (boolean opens : new boolean[] {true, false}) {
            for (int person : NO_PERSON) {
                bounds("no person: " + person, RefusalsTest::busy, h -> h.turn(person, 0, opens));
                bounds("no person, a tag: " + person, RefusalsTest::busy, h -> h.turn(person, TAGGED_BY_BOTH, opens));
            }
            for (int valve : NO_VALVE) {
                bounds("no valve: " + valve, RefusalsTest::busy, h -> h.turn(ABLE, valve, opens));
                bounds("no valve, off duty: " + valve, RefusalsTest::busy, h -> h.turn(OFF_DUTY, valve, opens));
                bounds("no valve, left: " + valve, RefusalsTest::busy, h -> h.turn(LEFT, valve, opens));
                bounds("no valve, not read: " + valve, RefusalsTest::nextShift, h -> h.turn(1, valve, opens));
                bounds("no valve, no person: " + valve, RefusalsTest::busy, h -> h.turn(9, valve, opens));
            }
            state("off duty: " + opens, RefusalsTest::busy, h -> h.turn(OFF_DUTY, 0, opens));
            state("left: " + opens, RefusalsTest::busy, h -> h.turn(LEFT, 0, opens));
            state("left, its own tag: " + opens, RefusalsTest::busy, h -> h.turn(LEFT, TAGGED_BY_LEFT, opens));
            state("not read: " + opens, RefusalsTest::nextShift, h -> h.turn(1, 0, opens));
            state("the shift is over: " + opens, RefusalsTest::nextShift, h -> h.turn(ABLE, 0, opens));
            state("another's tag: " + opens, RefusalsTest::busy, h -> h.turn(ABLE, TAGGED_BY_ABLE_TOO, opens));
            state("another's tag and its own: " + opens, RefusalsTest::busy, h -> h.turn(ABLE, TAGGED_BY_BOTH, opens));
            state("tag of one who left: " + opens, RefusalsTest::busy, h -> h.turn(ABLE, TAGGED_BY_LEFT, opens));
            state("tag of one off duty: " + opens, RefusalsTest::nextShift, h -> h.turn(4, TAGGED_BY_BOTH, opens));
        }
        state("off duty, so already", RefusalsTest::busy, h -> h.turn(OFF_DUTY, OPEN, true));
    }

    private static void testObstacle() {
        for (int person : NO_PERSON) {
            bounds("no person: " + person, RefusalsTest::busy, h -> h.obstacle(person, 0));
        }
        for (int valve : NO_VALVE) {
            bounds("no valve: " + valve, RefusalsTest::busy, h -> h.obstacle(ABLE, valve));
            bounds("no valve, off duty: " + valve, RefusalsTest::busy, h -> h.obstacle(OFF_DUTY, valve));
            bounds("no valve, no person: " + valve, RefusalsTest::busy, h -> h.obstacle(-1, valve));
        }
    }

    // The calls that only look, and throw if there is no such thing.
    private static void testLooks() {
        for (int valve : NO_VALVE) {
            bounds("isOpen: " + valve, RefusalsTest::busy, h -> h.isOpen(valve));
            bounds("isOpenByLog: " + valve, RefusalsTest::busy, h -> h.isOpenByLog(valve));
            bounds("tagsByLog: " + valve, RefusalsTest::busy, h -> h.tagsByLog(valve));
        }
        for (int vessel : NO_VESSEL) {
            bounds("level: " + vessel, RefusalsTest::busy, h -> h.level(vessel));
        }
        for (int person : NO_PERSON) {
            bounds("canAct: " + person, RefusalsTest::busy, h -> h.canAct(person));
        }
        for (int tag : numbersBeside(TAGS)) {
            bounds("valveOf: " + tag, RefusalsTest::busy, h -> h.valveOf(tag));
            bounds("ownerOf: " + tag, RefusalsTest::busy, h -> h.ownerOf(tag));
        }
        for (int thread : numbersBeside(THREADS)) {
            bounds("taskOf: " + thread, RefusalsTest::busy, h -> h.taskOf(thread));
        }
        bounds("stateOf 1 of 1", RefusalsTest::busy, h -> h.stateOf(1));
        bounds("stateOf -1", RefusalsTest::busy, h -> h.stateOf(-1));
        bounds("entryAt its number", RefusalsTest::busy, h -> h.entryAt(h.entries()));
        bounds("entryAt -1", RefusalsTest::busy, h -> h.entryAt(-1));
        for (int number : new int[] {LEAST, -1, 0, MOST}) {
            bounds("valveOf, no tags: " + number, RefusalsTest::fresh, h -> h.valveOf(number));
            bounds("ownerOf, no tags: " + number, RefusalsTest::fresh, h -> h.ownerOf(number));
            bounds("entryAt, no entries: " + number, RefusalsTest::fresh, h -> h.entryAt(number));
            bounds("stateOf, no alarms: " + number, RefusalsTest::fresh, h -> h.stateOf(number));
            bounds("taskOf, no threads: " + number, RefusalsTest::fresh, h -> h.taskOf(number));
        }
        for (int number : new int[] {-1, 40, MOST}) {
            bounds("valveOf, 40 tags: " + number, RefusalsTest::full, h -> h.valveOf(number));
            bounds("ownerOf, 40 tags: " + number, RefusalsTest::full, h -> h.ownerOf(number));
            bounds("taskOf, 30 threads: " + number, RefusalsTest::full, h -> h.taskOf(number));
        }
        for (int number : new int[] {-1, 10, MOST}) {
            bounds("stateOf, 10 alarms: " + number, RefusalsTest::full, h -> h.stateOf(number));
        }
    }

    // ---- tags

    private static void testHang() {
        for (int person : NO_PERSON) {
            bounds("no person: " + person, RefusalsTest::busy, h -> h.hang(person, 0));
            bounds("no person, 40 tags: " + person, RefusalsTest::full, h -> h.hang(person, 0));
        }
        for (int valve : NO_VALVE) {
            bounds("no valve: " + valve, RefusalsTest::busy, h -> h.hang(ABLE, valve));
            bounds("no valve, off duty: " + valve, RefusalsTest::busy, h -> h.hang(OFF_DUTY, valve));
            bounds("no valve, left: " + valve, RefusalsTest::busy, h -> h.hang(LEFT, valve));
            bounds("no valve, not read: " + valve, RefusalsTest::nextShift, h -> h.hang(1, valve));
            bounds("no valve, 40 tags: " + valve, RefusalsTest::full, h -> h.hang(ABLE, valve));
        }
        state("off duty", RefusalsTest::busy, h -> h.hang(OFF_DUTY, 0));
        state("left", RefusalsTest::busy, h -> h.hang(LEFT, 0));
        state("not read", RefusalsTest::nextShift, h -> h.hang(1, 0));
        state("the shift is over", RefusalsTest::nextShift, h -> h.hang(ABLE, 0));
        state("40 tags", RefusalsTest::full, h -> h.hang(ABLE, 0));
        state("40 tags, off duty", RefusalsTest::full, h -> h.hang(OFF_DUTY, 0));
    }

    private static void testTakeOff() {
        for (int person : NO_PERSON) {
            bounds("no person: " + person, RefusalsTest::busy, h -> h.takeOff(person, TAG_OF_ABLE));
            bounds("no person, off: " + person, RefusalsTest::busy, h -> h.takeOff(person, TAG_OFF));
            bounds("no person, its owner left: " + person, RefusalsTest::busy, h -> h.takeOff(person, TAG_OF_LEFT));
        }
        for (int tag : numbersBeside(TAGS)) {
            bounds("no tag: " + tag, RefusalsTest::busy, h -> h.takeOff(ABLE, tag));
            bounds("no tag, off duty: " + tag, RefusalsTest::busy, h -> h.takeOff(OFF_DUTY, tag));
            bounds("no tag, left: " + tag, RefusalsTest::busy, h -> h.takeOff(LEFT, tag));
            bounds("no tag, not read: " + tag, RefusalsTest::nextShift, h -> h.takeOff(1, tag));
        }
        bounds("no tags yet", RefusalsTest::fresh, h -> h.takeOff(0, 0));
        bounds("40 tags", RefusalsTest::full, h -> h.takeOff(3, 40));
        state("off, its owner", RefusalsTest::busy, h -> h.takeOff(ABLE, TAG_OFF));
        state("off, another", RefusalsTest::busy, h -> h.takeOff(ABLE_TOO, TAG_OFF));
        state("not the owner, who has not left", RefusalsTest::busy, h -> h.takeOff(ABLE_TOO, TAG_OF_ABLE));
        state("the owner, who is off duty", RefusalsTest::nextShift, h -> h.takeOff(ABLE, TAG_OF_ABLE));
        state("not the owner, who is off duty", RefusalsTest::nextShift, h -> h.takeOff(4, TAG_OF_ABLE));
        state("the owner, who has left", RefusalsTest::busy, h -> h.takeOff(LEFT, TAG_OF_LEFT));
        state("asks off duty", RefusalsTest::busy, h -> h.takeOff(OFF_DUTY, TAG_OF_LEFT));
        state("asks without having read", RefusalsTest::nextShift, h -> h.takeOff(1, TAG_OF_LEFT));
        state("asks off duty, after one asked", RefusalsTest::asked, h -> h.takeOff(OFF_DUTY, TAG_OF_LEFT));
        state("off, by two who asked", RefusalsTest::comeOff, h -> h.takeOff(ABLE, TAG_OF_LEFT));
    }

    private static void fresh(BoilerLog house) {
        Check.same("a fresh one", 0, house.hour());
    }

    private static void asked(BoilerLog house) {
        busy(house);
        house.takeOff(ABLE, TAG_OF_LEFT);
    }

    private static void comeOff(BoilerLog house) {
        asked(house);
        house.takeOff(ABLE_TOO, TAG_OF_LEFT);
    }

    // ---- people, hours

    private static void testReadAndLeave() {
        for (int person : NO_PERSON) {
            bounds("read, no person: " + person, RefusalsTest::busy, h -> h.read(person));
            bounds("leave, no person: " + person, RefusalsTest::busy, h -> h.leave(person));
        }
        state("read, left", RefusalsTest::busy, h -> h.read(LEFT));
        state("leave, left", RefusalsTest::busy, h -> h.leave(LEFT));
    }

    private static void testAdvance() {
        for (int hours : NO_HOURS) {
            argument("no hours: " + hours, RefusalsTest::busy, h -> h.advance(hours));
            argument("no hours, late: " + hours, RefusalsTest::late, h -> h.advance(hours));
            argument("no hours, at the last one: " + hours, RefusalsTest::last, h -> h.advance(hours));
        }
        state("2001 by 100", RefusalsTest::late, h -> h.advance(100));
        state("2001 by 1", RefusalsTest::last, h -> h.advance(1));
        state("2100", RefusalsTest::last, h -> h.advance(100));
    }

    // ---- alarms

    private static void testAlarm() {
        for (int vessel : NO_VESSEL) {
            bounds("no vessel: " + vessel, RefusalsTest::busy, h -> h.alarm(vessel, 0, true, 0, true));
            bounds("no vessel, no limit: " + vessel, RefusalsTest::busy, h -> h.alarm(vessel, 1001, true, 0, true));
            bounds("no vessel, 10 alarms: " + vessel, RefusalsTest::full, h -> h.alarm(vessel, 0, true, 0, true));
            bounds("nothing right, 10 alarms: " + vessel, RefusalsTest::full, h -> h.alarm(vessel, -1, true, 0, true));
        }
        for (int valve : NO_VALVE) {
            bounds("no valve: " + valve, RefusalsTest::busy, h -> h.alarm(0, 0, true, valve, true));
            bounds("no valve, no limit: " + valve, RefusalsTest::busy, h -> h.alarm(0, -1, false, valve, true));
            bounds("no valve, 10 alarms: " + valve, RefusalsTest::full, h -> h.alarm(0, 1000, true, valve, false));
            bounds("nothing right, 10 alarms: " + valve, RefusalsTest::full, h -> h.alarm(0, 1001, true, valve, true));
        }
        for (int limit : NO_LIMIT) {
            for (boolean isHigh : new boolean[] {true, false}) {
                argument("no limit: " + isHigh, RefusalsTest::busy, h -> h.alarm(2, limit, isHigh, 7, true));
                argument("no limit, 10 alarms: " + isHigh, RefusalsTest::full, h -> h.alarm(2, limit, isHigh, 7, true));
            }
        }
        state("10 alarms", RefusalsTest::full, h -> h.alarm(0, 0, true, 0, true));
        state("10 alarms, the highest limit", RefusalsTest::full, h -> h.alarm(2, 1000, false, 7, false));
    }

    // ---- the chat

    private static void testInsert() {
        for (int place : new int[] {LEAST, -1, 3, MOST}) {
            argument("no place: " + place, RefusalsTest::busy, h -> h.insert(place, 'x'));
        }
        for (int place : new int[] {LEAST, -1, 1, MOST}) {
            argument("no place in an empty text: " + place, RefusalsTest::fresh, h -> h.insert(place, 'x'));
        }
        for (int place : new int[] {LEAST, -1, 41, MOST}) {
            argument("no place, 40 characters: " + place, RefusalsTest::fullText, h -> h.insert(place, 'x'));
        }
        for (int place : new int[] {0, 1, 20, 39, 40}) {
            state("40 characters: " + place, RefusalsTest::fullText, h -> h.insert(place, 'x'));
        }
    }

    private static void fullText(BoilerLog house) {
        Check.write(house, "0123456789abcdefghijklmnopqrstuvwxyzABCD");
    }

    private static void testPost() {
        for (int person : NO_PERSON) {
            bounds("no person: " + person, RefusalsTest::busy, h -> h.post(person, NONE));
            bounds("no person, no thread: " + person, RefusalsTest::busy, h -> h.post(person, THREADS));
            bounds("no person, an empty text: " + person, RefusalsTest::fresh, h -> h.post(person, NONE));
            bounds("no person, 60 messages: " + person, RefusalsTest::full, h -> h.post(person, 0));
        }
        for (int thread : new int[] {LEAST, -2, THREADS, 60, MOST}) {
            bounds("no thread: " + thread, RefusalsTest::busy, h -> h.post(ABLE, thread));
            bounds("no thread, left: " + thread, RefusalsTest::busy, h -> h.post(LEFT, thread));
            bounds("no thread, an empty text: " + thread, RefusalsTest::emptied, h -> h.post(ABLE, thread));
            bounds("no thread, not whole: " + thread, RefusalsTest::torn, h -> h.post(ABLE, thread));
        }
        for (int thread : new int[] {LEAST, -2, 30, 59, 60, MOST}) {
            bounds("no thread, 60 messages: " + thread, RefusalsTest::full, h -> h.post(0, thread));
        }
        bounds("no threads yet", RefusalsTest::fullText, h -> h.post(0, 0));
        for (int thread : new int[] {NONE, 0, THREADS - 1}) {
            state("left: " + thread, RefusalsTest::busy, h -> h.post(LEFT, thread));
            state("an empty text: " + thread, RefusalsTest::emptied, h -> h.post(ABLE, thread));
            state("not whole: " + thread, RefusalsTest::torn, h -> h.post(ABLE, thread));
            state("60 messages: " + thread, RefusalsTest::full, h -> h.post(0, thread));
        }
        state("a new one's text is empty", RefusalsTest::fresh, h -> h.post(0, NONE));
        state("60 messages, the last thread", RefusalsTest::full, h -> h.post(0, 29));
    }

    private static void emptied(BoilerLog house) {
        busy(house);
        house.clear();
    }

    private static void torn(BoilerLog house) {
        busy(house);
        house.insert(1, HIGH);
    }

    // Its text cannot be seen before it is whole; made whole, it holds each character that it held.
    private static void testPostOfATextThatIsNotWhole() {
        BoilerLog house = new BoilerLog();
        Check.write(house, "a" + HIGH + "b");
        Check.throwsState("not whole", house, () -> house.post(0, NONE));
        Check.same("made whole", 4, house.insert(2, LOW));
        Check.same("posted then", 0, house.post(0, NONE));
        int[] due = {'a', 0x1F600, 'b', NONE};
        for (int place = 0; place < due.length; place++) {
            Check.same("sign " + place, due[place], house.signAt(0, place));
        }
    }

    private static void testFinish() {
        for (int person : NO_PERSON) {
            bounds("no person: " + person, RefusalsTest::busy, h -> h.finish(person, TASK_OF_ABLE_TOO));
            bounds("no person, no task: " + person, RefusalsTest::busy, h -> h.finish(person, NO_TASK));
            bounds("no person, no thread: " + person, RefusalsTest::busy, h -> h.finish(person, THREADS));
        }
        for (int thread : numbersBeside(THREADS)) {
            bounds("no thread: " + thread, RefusalsTest::busy, h -> h.finish(ABLE_TOO, thread));
            bounds("no thread, left: " + thread, RefusalsTest::busy, h -> h.finish(LEFT, thread));
        }
        bounds("no threads yet", RefusalsTest::fresh, h -> h.finish(0, 0));
        state("another's", RefusalsTest::busy, h -> h.finish(ABLE, TASK_OF_ABLE_TOO));
        state("no task", RefusalsTest::busy, h -> h.finish(ABLE, NO_TASK));
        state("done", RefusalsTest::busy, h -> h.finish(ABLE, TASK_DONE));
        state("left", RefusalsTest::busy, h -> h.finish(LEFT, TASK_OF_LEFT));
        state("left, another's", RefusalsTest::busy, h -> h.finish(LEFT, TASK_OF_ABLE_TOO));
        state("its task no more", RefusalsTest::passedOn, h -> h.finish(ABLE_TOO, TASK_OF_ABLE_TOO));
    }

    private static void passedOn(BoilerLog house) {
        busy(house);
        Check.post(house, 8, TASK_OF_ABLE_TOO, "@0");
    }

    private static void testSigns() {
        for (int message : numbersBeside(4)) {
            bounds("signs, no message: " + message, RefusalsTest::busy, h -> h.signs(message));
            bounds("signAt, no message: " + message, RefusalsTest::busy, h -> h.signAt(message, 0));
            bounds("signAt, no message, behind: " + message, RefusalsTest::busy, h -> h.signAt(message, 5));
            bounds("signAt, no message, ahead: " + message, RefusalsTest::busy, h -> h.signAt(message, -1));
            bounds("signBack, no message: " + message, RefusalsTest::busy, h -> h.signBack(message, 0));
            bounds("signBack, no message, ahead: " + message, RefusalsTest::busy, h -> h.signBack(message, 5));
            bounds("signBack, no message, behind: " + message, RefusalsTest::busy, h -> h.signBack(message, -1));
        }
        for (int place : new int[] {LEAST, -2, -1}) {
            bounds("signAt, place below 0: " + place, RefusalsTest::busy, h -> h.signAt(0, place));
            bounds("signBack, place below 0: " + place, RefusalsTest::busy, h -> h.signBack(0, place));
        }
        for (int message : new int[] {LEAST, -1, 0, MOST}) {
            bounds("signs, no messages: " + message, RefusalsTest::fresh, h -> h.signs(message));
            bounds("signAt, no messages: " + message, RefusalsTest::fresh, h -> h.signAt(message, 0));
            bounds("signBack, no messages: " + message, RefusalsTest::fresh, h -> h.signBack(message, 0));
        }
        for (int message : new int[] {-1, 60, MOST}) {
            bounds("signs, 60 messages: " + message, RefusalsTest::full, h -> h.signs(message));
            bounds("signAt, 60 messages: " + message, RefusalsTest::full, h -> h.signAt(message, 0));
            bounds("signBack, 60 messages: " + message, RefusalsTest::full, h -> h.signBack(message, 0));
        }
    }

    // ---- how a call is refused

    private static int[] numbersBeside(int count) {
        return new int[] {LEAST, -1, count, MOST};
    }

    private static void bounds(String what, Step setUp, Step call) {
        BoilerLog house = made(setUp);
        Check.throwsBounds(what, house, () -> call.on(house));
        goesOnAsItsTwin(what, house, setUp);
    }

    private static void argument(String what, Step setUp, Step call) {
        BoilerLog house = made(setUp);
        Check.throwsArgument(what, house, () -> call.on(house));
        goesOnAsItsTwin(what, house, setUp);
    }

    private static void state(String what, Step setUp, Step call) {
        BoilerLog house = made(setUp);
        Check.throwsState(what, house, () -> call.on(house));
        goesOnAsItsTwin(what, house, setUp);
    }

    private static BoilerLog made(Step setUp) {
        BoilerLog house = new BoilerLog();
        setUp.on(house);
        return house;
    }

    private static void goesOnAsItsTwin(String what, BoilerLog house, Step setUp) {
        if (!Aftermath.of(house).equals(Aftermath.of(made(setUp)))) {
            Check.fail(what + ": what was refused changed what comes later");
        }
    }
}
