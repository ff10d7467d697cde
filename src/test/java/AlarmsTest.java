/** Promises 21 and 22, and what alarms do when an hour ends: alarm, stateOf. */
public final class AlarmsTest {
    private static final int NONE = BoilerLog.NONE;

    public static void main(String[] args) {
        testAlarmNumbers();
        testAlarmThrows();
        testHighAlarm();
        testLowAlarm();
        testAlreadySo();
        testAnsweredOnlyOnce();
        testWaiting();
        testWaitingEndsQuiet();
        testOwnTagOfNobody();
        testAlarmsByRisingNumbers();
        testFlowBeforeAlarms();
        testStateOf();
        testMostEntries();
        Check.end();
    }

    private static void testAlarmNumbers() {
        BoilerLog house = new BoilerLog();
        for (int alarm = 0; alarm < 10; alarm++) {
            Check.same("alarm", alarm, house.alarm(alarm % 3, alarm * 111, alarm % 2 == 0, alarm % 8, true));
            Check.same("quiet at first", BoilerLog.QUIET, house.stateOf(alarm));
        }
        Check.same("no entries", 0, house.entries());
        Check.throwsState("an alarm too many", house, () -> house.alarm(0, 0, true, 0, true));
        Check.throwsArgument("and out of range", house, () -> house.alarm(0, -1, true, 0, true));
        Check.throwsBounds("and of no vessel", house, () -> house.alarm(3, 0, true, 0, true));
    }

    private static void testAlarmThrows() {
        BoilerLog house = new BoilerLog();
        for (int vessel : new int[] {-1, 3, Integer.MIN_VALUE, Integer.MAX_VALUE}) {
            Check.throwsBounds("vessel " + vessel, house, () -> house.alarm(vessel, 0, true, 0, true));
            Check.throwsBounds("vessel first", house, () -> house.alarm(vessel, 1001, true, 0, true));
        }
        for (int valve : new int[] {-1, 8, Integer.MIN_VALUE, Integer.MAX_VALUE}) {
            Check.throwsBounds("valve " + valve, house, () -> house.alarm(0, 0, true, valve, true));
            Check.throwsBounds("valve first", house, () -> house.alarm(0, -1, true, valve, true));
        }
        for (int limit : new int[] {-1, 1001, Integer.MIN_VALUE, Integer.MAX_VALUE}) {
            Check.throwsArgument("limit " + limit, house, () -> house.alarm(0, limit, true, 0, true));
            Check.throwsArgument("low limit " + limit, house, () -> house.alarm(0, limit, false, 0, true));
        }
        Check.same("limit 0", 0, house.alarm(0, 0, true, 0, true));
        Check.same("limit 1000", 1, house.alarm(2, 1000, false, 7, false));
    }

    private static void testHighAlarm() {
        BoilerLog house = new BoilerLog();
        house.turn(0, 0, true);
        house.alarm(0, 20, true, 0, false);
        house.advance(1);
        Check.same("below", BoilerLog.QUIET, house.stateOf(0));
        Check.same("still open", true, house.isOpen(0));
        house.advance(1);
        Check.same("at its limit", BoilerLog.ANSWERED, house.stateOf(0));
        Check.same("shut by it", false, house.isOpen(0));
        Check.same("raised", 13000, house.entryAt(1));
        Check.same("turned by nobody", 10000, house.entryAt(2));
        house.advance(2);
        Check.same("no more flows", 20, house.level(0));
        Check.same("no more entries", 3, house.entries());
    }

    private static void testLowAlarm() {
        BoilerLog house = new BoilerLog();
        house.pipe(1, 0, NONE);
        house.turn(0, 0, true);
        house.advance(4);
        house.turn(0, 0, false);
        house.turn(0, 1, true);
        house.alarm(0, 15, false, 0, true);
        house.advance(2);
        Check.same("above", BoilerLog.QUIET, house.stateOf(0));
        house.advance(1);
        Check.same("below its limit", BoilerLog.ANSWERED, house.stateOf(0));
        Check.same("opened by it", true, house.isOpen(0));
        Check.same("entry", 60010, house.entryAt(4));
        house.turn(0, 1, false);
        house.advance(1);
        Check.same("above again", BoilerLog.QUIET, house.stateOf(0));
        Check.same("a quiet one turns nothing back", true, house.isOpen(0));
        BoilerLog exact = new BoilerLog();
        exact.turn(0, 0, true);
        exact.alarm(0, 10, false, 5, true);
        exact.advance(1);
        Check.same("low, at its limit", BoilerLog.ANSWERED, exact.stateOf(0));
    }

    private static void testAlreadySo() {
        BoilerLog house = new BoilerLog();
        house.alarm(1, 0, true, 2, false);
        house.advance(1);
        Check.same("answered", BoilerLog.ANSWERED, house.stateOf(0));
        Check.same("raised alone is an entry", 1, house.entries());
    }

    private static void testAnsweredOnlyOnce() {
        BoilerLog house = new BoilerLog();
        house.alarm(1, 0, true, 2, true);
        house.advance(1);
        house.turn(0, 2, false);
        house.advance(5);
        Check.same("turned back, and stays", false, house.isOpen(2));
        Check.same("answered", BoilerLog.ANSWERED, house.stateOf(0));
        Check.same("raised, turned, turned back", 3, house.entries());
    }

    private static void testWaiting() {
        BoilerLog house = new BoilerLog();
        house.hang(0, 2);
        house.hang(3, 2);
        house.alarm(1, 0, true, 2, true);
        house.alarm(1, 0, true, 3, true);
        house.advance(2);
        Check.same("a tag is in its way", BoilerLog.WAITING, house.stateOf(0));
        Check.same("another valve's is not", BoilerLog.ANSWERED, house.stateOf(1));
        Check.same("not turned", false, house.isOpen(2));
        Check.same("raised once", 5, house.entries());
        house.takeOff(0, 0);
        house.advance(1);
        Check.same("still a tag", BoilerLog.WAITING, house.stateOf(0));
        house.takeOff(3, 1);
        Check.same("waits for the hour's end", BoilerLog.WAITING, house.stateOf(0));
        house.advance(1);
        Check.same("answered", BoilerLog.ANSWERED, house.stateOf(0));
        Check.same("turned", true, house.isOpen(2));
        Check.same("not raised again", 8, house.entries());
        Check.same("entry", 30012, house.entryAt(7));
    }

    private static void testWaitingEndsQuiet() {
        BoilerLog house = new BoilerLog();
        house.hang(0, 2);
        house.alarm(0, 0, false, 2, true);
        house.advance(1);
        Check.same("waiting", BoilerLog.WAITING, house.stateOf(0));
        house.turn(0, 0, true);
        house.advance(1);
        Check.same("what it watches for is not so", BoilerLog.QUIET, house.stateOf(0));
        house.takeOff(0, 0);
        house.advance(1);
        Check.same("a quiet one does not answer", false, house.isOpen(2));
        house.turn(0, 0, false);
        house.pipe(1, 0, NONE);
        house.turn(0, 1, true);
        house.advance(2);
        Check.same("raised again", BoilerLog.ANSWERED, house.stateOf(0));
        Check.same("and turned", true, house.isOpen(2));
    }

    // Tags of those who left are in its way too; and it waits also if the valve is so already.
    private static void testOwnTagOfNobody() {
        BoilerLog house = new BoilerLog();
        house.hang(0, 2);
        house.leave(0);
        house.alarm(1, 0, true, 2, false);
        house.advance(1);
        Check.same("waiting", BoilerLog.WAITING, house.stateOf(0));
        house.takeOff(3, 0);
        house.takeOff(6, 0);
        house.advance(1);
        Check.same("answered", BoilerLog.ANSWERED, house.stateOf(0));
    }

    private static void testAlarmsByRisingNumbers() {
        BoilerLog house = new BoilerLog();
        house.alarm(0, 0, true, 2, true);
        house.alarm(0, 0, true, 2, false);
        house.alarm(0, 0, true, 2, true);
        house.advance(1);
        int[] due = {3000, 12, 3001, 2, 3002, 12};
        Check.same("entries", due.length, house.entries());
        for (int entry = 0; entry < due.length; entry++) {
            Check.same("entry " + entry, due[entry], house.entryAt(entry));
        }
        Check.same("the last one's will", true, house.isOpen(2));
    }

    // All valves lead on before the first alarm looks, and a valve turned then leads on an hour later.
    private static void testFlowBeforeAlarms() {
        BoilerLog house = new BoilerLog();
        house.turn(0, 7, true);
        house.alarm(0, 10, true, 0, true);
        house.advance(1);
        Check.same("saw what valve 7 brought", BoilerLog.ANSWERED, house.stateOf(0));
        Check.same("valve 0 led nothing yet", 10, house.level(0));
        house.advance(1);
        Check.same("now it does", 30, house.level(0));
    }

    private static void testStateOf() {
        BoilerLog house = new BoilerLog();
        house.alarm(0, 0, true, 0, false);
        house.alarm(0, 1, true, 0, false);
        house.advance(1);
        Check.same("of 0", BoilerLog.ANSWERED, house.stateOf(0));
        Check.same("of 1", BoilerLog.QUIET, house.stateOf(1));
        for (int alarm : new int[] {-1, 2, Integer.MIN_VALUE, Integer.MAX_VALUE}) {
            Check.throwsBounds("stateOf " + alarm, house, () -> house.stateOf(alarm));
        }
    }

    // Ten alarms that are raised and answer at every second hour: as long as a log can be.
    private static void testMostEntries() {
        BoilerLog house = new BoilerLog();
        house.pipe(0, 0, NONE);
        house.turn(0, 0, true);
        for (int valve = 1; valve < 6; valve++) {
            house.pipe(valve, valve == 1 ? NONE : 1, valve == 1 ? 0 : NONE);
            house.alarm(0, 5, false, valve, true);
            house.alarm(0, 5, true, valve, false);
        }
        for (int more = 0; more < 20; more++) {
            house.advance(100);
        }
        Check.same("raised and turned a thousand times, each", 20001, house.entries());
        Check.same("the last of hour 0", 15, house.entryAt(10));
        Check.same("the first of hour 1", 13001, house.entryAt(11));
        Check.same("the last one", 19990005, house.entryAt(20000));
        Check.same("new entries", 20001, house.read(1));
        for (int more = 0; more < 460; more++) {
            Check.same("turned", true, house.turn(1, 7, more % 2 == 0));
            Check.same("one more entry", 20002 + more, house.entries());
        }
        Check.same("the very last one", 20000207, house.entryAt(20460));
        Check.same("by log, long ago", true, house.isOpenByLog(0));
        Check.same("by log", false, house.isOpenByLog(1));
    }
}
