/** Promises 14 to 20: read, leave, canAct, advance, hour, entries, entryAt. */
public final class PeopleTest {
    private static final int NONE = BoilerLog.NONE;

    public static void main(String[] args) {
        testRead();
        testLeave();
        testCanActByShift();
        testCanActByReading();
        testEntriesOfTheLastHourMustBeRead();
        testAdvance();
        testHour();
        testEntries();
        testEntryAt();
        Check.end();
    }

    private static void testRead() {
        BoilerLog house = new BoilerLog();
        house.hang(0, 0);
        house.hang(0, 1);
        Check.same("one off duty reads", 2, house.read(8));
        Check.same("again", 0, house.read(8));
        house.turn(0, 2, true);
        Check.same("what is new", 1, house.read(8));
        Check.same("its own entries are new too", 3, house.read(0));
        Check.same("reading is no entry", 3, house.entries());
        house.leave(8);
        Check.throwsState("read after leaving", house, () -> house.read(8));
        for (int person : new int[] {-1, 9, Integer.MIN_VALUE, Integer.MAX_VALUE}) {
            Check.throwsBounds("read by " + person, house, () -> house.read(person));
        }
    }

    private static void testLeave() {
        BoilerLog house = new BoilerLog();
        house.hang(0, 0);
        house.hang(0, 1);
        house.hang(3, 1);
        house.hang(0, 1);
        house.takeOff(0, 1);
        house.advance(3);
        Check.same("tags of it that hang", 2, house.leave(0));
        Check.same("entry", 34100, house.entryAt(5));
        Check.same("its tag hangs", 0, house.valveOf(0));
        Check.same("left one off duty, no tags", 0, house.leave(8));
        Check.same("entry of the other", 34900, house.entryAt(6));
        Check.throwsState("leave again", house, () -> house.leave(0));
        for (int person : new int[] {-1, 9, Integer.MIN_VALUE, Integer.MAX_VALUE}) {
            Check.throwsBounds("leave by " + person, house, () -> house.leave(person));
        }
        Check.same("cannot act", false, house.canAct(0));
        house.advance(24);
        Check.same("for good", false, house.canAct(0));
    }

    private static void testCanActByShift() {
        BoilerLog house = new BoilerLog();
        for (int hour = 0; hour < 60; hour++) {
            for (int person = 0; person < 9; person++) {
                Check.same("person " + person + " at " + hour, person % 3 == hour / 8 % 3, house.canAct(person));
            }
            house.advance(1);
        }
        for (int person : new int[] {-1, 9, Integer.MIN_VALUE, Integer.MAX_VALUE}) {
            Check.throwsBounds("canAct of " + person, house, () -> house.canAct(person));
        }
    }

    private static void testCanActByReading() {
        BoilerLog house = new BoilerLog();
        house.hang(0, 0);
        Check.same("entries of this shift need not be read", true, house.canAct(3));
        house.read(1);
        house.hang(0, 0);
        house.advance(8);
        Check.same("read some, not all", false, house.canAct(1));
        Check.same("read none", false, house.canAct(4));
        house.read(4);
        Check.same("read all", true, house.canAct(4));
        house.hang(4, 1);
        Check.same("later entries need not be read", true, house.canAct(4));
        house.read(2);
        house.advance(8);
        Check.same("read before the shift", true, house.canAct(2));
        Check.same("read enough, not on duty", false, house.canAct(4));
        house.advance(8);
        Check.same("the own entries must be read a day later", false, house.canAct(0));
        Check.same("so must others'", false, house.canAct(6));
        house.read(0);
        Check.same("read a day later", true, house.canAct(0));
    }

    // What an alarm does at the end of a shift's last hour is there when the next shift begins.
    private static void testEntriesOfTheLastHourMustBeRead() {
        BoilerLog house = new BoilerLog();
        house.advance(7);
        house.alarm(0, 0, false, 0, false);
        house.read(1);
        house.advance(1);
        Check.same("raised in hour 7", 73000, house.entryAt(0));
        Check.same("not read", false, house.canAct(1));
        house.read(1);
        Check.same("read", true, house.canAct(1));
    }

    private static void testAdvance() {
        BoilerLog house = new BoilerLog();
        for (int hours : new int[] {0, -1, 101, Integer.MIN_VALUE, Integer.MAX_VALUE}) {
            Check.throwsArgument("advance " + hours, house, () -> house.advance(hours));
        }
        Check.same("one hour", 1, house.advance(1));
        for (int more = 1; more < 20; more++) {
            Check.same("100 hours", 100 * more + 1, house.advance(100));
        }
        house.turn(someoneWhoCanAct(house), 0, true);
        Check.throwsState("100 are too many", house, () -> house.advance(100));
        Check.same("98 are not", 1999, house.advance(98));
        Check.throwsState("2 are too many", house, () -> house.advance(2));
        Check.throwsArgument("0 is out of range first", house, () -> house.advance(0));
        Check.same("to 2000", 2000, house.advance(1));
        Check.throwsState("2001", house, () -> house.advance(1));
        Check.throwsArgument("101 is out of range first", house, () -> house.advance(101));
        Check.same("each hour flowed", 990, house.level(0));
    }

    private static int someoneWhoCanAct(BoilerLog house) {
        for (int person = 0; person < 3; person++) {
            house.read(person);
            if (house.canAct(person)) {
                return person;
            }
        }
        return NONE;
    }

    private static void testHour() {
        BoilerLog house = new BoilerLog();
        house.advance(3);
        Check.same("hour", 3, house.hour());
        house.advance(100);
        Check.same("later", 103, house.hour());
    }

    private static void testEntries() {
        BoilerLog house = new BoilerLog();
        house.pipe(0, NONE, 1);
        house.read(0);
        house.alarm(1, 10, true, 0, false);
        Check.post(house, 0, NONE, "no task");
        Check.same("none of these is an entry", 0, house.entries());
        house.turn(0, 0, true);
        house.hang(0, 0);
        house.takeOff(0, 0);
        Check.same("turned, hung, off", 3, house.entries());
        house.advance(1);
        Check.same("raised, turned", 5, house.entries());
        house.leave(1);
        Check.post(house, 0, 0, "@3");
        house.finish(3, 0);
        Check.same("left, task, done", 8, house.entries());
    }

    private static void testEntryAt() {
        BoilerLog house = new BoilerLog();
        house.advance(1);
        house.turn(0, 7, true);
        house.turn(3, 7, false);
        house.hang(6, 3);
        house.hang(0, 3);
        house.takeOff(0, 1);
        house.alarm(1, 0, false, 3, true);
        house.alarm(1, 0, true, 4, true);
        house.advance(1);
        house.takeOff(6, 0);
        house.advance(1);
        house.leave(8);
        Check.post(house, 0, NONE, "x");
        Check.post(house, 0, NONE, "@7");
        house.finish(7, 1);
        int[] due = {10117, 10407, 11700, 11101, 12101, 13000, 13001, 10014,
            22700, 20013, 34900, 35801, 36801};
        Check.same("entries", due.length, house.entries());
        for (int entry = 0; entry < due.length; entry++) {
            Check.same("entry " + entry, due[entry], house.entryAt(entry));
        }
        for (int entry : new int[] {-1, due.length, Integer.MIN_VALUE, Integer.MAX_VALUE}) {
            Check.throwsBounds("entryAt " + entry, house, () -> house.entryAt(entry));
        }
    }
}
