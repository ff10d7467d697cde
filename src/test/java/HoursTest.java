/** The edges of hours and shifts: where one begins, what must be read for it, the hour 2000, what comes first. */
public final class HoursTest {
    private static final int NONE = BoilerLog.NONE;

    public static void main(String[] args) {
        testEachHoursShift();
        testWhenAShiftBegins();
        testOneEntryShort();
        testReadOnTheEdge();
        testManyShiftsAtOnce();
        testTheFirstShift();
        testTheLastHour();
        testTheEndOfTheLastHour();
        testAskersOfTwoShifts();
        testRunDryInOneHour();
        testFullInOneHour();
        testSpillFromAVessel();
        testAlarmsOfOneHour();
        testAlarmGoesQuietAndIsRaisedAgain();
        Check.end();
    }

    // "The shift of the hour h is (h / 8) modulo 3, rounded down", from the hour 0 to the hour 2000.
    private static void testEachHoursShift() {
        for (int hour = 0; hour <= 2000; hour++) {
            BoilerLog house = atHour(hour);
            Check.same("hour", hour, house.hour());
            for (int person = 0; person < 9; person++) {
                boolean isDue = person % 3 == hour / 8 % 3;
                Check.same("person " + person + " at " + hour, isDue, house.canAct(person));
                Check.same("obstacle of " + person + " at " + hour, isDue ? 0 : 1, house.obstacle(person, 0));
            }
        }
    }

    // "A shift begins with the hour 0, and with each hour that is a multiple of 8": an entry of the
    // hour ahead must be read, one of the first hour need not.
    private static void testWhenAShiftBegins() {
        for (int start = 8; start <= 2000; start += 8) {
            BoilerLog house = atHour(start - 1);
            int old = house.hour() / 8 % 3;
            int fresh = (old + 1) % 3;
            house.turn(old, 0, true);
            Check.same("the old shift can act at " + house.hour(), true, house.canAct(old + 3));
            house.advance(1);
            Check.same("off duty at " + start, 1, house.obstacle(old, 1));
            Check.same("not read at " + start, 2, house.obstacle(fresh, 1));
            Check.same("new at " + start, 1, house.read(fresh));
            Check.same("read at " + start, 0, house.obstacle(fresh, 1));
            house.hang(fresh, 1);
            Check.same("the first hour's need not be read", 2, house.obstacle(fresh + 3, 0));
            house.read(fresh + 6);
            house.hang(fresh, 1);
            Check.same("nor what comes behind", true, house.canAct(fresh + 6));
        }
    }

    // "has read all entries that there were when the shift began": all but one is not all.
    private static void testOneEntryShort() {
        for (int most = 1; most < 12; most++) {
            BoilerLog house = new BoilerLog();
            for (int entry = 0; entry < most - 1; entry++) {
                house.hang(0, entry % 8);
            }
            Check.same("all but one", most - 1, house.read(1));
            house.hang(0, 7);
            Check.same("all", most, house.read(4));
            house.advance(8);
            Check.same("all but one of " + most, 2, house.obstacle(1, 0));
            Check.same("all but one of " + most + " cannot", false, house.canAct(1));
            Check.same("all of " + most, true, house.canAct(4));
            Check.same("the one", 1, house.read(1));
            Check.same("can then", true, house.canAct(1));
        }
    }

    // What was read stays read: while the log grows, and when the next day's shift finds nothing new.
    private static void testReadOnTheEdge() {
        BoilerLog house = new BoilerLog();
        house.hang(0, 0);
        house.read(0);
        house.read(1);
        house.read(2);
        for (int hour = 1; hour <= 100; hour++) {
            house.advance(1);
            int shift = hour / 8 % 3;
            Check.same("read once, at " + hour, true, house.canAct(shift));
            Check.same("never read, at " + hour, hour < 8, house.canAct(shift + 3));
        }
    }

    // Hours that end in one call are hours like others: the last shift that began counts.
    private static void testManyShiftsAtOnce() {
        int[] limits = {160, 170, 240, 250, 330};
        int[] raisedAt = {15, 16, 23, 24, 32};
        for (int hours = 1; hours <= 60; hours++) {
            BoilerLog house = new BoilerLog();
            house.turn(0, 0, true);
            for (int alarm = 0; alarm < limits.length; alarm++) {
                house.alarm(0, limits[alarm], true, 5, false);
            }
            for (int person = 0; person < 9; person++) {
                house.read(person);
            }
            house.advance(hours);
            boolean isUnread = false;
            for (int raised : raisedAt) {
                isUnread |= raised < hours / 8 * 8;
            }
            int shift = hours / 8 % 3;
            Check.same("obstacle after " + hours + " at once", isUnread ? 2 : 0, house.obstacle(shift, 0));
            house.read(shift);
            Check.same("read after " + hours + " at once", 0, house.obstacle(shift, 0));
        }
    }

    // The shift of the hour 0 begins with an empty log: nobody of it needs to read.
    private static void testTheFirstShift() {
        BoilerLog house = new BoilerLog();
        for (int hour = 0; hour < 8; hour++) {
            house.hang(0, hour % 8);
            Check.same("3 in the hour " + hour, true, house.canAct(3));
            Check.same("6 in the hour " + hour, true, house.canAct(6));
            if (hour < 7) {
                house.advance(1);
            }
        }
        Check.same("no entry was read", 8, house.read(3));
    }

    // The hour 2000 is one to act in: it begins a shift of 1, 4 and 7, but does not end.
    private static void testTheLastHour() {
        BoilerLog house = atHour(1999);
        Check.same("1999 is of 0, 3 and 6", true, house.canAct(0));
        house.turn(0, 0, true);
        Check.same("one hour more", 2000, house.advance(1));
        Check.throwsState("and none behind it", house, () -> house.advance(1));
        Check.same("the valve led on as 1999 ended", 10, house.level(0));
        Check.same("2000 must be read for", 2, house.obstacle(1, 0));
        Check.same("all that is", 1, house.read(1));
        Check.same("turned", true, house.turn(1, 0, false));
        Check.same("hung", 0, house.hang(1, 0));
        Check.same("off", true, house.takeOff(1, 0));
        Check.post(house, 8, NONE, "@4");
        house.finish(4, 0);
        Check.same("left", 0, house.leave(8));
        int[] due = {19990110, 20000200, 20001200, 20002200, 20005500, 20006500, 20004900};
        Check.same("entries", due.length, house.entries());
        for (int entry = 0; entry < due.length; entry++) {
            Check.same("entry " + entry, due[entry], house.entryAt(entry));
        }
    }

    // What is raised when an hour ends has that hour's number, also the last that can end.
    private static void testTheEndOfTheLastHour() {
        BoilerLog house = atHour(1950);
        house.alarm(2, 0, false, 3, true);
        Check.same("50 hours are just enough", 2000, house.advance(50));
        Check.same("raised as 1950 ended", 19503000, house.entryAt(0));
        Check.same("answered as 1950 ended", 19500013, house.entryAt(1));
        BoilerLog last = atHour(1999);
        last.alarm(2, 0, false, 3, true);
        last.advance(1);
        Check.same("raised as 1999 ended", 19993000, last.entryAt(0));
        Check.same("answered as 1999 ended", 19990013, last.entryAt(1));
    }

    // "two different people have asked ... each of whom could act when it asked (also if it cannot
    // any more)": one that asks in two shifts is one; two that never act in one shift are two.
    private static void testAskersOfTwoShifts() {
        BoilerLog house = new BoilerLog();
        house.hang(0, 2);
        house.leave(0);
        Check.same("3 asks", false, house.takeOff(3, 0));
        house.advance(24);
        house.read(3);
        Check.same("3 asks a day later", false, house.takeOff(3, 0));
        Check.same("it hangs", 2, house.valveOf(0));
        house.advance(8);
        house.read(4);
        Check.same("another's tag, still", 3, house.obstacle(4, 2));
        Check.same("4 asks in the next shift", true, house.takeOff(4, 0));
        Check.same("none hangs", 0, house.obstacle(4, 2));
        Check.same("by 4", 322500, house.entryAt(2));
        Check.throwsState("off for good", house, () -> house.takeOff(4, 0));
    }

    // "as much as there is in the vessel from which it leads": 0 of an empty one, for each valve by turns.
    private static void testRunDryInOneHour() {
        BoilerLog house = new BoilerLog();
        house.turn(0, 0, true);
        house.advance(1);
        house.turn(0, 0, false);
        house.pipe(3, 0, 2);
        house.pipe(6, 0, 1);
        house.turn(0, 6, true);
        house.turn(0, 3, true);
        house.advance(1);
        Check.same("the lower valve takes all", 10, house.level(2));
        Check.same("none is left for the higher", 0, house.level(1));
        Check.same("empty", 0, house.level(0));
        house.advance(5);
        Check.same("an empty one gives none", 10, house.level(2));
        Check.same("to no one", 0, house.level(1));
        Check.same("and is not below 0", 0, house.level(0));
    }

    // A level of 1000: eight valves bring 80 an hour, and what is above is spilled, hour by hour.
    private static void testFullInOneHour() {
        BoilerLog house = new BoilerLog();
        for (int valve = 0; valve < 8; valve++) {
            house.pipe(valve, NONE, 2);
            house.turn(0, valve, true);
        }
        house.advance(12);
        Check.same("960", 960, house.level(2));
        Check.same("none spilled", 0, house.spilled());
        house.advance(1);
        Check.same("1000", 1000, house.level(2));
        Check.same("40 spilled", 40, house.spilled());
        for (int hours = 0; hours < 19; hours++) {
            house.advance(100);
        }
        Check.same("still 1000", 1000, house.level(2));
        Check.same("80 more each hour", 40 + 80 * 1900, house.spilled());
        Check.same("0 is empty", 0, house.level(0));
        Check.same("1 is empty", 0, house.level(1));
    }

    // What a vessel gives to a full one is spilled; what goes outside is not.
    private static void testSpillFromAVessel() {
        BoilerLog house = new BoilerLog();
        house.pipe(1, NONE, 1);
        house.turn(0, 0, true);
        house.turn(0, 1, true);
        house.advance(100);
        int person = house.hour() / 8 % 3;
        house.read(person);
        house.turn(person, 0, false);
        house.turn(person, 1, false);
        house.pipe(2, 0, 1);
        house.turn(person, 2, true);
        house.advance(1);
        Check.same("gave 10", 990, house.level(0));
        Check.same("took none", 1000, house.level(1));
        Check.same("spilled", 10, house.spilled());
        house.turn(person, 2, false);
        house.pipe(2, 0, NONE);
        house.turn(person, 2, true);
        house.advance(1);
        Check.same("gave 10 more", 980, house.level(0));
        Check.same("to outside is not spilled", 10, house.spilled());
    }

    // "By rising numbers, each alarm": a lower one's entry is first, and each sees the hour's levels,
    // not what the others turned.
    private static void testAlarmsOfOneHour() {
        BoilerLog house = new BoilerLog();
        house.hang(0, 4);
        house.turn(0, 0, true);
        house.alarm(0, 10, true, 0, false);
        house.alarm(0, 10, true, 4, true);
        house.alarm(0, 11, true, 5, true);
        house.alarm(1, 0, false, 6, true);
        house.advance(1);
        int[] due = {1100, 110, 3000, 0, 3001, 3003, 16};
        Check.same("entries", due.length, house.entries());
        for (int entry = 0; entry < due.length; entry++) {
            Check.same("entry " + entry, due[entry], house.entryAt(entry));
        }
        int[] states = {BoilerLog.ANSWERED, BoilerLog.WAITING, BoilerLog.QUIET, BoilerLog.ANSWERED};
        for (int alarm = 0; alarm < states.length; alarm++) {
            Check.same("state " + alarm, states[alarm], house.stateOf(alarm));
        }
    }

    // "if what it watches for is not so, it is QUIET. Otherwise, if it is QUIET, it is raised".
    private static void testAlarmGoesQuietAndIsRaisedAgain() {
        BoilerLog house = new BoilerLog();
        house.pipe(7, 0, NONE);
        house.alarm(0, 10, true, 0, false);
        for (int round = 0; round < 3; round++) {
            house.turn(0, 7, false);
            house.turn(0, 0, true);
            int before = house.entries();
            house.advance(1);
            Check.same("raised, round " + round, BoilerLog.ANSWERED, house.stateOf(0));
            Check.same("entries of round " + round, before + 2, house.entries());
            Check.same("its entry", 10000 * (2 * round) + 3000, house.entryAt(before));
            Check.same("at an even hour", 2 * round + 1, house.hour());
            house.turn(0, 7, true);
            house.advance(1);
            Check.same("quiet, round " + round, BoilerLog.QUIET, house.stateOf(0));
            Check.same("quiet is no entry", before + 3, house.entries());
        }
    }

    private static BoilerLog atHour(int hour) {
        BoilerLog house = new BoilerLog();
        while (house.hour() < hour) {
            house.advance(Math.min(100, hour - house.hour()));
        }
        return house;
    }
}
