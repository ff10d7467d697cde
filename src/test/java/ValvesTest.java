/** Promises 2 to 8: pipe, turn, obstacle, isOpen, isOpenByLog, level, spilled. */
public final class ValvesTest {
    private static final int NONE = BoilerLog.NONE;

    public static void main(String[] args) {
        testPipe();
        testPipeThrows();
        testTurn();
        testTurnThrows();
        testObstacle();
        testObstacleOrder();
        testIsOpen();
        testIsOpenByLog();
        testLevelsFlow();
        testFlowByRisingNumbers();
        testSpilled();
        testSpillsValveByValve();
        Check.end();
    }

    private static void testPipe() {
        BoilerLog house = new BoilerLog();
        Check.same("pipe without tags", 0, house.pipe(0, NONE, 1));
        house.hang(0, 2);
        house.hang(3, 2);
        int taken = house.hang(3, 2);
        house.hang(0, 3);
        house.takeOff(3, taken);
        Check.same("pipe under two tags", 2, house.pipe(2, 1, NONE));
        Check.same("pipe is no entry", 5, house.entries());
        house.turn(0, 0, true);
        house.advance(3);
        Check.same("outside to 1", 30, house.level(1));
        Check.same("nothing to 0", 0, house.level(0));
        house.turn(0, 0, false);
        Check.same("pipe a shut one again", 0, house.pipe(0, 1, 2));
        house.turn(0, 0, true);
        house.advance(2);
        Check.same("1 gave", 10, house.level(1));
        Check.same("2 took", 20, house.level(2));
        house.advance(8);
        Check.same("to outside and back is free", 0, house.pipe(7, 0, NONE));
        Check.same("from outside", 0, house.pipe(7, NONE, 2));
    }

    private static void testPipeThrows() {
        BoilerLog house = new BoilerLog();
        house.turn(0, 1, true);
        for (int valve : new int[] {-1, 8, Integer.MIN_VALUE, Integer.MAX_VALUE}) {
            Check.throwsBounds("pipe " + valve, house, () -> house.pipe(valve, NONE, 0));
            Check.throwsBounds("pipe " + valve + " of wrong vessels", house, () -> house.pipe(valve, 5, 5));
        }
        for (int end : new int[] {-2, 3, Integer.MIN_VALUE, Integer.MAX_VALUE}) {
            Check.throwsArgument("pipe from " + end, house, () -> house.pipe(0, end, 0));
            Check.throwsArgument("pipe to " + end, house, () -> house.pipe(0, 0, end));
            Check.throwsArgument("pipe an open one to " + end, house, () -> house.pipe(1, 0, end));
        }
        for (int end = NONE; end < 3; end++) {
            int same = end;
            Check.throwsArgument("pipe to the same " + end, house, () -> house.pipe(0, same, same));
            Check.throwsArgument("pipe an open one to the same", house, () -> house.pipe(1, same, same));
        }
        Check.throwsState("pipe an open one", house, () -> house.pipe(1, NONE, 2));
        house.advance(1);
        Check.same("the open one leads where it led", 10, house.level(0));
        Check.same("and not elsewhere", 0, house.level(2));
    }

    private static void testTurn() {
        BoilerLog house = new BoilerLog();
        Check.same("shut a shut one", false, house.turn(0, 5, false));
        Check.same("that is no entry", 0, house.entries());
        Check.same("open", true, house.turn(0, 5, true));
        Check.same("open again", false, house.turn(3, 5, true));
        Check.same("one entry", 1, house.entries());
        Check.same("shut", true, house.turn(6, 5, false));
        Check.same("two entries", 2, house.entries());
        Check.same("first entry", 115, house.entryAt(0));
        Check.same("second entry", 705, house.entryAt(1));
        house.hang(3, 5);
        Check.same("the owner turns under its own tag", true, house.turn(3, 5, true));
    }

    private static void testTurnThrows() {
        BoilerLog house = new BoilerLog();
        for (int person : new int[] {-1, 9, Integer.MIN_VALUE, Integer.MAX_VALUE}) {
            Check.throwsBounds("turn by " + person, house, () -> house.turn(person, 0, true));
        }
        for (int valve : new int[] {-1, 8, Integer.MIN_VALUE, Integer.MAX_VALUE}) {
            Check.throwsBounds("turn " + valve, house, () -> house.turn(0, valve, true));
            Check.throwsBounds("turn by one off duty " + valve, house, () -> house.turn(1, valve, true));
        }
        Check.throwsState("turn off duty", house, () -> house.turn(1, 0, true));
        Check.throwsState("turn off duty, already so", house, () -> house.turn(2, 0, false));
        int tag = house.hang(0, 0);
        Check.throwsState("turn under a tag", house, () -> house.turn(3, 0, true));
        Check.throwsState("turn under a tag, already so", house, () -> house.turn(3, 0, false));
        house.hang(3, 0);
        Check.throwsState("turn under one's own and another's", house, () -> house.turn(3, 0, true));
        house.takeOff(0, tag);
        Check.same("turn under one's own alone", true, house.turn(3, 0, true));
        house.leave(3);
        Check.throwsState("turn after leaving", house, () -> house.turn(3, 0, false));
        Check.throwsState("turn under the tag of one who left", house, () -> house.turn(0, 0, false));
        house.advance(8);
        Check.throwsState("turn without reading", house, () -> house.turn(1, 1, true));
        house.read(1);
        Check.same("turn after reading", true, house.turn(1, 1, true));
    }

    private static void testObstacle() {
        BoilerLog house = new BoilerLog();
        for (int person = 0; person < 9; person++) {
            Check.same("obstacle at first", person % 3 == 0 ? 0 : 1, house.obstacle(person, 7));
        }
        house.hang(0, 7);
        Check.same("its own tag", 0, house.obstacle(0, 7));
        Check.same("another's tag", 3, house.obstacle(3, 7));
        Check.same("another valve", 0, house.obstacle(3, 6));
        house.hang(3, 7);
        Check.same("its own and another's", 3, house.obstacle(0, 7));
        house.leave(6);
        Check.same("left", 1, house.obstacle(6, 6));
        house.advance(8);
        Check.same("unread", 2, house.obstacle(1, 6));
        Check.same("shift over", 1, house.obstacle(0, 7));
        house.read(1);
        Check.same("read", 0, house.obstacle(1, 6));
        Check.same("read, tag", 3, house.obstacle(1, 7));
        for (int wrong : new int[] {-1, 8, 9, Integer.MIN_VALUE, Integer.MAX_VALUE}) {
            Check.throwsBounds("obstacle at " + wrong, house, () -> house.obstacle(0, wrong));
        }
        for (int wrong : new int[] {-1, 9, Integer.MIN_VALUE, Integer.MAX_VALUE}) {
            Check.throwsBounds("obstacle of " + wrong, house, () -> house.obstacle(wrong, 0));
        }
    }

    // Of several reasons the lowest is told.
    private static void testObstacleOrder() {
        BoilerLog house = new BoilerLog();
        house.hang(0, 0);
        house.advance(8);
        Check.same("off duty, unread and a tag", 1, house.obstacle(2, 0));
        Check.same("unread and a tag", 2, house.obstacle(1, 0));
        house.leave(1);
        Check.same("left, unread and a tag", 1, house.obstacle(1, 0));
        house.read(4);
        Check.same("a tag", 3, house.obstacle(4, 0));
    }

    private static void testIsOpen() {
        BoilerLog house = new BoilerLog();
        house.turn(0, 2, true);
        house.turn(0, 7, true);
        for (int valve = 0; valve < 8; valve++) {
            Check.same("open " + valve, valve == 2 || valve == 7, house.isOpen(valve));
        }
        house.turn(3, 2, false);
        Check.same("shut again", false, house.isOpen(2));
        for (int valve : new int[] {-1, 8, Integer.MIN_VALUE, Integer.MAX_VALUE}) {
            Check.throwsBounds("isOpen " + valve, house, () -> house.isOpen(valve));
        }
    }

    private static void testIsOpenByLog() {
        BoilerLog house = new BoilerLog();
        house.turn(0, 2, true);
        house.turn(0, 7, true);
        for (int other = 0; other < 30; other++) {
            house.hang(0, other % 8);
        }
        for (int valve = 0; valve < 8; valve++) {
            Check.same("open by log " + valve, valve == 2 || valve == 7, house.isOpenByLog(valve));
        }
        house.turn(0, 0, true);
        house.turn(0, 2, false);
        Check.same("shut again by log", false, house.isOpenByLog(2));
        Check.same("0 by log", true, house.isOpenByLog(0));
        house.alarm(0, 10, true, 3, true);
        house.alarm(0, 10, true, 4, true);
        BoilerLog fresh = new BoilerLog();
        fresh.alarm(1, 0, false, 6, true);
        fresh.advance(1);
        Check.same("an alarm's turn is in the log", true, fresh.isOpenByLog(6));
        for (int valve : new int[] {-1, 8, Integer.MIN_VALUE, Integer.MAX_VALUE}) {
            Check.throwsBounds("isOpenByLog " + valve, house, () -> house.isOpenByLog(valve));
        }
    }

    private static void testLevelsFlow() {
        BoilerLog house = new BoilerLog();
        house.pipe(1, 0, 1);
        house.pipe(2, 1, NONE);
        house.turn(0, 0, true);
        house.advance(2);
        house.turn(0, 0, false);
        Check.same("filled", 20, house.level(0));
        house.turn(0, 1, true);
        house.advance(3);
        Check.same("run dry", 0, house.level(0));
        Check.same("led on what there was", 20, house.level(1));
        house.turn(0, 2, true);
        house.advance(3);
        Check.same("led outside", 0, house.level(1));
        Check.same("to outside is not spilled", 0, house.spilled());
        for (int vessel : new int[] {-1, 3, Integer.MIN_VALUE, Integer.MAX_VALUE}) {
            Check.throwsBounds("level " + vessel, house, () -> house.level(vessel));
        }
    }

    // A lower valve leads on first; so what it brings goes through a higher one in the same hour.
    private static void testFlowByRisingNumbers() {
        BoilerLog rising = new BoilerLog();
        rising.pipe(4, 0, 1);
        rising.turn(0, 3, true);
        rising.turn(0, 4, true);
        rising.advance(1);
        Check.same("through 0", 0, rising.level(0));
        Check.same("into 1", 10, rising.level(1));
        BoilerLog falling = new BoilerLog();
        falling.pipe(4, NONE, 0);
        falling.pipe(3, 0, 1);
        falling.turn(0, 3, true);
        falling.turn(0, 4, true);
        falling.advance(1);
        Check.same("stays in 0", 10, falling.level(0));
        Check.same("none in 1 yet", 0, falling.level(1));
    }

    private static void testSpilled() {
        BoilerLog house = new BoilerLog();
        for (int valve = 0; valve < 3; valve++) {
            house.turn(0, valve, true);
        }
        house.advance(33);
        Check.same("not full", 990, house.level(0));
        Check.same("none spilled", 0, house.spilled());
        house.advance(1);
        Check.same("full", 1000, house.level(0));
        Check.same("spilled what is above", 20, house.spilled());
        house.advance(10);
        Check.same("still full", 1000, house.level(0));
        Check.same("spilled so far", 320, house.spilled());
        BoilerLog exact = new BoilerLog();
        exact.turn(0, 0, true);
        exact.advance(100);
        Check.same("just full", 1000, exact.level(0));
        Check.same("just full spills none", 0, exact.spilled());
    }

    // What a valve brings above 1000 is spilled before a higher valve can lead it on.
    private static void testSpillsValveByValve() {
        BoilerLog house = new BoilerLog();
        house.turn(0, 0, true);
        house.advance(100);
        house.pipe(1, 0, 1);
        house.read(0);
        house.turn(0, 1, true);
        house.advance(1);
        Check.same("spilled by valve 0", 10, house.spilled());
        Check.same("led on by valve 1", 990, house.level(0));
        Check.same("into 1", 10, house.level(1));
    }
}
