/** Promises 9 to 13: hang, takeOff, valveOf, ownerOf, tagsByLog. */
public final class TagsTest {
    private static final int NONE = BoilerLog.NONE;

    public static void main(String[] args) {
        testHang();
        testHangThrows();
        testFortyTags();
        testOwnerTakesOff();
        testTwoTakeOffWhatIsLeft();
        testAskersMayBeGone();
        testAskCountsOnlyAfterLeaving();
        testTakeOffThrows();
        testValveAndOwner();
        testTagsByLog();
        Check.end();
    }

    private static void testHang() {
        BoilerLog house = new BoilerLog();
        Check.same("first tag", 0, house.hang(6, 7));
        Check.same("second tag, same valve", 1, house.hang(6, 7));
        Check.same("third tag, another person", 2, house.hang(0, 7));
        Check.same("entry of a tag", 1700, house.entryAt(0));
        Check.same("entry of the second", 1701, house.entryAt(1));
        Check.same("entry of the third", 1102, house.entryAt(2));
        house.takeOff(6, 1);
        Check.same("a number is not used again", 3, house.hang(6, 1));
        Check.same("hanging turns nothing", false, house.isOpen(7));
    }

    private static void testHangThrows() {
        BoilerLog house = new BoilerLog();
        for (int person : new int[] {-1, 9, Integer.MIN_VALUE, Integer.MAX_VALUE}) {
            Check.throwsBounds("hang by " + person, house, () -> house.hang(person, 0));
        }
        for (int valve : new int[] {-1, 8, Integer.MIN_VALUE, Integer.MAX_VALUE}) {
            Check.throwsBounds("hang on " + valve, house, () -> house.hang(0, valve));
            Check.throwsBounds("hang off duty on " + valve, house, () -> house.hang(1, valve));
        }
        Check.throwsState("hang off duty", house, () -> house.hang(1, 0));
        house.leave(0);
        Check.throwsState("hang after leaving", house, () -> house.hang(0, 0));
        house.advance(8);
        Check.throwsState("hang without reading", house, () -> house.hang(1, 0));
        house.read(1);
        Check.same("hang after reading", 0, house.hang(1, 0));
    }

    private static void testFortyTags() {
        BoilerLog house = new BoilerLog();
        for (int tag = 0; tag < 40; tag++) {
            Check.same("tag", tag, house.hang(tag % 3 * 3, tag % 8));
        }
        Check.throwsState("a tag too many", house, () -> house.hang(0, 0));
        Check.throwsBounds("a tag too many on no valve", house, () -> house.hang(0, 8));
        Check.same("take one off", true, house.takeOff(0, 39));
        Check.throwsState("there were 40 still", house, () -> house.hang(0, 0));
        Check.same("the last one's entry", 1139, house.entryAt(39));
    }

    private static void testOwnerTakesOff() {
        BoilerLog house = new BoilerLog();
        house.hang(3, 4);
        house.advance(2);
        Check.same("off", true, house.takeOff(3, 0));
        Check.same("entry", 22400, house.entryAt(1));
        Check.same("no tag there", 0, house.tagsByLog(4));
        Check.same("another turns", true, house.turn(0, 4, true));
    }

    private static void testTwoTakeOffWhatIsLeft() {
        BoilerLog house = new BoilerLog();
        house.hang(0, 4);
        house.hang(0, 4);
        house.leave(0);
        Check.same("the first asks", false, house.takeOff(3, 0));
        Check.same("asking is no entry", 3, house.entries());
        Check.same("the first asks again", false, house.takeOff(3, 0));
        Check.same("it hangs", 4, house.valveOf(0));
        Check.same("another tag is asked for apart", false, house.takeOff(6, 1));
        Check.same("the second asks", true, house.takeOff(6, 0));
        Check.same("it is off", NONE, house.valveOf(0));
        Check.same("who asked last took it off", 2700, house.entryAt(3));
        Check.same("the other hangs", 4, house.valveOf(1));
        Check.same("the other comes off", true, house.takeOff(3, 1));
        Check.same("entry of the other", 2401, house.entryAt(4));
    }

    // An asker counts also when its shift is over, and when it has left.
    private static void testAskersMayBeGone() {
        BoilerLog house = new BoilerLog();
        house.hang(0, 4);
        house.leave(0);
        house.takeOff(3, 0);
        house.leave(3);
        house.advance(8);
        Check.throwsState("not read yet", house, () -> house.takeOff(1, 0));
        house.read(1);
        Check.same("the second, a shift later", true, house.takeOff(1, 0));
        Check.same("entry", 82200, house.entryAt(house.entries() - 1));
    }

    private static void testAskCountsOnlyAfterLeaving() {
        BoilerLog house = new BoilerLog();
        house.hang(0, 4);
        Check.throwsState("the owner is here", house, () -> house.takeOff(3, 0));
        house.leave(0);
        Check.same("asked too early does not count", false, house.takeOff(3, 0));
        Check.throwsState("off duty", house, () -> house.takeOff(1, 0));
        Check.same("asked off duty does not count", false, house.takeOff(3, 0));
    }

    private static void testTakeOffThrows() {
        BoilerLog house = new BoilerLog();
        house.hang(0, 1);
        house.hang(3, 1);
        for (int person : new int[] {-1, 9, Integer.MIN_VALUE, Integer.MAX_VALUE}) {
            Check.throwsBounds("by " + person, house, () -> house.takeOff(person, 0));
        }
        for (int tag : new int[] {-1, 2, Integer.MIN_VALUE, Integer.MAX_VALUE}) {
            Check.throwsBounds("tag " + tag, house, () -> house.takeOff(0, tag));
            Check.throwsBounds("off duty, tag " + tag, house, () -> house.takeOff(1, tag));
        }
        Check.throwsState("another's", house, () -> house.takeOff(0, 1));
        Check.throwsState("off duty", house, () -> house.takeOff(1, 0));
        house.takeOff(0, 0);
        Check.throwsState("off already", house, () -> house.takeOff(0, 0));
        house.leave(3);
        Check.throwsState("its owner, who left", house, () -> house.takeOff(3, 1));
        house.advance(8);
        Check.throwsState("the owner's shift is over", house, () -> house.takeOff(0, 1));
        house.read(1);
        house.hang(1, 2);
        house.advance(24);
        Check.throwsState("the owner has not read", house, () -> house.takeOff(1, 2));
        house.read(1);
        Check.same("the owner a day later", true, house.takeOff(1, 2));
    }

    private static void testValveAndOwner() {
        BoilerLog house = new BoilerLog();
        house.hang(6, 5);
        house.hang(3, 0);
        Check.same("valve of 0", 5, house.valveOf(0));
        Check.same("valve of 1", 0, house.valveOf(1));
        Check.same("owner of 0", 6, house.ownerOf(0));
        Check.same("owner of 1", 3, house.ownerOf(1));
        house.takeOff(3, 1);
        Check.same("valve of one that is off", NONE, house.valveOf(1));
        Check.same("owner of one that is off", 3, house.ownerOf(1));
        house.leave(6);
        Check.same("valve of one whose owner left", 5, house.valveOf(0));
        Check.same("owner who left", 6, house.ownerOf(0));
        for (int tag : new int[] {-1, 2, Integer.MIN_VALUE, Integer.MAX_VALUE}) {
            Check.throwsBounds("valveOf " + tag, house, () -> house.valveOf(tag));
            Check.throwsBounds("ownerOf " + tag, house, () -> house.ownerOf(tag));
        }
    }

    private static void testTagsByLog() {
        BoilerLog house = new BoilerLog();
        house.turn(0, 3, true);
        house.hang(0, 3);
        house.hang(0, 3);
        house.hang(3, 3);
        house.hang(3, 5);
        Check.same("three", 3, house.tagsByLog(3));
        Check.same("one", 1, house.tagsByLog(5));
        Check.same("none", 0, house.tagsByLog(0));
        house.takeOff(0, 1);
        Check.same("two", 2, house.tagsByLog(3));
        house.leave(3);
        Check.same("also of one who left", 2, house.tagsByLog(3));
        house.takeOff(0, 2);
        Check.same("asked for", 2, house.tagsByLog(3));
        house.takeOff(6, 2);
        Check.same("taken off by two", 1, house.tagsByLog(3));
        Check.same("another valve's", 1, house.tagsByLog(5));
        for (int valve : new int[] {-1, 8, Integer.MIN_VALUE, Integer.MAX_VALUE}) {
            Check.throwsBounds("tagsByLog " + valve, house, () -> house.tagsByLog(valve));
        }
    }
}
