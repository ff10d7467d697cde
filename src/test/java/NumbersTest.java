/**
 * Each number that a call takes, from the first to the last just inside: people, valves, vessels,
 * limits, hours, places and characters. (Just outside: RefusalsTest.)
 */
public final class NumbersTest {
    private static final int NONE = BoilerLog.NONE;

    public static void main(String[] args) {
        testEachPerson();
        testEachValve();
        testEachVessel();
        testEachWay();
        testEachLimit();
        testEachNumberOfHours();
        testEachPlaceOfTheText();
        testEachCharacter();
        testEachHighAndLowOne();
        testEachCharacterBehindAnAt();
        testEachPlaceOfAnAt();
        testEachPlaceOfAMessage();
        testEachEntry();
        Check.end();
    }

    // "There are the people 0 to 8": each call takes each of them.
    private static void testEachPerson() {
        for (int person = 0; person < 9; person++) {
            BoilerLog house = new BoilerLog();
            if (person % 3 > 0) {
                house.advance(8 * (person % 3));
            }
            int stamp = 10000 * house.hour() + 100 * (person + 1);
            Check.same("canAct " + person, true, house.canAct(person));
            Check.same("obstacle " + person, 0, house.obstacle(person, 4));
            Check.same("turn " + person, true, house.turn(person, 4, true));
            Check.same("hang " + person, 0, house.hang(person, 4));
            Check.same("owner " + person, person, house.ownerOf(0));
            Check.same("takeOff " + person, true, house.takeOff(person, 0));
            Check.same("read " + person, 3, house.read(person));
            Check.same("post " + person, 0, Check.post(house, person, NONE, "@" + person));
            Check.same("task of " + person, person, house.taskOf(0));
            house.finish(person, 0);
            Check.same("finished by " + person, NONE, house.taskOf(0));
            Check.same("leave " + person, 0, house.leave(person));
            int[] due = {14, 1000, 2000, 5000, 6000, 4000};
            for (int entry = 0; entry < due.length; entry++) {
                Check.same("entry " + entry + " of " + person, stamp + due[entry], house.entryAt(entry));
            }
            for (int other = 0; other < 9; other++) {
                Check.same(person + " left, " + other + " did not", other != person && other % 3 == person % 3,
                    house.canAct(other));
            }
        }
    }

    // "the valves 0 to 7": each call takes each of them, and leaves the others as they are.
    private static void testEachValve() {
        for (int valve = 0; valve < 8; valve++) {
            BoilerLog house = new BoilerLog();
            Check.same("pipe " + valve, 0, house.pipe(valve, NONE, 1));
            Check.same("hang on " + valve, 0, house.hang(3, valve));
            Check.same("valve of the tag on " + valve, valve, house.valveOf(0));
            Check.same("pipe under a tag " + valve, 1, house.pipe(valve, NONE, 1));
            Check.same("turn " + valve, true, house.turn(3, valve, true));
            Check.same("entry of " + valve, 410 + valve, house.entryAt(1));
            house.advance(1);
            Check.same("led on by " + valve, 10, house.level(1));
            for (int other = 0; other < 8; other++) {
                Check.same("open " + other, other == valve, house.isOpen(other));
                Check.same("open by log " + other, other == valve, house.isOpenByLog(other));
                Check.same("tags by log " + other, other == valve ? 1 : 0, house.tagsByLog(other));
                Check.same("obstacle at " + other, other == valve ? 3 : 0, house.obstacle(0, other));
            }
            house.takeOff(3, 0);
            Check.same("alarm that shuts " + valve, 0, house.alarm(0, 0, true, valve, false));
            house.advance(1);
            Check.same("shut " + valve, false, house.isOpen(valve));
            Check.same("shut " + valve + " by log", false, house.isOpenByLog(valve));
            Check.same("entry of its shutting", 10000 + valve, house.entryAt(house.entries() - 1));
        }
    }

    // "the vessels 0 to 2", each filled to its brim, and watched.
    private static void testEachVessel() {
        for (int vessel = 0; vessel < 3; vessel++) {
            BoilerLog house = filled(vessel, 990);
            Check.same("alarm on " + vessel, 0, house.alarm(vessel, 1000, true, 7, true));
            Check.same("pipe to " + vessel, 0, house.pipe(1, NONE, vessel));
            house.turn(whoActs(house), 1, true);
            house.advance(1);
            Check.same("the alarm saw " + vessel, BoilerLog.ANSWERED, house.stateOf(0));
            Check.same("just full spills none", 0, house.spilled());
            house.turn(whoActs(house), 7, false);
            house.advance(2);
            for (int other = 0; other < 3; other++) {
                Check.same("level " + other, other == vessel ? 1000 : 0, house.level(other));
            }
            Check.same("above full is spilled", 20, house.spilled());
        }
    }

    // "a vessel, 0 to 2, or NONE" to "another vessel, or NONE": each two that are not the same.
    private static void testEachWay() {
        for (int from = NONE; from < 3; from++) {
            for (int to = NONE; to < 3; to++) {
                if (from != to) {
                    BoilerLog house = from == NONE ? new BoilerLog() : filled(from, 20);
                    String way = from + " to " + to;
                    Check.same("pipe " + way, 0, house.pipe(7, from, to));
                    house.turn(whoActs(house), 7, true);
                    house.advance(1);
                    for (int vessel = 0; vessel < 3; vessel++) {
                        Check.same(way + ", level " + vessel, vessel == from || vessel == to ? 10 : 0,
                            house.level(vessel));
                    }
                    Check.same(way + " spills none", 0, house.spilled());
                }
            }
        }
    }

    // "a level of at least its limit (a high one), or of at most that (a low one)", limits 0 to 1000.
    private static void testEachLimit() {
        int[] limits = {0, 1, 9, 10, 11, 499, 500, 501, 989, 990, 991, 999, 1000};
        for (int level : new int[] {0, 10, 500, 990, 1000}) {
            for (int vessel = 0; vessel < 3; vessel++) {
                for (int limit : limits) {
                    BoilerLog house = filled(vessel, level);
                    Check.same("high, limit " + limit, 0, house.alarm(vessel, limit, true, 6, true));
                    Check.same("low, limit " + limit, 1, house.alarm(vessel, limit, false, 7, true));
                    house.pipe(6, 0, NONE);
                    house.pipe(7, 0, NONE);
                    house.advance(1);
                    String what = " one of " + limit + " at " + level;
                    Check.same("high" + what, level >= limit, house.isOpen(6));
                    Check.same("low" + what, level <= limit, house.isOpen(7));
                    Check.same("state of a high" + what, level >= limit ? BoilerLog.ANSWERED : BoilerLog.QUIET,
                        house.stateOf(0));
                    Check.same("state of a low" + what, level <= limit ? BoilerLog.ANSWERED : BoilerLog.QUIET,
                        house.stateOf(1));
                }
            }
        }
    }

    // "hours: 1 to 100", each hour an hour's flow.
    private static void testEachNumberOfHours() {
        for (int hours = 1; hours <= 100; hours++) {
            BoilerLog house = new BoilerLog();
            house.turn(0, 0, true);
            Check.same("advance " + hours, hours, house.advance(hours));
            Check.same("hour " + hours, hours, house.hour());
            Check.same("level after " + hours, 10 * hours, house.level(0));
            Check.same("advance " + hours + " again", 2 * hours, house.advance(hours));
        }
    }

    // "place: 0 to its length", at each length that leaves room for one more.
    private static void testEachPlaceOfTheText() {
        for (int length = 0; length < 40; length++) {
            for (int place = 0; place <= length; place++) {
                BoilerLog house = new BoilerLog();
                StringBuilder due = new StringBuilder();
                for (int written = 0; written < length; written++) {
                    due.append((char) ('A' + written));
                    house.insert(written, (char) ('A' + written));
                }
                due.insert(place, '!');
                Check.same("insert at " + place + " of " + length, length + 1, house.insert(place, '!'));
                house.post(0, NONE);
                checkMessage(house, 0, due.toString());
            }
        }
    }

    // "character: any one"; each is one sign, but for the surrogates, which are not whole alone.
    private static void testEachCharacter() {
        for (int first = 0; first < 65536; first += 32) {
            BoilerLog house = new BoilerLog();
            for (int number = first; number < first + 32; number++) {
                boolean isSurrogate = number >= 0xD800 && number <= 0xDFFF;
                Check.same("insert " + number, 1, house.insert(0, (char) number));
                Check.same("whole " + number, !isSurrogate, house.isWhole());
                if (isSurrogate) {
                    Check.same("clear " + number, 1, house.clear());
                } else {
                    Check.same("post " + number, number - first, house.post(0, NONE));
                    Check.same("signs of " + number, 1, house.signs(number - first));
                    Check.same("sign of " + number, number, house.signAt(number - first, 0));
                    Check.same("sign back of " + number, number, house.signBack(number - first, 0));
                }
            }
        }
    }

    // "a pair of them is one sign": each high one, and each low one, in a pair and the other way round.
    private static void testEachHighAndLowOne() {
        for (int number = 0; number < 1024; number++) {
            BoilerLog house = new BoilerLog();
            char high = (char) (0xD800 + number), low = (char) (0xDC00 + number);
            char otherLow = (char) (0xDFFF - number);
            Check.write(house, "" + low + high);
            Check.same("the wrong way round " + number, false, house.isWhole());
            Check.write(house, "" + high + otherLow + high + low);
            Check.same("two pairs " + number, true, house.isWhole());
            house.post(0, NONE);
            Check.same("two signs " + number, 2, house.signs(0));
            Check.same("first of " + number, Character.toCodePoint(high, otherLow), house.signAt(0, 0));
            Check.same("second of " + number, Character.toCodePoint(high, low), house.signAt(0, 1));
            Check.same("last of " + number, Character.toCodePoint(high, low), house.signBack(0, 0));
            Check.same("behind " + number, NONE, house.signAt(0, 2));
            Check.same("ahead of " + number, NONE, house.signBack(0, 2));
        }
    }

    // '"@" with a digit from 0 to 8 right behind it': no other character makes a task, nor takes the
    // place of one that does.
    private static void testEachCharacterBehindAnAt() {
        for (int number = 0; number < 65536; number++) {
            boolean isSurrogate = number >= 0xD800 && number <= 0xDFFF;
            boolean isDigitOfAByte = number % 256 >= '0' && number % 256 <= '9';
            if (!isSurrogate && (number < 300 || isDigitOfAByte)) {
                char character = (char) number;
                int named = number >= '0' && number <= '8' ? number - '0' : NONE;
                checkTask("@" + character, named);
                checkTask("@4@" + character, named == NONE ? 4 : named);
                checkTask("@" + character + "@4", 4);
                if (character != '@') {
                    checkTask(character + "5", NONE);
                }
            }
        }
    }

    private static void checkTask(String text, int due) {
        BoilerLog house = new BoilerLog();
        Check.post(house, 0, NONE, text);
        Check.same("task by " + text, due, house.taskOf(0));
        Check.same("entries by " + text, due == NONE ? 0 : 1, house.entries());
        if (due != NONE) {
            Check.same("entry by " + text, 5000 + 100 * (due + 1), house.entryAt(0));
        }
    }

    // "by the last such place in it": from the text's first two characters to its last two.
    private static void testEachPlaceOfAnAt() {
        for (int place = 0; place <= 38; place++) {
            BoilerLog house = new BoilerLog();
            Check.post(house, 0, NONE, "-".repeat(place) + "@4" + "-".repeat(38 - place));
            Check.same("@ at " + place, 4, house.taskOf(0));
            if (place <= 36) {
                Check.post(house, 0, 0, "-".repeat(place) + "@5@6" + "-".repeat(36 - place));
                Check.same("two of them at " + place, 6, house.taskOf(0));
                Check.same("make one entry at " + place, 2, house.entries());
            }
        }
        BoilerLog house = new BoilerLog();
        Check.post(house, 0, NONE, "-".repeat(39) + "@");
        Check.same("@ at the very end", NONE, house.taskOf(0));
        Check.post(house, 0, NONE, "8" + "-".repeat(39));
        Check.same("a digit at the very beginning", NONE, house.taskOf(1));
        Check.post(house, 0, NONE, "8" + "-".repeat(38) + "@");
        Check.same("@ at the end, a digit at the beginning", NONE, house.taskOf(2));
    }

    // "place: 0 for its first sign", "0 for its last sign"; NONE from its number of signs on.
    private static void testEachPlaceOfAMessage() {
        for (int length = 1; length <= 40; length++) {
            BoilerLog house = new BoilerLog();
            StringBuilder due = new StringBuilder();
            for (int place = 0; place < length; place++) {
                due.append((char) (0x2600 + place));
            }
            Check.post(house, 0, NONE, due.toString());
            checkMessage(house, 0, due.toString());
        }
    }

    private static void checkMessage(BoilerLog house, int message, String due) {
        int length = due.length();
        Check.same("signs of " + due, length, house.signs(message));
        for (int place = 0; place < length; place++) {
            Check.same("sign " + place + " of " + due, due.charAt(place), house.signAt(message, place));
            Check.same("sign back " + place + " of " + due, due.charAt(length - 1 - place),
                house.signBack(message, place));
        }
        for (int place : new int[] {length, length + 1, 40, 41, Integer.MAX_VALUE - 1, Integer.MAX_VALUE}) {
            Check.same("behind " + due, NONE, house.signAt(message, place));
            Check.same("ahead of " + due, NONE, house.signBack(message, place));
        }
    }

    // "entries, numbered from 0, in the order in which things happen": each, from the first to the last.
    private static void testEachEntry() {
        BoilerLog house = new BoilerLog();
        for (int entry = 0; entry < 100; entry++) {
            int next = entry;
            Check.throwsBounds("entry " + entry + " is not there yet", house, () -> house.entryAt(next));
            house.turn(entry % 3 * 3, entry / 2 % 8, entry % 2 == 0);
            Check.same("entries", entry + 1, house.entries());
        }
        for (int entry = 0; entry < 100; entry++) {
            int due = 100 * (entry % 3 * 3 + 1) + entry / 2 % 8 + (entry % 2 == 0 ? 10 : 0);
            Check.same("entry " + entry, due, house.entryAt(entry));
        }
    }

    // A house whose vessel is filled to a level, and whose valves are shut.
    private static BoilerLog filled(int vessel, int level) {
        BoilerLog house = new BoilerLog();
        if (level > 0) {
            house.pipe(0, NONE, vessel);
            house.turn(0, 0, true);
            house.advance(level / 10);
            house.turn(whoActs(house), 0, false);
        }
        return house;
    }

    private static int whoActs(BoilerLog house) {
        int person = house.hour() / 8 % 3;
        house.read(person);
        return person;
    }
}
