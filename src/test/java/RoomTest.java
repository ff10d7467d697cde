/** What happens when there are 40 tags, 10 alarms, 60 messages or 40 characters, and when there are none. */
public final class RoomTest {
    private static final int NONE = BoilerLog.NONE;

    public static void main(String[] args) {
        testFortyTags();
        testFortyTagsThatAreOff();
        testFortyTagsOnOneValve();
        testTenAlarms();
        testSixtyThreads();
        testSixtyMessagesInOneThread();
        testTheChatBehindSixtyMessages();
        testFortyCharacters();
        testFortyCharactersOfPairs();
        testAnEmptyText();
        testEmptyAfterPosting();
        testOthersThanThePersonOfATask();
        testPostOffDuty();
        Check.end();
    }

    // "tags are numbered from 0, and there can be 40": the numbers 0 to 39.
    private static void testFortyTags() {
        BoilerLog house = new BoilerLog();
        for (int tag = 0; tag < 40; tag++) {
            Check.same("tag " + tag, tag, house.hang(tag % 3 * 3, tag % 8));
            Check.same("its entry", 1000 + 100 * (tag % 3 * 3 + 1) + tag, house.entryAt(tag));
        }
        for (int person = 0; person < 9; person += 3) {
            int full = person;
            Check.throwsState("41 tags", house, () -> house.hang(full, 7));
        }
        for (int tag = 0; tag < 40; tag++) {
            Check.same("valve of " + tag, tag % 8, house.valveOf(tag));
            Check.same("owner of " + tag, tag % 3 * 3, house.ownerOf(tag));
        }
        for (int valve = 0; valve < 8; valve++) {
            Check.same("tags on " + valve, 5, house.tagsByLog(valve));
            Check.same("pipe tells them too", 5, house.pipe(valve, 1, 2));
        }
        Check.same("tags of 0", 14, house.leave(0));
        Check.same("tags of 3", 13, house.leave(3));
    }

    // "or there were 40": one that is off was there, and makes no room.
    private static void testFortyTagsThatAreOff() {
        BoilerLog house = new BoilerLog();
        for (int tag = 0; tag < 40; tag++) {
            Check.same("hang " + tag, tag, house.hang(0, tag % 8));
            Check.same("take off " + tag, true, house.takeOff(0, tag));
            Check.same("its entry", 2100 + tag, house.entryAt(2 * tag + 1));
        }
        Check.throwsState("there were 40", house, () -> house.hang(0, 0));
        for (int tag = 0; tag < 40; tag++) {
            Check.same("valve of " + tag, NONE, house.valveOf(tag));
            Check.same("owner of " + tag, 0, house.ownerOf(tag));
        }
        for (int valve = 0; valve < 8; valve++) {
            Check.same("tags on " + valve, 0, house.tagsByLog(valve));
            Check.same("pipe tells none", 0, house.pipe(valve, 1, 2));
        }
        Check.same("tags of 0", 0, house.leave(0));
    }

    private static void testFortyTagsOnOneValve() {
        BoilerLog house = new BoilerLog();
        for (int tag = 0; tag < 40; tag++) {
            Check.same("tags by log", tag, house.tagsByLog(6));
            house.hang(tag < 39 ? 3 : 0, 6);
        }
        Check.same("40 by log", 40, house.tagsByLog(6));
        Check.same("40 by pipe", 40, house.pipe(6, 0, 1));
        Check.same("the last one is another's", 3, house.obstacle(3, 6));
        house.takeOff(0, 39);
        Check.same("39 of its own", 0, house.obstacle(3, 6));
        Check.same("39 tags of it hang", 39, house.leave(3));
        Check.same("and keep hanging", 39, house.tagsByLog(6));
    }

    // "Alarms are numbered from 0; there can be 10": the numbers 0 to 9, each of which does its work.
    private static void testTenAlarms() {
        BoilerLog house = new BoilerLog();
        for (int alarm = 0; alarm < 10; alarm++) {
            int next = alarm;
            Check.throwsBounds("no alarm " + alarm + " yet", house, () -> house.stateOf(next));
            Check.same("alarm " + alarm, alarm, house.alarm(alarm % 3, 0, false, alarm % 8, alarm < 8));
            Check.same("quiet at first", BoilerLog.QUIET, house.stateOf(alarm));
        }
        Check.throwsState("11 alarms", house, () -> house.alarm(0, 0, true, 0, true));
        house.advance(1);
        Check.same("20 entries", 20, house.entries());
        for (int alarm = 0; alarm < 10; alarm++) {
            Check.same("raised " + alarm, 3000 + alarm, house.entryAt(2 * alarm));
            Check.same("turned by " + alarm, alarm % 8 + (alarm < 8 ? 10 : 0), house.entryAt(2 * alarm + 1));
            Check.same("answered " + alarm, BoilerLog.ANSWERED, house.stateOf(alarm));
        }
        for (int valve = 0; valve < 8; valve++) {
            Check.same("open " + valve, valve >= 2, house.isOpen(valve));
        }
    }

    // "there can be 60 messages", each of which may open a thread: the numbers 0 to 59.
    private static void testSixtyThreads() {
        BoilerLog house = new BoilerLog();
        for (int thread = 0; thread < 60; thread++) {
            int next = thread;
            Check.throwsBounds("no thread " + thread + " yet", house, () -> house.taskOf(next));
            Check.throwsBounds("no message " + thread + " yet", house, () -> house.signs(next));
            Check.same("thread " + thread, thread, Check.post(house, thread % 9, NONE, "@" + thread % 10));
            Check.same("messages", thread + 1, house.messages());
        }
        for (int thread = 0; thread < 60; thread++) {
            boolean isTask = thread % 10 < 9;
            Check.same("task of " + thread, isTask ? thread % 10 : NONE, house.taskOf(thread));
            Check.same("message " + thread, '0' + thread % 10, house.signBack(thread, 0));
        }
        Check.same("54 tasks", 54, house.entries());
        Check.same("the last one's entry", 5000 + 900 + 58, house.entryAt(53));
        for (int thread = 50; thread < 59; thread++) {
            house.finish(thread % 10, thread);
            Check.same("done " + thread, NONE, house.taskOf(thread));
            Check.same("its entry", 6000 + 100 * (thread % 10 + 1) + thread, house.entryAt(house.entries() - 1));
        }
        Check.throwsState("61 messages", house, () -> house.post(0, NONE));
    }

    private static void testSixtyMessagesInOneThread() {
        BoilerLog house = new BoilerLog();
        Check.same("opens one", 0, Check.post(house, 0, NONE, "a"));
        for (int message = 1; message < 60; message++) {
            Check.same("message " + message, 0, Check.post(house, message % 9, 0, "@" + message % 9));
            Check.same("task by " + message, message % 9, house.taskOf(0));
        }
        Check.same("60 messages", 60, house.messages());
        Check.same("59 entries", 59, house.entries());
        Check.write(house, "b");
        Check.throwsState("61 messages", house, () -> house.post(0, 0));
        Check.throwsState("61 messages, off duty", house, () -> house.post(1, NONE));
        Check.throwsBounds("there is one thread", house, () -> house.post(0, 1));
        Check.throwsBounds("and no task but its", house, () -> house.taskOf(1));
        house.finish(5, 0);
        Check.same("done", 6600, house.entryAt(59));
    }

    // 60 messages fill the chat, not the text that is written.
    private static void testTheChatBehindSixtyMessages() {
        BoilerLog house = new BoilerLog();
        for (int message = 0; message < 60; message++) {
            Check.post(house, 0, NONE, "x");
        }
        Check.same("nothing is written", 0, house.clear());
        for (int length = 1; length <= 40; length++) {
            Check.same("written still", length, house.insert(0, 'y'));
        }
        Check.same("whole still", true, house.isWhole());
        Check.throwsState("but not posted", house, () -> house.post(0, 59));
        Check.same("it is there still", 40, house.clear());
    }

    // "The text that is written has at most 40 characters".
    private static void testFortyCharacters() {
        BoilerLog house = new BoilerLog();
        fillAhead(house);
        Check.same("40 characters", 40, house.clear());
        fillAhead(house);
        house.post(0, NONE);
        for (int place = 0; place < 40; place++) {
            Check.same("sign " + place, 'A' + 40 - place, house.signAt(0, place));
        }
        Check.same("40 signs", 40, house.signs(0));
        Check.same("behind them", NONE, house.signAt(0, 40));
        Check.same("ahead of them", NONE, house.signBack(0, 40));
    }

    private static void fillAhead(BoilerLog house) {
        for (int length = 1; length <= 40; length++) {
            Check.same("insert ahead", length, house.insert(0, (char) ('A' + length)));
            Check.same("whole", true, house.isWhole());
        }
        Check.throwsState("41 characters", house, () -> house.insert(40, 'x'));
    }

    // At most 40 characters, not signs: 20 pairs fill the text.
    private static void testFortyCharactersOfPairs() {
        BoilerLog house = new BoilerLog();
        String pair = new String(Character.toChars(0x10FFFF));
        Check.write(house, pair.repeat(20));
        Check.throwsState("another high one", house, () -> house.insert(40, (char) 0xD800));
        Check.throwsState("a character between", house, () -> house.insert(20, 'x'));
        house.post(0, NONE);
        Check.same("20 signs", 20, house.signs(0));
        Check.same("the first", 0x10FFFF, house.signAt(0, 0));
        Check.same("the last", 0x10FFFF, house.signAt(0, 19));
        Check.same("behind", NONE, house.signAt(0, 20));
        Check.same("the first, backward", 0x10FFFF, house.signBack(0, 19));
        Check.same("ahead", NONE, house.signBack(0, 20));
        Check.write(house, "a" + pair.repeat(19) + (char) 0xDBFF);
        Check.same("a high one alone at the very end", false, house.isWhole());
        Check.write(house, pair.repeat(19) + "a" + (char) 0xDC00);
        Check.same("a low one alone at the very end", false, house.isWhole());
        Check.write(house, (char) 0xDC00 + pair.repeat(19) + "a");
        Check.same("a low one alone at the very beginning", false, house.isWhole());
        Check.write(house, (char) 0xDBFF + "a" + pair.repeat(19));
        Check.same("a high one alone at the very beginning", false, house.isWhole());
        Check.write(house, "a" + pair.repeat(19) + "b");
        Check.same("pairs from the second to the last but one", true, house.isWhole());
    }

    // "is empty at first. It is whole if it is not empty".
    private static void testAnEmptyText() {
        BoilerLog house = new BoilerLog();
        Check.same("not whole", false, house.isWhole());
        Check.same("no characters", 0, house.clear());
        Check.same("not whole when cleared", false, house.isWhole());
        Check.throwsState("not posted", house, () -> house.post(0, NONE));
        Check.throwsArgument("no place 1", house, () -> house.insert(1, 'a'));
        Check.same("place 0", 1, house.insert(0, 'a'));
        Check.same("whole", true, house.isWhole());
        Check.same("one character", 1, house.clear());
        Check.same("empty again", false, house.isWhole());
        Check.throwsState("not posted again", house, () -> house.post(0, NONE));
        Check.same("no message", 0, house.messages());
    }

    // "Then the text is empty."
    private static void testEmptyAfterPosting() {
        BoilerLog house = new BoilerLog();
        Check.write(house, "abc");
        house.post(0, NONE);
        Check.same("not whole", false, house.isWhole());
        Check.throwsArgument("no place 1", house, () -> house.insert(1, 'd'));
        Check.throwsState("not posted twice", house, () -> house.post(0, 0));
        Check.same("no characters", 0, house.clear());
        Check.write(house, "d");
        house.post(0, 0);
        Check.same("nothing of the first", 1, house.signs(1));
        Check.same("but its own", 'd', house.signAt(1, 0));
        Check.same("the first is as it was", 3, house.signs(0));
        Check.same("its last sign", 'c', house.signBack(0, 0));
    }

    // "The person of a task can say that it is done, if it has not left", and nobody else; each later
    // message may pass it on, or make a task of it again.
    private static void testOthersThanThePersonOfATask() {
        for (int person = 0; person < 9; person++) {
            BoilerLog house = new BoilerLog();
            Check.post(house, 8, NONE, "@" + person);
            for (int other = 0; other < 9; other++) {
                int finisher = other;
                if (other != person) {
                    Check.throwsState(other + " for " + person, house, () -> house.finish(finisher, 0));
                }
            }
            int next = (person + 1) % 9;
            int former = person;
            Check.post(house, 8, 0, "@" + next);
            Check.throwsState("passed on by " + person, house, () -> house.finish(former, 0));
            house.finish(next, 0);
            Check.throwsState("done by " + next, house, () -> house.finish(next, 0));
            Check.post(house, 8, 0, "@" + person);
            Check.same("again of " + person, person, house.taskOf(0));
            house.finish(person, 0);
            Check.same("two tasks passed on or done, and one again", 5, house.entries());
        }
    }

    // "A whole text can be posted by a person who has not left, on duty or not": nor must it have read.
    private static void testPostOffDuty() {
        BoilerLog house = new BoilerLog();
        house.hang(0, 0);
        house.advance(8);
        for (int person = 0; person < 9; person++) {
            Check.same("post by " + person, person, Check.post(house, person, NONE, "@" + person));
            house.finish(person, person);
            Check.same("done by " + person, NONE, house.taskOf(person));
        }
        Check.same("9 messages", 9, house.messages());
    }
}
