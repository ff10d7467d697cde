import java.util.ArrayList;
import java.util.Arrays;

public final class BoilerLog {
    public static final int NONE = -1;
    public static final int QUIET = 0, ANSWERED = 1, WAITING = 2;
    public static final int TURNED = 0, HUNG = 1, OFF = 2, RAISED = 3, LEFT = 4, TASK = 5, DONE = 6;

    private static final int PEOPLE = 9, VALVES = 8, VESSELS = 3;
    private static final int SHIFTS = 3, SHIFT_HOURS = 8;
    private static final int LAST_HOUR = 2000, MOST_HOURS_AT_ONCE = 100;
    private static final int FULL = 1000, FLOW = 10;
    private static final int MOST_TAGS = 40, MOST_ALARMS = 10, MOST_CHARACTERS = 40, MOST_MESSAGES = 60;
    private static final int FREE = 0, OFF_DUTY = 1, UNREAD = 2, TAGGED = 3;

    private final Valve[] valves = new Valve[VALVES];
    private final int[] levels = new int[VESSELS];
    private final boolean[] gone = new boolean[PEOPLE];
    private final int[] entriesRead = new int[PEOPLE];
    private final ArrayList<Tag> tags = new ArrayList<Tag>();
    private final ArrayList<Alarm> alarms = new ArrayList<Alarm>();
    private final ArrayList<Message> posted = new ArrayList<Message>();
    private final int[] tasks = new int[MOST_MESSAGES];
    private final Log log = new Log();
    private final Draft draft = new Draft();
    private int now = 0;
    private int entriesAtShiftStart = 0;
    private int lost = 0;
    private int threads = 0;

    public BoilerLog() {
        for (int valve = 0; valve < VALVES; valve++) {
            valves[valve] = new Valve();
        }
        Arrays.fill(tasks, NONE);
    }

    // ---- valves

    public int pipe(int valve, int from, int to)
            throws IndexOutOfBoundsException, IllegalArgumentException, IllegalStateException {
        checkValve(valve);
        if (!isEnd(from) || !isEnd(to) || from == to) {
            throw new IllegalArgumentException("no way for a valve");
        }
        Valve piped = valves[valve];
        if (piped.open) {
            throw new IllegalStateException("the valve is open");
        }
        piped.from = from;
        piped.to = to;
        return countTagsOn(valve);
    }

    public boolean turn(int person, int valve, boolean opens)
            throws IndexOutOfBoundsException, IllegalStateException {
        checkPerson(person);
        checkValve(valve);
        if (findObstacle(person, valve) != FREE) {
            throw new IllegalStateException("the person may not turn the valve");
        }
        return setValve(person, valve, opens);
    }

    public int obstacle(int person, int valve) throws IndexOutOfBoundsException {
        checkPerson(person);
        checkValve(valve);
        return findObstacle(person, valve);
    }

    public boolean isOpen(int valve) throws IndexOutOfBoundsException {
        checkValve(valve);
        return valves[valve].open;
    }

    public boolean isOpenByLog(int valve) throws IndexOutOfBoundsException {
        checkValve(valve);
        for (int entry = log.size() - 1; entry >= 0; entry--) {
            if (log.kindAt(entry) == TURNED && log.valveTurnedAt(entry) == valve) {
                return log.opensAt(entry);
            }
        }
        return false;
    }

    public int level(int vessel) throws IndexOutOfBoundsException {
        checkVessel(vessel);
        return levels[vessel];
    }

    public int spilled() {
        return lost;
    }

    // ---- tags

    public int hang(int person, int valve) throws IndexOutOfBoundsException, IllegalStateException {
        checkPerson(person);
        checkValve(valve);
        if (!isAble(person) || tags.size() >= MOST_TAGS) {
            throw new IllegalStateException("the person may not hang a tag");
        }
        int tag = tags.size();
        tags.add(new Tag(person, valve));
        log.note(now, HUNG, person, tag);
        return tag;
    }

    public boolean takeOff(int person, int tag) throws IndexOutOfBoundsException, IllegalStateException {
        checkPerson(person);
        checkTag(tag);
        Tag taken = tags.get(tag);
        if (taken.off || !isAble(person) || person != taken.owner && !gone[taken.owner]) {
            throw new IllegalStateException("the person may not take the tag off");
        }
        if (person != taken.owner && isFirstToAsk(taken, person)) {
            taken.firstAsker = person;
            return false;
        }
        taken.off = true;
        log.note(now, OFF, person, tag);
        return true;
    }

    public int valveOf(int tag) throws IndexOutOfBoundsException {
        checkTag(tag);
        Tag hung = tags.get(tag);
        return hung.off ? NONE : hung.valve;
    }

    public int ownerOf(int tag) throws IndexOutOfBoundsException {
        checkTag(tag);
        return tags.get(tag).owner;
    }

    public int tagsByLog(int valve) throws IndexOutOfBoundsException {
        checkValve(valve);
        int hanging = 0;
        for (int entry = 0; entry < log.size(); entry++) {
            int kind = log.kindAt(entry);
            if ((kind == HUNG || kind == OFF) && wasHungOn(log.whatAt(entry), valve)) {
                hanging += kind == HUNG ? 1 : -1;
            }
        }
        return hanging;
    }

    // ---- people, hours, the log

    public int read(int person) throws IndexOutOfBoundsException, IllegalStateException {
        checkPerson(person);
        checkNotGone(person);
        int unread = log.size() - entriesRead[person];
        entriesRead[person] = log.size();
        return unread;
    }

    public int leave(int person) throws IndexOutOfBoundsException, IllegalStateException {
        checkPerson(person);
        checkNotGone(person);
        gone[person] = true;
        log.note(now, LEFT, person, 0);
        int hanging = 0;
        for (int tag = 0; tag < tags.size(); tag++) {
            Tag hung = tags.get(tag);
            if (!hung.off && hung.owner == person) {
                hanging++;
            }
        }
        return hanging;
    }

    public boolean canAct(int person) throws IndexOutOfBoundsException {
        checkPerson(person);
        return isAble(person);
    }

    public int advance(int hours) throws IllegalArgumentException, IllegalStateException {
        if (hours < 1 || hours > MOST_HOURS_AT_ONCE) {
            throw new IllegalArgumentException("too few or too many hours");
        }
        if (now + hours > LAST_HOUR) {
            throw new IllegalStateException("too late an hour");
        }
        for (int ended = 0; ended < hours; ended++) {
            endHour();
        }
        return now;
    }

    public int hour() {
        return now;
    }

    public int entries() {
        return log.size();
    }

    public int entryAt(int entry) throws IndexOutOfBoundsException {
        if (entry < 0 || entry >= log.size()) {
            throw new IndexOutOfBoundsException("no such entry");
        }
        return log.codeAt(entry);
    }

    // ---- alarms

    public int alarm(int vessel, int limit, boolean isHigh, int valve, boolean opens)
            throws IndexOutOfBoundsException, IllegalArgumentException, IllegalStateException {
        checkVessel(vessel);
        checkValve(valve);
        if (limit < 0 || limit > FULL) {
            throw new IllegalArgumentException("no such level");
        }
        if (alarms.size() >= MOST_ALARMS) {
            throw new IllegalStateException("too many alarms");
        }
        alarms.add(new Alarm(vessel, limit, isHigh, valve, opens));
        return alarms.size() - 1;
    }

    public int stateOf(int alarm) throws IndexOutOfBoundsException {
        if (alarm < 0 || alarm >= alarms.size()) {
            throw new IndexOutOfBoundsException("no such alarm");
        }
        return alarms.get(alarm).state;
    }

    // ---- the chat

    public int insert(int place, char character) throws IllegalArgumentException, IllegalStateException {
        if (place < 0 || place > draft.length()) {
            throw new IllegalArgumentException("no such place in the text");
        }
        if (draft.length() >= MOST_CHARACTERS) {
            throw new IllegalStateException("the text is full");
        }
        draft.put(place, character);
        return draft.length();
    }

    public int clear() {
        int before = draft.length();
        draft.wipe();
        return before;
    }

    public boolean isWhole() {
        return draft.isComplete();
    }

    public int post(int person, int thread) throws IndexOutOfBoundsException, IllegalStateException {
        checkPerson(person);
        if (thread != NONE) {
            checkThread(thread);
        }
        checkNotGone(person);
        if (!draft.isComplete() || posted.size() >= MOST_MESSAGES) {
            throw new IllegalStateException("the text cannot be posted");
        }
        Message message = new Message(draft.toSigns());
        posted.add(message);
        draft.wipe();
        int joined = thread;
        if (thread == NONE) {
            joined = threads;
            threads++;
        }
        assign(joined, message.personCalled());
        return joined;
    }

    public void finish(int person, int thread) throws IndexOutOfBoundsException, IllegalStateException {
        checkPerson(person);
        checkThread(thread);
        checkNotGone(person);
        if (tasks[thread] != person) {
            throw new IllegalStateException("no open task of the person");
        }
        tasks[thread] = NONE;
        log.note(now, DONE, person, thread);
    }

    public int taskOf(int thread) throws IndexOutOfBoundsException {
        checkThread(thread);
        return tasks[thread];
    }

    public int messages() {
        return posted.size();
    }

    public int signs(int message) throws IndexOutOfBoundsException {
        checkMessage(message);
        return posted.get(message).length();
    }

    public int signAt(int message, int place) throws IndexOutOfBoundsException {
        checkMessage(message);
        checkPlace(place);
        return posted.get(message).get(place);
    }

    public int signBack(int message, int place) throws IndexOutOfBoundsException {
        checkMessage(message);
        checkPlace(place);
        Message read = posted.get(message);
        return read.get(read.length() - 1 - place);
    }

    // ---- what the calls share

    private static void checkPerson(int person) {
        if (person < 0 || person >= PEOPLE) {
            throw new IndexOutOfBoundsException("no such person");
        }
    }

    private static void checkValve(int valve) {
        if (valve < 0 || valve >= VALVES) {
            throw new IndexOutOfBoundsException("no such valve");
        }
    }

    private static void checkVessel(int vessel) {
        if (!isVessel(vessel)) {
            throw new IndexOutOfBoundsException("no such vessel");
        }
    }

    private void checkTag(int tag) {
        if (tag < 0 || tag >= tags.size()) {
            throw new IndexOutOfBoundsException("no such tag");
        }
    }

    private void checkThread(int thread) {
        if (thread < 0 || thread >= threads) {
            throw new IndexOutOfBoundsException("no such thread");
        }
    }

    private void checkMessage(int message) {
        if (message < 0 || message >= posted.size()) {
            throw new IndexOutOfBoundsException("no such message");
        }
    }

    private static void checkPlace(int place) {
        if (place < 0) {
            throw new IndexOutOfBoundsException("no such place in a message");
        }
    }

    private void checkNotGone(int person) {
        if (gone[person]) {
            throw new IllegalStateException("the person has left");
        }
    }

    private static boolean isVessel(int vessel) {
        return vessel >= 0 && vessel < VESSELS;
    }

    private static boolean isEnd(int end) {
        return end == NONE || isVessel(end);
    }

    private boolean isOnDuty(int person) {
        return !gone[person] && person % SHIFTS == now / SHIFT_HOURS % SHIFTS;
    }

    private boolean isAble(int person) {
        return isOnDuty(person) && entriesRead[person] >= entriesAtShiftStart;
    }

    private int findObstacle(int person, int valve) {
        if (!isOnDuty(person)) {
            return OFF_DUTY;
        }
        if (!isAble(person)) {
            return UNREAD;
        }
        return hasTagOfAnother(valve, person) ? TAGGED : FREE;
    }

    private boolean hasTagOfAnother(int valve, int person) {
        for (int tag = 0; tag < tags.size(); tag++) {
            Tag hung = tags.get(tag);
            if (!hung.off && hung.valve == valve && hung.owner != person) {
                return true;
            }
        }
        return false;
    }

    private int countTagsOn(int valve) {
        int hanging = 0;
        for (int tag = 0; tag < tags.size(); tag++) {
            Tag hung = tags.get(tag);
            if (!hung.off && hung.valve == valve) {
                hanging++;
            }
        }
        return hanging;
    }

    private boolean wasHungOn(int tag, int valve) {
        return tag >= 0 && tag < tags.size() && tags.get(tag).valve == valve;
    }

    // One name is enough to remember: the next different one takes the tag off.
    private static boolean isFirstToAsk(Tag tag, int person) {
        return tag.firstAsker == NONE || tag.firstAsker == person;
    }

    private boolean setValve(int who, int valve, boolean opens) {
        Valve turned = valves[valve];
        if (turned.open == opens) {
            return false;
        }
        turned.open = opens;
        log.noteTurn(now, who, valve, opens);
        return true;
    }

    private void assign(int thread, int person) {
        if (person != NONE) {
            tasks[thread] = person;
            log.note(now, TASK, person, thread);
        }
    }

    private void endHour() {
        for (int valve = 0; valve < VALVES; valve++) {
            if (valves[valve].open) {
                leadOn(valves[valve].from, valves[valve].to);
            }
        }
        for (int alarm = 0; alarm < alarms.size(); alarm++) {
            watch(alarm);
        }
        now++;
        if (now % SHIFT_HOURS == 0) {
            entriesAtShiftStart = log.size();
        }
    }

    // Spills at once, not after the last valve: a level is never above its 1000.
    private void leadOn(int from, int to) {
        int amount = FLOW;
        if (isVessel(from)) {
            amount = Math.min(FLOW, levels[from]);
            levels[from] -= amount;
        }
        if (isVessel(to)) {
            int filled = levels[to] + amount;
            levels[to] = Math.min(FULL, filled);
            lost += filled - levels[to];
        }
    }

    private void watch(int number) {
        Alarm alarm = alarms.get(number);
        if (!alarm.isMetBy(levels[alarm.vessel])) {
            alarm.state = QUIET;
            return;
        }
        if (alarm.state == ANSWERED) {
            return;
        }
        if (alarm.state == QUIET) {
            log.note(now, RAISED, NONE, number);
        }
        // An alarm owns no tag, so to it every tag is another's.
        if (hasTagOfAnother(alarm.valve, NONE)) {
            alarm.state = WAITING;
            return;
        }
        setValve(NONE, alarm.valve, alarm.opens);
        alarm.state = ANSWERED;
    }

    private static final class Valve {
        private boolean open = false;
        private int from = NONE;
        private int to = 0;
    }

    private static final class Tag {
        private final int owner;
        private final int valve;
        private int firstAsker = NONE;
        private boolean off = false;

        private Tag(int owner, int valve) {
            this.owner = owner;
            this.valve = valve;
        }
    }

    private static final class Alarm {
        private final int vessel;
        private final int limit;
        private final boolean high;
        private final int valve;
        private final boolean opens;
        private int state = QUIET;

        private Alarm(int vessel, int limit, boolean high, int valve, boolean opens) {
            this.vessel = vessel;
            this.limit = limit;
            this.high = high;
            this.valve = valve;
            this.opens = opens;
        }

        private boolean isMetBy(int reached) {
            return high ? reached >= limit : reached <= limit;
        }
    }

    /** Entries as the numbers that entryAt answers, which tell all that an entry holds. */
    private static final class Log {
        private static final int PER_HOUR = 10000, PER_KIND = 1000, PER_PERSON = 100, OPENED = 10;
        private static final int FIRST_ROOM = 16;
        // No run has more: 512 calls with an entry each, and 10 alarms that are raised
        // and turn a valve at every second of 2000 hours.
        private static final int MOST_ENTRIES = 20512;

        private int[] codes = new int[FIRST_ROOM];
        private int count = 0;

        private int size() {
            return count;
        }

        private void note(int hour, int kind, int who, int what) {
            if (count >= MOST_ENTRIES) {
                return;
            }
            if (count >= codes.length) {
                codes = Arrays.copyOf(codes, 2 * codes.length);
            }
            codes[count] = PER_HOUR * hour + PER_KIND * kind + PER_PERSON * (who + 1) + what;
            count++;
        }

        private void noteTurn(int hour, int who, int valve, boolean opens) {
            note(hour, TURNED, who, opens ? valve + OPENED : valve);
        }

        private int codeAt(int entry) {
            return codes[entry];
        }

        private int kindAt(int entry) {
            return codes[entry] % PER_HOUR / PER_KIND;
        }

        private int whatAt(int entry) {
            return codes[entry] % PER_PERSON;
        }

        private int valveTurnedAt(int entry) {
            return whatAt(entry) % OPENED;
        }

        private boolean opensAt(int entry) {
            return whatAt(entry) >= OPENED;
        }
    }

    /** The text that is written, which need not be whole yet. */
    private static final class Draft {
        private static final int FIRST_HIGH = 0xD800, FIRST_LOW = 0xDC00, BEHIND_LOW = 0xE000;
        private static final int FIRST_PAIR = 0x10000, LOW_BITS = 10;

        private final char[] characters = new char[MOST_CHARACTERS];
        private int count = 0;

        private int length() {
            return count;
        }

        private void put(int place, char character) {
            for (int moved = count; moved > place; moved--) {
                characters[moved] = characters[moved - 1];
            }
            characters[place] = character;
            count++;
        }

        private void wipe() {
            count = 0;
        }

        private boolean isComplete() {
            boolean isBehindHigh = false;
            for (int place = 0; place < count; place++) {
                if (isLow(characters[place]) != isBehindHigh) {
                    return false;
                }
                isBehindHigh = isHigh(characters[place]);
            }
            return count > 0 && !isBehindHigh;
        }

        private int[] toSigns() {
            int[] signs = new int[count - countHigh()];
            int place = 0;
            for (int sign = 0; sign < signs.length && place < count; sign++) {
                char first = characters[place];
                if (isHigh(first) && place + 1 < count) {
                    signs[sign] = join(first, characters[place + 1]);
                    place += 2;
                } else {
                    signs[sign] = first;
                    place++;
                }
            }
            return signs;
        }

        private int countHigh() {
            int high = 0;
            for (int place = 0; place < count; place++) {
                if (isHigh(characters[place])) {
                    high++;
                }
            }
            return high;
        }

        private static boolean isHigh(char character) {
            return character >= FIRST_HIGH && character < FIRST_LOW;
        }

        private static boolean isLow(char character) {
            return character >= FIRST_LOW && character < BEHIND_LOW;
        }

        private static int join(char high, char low) {
            return FIRST_PAIR + ((high - FIRST_HIGH) << LOW_BITS) + (low - FIRST_LOW);
        }
    }

    private static final class Message {
        private final int[] content;

        private Message(int[] content) {
            this.content = content;
        }

        private int length() {
            return content.length;
        }

        private int get(int place) {
            return place >= 0 && place < content.length ? content[place] : NONE;
        }

        private int personCalled() {
            for (int place = content.length - 2; place >= 0; place--) {
                int digit = content[place + 1] - '0';
                if (content[place] == '@' && digit >= 0 && digit < PEOPLE) {
                    return digit;
                }
            }
            return NONE;
        }
    }
}
