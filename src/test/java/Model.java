import java.util.ArrayList;
import java.util.HashMap;
import java.util.HashSet;
import java.util.List;
import java.util.Map;
import java.util.Set;

/**
 * The document once more, written another way: what can be found from the list of events is found
 * from there each time, and texts are Java's strings. Each call answers a number, or how it throws.
 */
final class Model {
    static final long BOUNDS = Long.MIN_VALUE, ARGUMENT = Long.MIN_VALUE + 1, STATE = Long.MIN_VALUE + 2;

    private record Event(int hour, int kind, int who, int what, int valve, boolean opens) {
    }

    private static final class Watch {
        int vessel, limit, valve;
        boolean high, opens;
        int state = 0;
    }

    private final List<Event> events = new ArrayList<>();
    private final Map<Integer, Integer> readUpTo = new HashMap<>();
    private final List<Set<Integer>> askers = new ArrayList<>();
    private final List<Watch> watches = new ArrayList<>();
    private final List<String> texts = new ArrayList<>();
    private final int[] from = {-1, -1, -1, -1, -1, -1, -1, -1};
    private final int[] to = new int[8];
    private final int[] level = new int[3];
    private String text = "";
    private int spilled = 0, hour = 0, atShiftStart = 0, threads = 0;

    long pipe(int valve, int source, int target) {
        if (isNo(valve, 8)) {
            return BOUNDS;
        }
        if (source < -1 || source > 2 || target < -1 || target > 2 || source == target) {
            return ARGUMENT;
        }
        if (open(valve)) {
            return STATE;
        }
        from[valve] = source;
        to[valve] = target;
        return hanging(valve, -1).size();
    }

    long turn(int person, int valve, boolean opens) {
        long obstacle = obstacle(person, valve);
        if (obstacle == BOUNDS) {
            return BOUNDS;
        }
        return obstacle > 0 ? STATE : set(person, valve, opens) ? 1 : 0;
    }

    long obstacle(int person, int valve) {
        if (isNo(person, 9) || isNo(valve, 8)) {
            return BOUNDS;
        }
        if (left(person) || (hour % 24) / 8 != person % 3) {
            return 1;
        }
        if (readUpTo.getOrDefault(person, 0) < atShiftStart) {
            return 2;
        }
        return hanging(valve, person).isEmpty() ? 0 : 3;
    }

    long isOpen(int valve) {
        return isNo(valve, 8) ? BOUNDS : open(valve) ? 1 : 0;
    }

    long level(int vessel) {
        return isNo(vessel, 3) ? BOUNDS : level[vessel];
    }

    long spilled() {
        return spilled;
    }

    long hang(int person, int valve) {
        if (isNo(person, 9) || isNo(valve, 8)) {
            return BOUNDS;
        }
        if (canAct(person) == 0 || askers.size() == 40) {
            return STATE;
        }
        askers.add(new HashSet<>());
        events.add(new Event(hour, 1, person, askers.size() - 1, valve, false));
        return askers.size() - 1;
    }

    long takeOff(int person, int tag) {
        if (isNo(person, 9) || isNo(tag, askers.size())) {
            return BOUNDS;
        }
        int owner = hungAs(tag).who;
        if (isOff(tag) || canAct(person) == 0) {
            return STATE;
        }
        if (person != owner) {
            if (!left(owner)) {
                return STATE;
            }
            askers.get(tag).add(person);
            if (askers.get(tag).size() < 2) {
                return 0;
            }
        }
        events.add(new Event(hour, 2, person, tag, hungAs(tag).valve, false));
        return 1;
    }

    long valveOf(int tag) {
        return isNo(tag, askers.size()) ? BOUNDS : isOff(tag) ? -1 : hungAs(tag).valve;
    }

    long ownerOf(int tag) {
        return isNo(tag, askers.size()) ? BOUNDS : hungAs(tag).who;
    }

    long tagsByLog(int valve) {
        return isNo(valve, 8) ? BOUNDS : hanging(valve, -1).size();
    }

    long read(int person) {
        if (isNo(person, 9)) {
            return BOUNDS;
        }
        if (left(person)) {
            return STATE;
        }
        int before = readUpTo.getOrDefault(person, 0);
        readUpTo.put(person, events.size());
        return events.size() - before;
    }

    long leave(int person) {
        if (isNo(person, 9)) {
            return BOUNDS;
        }
        if (left(person)) {
            return STATE;
        }
        events.add(new Event(hour, 4, person, 0, -1, false));
        return events.stream().filter(e -> e.kind == 1 && e.who == person && !isOff(e.what)).count();
    }

    long canAct(int person) {
        long obstacle = obstacle(person, 0);
        return obstacle == BOUNDS ? BOUNDS : obstacle == 0 || obstacle == 3 ? 1 : 0;
    }

    long advance(int hours) {
        if (hours < 1 || hours > 100) {
            return ARGUMENT;
        }
        if (hour + hours > 2000) {
            return STATE;
        }
        int end = hour + hours;
        while (hour < end) {
            flow();
            for (int number = 0; number < watches.size(); number++) {
                look(number);
            }
            hour++;
            atShiftStart = hour % 8 == 0 ? events.size() : atShiftStart;
        }
        return hour;
    }

    long hour() {
        return hour;
    }

    long entries() {
        return events.size();
    }

    long entryAt(int entry) {
        if (isNo(entry, events.size())) {
            return BOUNDS;
        }
        Event event = events.get(entry);
        int what = event.kind == 0 ? event.valve + (event.opens ? 10 : 0) : event.what;
        return 10000L * event.hour + 1000 * event.kind + 100 * (event.who + 1) + what;
    }

    long alarm(int vessel, int limit, boolean high, int valve, boolean opens) {
        if (isNo(vessel, 3) || isNo(valve, 8)) {
            return BOUNDS;
        }
        if (limit < 0 || limit > 1000) {
            return ARGUMENT;
        }
        if (watches.size() == 10) {
            return STATE;
        }
        Watch watch = new Watch();
        watch.vessel = vessel;
        watch.limit = limit;
        watch.high = high;
        watch.valve = valve;
        watch.opens = opens;
        watches.add(watch);
        return watches.size() - 1;
    }

    long stateOf(int alarm) {
        return isNo(alarm, watches.size()) ? BOUNDS : watches.get(alarm).state;
    }

    long insert(int place, char character) {
        if (place < 0 || place > text.length()) {
            return ARGUMENT;
        }
        if (text.length() == 40) {
            return STATE;
        }
        text = text.substring(0, place) + character + text.substring(place);
        return text.length();
    }

    long clear() {
        int before = text.length();
        text = "";
        return before;
    }

    long isWhole() {
        boolean lonely = text.codePoints().anyMatch(sign -> sign >= 0xD800 && sign <= 0xDFFF);
        return text.isEmpty() || lonely ? 0 : 1;
    }

    long post(int person, int thread) {
        if (isNo(person, 9) || thread != -1 && isNo(thread, threads)) {
            return BOUNDS;
        }
        if (left(person) || isWhole() == 0 || texts.size() == 60) {
            return STATE;
        }
        int joined = thread == -1 ? threads++ : thread;
        texts.add(text);
        java.util.regex.Matcher places = java.util.regex.Pattern.compile("@([0-8])").matcher(text);
        int called = -1;
        while (places.find()) {
            called = Integer.parseInt(places.group(1));
        }
        if (called >= 0) {
            events.add(new Event(hour, 5, called, joined, -1, false));
        }
        text = "";
        return joined;
    }

    long finish(int person, int thread) {
        if (isNo(person, 9) || isNo(thread, threads)) {
            return BOUNDS;
        }
        if (left(person) || taskOf(thread) != person) {
            return STATE;
        }
        events.add(new Event(hour, 6, person, thread, -1, false));
        return 0;
    }

    long taskOf(int thread) {
        if (isNo(thread, threads)) {
            return BOUNDS;
        }
        long person = -1;
        for (Event event : events) {
            if (event.kind >= 5 && event.what == thread) {
                person = event.kind == 5 ? event.who : -1;
            }
        }
        return person;
    }

    long messages() {
        return texts.size();
    }

    long signs(int message) {
        return isNo(message, texts.size()) ? BOUNDS : texts.get(message).codePoints().count();
    }

    long signAt(int message, int place) {
        if (isNo(message, texts.size()) || place < 0) {
            return BOUNDS;
        }
        return texts.get(message).codePoints().skip(place).findFirst().orElse(-1);
    }

    long signBack(int message, int place) {
        if (isNo(message, texts.size()) || place < 0) {
            return BOUNDS;
        }
        String backward = new StringBuilder(texts.get(message)).reverse().toString();
        return backward.codePoints().skip(place).findFirst().orElse(-1);
    }

    int textLength() {
        return text.length();
    }

    int tags() {
        return askers.size();
    }

    int alarms() {
        return watches.size();
    }

    int threads() {
        return threads;
    }

    private static boolean isNo(int number, int count) {
        return number < 0 || number >= count;
    }

    private boolean left(int person) {
        return events.stream().anyMatch(e -> e.kind == 4 && e.who == person);
    }

    private boolean open(int valve) {
        boolean opens = false;
        for (Event event : events) {
            opens = event.kind == 0 && event.valve == valve ? event.opens : opens;
        }
        return opens;
    }

    private Event hungAs(int tag) {
        return events.stream().filter(e -> e.kind == 1 && e.what == tag).findFirst().orElseThrow();
    }

    private boolean isOff(int tag) {
        return events.stream().anyMatch(e -> e.kind == 2 && e.what == tag);
    }

    // The tags on a valve, but for those of one person.
    private List<Integer> hanging(int valve, int but) {
        List<Integer> found = new ArrayList<>();
        for (Event event : events) {
            if (event.kind == 1 && event.valve == valve && event.who != but && !isOff(event.what)) {
                found.add(event.what);
            }
        }
        return found;
    }

    private boolean set(int who, int valve, boolean opens) {
        if (open(valve) == opens) {
            return false;
        }
        events.add(new Event(hour, 0, who, -1, valve, opens));
        return true;
    }

    private void flow() {
        for (int valve = 0; valve < 8; valve++) {
            if (!open(valve)) {
                continue;
            }
            int amount = from[valve] == -1 ? 10 : Math.min(10, level[from[valve]]);
            if (from[valve] != -1) {
                level[from[valve]] -= amount;
            }
            for (int unit = 0; unit < amount && to[valve] != -1; unit++) {
                if (level[to[valve]] == 1000) {
                    spilled++;
                } else {
                    level[to[valve]]++;
                }
            }
        }
    }

    private void look(int number) {
        Watch watch = watches.get(number);
        int reached = level[watch.vessel];
        if (watch.high && reached < watch.limit || !watch.high && reached > watch.limit) {
            watch.state = 0;
            return;
        }
        boolean isRaised = watch.state == 0;
        if (isRaised) {
            events.add(new Event(hour, 3, -1, number, -1, false));
        }
        if (isRaised || watch.state == 2) {
            boolean isTagged = !hanging(watch.valve, -1).isEmpty();
            if (!isTagged) {
                set(-1, watch.valve, watch.opens);
            }
            watch.state = isTagged ? 2 : 1;
        }
    }
}
