import java.util.Random;

/**
 * Runs of 512 calls, drawn from fixed seeds, on an object and on the model: each answers the same,
 * and a call that throws changes nothing that can be seen.
 */
public final class RandomRunsTest {
    private static final int RUNS = 400, CALLS = 512;
    private static final String[] NAMES = {"pipe", "turn", "obstacle", "isOpen", "isOpenByLog", "level", "spilled",
        "hang", "takeOff", "valveOf", "ownerOf", "tagsByLog", "read", "leave", "canAct", "advance", "hour",
        "entries", "entryAt", "alarm", "stateOf", "insert", "clear", "isWhole", "post", "finish", "taskOf",
        "messages", "signs", "signAt", "signBack"};
    // For a while the calls come from one part of the class, so that its rows fill up.
    private static final String[][] MOODS = {
        {"pipe", "turn", "turn", "turn", "hang", "read", "advance"},
        {"hang", "takeOff", "hang", "read", "takeOff", "turn", "advance"},
        {"advance", "alarm", "pipe", "turn", "read", "turn", "advance"},
        {"insert", "insert", "insert", "insert", "insert", "insert", "post", "finish"},
        {"takeOff", "takeOff", "takeOff", "read", "obstacle"},
        {"insert", "post", "insert", "post", "finish", "isWhole"},
        {"advance", "advance", "read", "turn", "stateOf"},
        {"insert"},
    };

    private final BoilerLog house = new BoilerLog();
    private final Model model = new Model();
    private final Random random;
    private final int seed;
    private int thrown = 0;

    private RandomRunsTest(int seed) {
        this.seed = seed;
        this.random = new Random(seed);
    }

    public static void main(String[] args) {
        long thrown = 0;
        for (int seed = 0; seed < RUNS; seed++) {
            RandomRunsTest run = new RandomRunsTest(seed);
            run.run();
            thrown += run.thrown;
        }
        // Else the runs would be too wild, or too tame, to tell much.
        Check.same("a fair share of calls throws", true, thrown > RUNS * CALLS / 20 && thrown < RUNS * CALLS / 2);
        Check.end();
    }

    private void run() {
        for (int call = 0; call < CALLS; call++) {
            String name = nextName(call);
            int[] given = argumentsOf(name);
            String before = call % 16 == 0 ? View.of(house) : null;
            long due = onModel(name, given);
            boolean isThrown = due <= Model.STATE;
            thrown += isThrown ? 1 : 0;
            if (!isSame(call, name, given, due)) {
                return;
            }
            if (isThrown && before != null && !before.equals(View.of(house))) {
                Check.fail("seed " + seed + ", call " + call + ": " + name + " threw and changed something");
            }
        }
        compareRows();
    }

    private boolean isSame(int call, String name, int[] given, long due) {
        long got = onHouse(name, given);
        if (got != due) {
            Check.fail("seed " + seed + ", call " + call + ": " + name + java.util.Arrays.toString(given)
                + " answered " + got + ", due is " + due);
        }
        return got == due;
    }

    private void compareRows() {
        String[] rows = {"isOpen", "isOpenByLog", "level", "valveOf", "ownerOf", "tagsByLog", "canAct", "entryAt",
            "stateOf", "taskOf", "signs"};
        int most = Math.max(62, house.entries() + 1);
        for (String name : rows) {
            for (int row = -1; row < (name.equals("entryAt") ? most : 62); row++) {
                isSame(CALLS, name, new int[] {row}, onModel(name, new int[] {row}));
            }
        }
        for (int first = 0; first < 60; first++) {
            for (int second = -1; second < 42; second++) {
                for (String name : new String[] {"signAt", "signBack", "obstacle"}) {
                    int[] given = {first, second};
                    isSame(CALLS, name, given, onModel(name, given));
                }
            }
        }
    }

    private String nextName(int call) {
        if (random.nextInt(3) == 0) {
            String name = NAMES[random.nextInt(NAMES.length)];
            boolean isRare = name.equals("leave") || name.equals("clear");
            return isRare && random.nextInt(4) > 0 ? "read" : name;
        }
        String[] mood = MOODS[(call / 40 + seed) % MOODS.length];
        return mood[random.nextInt(mood.length)];
    }

    private int[] argumentsOf(String name) {
        return switch (name) {
            case "pipe" -> new int[] {near(8), near(4) - 1, near(4) - 1};
            case "turn" -> new int[] {person(), near(8), random.nextInt(2)};
            case "obstacle", "hang" -> new int[] {person(), near(8)};
            case "isOpen", "isOpenByLog", "tagsByLog" -> new int[] {near(8)};
            case "level" -> new int[] {near(3)};
            case "takeOff" -> new int[] {person(), near(model.tags())};
            case "valveOf", "ownerOf" -> new int[] {near(model.tags())};
            case "read", "leave", "canAct" -> new int[] {person()};
            case "advance" -> new int[] {hours()};
            case "entryAt" -> new int[] {near(house.entries())};
            case "alarm" -> new int[] {near(3), limit(), random.nextInt(2), near(8), random.nextInt(2)};
            case "stateOf" -> new int[] {near(model.alarms())};
            case "insert" -> new int[] {near(2) == 0 ? near(model.textLength() + 1) : model.textLength(), character()};
            case "post" -> new int[] {person(), random.nextInt(2) == 0 ? -1 : near(model.threads())};
            case "finish" -> finishing();
            case "taskOf" -> new int[] {near(model.threads())};
            case "signs" -> new int[] {near(house.messages())};
            case "signAt", "signBack" -> new int[] {near(house.messages()), near(42)};
            default -> new int[0];
        };
    }

    // Mostly below a count, at times a little or far beside it.
    private int near(int count) {
        int drawn = random.nextInt(100);
        if (drawn == 0) {
            return random.nextBoolean() ? Integer.MAX_VALUE : Integer.MIN_VALUE;
        }
        return drawn < 6 ? random.nextInt(count + 4) - 2 : random.nextInt(Math.max(1, count));
    }

    // Often one of the shift, else most calls would throw.
    private int person() {
        return random.nextInt(4) > 0 ? house.hour() / 8 % 3 + 3 * random.nextInt(3) : near(9);
    }

    private int hours() {
        int[] few = {1, 1, 1, 2, 3, 5, 7, 8, 8, 16, 24, 0, 101};
        return seed % 3 == 0 ? near(102) : few[random.nextInt(few.length)];
    }

    private int limit() {
        return random.nextBoolean() ? near(60) : near(1001);
    }

    private int character() {
        char[] some = {'@', '@', '@', '0', '3', '8', '9', 'a', '5', '/', ':', (char) 0xD800, (char) 0xDC00,
            (char) 0xDBFF, (char) 0xDFFF, (char) 0xD7FF, (char) 0xE000, 0, (char) 0xFFFF};
        return some[random.nextInt(seed % 2 == 0 ? 11 : some.length)];
    }

    private int[] finishing() {
        int thread = near(model.threads());
        long person = model.taskOf(thread);
        return new int[] {person >= 0 && random.nextInt(3) > 0 ? (int) person : person(), thread};
    }

    private long onHouse(String name, int[] given) {
        try {
            return answerOfHouse(name, given);
        } catch (RuntimeException thrown) {
            Class<?> kind = Check.isOwnThrow(thrown) ? thrown.getClass() : null;
            return kind == IndexOutOfBoundsException.class ? Model.BOUNDS
                : kind == IllegalArgumentException.class ? Model.ARGUMENT
                : kind == IllegalStateException.class ? Model.STATE : Long.MAX_VALUE;
        }
    }

    private long answerOfHouse(String name, int[] given) {
        switch (name) {
            case "pipe": return house.pipe(given[0], given[1], given[2]);
            case "turn": return house.turn(given[0], given[1], given[2] == 1) ? 1 : 0;
            case "obstacle": return house.obstacle(given[0], given[1]);
            case "isOpen": return house.isOpen(given[0]) ? 1 : 0;
            case "isOpenByLog": return house.isOpenByLog(given[0]) ? 1 : 0;
            case "level": return house.level(given[0]);
            case "spilled": return house.spilled();
            case "hang": return house.hang(given[0], given[1]);
            case "takeOff": return house.takeOff(given[0], given[1]) ? 1 : 0;
            case "valveOf": return house.valveOf(given[0]);
            case "ownerOf": return house.ownerOf(given[0]);
            case "tagsByLog": return house.tagsByLog(given[0]);
            case "read": return house.read(given[0]);
            case "leave": return house.leave(given[0]);
            case "canAct": return house.canAct(given[0]) ? 1 : 0;
            case "advance": return house.advance(given[0]);
            case "hour": return house.hour();
            case "entries": return house.entries();
            case "entryAt": return house.entryAt(given[0]);
            case "alarm": return house.alarm(given[0], given[1], given[2] == 1, given[3], given[4] == 1);
            case "stateOf": return house.stateOf(given[0]);
            case "insert": return house.insert(given[0], (char) given[1]);
            case "clear": return house.clear();
            case "isWhole": return house.isWhole() ? 1 : 0;
            case "post": return house.post(given[0], given[1]);
            case "finish": house.finish(given[0], given[1]); return 0;
            case "taskOf": return house.taskOf(given[0]);
            case "messages": return house.messages();
            case "signs": return house.signs(given[0]);
            case "signAt": return house.signAt(given[0], given[1]);
            case "signBack": return house.signBack(given[0], given[1]);
            default: throw new AssertionError(name);
        }
    }

    private long onModel(String name, int[] given) {
        switch (name) {
            case "pipe": return model.pipe(given[0], given[1], given[2]);
            case "turn": return model.turn(given[0], given[1], given[2] == 1);
            case "obstacle": return model.obstacle(given[0], given[1]);
            case "isOpen": case "isOpenByLog": return model.isOpen(given[0]);
            case "level": return model.level(given[0]);
            case "spilled": return model.spilled();
            case "hang": return model.hang(given[0], given[1]);
            case "takeOff": return model.takeOff(given[0], given[1]);
            case "valveOf": return model.valveOf(given[0]);
            case "ownerOf": return model.ownerOf(given[0]);
            case "tagsByLog": return model.tagsByLog(given[0]);
            case "read": return model.read(given[0]);
            case "leave": return model.leave(given[0]);
            case "canAct": return model.canAct(given[0]);
            case "advance": return model.advance(given[0]);
            case "hour": return model.hour();
            case "entries": return model.entries();
            case "entryAt": return model.entryAt(given[0]);
            case "alarm": return model.alarm(given[0], given[1], given[2] == 1, given[3], given[4] == 1);
            case "stateOf": return model.stateOf(given[0]);
            case "insert": return model.insert(given[0], (char) given[1]);
            case "clear": return model.clear();
            case "isWhole": return model.isWhole();
            case "post": return model.post(given[0], given[1]);
            case "finish": return model.finish(given[0], given[1]);
            case "taskOf": return model.taskOf(given[0]);
            case "messages": return model.messages();
            case "signs": return model.signs(given[0]);
            case "signAt": return model.signAt(given[0], given[1]);
            case "signBack": return model.signBack(given[0], given[1]);
            default: throw new AssertionError(name);
        }
    }
}
