import java.lang.reflect.Constructor;
import java.lang.reflect.Field;
import java.lang.reflect.Method;
import java.lang.reflect.Modifier;
import java.util.Arrays;
import java.util.Set;
import java.util.TreeSet;

/** Promise 1 and the public face: the constants, the constructor, the methods, and nothing else. */
public final class FaceTest {
    private static final String IOOBE = " IndexOutOfBoundsException";
    private static final String IAE = " IllegalArgumentException";
    private static final String ISE = " IllegalStateException";
    private static final String[] METHODS = {
        "int pipe int int int" + IOOBE + IAE + ISE,
        "boolean turn int int boolean" + IOOBE + ISE,
        "int obstacle int int" + IOOBE,
        "boolean isOpen int" + IOOBE,
        "boolean isOpenByLog int" + IOOBE,
        "int level int" + IOOBE,
        "int spilled",
        "int hang int int" + IOOBE + ISE,
        "boolean takeOff int int" + IOOBE + ISE,
        "int valveOf int" + IOOBE,
        "int ownerOf int" + IOOBE,
        "int tagsByLog int" + IOOBE,
        "int read int" + IOOBE + ISE,
        "int leave int" + IOOBE + ISE,
        "boolean canAct int" + IOOBE,
        "int advance int" + IAE + ISE,
        "int hour",
        "int entries",
        "int entryAt int" + IOOBE,
        "int alarm int int boolean int boolean" + IOOBE + IAE + ISE,
        "int stateOf int" + IOOBE,
        "int insert int char" + IAE + ISE,
        "int clear",
        "boolean isWhole",
        "int post int int" + IOOBE + ISE,
        "void finish int int" + IOOBE + ISE,
        "int taskOf int" + IOOBE,
        "int messages",
        "int signs int" + IOOBE,
        "int signAt int int" + IOOBE,
        "int signBack int int" + IOOBE,
    };

    public static void main(String[] args) throws IllegalAccessException {
        testConstants();
        testMembers();
        testClassesInside();
        testNewObject();
        testObjectsAreApart();
        Check.end();
    }

    private static void testConstants() throws IllegalAccessException {
        String[] names = {"NONE", "QUIET", "ANSWERED", "WAITING",
            "TURNED", "HUNG", "OFF", "RAISED", "LEFT", "TASK", "DONE"};
        int[] values = {-1, 0, 1, 2, 0, 1, 2, 3, 4, 5, 6};
        Set<String> seen = new TreeSet<>();
        for (Field field : BoilerLog.class.getDeclaredFields()) {
            if (!Modifier.isPrivate(field.getModifiers())) {
                seen.add(field.getName());
                int place = Arrays.asList(names).indexOf(field.getName());
                if (place < 0 || !Modifier.toString(field.getModifiers()).equals("public static final")) {
                    Check.fail("no such constant is due: " + field);
                } else {
                    Check.same(field.getName(), values[place], field.getInt(null));
                }
            }
        }
        Check.same("the number of constants", names.length, seen.size());
    }

    private static void testMembers() {
        Check.same("public and final", true, Modifier.toString(BoilerLog.class.getModifiers()).equals("public final"));
        Set<String> seen = new TreeSet<>();
        Set<String> names = new TreeSet<>();
        for (Method method : BoilerLog.class.getDeclaredMethods()) {
            if (Modifier.isPublic(method.getModifiers())) {
                seen.add(describe(method));
                names.add(method.getName());
            }
        }
        Set<String> due = new TreeSet<>(Arrays.asList(METHODS));
        if (!seen.equals(due)) {
            Check.fail("the face is " + seen + ", due is " + due);
        }
        for (Method method : BoilerLog.class.getDeclaredMethods()) {
            boolean isPublic = Modifier.isPublic(method.getModifiers());
            boolean isPrivate = Modifier.isPrivate(method.getModifiers());
            if (!isPublic && (!isPrivate || names.contains(method.getName()))) {
                Check.fail("no such method is due: " + method);
            }
        }
        Constructor<?>[] constructors = BoilerLog.class.getDeclaredConstructors();
        Check.same("constructors", 1, constructors.length);
        Check.same("the constructor's parameters", 0, constructors[0].getParameterCount());
    }

    // Only what LANGUAGE.md allows: static classes that are not public, and no static state.
    private static void testClassesInside() {
        for (Class<?> inside : BoilerLog.class.getDeclaredClasses()) {
            Check.same(inside + " is static", true, Modifier.isStatic(inside.getModifiers()));
            Check.same(inside + " is public", false, Modifier.isPublic(inside.getModifiers()));
            checkStaticFields(inside);
        }
        checkStaticFields(BoilerLog.class);
    }

    private static void checkStaticFields(Class<?> checked) {
        for (Field field : checked.getDeclaredFields()) {
            if (Modifier.isStatic(field.getModifiers())) {
                Check.same(field + " is final", true, Modifier.isFinal(field.getModifiers()));
            }
        }
    }

    private static String describe(Method method) {
        StringBuilder text = new StringBuilder(method.getReturnType().getName() + " " + method.getName());
        for (Class<?> type : method.getParameterTypes()) {
            text.append(' ').append(type.getName());
        }
        for (Class<?> type : method.getExceptionTypes()) {
            text.append(' ').append(type.getSimpleName());
        }
        return text.toString();
    }

    private static void testNewObject() {
        BoilerLog house = new BoilerLog();
        Check.same("hour", 0, house.hour());
        Check.same("spilled", 0, house.spilled());
        Check.same("entries", 0, house.entries());
        Check.same("messages", 0, house.messages());
        Check.same("whole", false, house.isWhole());
        Check.same("the text", 0, new BoilerLog().clear());
        for (int vessel = 0; vessel < 3; vessel++) {
            Check.same("level", 0, house.level(vessel));
        }
        for (int valve = 0; valve < 8; valve++) {
            Check.same("open", false, house.isOpen(valve));
            Check.same("open by the log", false, house.isOpenByLog(valve));
            Check.same("tags", 0, house.tagsByLog(valve));
        }
        for (int person = 0; person < 9; person++) {
            Check.same("can act", person % 3 == 0, house.canAct(person));
            Check.same("read " + person, 0, new BoilerLog().read(person));
            Check.same("left " + person, 0, new BoilerLog().leave(person));
        }
        Check.throwsBounds("a tag", house, () -> house.valveOf(0));
        Check.throwsBounds("an alarm", house, () -> house.stateOf(0));
        Check.throwsBounds("an entry", house, () -> house.entryAt(0));
        Check.throwsBounds("a message", house, () -> house.signs(0));
        Check.throwsBounds("a thread", house, () -> house.taskOf(0));
        testNewValves();
    }

    // At first all lead from outside to the vessel 0.
    private static void testNewValves() {
        for (int valve = 0; valve < 8; valve++) {
            BoilerLog house = new BoilerLog();
            house.turn(0, valve, true);
            house.advance(1);
            Check.same("vessel 0 behind valve " + valve, 10, house.level(0));
            Check.same("vessel 1 behind valve " + valve, 0, house.level(1));
            Check.same("vessel 2 behind valve " + valve, 0, house.level(2));
        }
    }

    private static void testObjectsAreApart() {
        BoilerLog used = new BoilerLog();
        BoilerLog other = new BoilerLog();
        String before = View.of(other);
        used.turn(0, 0, true);
        used.hang(0, 0);
        used.alarm(0, 10, true, 1, true);
        used.advance(9);
        Check.post(used, 0, BoilerLog.NONE, "@1");
        used.leave(0);
        Check.same("another object is as it was", true, before.equals(View.of(other)));
        Check.same("a later object is new", true, before.equals(View.of(new BoilerLog())));
    }
}
