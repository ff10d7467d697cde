import java.util.function.IntFunction;

/** All that can be seen of an object without changing it, as a text. */
final class View {
    private View() {
    }

    static String of(BoilerLog house) {
        StringBuilder seen = new StringBuilder();
        seen.append("hour ").append(house.hour()).append(", spilled ").append(house.spilled());
        seen.append(", whole ").append(house.isWhole());
        seen.append("\nentries ").append(house.entries()).append(", messages ").append(house.messages());
        addRows(seen, "level", house::level);
        addRows(seen, "open", house::isOpen);
        addRows(seen, "open by log", house::isOpenByLog);
        addRows(seen, "tags by log", house::tagsByLog);
        addRows(seen, "can act", house::canAct);
        for (int valve = 0; valve < 8; valve++) {
            int seenValve = valve;
            addRows(seen, "obstacle", person -> house.obstacle(person, seenValve));
        }
        addRows(seen, "log", house::entryAt);
        addRows(seen, "tag on", house::valveOf);
        addRows(seen, "tag of", house::ownerOf);
        addRows(seen, "alarm", house::stateOf);
        addRows(seen, "task", house::taskOf);
        addRows(seen, "signs", house::signs);
        for (int message = 0; message < house.messages(); message++) {
            addMessage(seen, house, message);
        }
        return seen.toString();
    }

    // Asks for 0, 1, 2 .. until there is no such row.
    private static void addRows(StringBuilder seen, String name, IntFunction<Object> call) {
        seen.append('\n').append(name);
        try {
            for (int row = 0; ; row++) {
                seen.append(' ').append(call.apply(row));
            }
        } catch (IndexOutOfBoundsException end) {
            seen.append('.');
        }
    }

    private static void addMessage(StringBuilder seen, BoilerLog house, int message) {
        seen.append("\nmessage");
        for (int place = 0; place <= house.signs(message); place++) {
            seen.append(' ').append(house.signAt(message, place));
            seen.append('/').append(house.signBack(message, place));
        }
    }
}
