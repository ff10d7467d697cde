/**
 * What an object answers to one long run of calls that change it: so comes to light what cannot be
 * seen by looking, as the text, where a shut valve leads, who has read what and who has asked for what.
 */
final class Aftermath {
    private static final int ROUNDS = 10, HOURS = 5;

    private final BoilerLog house;
    private final StringBuilder told = new StringBuilder();

    private interface Call {
        Object answer();
    }

    private Aftermath(BoilerLog house) {
        this.house = house;
    }

    static String of(BoilerLog house) {
        Aftermath aftermath = new Aftermath(house);
        aftermath.tellTheText();
        for (int round = 0; round < ROUNDS; round++) {
            aftermath.tellARound(round % 4 < 2);
        }
        for (int person = 0; person < 9; person++) {
            int leaver = person;
            aftermath.tell("leave " + person, () -> house.leave(leaver));
        }
        return aftermath.told.toString();
    }

    private void tellTheText() {
        for (int person = 0; person < 9; person++) {
            int poster = person;
            tell("post " + person, () -> house.post(poster, BoilerLog.NONE));
        }
        tell("clear", house::clear);
        told.append(View.of(house));
    }

    private void tellARound(boolean opens) {
        for (int person = 0; person < 9; person++) {
            int actor = person;
            tell("read " + person, () -> house.read(actor));
            for (int number = 0; number < 40; number++) {
                int tag = number;
                tell("take off " + number, () -> house.takeOff(actor, tag));
            }
            for (int number = 0; number < 8; number++) {
                int valve = number;
                tell("turn " + number, () -> house.turn(actor, valve, opens));
            }
        }
        tell("advance", () -> house.advance(HOURS));
        told.append(View.of(house));
    }

    private void tell(String name, Call call) {
        told.append('\n').append(name).append(' ');
        try {
            told.append(call.answer());
        } catch (RuntimeException thrown) {
            told.append(thrown.getClass().getName());
        }
    }
}
