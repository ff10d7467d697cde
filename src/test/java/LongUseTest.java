/** Behind the 512th call the answers are free, but no call throws what the document does not name. */
public final class LongUseTest {
    public static void main(String[] args) {
        BoilerLog house = new BoilerLog();
        house.hang(0, 1);
        for (int message = 0; message < 60; message++) {
            Check.post(house, 0, BoilerLog.NONE, "@3");
        }
        for (int call = 0; call < 30000; call++) {
            house.turn(3, 0, !house.isOpen(0));
        }
        house.isOpenByLog(0);
        house.tagsByLog(1);
        house.entryAt(house.entries() - 1);
        house.read(3);
        house.advance(100);
        house.read(0);
        house.takeOff(0, 0);
        View.of(house);
        Check.end();
    }
}
