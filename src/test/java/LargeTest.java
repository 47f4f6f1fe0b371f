/** Sums and products that are above what an int holds: nothing wraps round. */
public final class LargeTest {
    private static final int NONE = SmokeZones.NONE;
    /** What one fire of growth 1000 and most 100000 makes in its first 100 seconds. */
    private static final long WHILE_IT_GROWS = 5_050_000L;
    private static final Check check = new Check("LargeTest");

    public static void main(String[] args) {
        largestRoomFull();
        pressedOut();
        blown();
        flowedOut();
        flowedBothWays();
        longestDose();
        check.end();
    }

    private static SmokeZones largestOnFire(int fires, int heat) {
        SmokeZones x = Check.house(10000, 100);
        for (int i = 0; i < fires; i++) {
            x.fire(0, 0, 1000, 100000, heat);
        }
        return x;
    }

    private static long made(int fires, long seconds) {
        return fires * (WHILE_IT_GROWS + (seconds - 100) * 100000);
    }

    private static void runTo(SmokeZones x, int from, int to) {
        for (int second = from; second < to; second += 500) {
            x.run(500);
        }
    }

    private static void largestRoomFull() {
        SmokeZones x = largestOnFire(5, 1000);
        x.run(500);
        long[] due = {1_000_000, 1_000_000_000, 100, 1000, 0, 0};
        for (int what = 0; what < due.length; what++) {
            check.due("full: " + what, x.roomAt(0, what), due[what]);
        }
        check.due("made", x.balance(0), made(5, 500));
        check.due("in rooms", x.balance(1), 1_000_000);
        check.due("pressed out", x.balance(4), made(5, 500) - 1_000_000);
    }

    private static void pressedOut() {
        SmokeZones x = largestOnFire(5, 1000);
        runTo(x, 0, 100000);
        check.due("made", x.balance(0), made(5, 100000));
        check.due("made, written out", x.balance(0), 49_975_250_000L);
        check.due("pressed out", x.balance(4), 49_975_250_000L - 1_000_000);
        check.due("as warm as ever", x.roomAt(0, 3), 1000);
    }

    private static void blown() {
        SmokeZones x = largestOnFire(5, 1000);
        for (int i = 0; i < 9; i++) {
            x.fan(0, 0, 100000);
        }
        runTo(x, 0, 100000);
        check.due("blown", x.balance(3), 49_975_250_000L);
        check.due("none left", x.roomAt(0, 0), 0);
        check.due("no heat left", x.roomAt(0, 1), 0);
    }

    /** Once the room is full, each opening asks 5 * 50 * 100 litres in each second. */
    private static void flowedOut() {
        SmokeZones x = largestOnFire(5, 1000);
        for (int i = 0; i < 15; i++) {
            x.opening(0, NONE, 50, 0, 100);
        }
        runTo(x, 0, 1000);
        check.due("full", x.roomAt(0, 0), 1_000_000);
        check.due("all heat", x.roomAt(0, 1), 1_000_000_000);
        long flowed = x.openingAt(14, 2);
        long out = x.balance(2);
        runTo(x, 1000, 100000);
        check.due("in the last second", x.openingAt(14, 1), 25000);
        check.due("in all", x.openingAt(14, 2) - flowed, 99000L * 25000);
        check.due("out", x.balance(2) - out, 15 * 99000L * 25000);
        check.due("as warm as ever", x.roomAt(0, 3), 1000);
        check.due("pressed out", x.balance(4), x.balance(0) - x.balance(2) - 1_000_000);
    }

    /** A full room beside one that a fan keeps empty: the opening's room is once the one, once the other. */
    private static void flowedBothWays() {
        SmokeZones x = Check.house(10000, 100, 10000, 100);
        x.opening(0, 1, 50, 0, 100);
        x.opening(1, 0, 50, 0, 100);
        x.fan(1, 0, 100000);
        for (int i = 0; i < 5; i++) {
            x.fire(0, 0, 1000, 100000, 1000);
        }
        runTo(x, 0, 1000);
        long[] before = {x.openingAt(0, 2), x.openingAt(1, 2), x.balance(3)};
        runTo(x, 1000, 100000);
        check.due("from its room", x.openingAt(0, 1), 25000);
        check.due("to its room", x.openingAt(1, 1), -25000);
        check.due("from its room, in all", x.openingAt(0, 2) - before[0], 99000L * 25000);
        check.due("to its room, in all", x.openingAt(1, 2) - before[1], 99000L * 25000);
        check.due("blown", x.balance(3) - before[2], 99000L * 50000);
        check.due("the other room is empty", x.roomAt(1, 0), 0);
    }

    private static void longestDose() {
        SmokeZones x = Check.house(10, 17);
        x.person(0);
        x.steel(0, 1);
        x.fire(0, 0, 1000, 100000, 1000);
        runTo(x, 0, 100000);
        check.due("dose", x.personAt(0, 1), 100_100_000);
        check.due("seconds", x.personAt(0, 2), 100000);
        check.due("steel", x.steelAt(0), 1000);
        check.due("first low second", x.roomAt(0, 6), 0);
    }
}
