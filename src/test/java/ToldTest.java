/** Promises 12 to 16: what is told of rooms, openings, persons, steel and all smoke. */
public final class ToldTest {
    private static final int NONE = SmokeZones.NONE;
    private static final int[] NO_NUMBERS = {Integer.MIN_VALUE, -2, -1, 1, 2, Integer.MAX_VALUE};
    private static final Check check = new Check("ToldTest");

    public static void main(String[] args) {
        wrongNumbers();
        wrongWhats();
        roomTold();
        lowRoomTold();
        openingTold();
        personTold();
        steelTold();
        balanceTold();
        tellingChangesNothing();
        check.end();
    }

    /** One of each kind, so that every number but 0 is none. */
    private static SmokeZones oneOfEach() {
        SmokeZones x = new SmokeZones();
        x.room(7, 30);
        x.opening(0, NONE, 1, 0, 30);
        x.person(0);
        x.steel(0, 2);
        return x;
    }

    private static void wrongNumbers() {
        SmokeZones x = oneOfEach();
        for (int number : NO_NUMBERS) {
            check.argument("12: roomAt(" + number + ", 0)", () -> x.roomAt(number, 0));
            check.argument("13: openingAt(" + number + ", 0)", () -> x.openingAt(number, 0));
            check.argument("14: personAt(" + number + ", 0)", () -> x.personAt(number, 0));
            check.argument("15: steelAt(" + number + ")", () -> x.steelAt(number));
        }
    }

    private static void wrongWhats() {
        SmokeZones x = oneOfEach();
        int[] bad = {Integer.MIN_VALUE, -1, 7, Integer.MAX_VALUE};
        for (int what : bad) {
            check.argument("12: roomAt(0, " + what + ")", () -> x.roomAt(0, what));
            check.argument("13: openingAt(0, " + what + ")", () -> x.openingAt(0, what));
            check.argument("14: personAt(0, " + what + ")", () -> x.personAt(0, what));
            check.argument("16: balance(" + what + ")", () -> x.balance(what));
        }
        check.argument("13: openingAt(0, 3)", () -> x.openingAt(0, 3));
        check.argument("14: personAt(0, 3)", () -> x.personAt(0, 3));
        check.argument("16: balance(5)", () -> x.balance(5));
        check.fine("12: roomAt(0, 6)", () -> x.roomAt(0, 6));
        check.fine("13: openingAt(0, 2)", () -> x.openingAt(0, 2));
        check.fine("14: personAt(0, 2)", () -> x.personAt(0, 2));
        check.fine("16: balance(4)", () -> x.balance(4));
    }

    private static void roomTold() {
        SmokeZones x = new SmokeZones();
        x.room(7, 30);
        long[] empty = {0, 0, 0, 0, 30, 0, NONE};
        for (int what = 0; what <= 6; what++) {
            check.due("12: empty, " + what, x.roomAt(0, what), empty[what]);
        }
        x.sprinkler(0, 11);
        x.fire(0, 0, 50, 50, 10);
        x.fire(0, 0, 40, 40, 13);
        x.run(1);
        // 90 litres with 1020: depth 12 and 6 over, warmth 11 and 30 over
        long[] full = {90, 1020, 12, 11, 18, 1, NONE};
        for (int what = 0; what <= 6; what++) {
            check.due("12: behind second 0, " + what, x.roomAt(0, what), full[what]);
        }
        // 25 and 20 more
        x.run(1);
        long[] fuller = {135, 1530, 19, 11, 11, 1, 1};
        for (int what = 0; what <= 6; what++) {
            check.due("12: behind second 1, " + what, x.roomAt(0, what), fuller[what]);
        }
        x.fan(0, 2, 100000);
        x.run(5);
        long[] emptied = {0, 0, 0, 0, 30, 1, 1};
        for (int what = 0; what <= 6; what++) {
            check.due("12: blown empty, " + what, x.roomAt(0, what), emptied[what]);
        }
    }

    private static void lowRoomTold() {
        SmokeZones x = new SmokeZones();
        x.run(4);
        x.room(7, 17);
        x.room(7, 18);
        check.due("12: no second yet", x.roomAt(0, 6), NONE);
        x.run(3);
        check.due("12: its own first second", x.roomAt(0, 6), 4);
        check.due("12: 18 is not less than 18", x.roomAt(1, 6), NONE);
        x.fire(1, 8, 7, 7, 0);
        x.run(10);
        check.due("12: one less", x.roomAt(1, 6), 8);
    }

    private static void openingTold() {
        SmokeZones x = new SmokeZones();
        x.room(10, 20);
        x.room(10, 20);
        x.opening(0, 1, 1, 0, 20);
        x.fire(0, 0, 160, 160, 10);
        x.run(1);
        check.due("13: to the other room", x.openingAt(0, 1), 10);
        // room 0 is emptied from now on, after 310 / 16 = 19 have gone
        x.fan(0, 1, 100000);
        x.run(1);
        check.due("13: again", x.openingAt(0, 1), 19);
        x.fire(1, 2, 1000, 1000, 10);
        // room 1: 29 + 1000 = 1029, 64 of it a sixteenth, all of 20 covered; room 0: 160, covered 16
        x.run(1);
        check.due("13: from the other room", x.openingAt(0, 1), -20);
        check.due("13: both ways added", x.openingAt(0, 2), 49);
        check.due("13: open", x.openingAt(0, 0), 1);
        x.glass(0, 1000);
        check.due("13: closed", x.openingAt(0, 0), 0);
        x.run(1);
        check.due("13: nothing in the last second", x.openingAt(0, 1), 0);
        check.due("13: in all as before", x.openingAt(0, 2), 49);
    }

    private static void personTold() {
        SmokeZones x = new SmokeZones();
        x.room(1, 5);
        x.room(1, 5);
        x.person(1);
        x.person(NONE);
        x.fire(1, 0, 5, 5, 100);
        x.go(0, 3, 0);
        x.run(3);
        check.due("14: its room", x.personAt(0, 0), 1);
        check.due("14: its dose", x.personAt(0, 1), 303);
        check.due("14: its breaths", x.personAt(0, 2), 3);
        check.due("14: outside", x.personAt(1, 0), NONE);
        x.run(2);
        check.due("14: its new room", x.personAt(0, 0), 0);
        check.due("14: its dose there", x.personAt(0, 1), 305);
        check.due("14: its breaths there", x.personAt(0, 2), 5);
    }

    private static void steelTold() {
        SmokeZones x = new SmokeZones();
        x.room(1, 5);
        x.room(1, 5);
        x.steel(0, 2);
        x.steel(1, 2);
        x.fire(1, 0, 5, 5, 100);
        x.run(1);
        check.due("15: in the cold", x.steelAt(0), 0);
        check.due("15: in the warm", x.steelAt(1), 50);
        x.run(1);
        check.due("15: warmer", x.steelAt(1), 75);
    }

    private static void balanceTold() {
        SmokeZones x = new SmokeZones();
        x.room(1, 10);
        x.room(1, 20);
        x.opening(0, 1, 1, 0, 10);
        x.opening(0, NONE, 1, 9, 10);
        x.fan(0, 0, 4);
        x.fire(0, 0, 64, 64, 1);
        // 64: 4 to room 1, 4 out, 4 blown, 42 pressed out, 10 stay
        x.run(1);
        long[] due = {64, 14, 4, 4, 42};
        for (int what = 0; what <= 4; what++) {
            check.due("16: balance(" + what + ")", x.balance(what), due[what]);
        }
        // 74: 4 and 4 again, 4 blown, 52 pressed out
        x.run(1);
        long[] next = {128, 18, 8, 8, 94};
        for (int what = 0; what <= 4; what++) {
            check.due("16: then balance(" + what + ")", x.balance(what), next[what]);
        }
    }

    private static void tellingChangesNothing() {
        SmokeZones x = oneOfEach();
        x.fire(0, 0, 30, 30, 30);
        // 30, 59 and 86 litres lose a sixteenth: 1, 3 and 5
        x.run(3);
        for (int round = 0; round < 2; round++) {
            check.due("12: told again", x.roomAt(0, 0), 81);
            check.due("13: told again", x.openingAt(0, 2), 9);
            check.due("15: told again", x.steelAt(0), 26);
            check.due("16: told again", x.balance(1), 81);
        }
    }
}
