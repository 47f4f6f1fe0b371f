/** Promise 11: run, and what happens in each second in which order. */
public final class SecondTest {
    private static final int NONE = SmokeZones.NONE;
    private static final Check check = new Check("SecondTest");

    public static void main(String[] args) {
        runBounds();
        runToTheEnd();
        runIsOfSingleSeconds();
        flowIsLimited();
        flowIsOfWhatIsCovered();
        flowIsOfTheDifference();
        flowNeedsCovering();
        flowOfOneLitre();
        flowsAllFromWhatIsThen();
        flowsBeforeFans();
        fansInTheirOrder();
        fansBeforePressing();
        pressesOut();
        firesBeforeFlows();
        warmthIsOfTheEnd();
        breathesWhereItIsLow();
        check.end();
    }

    private static void smokeAndHeat(String what, SmokeZones x, int room, long smoke, long heat) {
        check.due(what + ": smoke of room " + room, x.roomAt(room, 0), smoke);
        check.due(what + ": heat of room " + room, x.roomAt(room, 1), heat);
    }

    private static void runBounds() {
        SmokeZones x = new SmokeZones();
        int[] bad = {Integer.MIN_VALUE, -1, 0, 501, Integer.MAX_VALUE};
        for (int n : bad) {
            check.argument("11: run(" + n + ")", () -> x.run(n));
        }
        check.answers("11: run(1)", 1, () -> x.run(1));
        check.answers("11: run(500)", 501, () -> x.run(500));
    }

    private static void runToTheEnd() {
        SmokeZones x = Check.house(10, 20);
        for (int i = 1; i < 200; i++) {
            check.due("11: run on", x.run(500), 500 * i);
        }
        check.answers("11: nearly", 99999, () -> x.run(499));
        check.state("11: one too many", () -> x.run(2));
        check.state("11: many too many", () -> x.run(500));
        check.answers("11: up to 100000", 100000, () -> x.run(1));
        check.state("11: above 100000", () -> x.run(1));
        check.argument("11: above 100000 and out of bounds", () -> x.run(0));
        check.argument("11: above 100000 and out of bounds too", () -> x.run(501));
        check.argument("11: a fire in a second that went", () -> x.fire(0, 99999, 1, 1, 1));
        check.answers("11: a fire in the last second", 0, () -> x.fire(0, 100000, 1, 1, 1));
        check.due("11: which never comes", x.balance(0), 0);
    }

    private static SmokeZones twoRoomsOnFire() {
        SmokeZones x = Check.house(10, 20, 12, 22);
        x.opening(0, 1, 3, 2, 17);
        x.opening(1, NONE, 1, 5, 22);
        x.fire(0, 3, 4, 90, 77);
        x.fan(1, 9, 2);
        return x;
    }

    private static void runIsOfSingleSeconds() {
        SmokeZones x = twoRoomsOnFire();
        SmokeZones y = twoRoomsOnFire();
        x.run(60);
        for (int i = 0; i < 60; i++) {
            y.run(1);
        }
        for (int what = 0; what <= 6; what++) {
            check.due("11: one run or many, room 0, " + what, x.roomAt(0, what), y.roomAt(0, what));
            check.due("11: one run or many, room 1, " + what, x.roomAt(1, what), y.roomAt(1, what));
        }
    }

    private static void flowIsLimited() {
        SmokeZones x = Check.house(10, 20, 10, 20);
        x.opening(0, 1, 1, 0, 20);
        x.fire(0, 0, 100, 100, 10);
        // 100 litres hang down 10: 5 * 1 * 10 asked, 100 / 16 = 6 go with 1000 * 6 / 100
        x.run(1);
        check.due("11: a sixteenth", x.openingAt(0, 1), 6);
        smokeAndHeat("11: a sixteenth", x, 0, 94, 940);
        smokeAndHeat("11: a sixteenth", x, 1, 6, 60);
        // 194 litres: 194 / 16 = 12
        x.run(1);
        check.due("11: a sixteenth again", x.openingAt(0, 1), 12);
        smokeAndHeat("11: a sixteenth again", x, 0, 182, 1820);
        check.due("11: nothing outside", x.balance(2), 0);
    }

    private static void flowIsOfWhatIsCovered() {
        SmokeZones x = Check.house(100, 20);
        x.opening(0, NONE, 1, 5, 12);
        x.opening(0, NONE, 2, 11, 12);
        x.opening(0, NONE, 50, 0, 10);
        x.opening(0, NONE, 1, 10, 11);
        x.opening(0, NONE, 1, 0, 11);
        x.fire(0, 0, 1000, 1000, 3);
        // 1000 litres: clear up to 10; a sixteenth would be 62
        x.run(1);
        check.due("11: above clear", x.openingAt(0, 1), 10);
        check.due("11: above its sill", x.openingAt(1, 1), 10);
        check.due("11: below clear", x.openingAt(2, 1), 0);
        check.due("11: its sill is where it is clear", x.openingAt(3, 1), 5);
        check.due("11: a little covered", x.openingAt(4, 1), 5);
        smokeAndHeat("11: covered", x, 0, 970, 2910);
        check.due("11: all of it outside", x.balance(2), 30);
    }

    private static void flowIsOfTheDifference() {
        SmokeZones x = Check.house(100, 20, 100, 15);
        x.fire(0, 0, 1000, 1000, 7);
        x.fire(1, 0, 800, 800, 9);
        x.opening(0, 1, 1, 3, 13);
        x.opening(1, 0, 1, 3, 13);
        // clear up to 10 and up to 7: covered 3 and 6, so 15 flow from room 1 each time
        x.run(1);
        check.due("11: to its room", x.openingAt(0, 1), -15);
        check.due("11: from its room", x.openingAt(1, 1), 15);
        smokeAndHeat("11: difference", x, 0, 1030, 7270);
        smokeAndHeat("11: difference", x, 1, 770, 6930);
        check.due("11: nothing outside", x.balance(2), 0);

        SmokeZones y = Check.house(100, 20, 100, 20);
        y.fire(0, 0, 1000, 1000, 7);
        y.fire(1, 0, 1000, 1000, 9);
        y.fire(1, 0, 99, 99, 9);
        y.opening(0, 1, 50, 0, 20);
        // 1000 and 1099 litres both hang down 10
        y.run(1);
        check.due("11: no difference", y.openingAt(0, 1), 0);
        smokeAndHeat("11: no difference", y, 1, 1099, 9891);
    }

    private static void flowNeedsCovering() {
        // 1000 litres: clear up to 10, just the top; the other room is clear far above it
        SmokeZones x = Check.house(100, 20, 100, 20);
        x.opening(0, 1, 50, 0, 10);
        x.opening(1, 0, 50, 0, 10);
        x.fire(0, 0, 1000, 1000, 7);
        x.run(1);
        check.due("11: nothing covered", x.openingAt(0, 1), 0);
        check.due("11: nothing covered on its other side", x.openingAt(1, 1), 0);
        check.due("11: nothing lost", x.roomAt(0, 0), 1000);
    }

    private static void flowOfOneLitre() {
        SmokeZones x = Check.house(1, 20, 1, 20);
        x.opening(0, 1, 1, 0, 20);
        x.fire(1, 0, 16, 16, 3);
        x.run(1);
        check.due("11: one litre to its room", x.openingAt(0, 1), -1);
        smokeAndHeat("11: one litre", x, 0, 1, 3);
        smokeAndHeat("11: one litre", x, 1, 15, 45);
        SmokeZones y = Check.house(1, 20, 1, 20);
        y.opening(0, 1, 1, 0, 20);
        y.fire(0, 0, 16, 16, 3);
        y.fan(1, 0, 1);
        y.run(1);
        check.due("11: one litre from its room", y.openingAt(0, 1), 1);
        smokeAndHeat("11: one litre", y, 0, 15, 45);
        smokeAndHeat("11: one litre, blown with its heat", y, 1, 0, 0);
        // fifteen litres are no sixteenth of one
        SmokeZones z = Check.house(1, 20);
        z.opening(0, NONE, 1, 0, 20);
        z.fire(0, 0, 15, 15, 3);
        z.run(1);
        check.due("11: no litre", z.openingAt(0, 1), 0);
        smokeAndHeat("11: no litre", z, 0, 15, 45);
    }

    private static void flowsAllFromWhatIsThen() {
        SmokeZones x = Check.house(10, 20, 10, 20, 10, 20);
        x.opening(0, 1, 1, 0, 20);
        x.opening(1, 2, 1, 0, 20);
        x.opening(0, NONE, 1, 0, 20);
        x.fire(0, 0, 160, 160, 10);
        x.run(1);
        // 10 each from 160; the second opening saw nothing in room 1
        check.due("11: first", x.openingAt(0, 1), 10);
        check.due("11: second", x.openingAt(1, 1), 0);
        check.due("11: third, from what was there", x.openingAt(2, 1), 10);
        smokeAndHeat("11: then", x, 0, 140, 1400);
        // 300: 18 to room 1, whose 10 hang down 1: 10 / 16 = 0 go on
        x.run(1);
        check.due("11: first", x.openingAt(0, 1), 18);
        check.due("11: second", x.openingAt(1, 1), 0);
        smokeAndHeat("11: then", x, 1, 28, 280);
        // 264 + 160 = 424: pressed out before to 200, so 360: 22; 28 / 16 = 1
        x.run(1);
        check.due("11: first", x.openingAt(0, 1), 22);
        check.due("11: second", x.openingAt(1, 1), 1);
        smokeAndHeat("11: then", x, 1, 49, 490);
        smokeAndHeat("11: then", x, 2, 1, 10);
    }

    private static void flowsBeforeFans() {
        SmokeZones x = Check.house(10, 20);
        x.opening(0, NONE, 1, 0, 20);
        x.fan(0, 0, 100000);
        x.fire(0, 0, 160, 160, 10);
        x.run(1);
        check.due("11: flow before fan", x.openingAt(0, 1), 10);
        check.due("11: the fan takes what is left", x.balance(3), 150);
    }

    private static void fansInTheirOrder() {
        SmokeZones x = Check.house(10, 20, 10, 20);
        x.fire(0, 0, 10, 10, 10);
        x.fire(0, 0, 1, 1, 4);
        x.fan(0, 0, 2);
        x.fan(1, 0, 9);
        x.fan(0, 0, 3);
        // 11 litres with 104: 2 take 18; 9 litres with 86: 3 take 28
        x.run(1);
        smokeAndHeat("11: fans", x, 0, 6, 58);
        check.due("11: both blew", x.balance(3), 5);
    }

    private static void fansBeforePressing() {
        SmokeZones x = Check.house(1, 10);
        x.fire(0, 0, 30, 30, 10);
        x.fan(0, 0, 25);
        x.run(1);
        check.due("11: blown", x.balance(3), 25);
        check.due("11: nothing to press out", x.balance(4), 0);
        smokeAndHeat("11: fan before pressing", x, 0, 5, 50);
    }

    private static void pressesOut() {
        SmokeZones x = Check.house(3, 5);
        x.fire(0, 0, 10, 10, 7);
        x.fire(0, 1, 7, 7, 4);
        x.run(1);
        smokeAndHeat("11: below what it holds", x, 0, 10, 70);
        check.due("11: nothing pressed out", x.balance(4), 0);
        // 27 litres with 168: 15 stay with 168 * 15 / 27 = 93
        x.run(1);
        smokeAndHeat("11: pressed", x, 0, 15, 93);
        check.due("11: pressed out", x.balance(4), 12);
        check.due("11: not out", x.balance(2), 0);
        SmokeZones y = Check.house(3, 5);
        y.fire(0, 0, 15, 15, 7);
        y.run(1);
        smokeAndHeat("11: just what it holds", y, 0, 15, 105);
        check.due("11: none pressed out", y.balance(4), 0);
    }

    private static void firesBeforeFlows() {
        // 2000 litres in a room that holds 200: seen whole by the flow, and not pressed out before it
        SmokeZones x = Check.house(10, 20, 10, 20);
        x.opening(0, 1, 50, 0, 20);
        x.opening(0, NONE, 1, 0, 20);
        x.fire(0, 0, 1000, 1000, 10);
        x.fire(0, 0, 1000, 1000, 20);
        x.run(1);
        check.due("11: a sixteenth of all", x.openingAt(0, 1), 125);
        check.due("11: no more covered than all of it", x.openingAt(1, 1), 100);
        check.due("11: pressed out", x.balance(4), 2000 - 225 - 200);
        smokeAndHeat("11: fires before flows", x, 0, 200, 3000);
        smokeAndHeat("11: fires before flows", x, 1, 125, 1875);
    }

    private static void warmthIsOfTheEnd() {
        // warm while the fire burns, cold when the fan has taken all: nothing notices
        SmokeZones x = Check.house(10, 20);
        x.opening(0, NONE, 1, 19, 20);
        x.glass(0, 1);
        x.sprinkler(0, 1);
        x.steel(0, 1);
        x.fire(0, 0, 100, 100, 1000);
        x.fan(0, 0, 100000);
        x.run(3);
        check.due("11: the glass holds", x.openingAt(0, 0), 0);
        check.due("11: the sprinkler waits", x.roomAt(0, 5), 0);
        check.due("11: the steel is cold", x.steelAt(0), 0);
    }

    private static void breathesWhereItIsLow() {
        SmokeZones x = Check.house(10, 27, 1, 17, 1, 18);
        x.person(0);
        x.person(1);
        x.person(2);
        x.person(NONE);
        x.fire(0, 0, 99, 99, 6);
        x.fire(0, 1, 1, 1, 6);
        // 99 litres: clear up to 27 - 9 = 18, which is not less
        x.run(1);
        check.due("11: clear enough", x.personAt(0, 1), 0);
        check.due("11: a low room without smoke", x.personAt(1, 1), 1);
        check.due("11: just high enough", x.personAt(2, 1), 0);
        // 199 litres with 1194: clear up to 8, warmth 6
        x.run(1);
        check.due("11: dose", x.personAt(0, 1), 7);
        check.due("11: one second", x.personAt(0, 2), 1);
        x.run(2);
        check.due("11: dose grows", x.personAt(0, 1), 21);
        check.due("11: three seconds", x.personAt(0, 2), 3);
        check.due("11: low all the time", x.personAt(1, 2), 4);
        check.due("11: outside nobody breathes", x.personAt(3, 2), 0);
        check.due("11: outside no dose", x.personAt(3, 1), 0);
    }
}
