/** The sentences of the document's terms that name an edge: a method for each, with both sides of it. */
public final class EdgesTest {
    private static final int NONE = SmokeZones.NONE;
    private static final Check check = new Check("EdgesTest");

    public static void main(String[] args) {
        secondZeroComes();
        emptyHouseRuns();
        holdsAreaTimesHeight();
        depthIsRoundedDown();
        warmthIsRoundedDown();
        clearIsHeightLessDepth();
        thingsAreNumberedAsTheyCome();
        leastAndGreatestOpening();
        coveredIsAboveSillAndClear();
        outsideIsNeverCovered();
        fireBurnsFromItsSecondOn();
        fireMakesAtMostItsMost();
        heatOfAFire();
        sprinklerHalvesEachFire();
        flowOrASixteenth();
        flowGoesWhereLessIsCovered();
        heatOfEachFlowIsRoundedDown();
        flowsLeaveTheLastSixteenth();
        fanTakesItsRateOrAll();
        fanFromItsSecondOn();
        pressedOutAboveWhatItHolds();
        flowsArePressedOutToo();
        sprinklerActsFromTheNextSecondOn();
        glassBreaksFromTheNextSecondOn();
        glassBreaksByEitherSide();
        limitsAtTheirBounds();
        steelIsRoundedToZero();
        breathesBelowEighteen();
        goesBeforeItBreathes();
        lastSecondOfAll();
        firstLowSecondStays();
        glassKeepsWhatFlowed();
        objectsStandAlone();
        check.end();
    }

    private static void room(String what, SmokeZones x, int room, long... due) {
        for (int i = 0; i < due.length; i++) {
            check.due(what + ": roomAt(" + room + ", " + i + ")", x.roomAt(room, i), due[i]);
        }
    }

    /** A room on fire for one second, with as many litres, of which some are of heat 0. */
    private static SmokeZones filled(int area, int height, int warm, int heat, int cold) {
        SmokeZones x = Check.house(area, height);
        x.fire(0, 0, warm, warm, heat);
        if (cold > 0) {
            x.fire(0, 0, cold, cold, 0);
        }
        x.run(1);
        return x;
    }

    private static void secondZeroComes() {
        SmokeZones x = Check.house(10, 30);
        x.person(0);
        check.argument("no fire before second 0", () -> x.fire(0, -1, 1, 1, 1));
        check.argument("no fan before second 0", () -> x.fan(0, -1, 1));
        check.argument("no walk before second 0", () -> x.go(0, -1, NONE));
        check.answers("a fire in second 0", 0, () -> x.fire(0, 0, 5, 5, 1));
        check.answers("a fan in second 0", 0, () -> x.fan(0, 0, 2));
        check.fine("a walk in second 0", () -> x.go(0, 0, NONE));
        check.due("nothing has happened", x.balance(0) + x.balance(3) + x.personAt(0, 0), 0);
        check.due("second 1 comes", x.run(1), 1);
        check.due("it burnt", x.balance(0), 5);
        check.due("it blew", x.balance(3), 2);
        check.due("it went", x.personAt(0, 0), NONE);
        check.argument("no fire in second 0 any more", () -> x.fire(0, 0, 1, 1, 1));
        check.argument("no fan in second 0 any more", () -> x.fan(0, 0, 1));
        check.argument("no walk in second 0 any more", () -> x.go(0, 0, NONE));
    }

    private static void emptyHouseRuns() {
        SmokeZones x = new SmokeZones();
        check.answers("a person outside of no room", 0, () -> x.person(NONE));
        check.fine("goes outside", () -> x.go(0, 3, NONE));
        check.due("seconds of nothing", x.run(500), 500);
        for (int what = 0; what <= 4; what++) {
            check.due("of nothing, " + what, x.balance(what), 0);
        }
        check.due("is outside", x.personAt(0, 0), NONE);
        check.due("breathed nothing", x.personAt(0, 1) + x.personAt(0, 2), 0);
        check.answers("a first room later", 0, () -> x.room(1, 1));
    }

    private static void holdsAreaTimesHeight() {
        room("the least room, full", filled(1, 1, 1, 9, 0), 0, 1, 9, 1, 9, 0);
        SmokeZones over = filled(1, 1, 2, 9, 0);
        room("the least room, too full", over, 0, 1, 9, 1, 9, 0);
        check.due("one litre pressed out", over.balance(4), 1);
        room("wide and low", filled(1000, 1, 1000, 9, 0), 0, 1000, 9000, 1, 9, 0);
        room("narrow and high", filled(1, 100, 100, 9, 0), 0, 100, 900, 100, 9, 0);
        check.due("nothing pressed out", filled(1, 100, 100, 9, 0).balance(4), 0);
        check.due("one pressed out", filled(1, 100, 101, 9, 0).balance(4), 1);
    }

    private static void depthIsRoundedDown() {
        int[] litres = {1, 9, 10, 11, 19, 20};
        int[] depths = {0, 0, 1, 1, 1, 2};
        for (int i = 0; i < litres.length; i++) {
            check.due("depth of " + litres[i], filled(10, 30, litres[i], 1, 0).roomAt(0, 2), depths[i]);
        }
    }

    private static void warmthIsRoundedDown() {
        check.due("warmth without smoke", Check.house(10, 30).roomAt(0, 3), 0);
        check.due("warmth of 10 / 10", filled(10, 30, 1, 10, 9).roomAt(0, 3), 1);
        check.due("warmth of 10 / 11", filled(10, 30, 1, 10, 10).roomAt(0, 3), 0);
        check.due("warmth of 19 / 10", filled(10, 30, 1, 19, 9).roomAt(0, 3), 1);
        check.due("warmth of 20 / 10", filled(10, 30, 1, 20, 9).roomAt(0, 3), 2);
        check.due("warmth of 1 / 1000", filled(10, 100, 1, 1, 999).roomAt(0, 3), 0);
        check.due("warmth of 0 / 7", filled(10, 30, 7, 0, 0).roomAt(0, 3), 0);
        check.due("greatest warmth", filled(10, 30, 7, 1000, 0).roomAt(0, 3), 1000);
    }

    private static void clearIsHeightLessDepth() {
        check.due("clear, empty", Check.house(10, 30).roomAt(0, 4), 30);
        check.due("clear, less than a decimetre of smoke", filled(10, 30, 9, 1, 0).roomAt(0, 4), 30);
        check.due("clear, a decimetre", filled(10, 30, 10, 1, 0).roomAt(0, 4), 29);
        check.due("clear, all but a litre", filled(10, 30, 299, 1, 0).roomAt(0, 4), 1);
        check.due("clear, full", filled(10, 30, 300, 1, 0).roomAt(0, 4), 0);
        check.due("clear, pressed out", filled(10, 30, 999, 1, 0).roomAt(0, 4), 0);
    }

    /** Each kind counts for itself, and seconds between do not matter. */
    private static void thingsAreNumberedAsTheyCome() {
        SmokeZones x = new SmokeZones();
        for (int i = 0; i < 4; i++) {
            check.due("room", x.room(10, 30), i);
            check.due("person", x.person(NONE), i);
            check.due("opening", x.opening(i, NONE, 1, 0, 30), i);
            check.due("fire", x.fire(i, i, 1, 1, 1), i);
            check.due("fan", x.fan(i, i, 1), i);
            check.due("steel", x.steel(i, 1), i);
            check.due("second", x.run(1), i + 1);
        }
    }

    private static void leastAndGreatestOpening() {
        SmokeZones x = Check.house(1, 1, 10000, 100, 10000, 100);
        check.answers("the least", 0, () -> x.opening(0, NONE, 1, 0, 1));
        check.answers("the least between rooms", 1, () -> x.opening(1, 0, 1, 0, 1));
        check.answers("the greatest", 2, () -> x.opening(1, 2, 50, 0, 100));
        check.answers("the highest", 3, () -> x.opening(2, 1, 50, 99, 100));
        check.answers("the same once more", 4, () -> x.opening(2, 1, 50, 99, 100));
        check.argument("above the least room", () -> x.opening(0, NONE, 1, 0, 2));
        check.argument("above the least room, from the other one", () -> x.opening(1, 0, 1, 0, 2));
        check.argument("above the least room, and above its sill", () -> x.opening(1, 0, 1, 1, 2));
        check.argument("without a height, on the floor", () -> x.opening(1, 2, 50, 0, 0));
        check.argument("without a height, below the ceiling", () -> x.opening(1, 2, 50, 100, 100));
        check.argument("above all rooms", () -> x.opening(1, 2, 50, 100, 101));
    }

    /** 1000 litres in a room of 100 by 20 are clear up to 10; a sixteenth of them is 62. */
    private static void coveredIsAboveSillAndClear() {
        int[][] sillTopFlow = {
            {0, 9, 0}, {0, 10, 0}, {9, 10, 0}, {0, 11, 5}, {9, 11, 5}, {10, 11, 5}, {9, 12, 10}, {10, 12, 10},
            {11, 12, 5}, {0, 20, 50}, {10, 20, 50}, {11, 20, 45}, {19, 20, 5}, {0, 1, 0},
        };
        for (int[] one : sillTopFlow) {
            SmokeZones x = Check.house(100, 20, 100, 20);
            x.opening(0, NONE, 1, one[0], one[1]);
            x.opening(0, 1, 1, one[0], one[1]);
            x.opening(1, 0, 1, one[0], one[1]);
            x.fire(0, 0, 1000, 1000, 3);
            x.run(1);
            String what = "covered from " + one[0] + " to " + one[1];
            check.due(what + ", outside", x.openingAt(0, 1), one[2]);
            check.due(what + ", to the other room", x.openingAt(1, 1), one[2]);
            check.due(what + ", from the other room", x.openingAt(2, 1), -one[2]);
        }
    }

    private static void outsideIsNeverCovered() {
        SmokeZones x = Check.house(10, 20);
        x.opening(0, NONE, 50, 0, 20);
        x.run(100);
        check.due("nothing comes in", x.openingAt(0, 1), 0);
        check.due("nothing is in", x.roomAt(0, 0), 0);
        check.due("nothing is out", x.balance(2), 0);
        x.fire(0, 100, 160, 160, 3);
        x.run(1);
        check.due("it goes out", x.openingAt(0, 1), 10);
        check.due("it is out", x.balance(2), 10);
    }

    private static void fireBurnsFromItsSecondOn() {
        SmokeZones x = Check.house(100, 100);
        x.run(3);
        x.fire(0, 3, 5, 1000, 1);
        x.fire(0, 4, 100, 1000, 1);
        int[] made = {5, 115, 330, 650};
        for (int i = 0; i < made.length; i++) {
            x.run(1);
            check.due("made behind second " + (3 + i), x.balance(0), made[i]);
        }
    }

    private static void fireMakesAtMostItsMost() {
        int[] growths = {10, 10, 10, 10, 1000, 1};
        int[] mosts = {29, 30, 31, 9, 1, 1};
        int[] inThree = {59, 60, 60, 27, 3, 3};
        int[] inFour = {88, 90, 91, 36, 4, 4};
        for (int i = 0; i < growths.length; i++) {
            SmokeZones x = Check.house(100, 100);
            x.fire(0, 0, growths[i], mosts[i], 2);
            x.run(3);
            check.due("growth " + growths[i] + ", most " + mosts[i] + ", 3 seconds", x.balance(0), inThree[i]);
            x.run(1);
            check.due("growth " + growths[i] + ", most " + mosts[i] + ", 4 seconds", x.balance(0), inFour[i]);
        }
    }

    private static void heatOfAFire() {
        room("no heat", filled(10, 30, 30, 0, 0), 0, 30, 0, 3, 0, 27);
        room("the least heat", filled(10, 30, 30, 1, 0), 0, 30, 30, 3, 1, 27);
        room("the greatest heat", filled(10, 30, 30, 1000, 0), 0, 30, 30000, 3, 1000, 27);
    }

    private static void sprinklerHalvesEachFire() {
        SmokeZones x = Check.house(100, 100, 100, 100);
        x.sprinkler(0, 1);
        x.fire(0, 0, 3, 3, 2);
        x.fire(0, 0, 3, 3, 2);
        x.fire(1, 0, 3, 3, 2);
        x.fire(0, 2, 7, 10, 2);
        x.run(1);
        room("whole", x, 0, 6, 12);
        x.run(1);
        // half of 3 twice, and not half of 6
        room("half, rounded down for each", x, 0, 8, 16);
        x.run(1);
        room("half of the first second of a later fire", x, 0, 13, 26);
        x.run(1);
        room("half of its most", x, 0, 20, 40);
        check.due("not in another room", x.roomAt(1, 0), 12);
        check.due("made", x.balance(0), 32);
    }

    /** A room of 10 by 100 and an opening of width 1: 5 times the depth against a sixteenth of ten times it. */
    private static void flowOrASixteenth() {
        // covered is 1 from 99 to 100: 5 asked; 5 * 16 = 80 litres
        int[] litres = {79, 80, 95, 96, 112};
        int[] flows = {4, 5, 5, 5, 5};
        for (int i = 0; i < litres.length; i++) {
            SmokeZones x = Check.house(10, 100);
            x.opening(0, NONE, 1, 99, 100);
            x.fire(0, 0, litres[i], litres[i], 3);
            x.run(1);
            check.due("of " + litres[i] + " litres", x.openingAt(0, 1), flows[i]);
            check.due("left of " + litres[i] + " litres", x.roomAt(0, 0), litres[i] - flows[i]);
        }
        int[] few = {1, 15, 16, 31, 32};
        int[] little = {0, 0, 1, 1, 2};
        for (int i = 0; i < few.length; i++) {
            SmokeZones x = Check.house(1, 100);
            x.opening(0, NONE, 50, 0, 100);
            x.fire(0, 0, few[i], few[i], 3);
            x.run(1);
            check.due("a sixteenth of " + few[i], x.openingAt(0, 1), little[i]);
        }
    }

    private static void flowGoesWhereLessIsCovered() {
        // areas 100 and 10: 500 litres hang down 5 in one, 60 hang down 6 in the other
        SmokeZones x = Check.house(100, 20, 10, 20);
        x.opening(0, 1, 1, 0, 20);
        x.opening(1, 0, 1, 0, 20);
        x.opening(0, 1, 1, 0, 14);
        x.fire(0, 0, 500, 500, 2);
        x.fire(1, 0, 60, 60, 4);
        // 5 asked each time, but 60 / 16 = 3
        x.run(1);
        check.due("from the one with less smoke", x.openingAt(0, 1), -3);
        check.due("from its room", x.openingAt(1, 1), 3);
        check.due("none covered", x.openingAt(2, 1), 0);
        room("where less hung down", x, 0, 506, 1024);
        room("where more hung down", x, 1, 54, 216);
        check.due("none of it out", x.balance(2), 0);
        // the ceilings differ: clear up to 15 and up to 15
        SmokeZones y = Check.house(10, 20, 10, 16);
        y.opening(0, 1, 50, 0, 16);
        y.fire(0, 0, 50, 50, 2);
        y.fire(1, 0, 19, 19, 2);
        y.run(1);
        check.due("just as much covered", y.openingAt(0, 1), 0);
        check.due("just as much covered, in all", y.openingAt(0, 2), 0);
    }

    private static void heatOfEachFlowIsRoundedDown() {
        // 48 litres with 104: 3 litres take 6 and a half, twice, so 12 go and not 13
        SmokeZones x = Check.house(1, 100, 1, 100);
        x.opening(0, 1, 1, 0, 100);
        x.opening(0, NONE, 1, 0, 100);
        x.fire(0, 0, 44, 44, 2);
        x.fire(0, 0, 4, 4, 4);
        x.run(1);
        room("half is left behind", x, 0, 42, 92);
        room("half does not come", x, 1, 3, 6);
        // 16 litres with 15: the litre that goes is cold
        SmokeZones y = Check.house(1, 100, 1, 100);
        y.opening(1, 0, 1, 0, 100);
        y.fire(0, 0, 15, 15, 1);
        y.fire(0, 0, 1, 1, 0);
        y.run(1);
        room("all heat is left behind", y, 0, 15, 15);
        room("a cold litre", y, 1, 1, 0);
    }

    private static void flowsLeaveTheLastSixteenth() {
        SmokeZones x = Check.house(1, 100);
        for (int i = 0; i < 15; i++) {
            x.opening(0, NONE, 50, 0, 100);
        }
        x.fire(0, 0, 79, 79, 10);
        x.fire(0, 0, 1, 1, 5);
        // 80 litres with 795: 5 each time with 49
        x.run(1);
        room("what fifteen openings leave", x, 0, 5, 60);
        check.due("what they take", x.balance(2), 75);
        check.due("the last of them", x.openingAt(14, 1), 5);
    }

    private static void fanTakesItsRateOrAll() {
        int[] rates = {1, 29, 30, 31, 100000};
        int[] left = {29, 1, 0, 0, 0};
        // 30 litres with 200
        int[] heatLeft = {194, 7, 0, 0, 0};
        for (int i = 0; i < rates.length; i++) {
            SmokeZones x = Check.house(10, 30);
            x.fan(0, 0, rates[i]);
            x.fire(0, 0, 20, 20, 10);
            x.fire(0, 0, 10, 10, 0);
            x.run(1);
            room("a fan of rate " + rates[i], x, 0, left[i], heatLeft[i]);
            check.due("blown at rate " + rates[i], x.balance(3), 30 - left[i]);
        }
        SmokeZones y = Check.house(10, 30);
        y.fan(0, 0, 1);
        y.run(10);
        check.due("nothing to take", y.balance(3), 0);
        y.fan(0, 10, 25);
        y.fan(0, 10, 25);
        y.fire(0, 10, 30, 30, 10);
        y.run(1);
        check.due("the last fan takes what is left", y.balance(3), 30);
        room("none is left", y, 0, 0, 0, 0, 0, 30);
    }

    private static void fanFromItsSecondOn() {
        SmokeZones x = Check.house(100, 100);
        x.fire(0, 0, 10, 10, 1);
        x.run(2);
        x.fan(0, 2, 3);
        x.fan(0, 4, 1);
        int[] blown = {3, 6, 10, 14};
        for (int i = 0; i < blown.length; i++) {
            x.run(1);
            check.due("blown behind second " + (2 + i), x.balance(3), blown[i]);
        }
    }

    private static void pressedOutAboveWhatItHolds() {
        // a room for 20 litres, of which each but ten is of heat 10
        int[] warm = {9, 10, 11, 20};
        int[] out = {0, 0, 1, 10};
        int[] heat = {90, 100, 104, 133};
        for (int i = 0; i < warm.length; i++) {
            SmokeZones x = filled(2, 10, warm[i], 10, 10);
            room("pressed, " + warm[i] + " litres", x, 0, 10 + warm[i] - out[i], heat[i]);
            check.due("pressed out of " + warm[i] + " litres", x.balance(4), out[i]);
            check.due("none out of " + warm[i] + " litres", x.balance(2), 0);
        }
    }

    private static void flowsArePressedOutToo() {
        SmokeZones x = Check.house(100, 60, 1, 20);
        x.opening(0, 1, 50, 0, 20);
        for (int i = 0; i < 5; i++) {
            x.fire(0, 0, 1000, 1000, 10);
        }
        // 5000 litres are clear up to 10; 2500 asked, a sixteenth is 312
        x.run(1);
        room("where it came from", x, 0, 4688, 46880);
        room("where it came to", x, 1, 20, 200);
        check.due("pressed out", x.balance(4), 292);
        check.due("all of it flowed", x.openingAt(0, 1), 312);
    }

    private static void sprinklerActsFromTheNextSecondOn() {
        SmokeZones x = Check.house(100, 100);
        x.fire(0, 0, 8, 8, 30);
        x.run(2);
        x.sprinkler(0, 30);
        check.due("not at once, although it is warm", x.roomAt(0, 5), 0);
        x.run(1);
        check.due("whole in that second", x.roomAt(0, 0), 24);
        check.due("from the next second on", x.roomAt(0, 5), 1);
        x.run(1);
        check.due("half in the next one", x.roomAt(0, 0), 28);
        x.fan(0, 4, 100000);
        x.run(50);
        check.due("cold", x.roomAt(0, 3), 0);
        check.due("for ever", x.roomAt(0, 5), 1);
        check.due("half for ever", x.balance(0), 28 + 50 * 4);
    }

    private static void glassBreaksFromTheNextSecondOn() {
        SmokeZones x = Check.house(10, 100);
        x.opening(0, NONE, 1, 0, 100);
        x.glass(0, 30);
        x.fire(0, 1, 16, 16, 30);
        x.run(1);
        check.due("closed while it is cold", x.openingAt(0, 0), 0);
        x.run(1);
        check.due("no flow in the second in which it breaks", x.openingAt(0, 2), 0);
        check.due("open then", x.openingAt(0, 0), 1);
        x.run(1);
        check.due("flow in the next one", x.openingAt(0, 1), 2);
        x.fan(0, 3, 100000);
        x.run(50);
        check.due("cold", x.roomAt(0, 3), 0);
        check.due("for ever", x.openingAt(0, 0), 1);
        check.due("flow for ever", x.openingAt(0, 1), 1);
    }

    private static void glassBreaksByEitherSide() {
        SmokeZones x = Check.house(10, 30, 10, 30, 10, 30);
        x.opening(0, 1, 1, 0, 30);
        x.opening(1, 0, 1, 0, 30);
        x.opening(1, 2, 1, 0, 30);
        x.opening(1, NONE, 1, 0, 30);
        x.opening(0, NONE, 1, 0, 30);
        for (int i = 0; i < 5; i++) {
            x.glass(i, 7);
        }
        x.fire(0, 0, 10, 10, 7);
        x.fire(1, 0, 10, 10, 6);
        x.run(1);
        int[] open = {1, 1, 0, 0, 1};
        for (int i = 0; i < 5; i++) {
            check.due("glass " + i, x.openingAt(i, 0), open[i]);
        }
    }

    private static void limitsAtTheirBounds() {
        int[] heats = {0, 1, 999, 1000};
        int[] least = {0, 1, 1, 1};
        int[] greatest = {0, 0, 0, 1};
        for (int i = 0; i < heats.length; i++) {
            SmokeZones x = Check.house(10, 30, 10, 30);
            x.opening(0, NONE, 1, 0, 30);
            x.opening(0, NONE, 1, 0, 30);
            x.glass(0, 1);
            x.glass(1, 1000);
            x.sprinkler(0, 1);
            x.sprinkler(1, 1000);
            x.fire(0, 0, 5, 5, heats[i]);
            x.fire(1, 0, 5, 5, heats[i]);
            x.run(1);
            check.due("glass of limit 1 at " + heats[i], x.openingAt(0, 0), least[i]);
            check.due("glass of limit 1000 at " + heats[i], x.openingAt(1, 0), greatest[i]);
            check.due("sprinkler of limit 1 at " + heats[i], x.roomAt(0, 5), least[i]);
            check.due("sprinkler of limit 1000 at " + heats[i], x.roomAt(1, 5), greatest[i]);
        }
    }

    private static void steelIsRoundedToZero() {
        // warmth 1000, then 0: (1000 - 0) / section, and (0 - temperature) / section
        int[] sections = {1, 2, 3, 499, 501, 999, 1000};
        int[] warm = {1000, 500, 333, 2, 1, 1, 1};
        int[] warmer = {1000, 750, 555, 4, 2, 2, 1};
        int[] cold = {0, 375, 370, 4, 2, 2, 1};
        // up to 0 and not down: 375 / 2 is 187 and a half, 370 / 3 is 123 and a third
        int[] colder = {0, 188, 247, 4, 2, 2, 1};
        SmokeZones x = Check.house(10, 30);
        for (int section : sections) {
            x.steel(0, section);
        }
        x.fire(0, 0, 1, 1, 1000);
        x.run(1);
        for (int i = 0; i < sections.length; i++) {
            check.due("section " + sections[i] + ", warm", x.steelAt(i), warm[i]);
        }
        x.run(1);
        for (int i = 0; i < sections.length; i++) {
            check.due("section " + sections[i] + ", warmer", x.steelAt(i), warmer[i]);
        }
        x.fan(0, 2, 100000);
        x.run(1);
        for (int i = 0; i < sections.length; i++) {
            check.due("section " + sections[i] + ", cold", x.steelAt(i), cold[i]);
        }
        x.run(1);
        for (int i = 0; i < sections.length; i++) {
            check.due("section " + sections[i] + ", colder", x.steelAt(i), colder[i]);
        }
    }

    private static void breathesBelowEighteen() {
        // rooms without smoke, then with one, two and three decimetres of it
        int[] heights = {1, 17, 18, 19, 20, 21, 100};
        int[] breathed = {4, 4, 3, 2, 1, 0, 0};
        for (int i = 0; i < heights.length; i++) {
            SmokeZones x = Check.house(10, heights[i]);
            x.person(0);
            x.fire(0, 1, 10, 10, 0);
            x.run(4);
            check.due("breathed, height " + heights[i], x.personAt(0, 2), breathed[i]);
            check.due("dose without warmth, height " + heights[i], x.personAt(0, 1), breathed[i]);
            long first = breathed[i] == 0 ? NONE : 4 - breathed[i];
            check.due("first low second, height " + heights[i], x.roomAt(0, 6), first);
        }
        SmokeZones y = Check.house(10, 17);
        y.person(0);
        y.fire(0, 0, 2, 2, 1000);
        y.run(1);
        check.due("the greatest dose of a second", y.personAt(0, 1), 1001);
    }

    private static void goesBeforeItBreathes() {
        SmokeZones x = Check.house(10, 17, 10, 30);
        x.person(0);
        x.person(1);
        x.person(0);
        x.person(NONE);
        x.go(0, 0, 1);
        x.go(1, 0, 0);
        x.go(2, 0, NONE);
        x.go(3, 0, 0);
        x.run(1);
        int[] places = {1, 0, NONE, 0};
        int[] breaths = {0, 1, 0, 1};
        for (int i = 0; i < places.length; i++) {
            check.due("person " + i + " is", x.personAt(i, 0), places[i]);
            check.due("person " + i + " breathed", x.personAt(i, 2), breaths[i]);
        }
        x.go(3, 1, 0);
        x.run(1);
        check.due("goes where it is", x.personAt(3, 0), 0);
        check.due("and breathes once", x.personAt(3, 2), 2);
    }

    /** Second 99999 is the last that passes; 100000 may be told, and never passes. */
    private static void lastSecondOfAll() {
        SmokeZones x = Check.house(10, 30);
        x.person(0);
        x.person(0);
        x.fire(0, 99998, 1, 10, 1);
        x.fire(0, 99999, 50, 50, 1);
        x.fire(0, 100000, 1000, 1000, 1);
        x.fan(0, 99999, 7);
        x.fan(0, 100000, 1000);
        x.go(0, 99999, NONE);
        x.go(1, 100000, NONE);
        for (int i = 0; i < 200; i++) {
            x.run(i == 199 ? 499 : 500);
        }
        check.due("made before", x.balance(0), 1);
        check.due("went before", x.personAt(0, 0), 0);
        check.due("the last one", x.run(1), 100000);
        check.due("made", x.balance(0), 1 + 2 + 50);
        check.due("blown", x.balance(3), 7);
        check.due("went", x.personAt(0, 0), NONE);
        check.due("never went", x.personAt(1, 0), 0);
        check.fine("a fire that never burns", () -> x.fire(0, 100000, 1, 1, 1));
        check.fine("a fan that never blows", () -> x.fan(0, 100000, 1));
        check.fine("a walk that never is", () -> x.go(0, 100000, 0));
        check.argument("no fire behind", () -> x.fire(0, 100001, 1, 1, 1));
        check.argument("no fire before", () -> x.fire(0, 99999, 1, 1, 1));
        check.argument("no fan before", () -> x.fan(0, 99999, 1));
        check.argument("no walk before", () -> x.go(1, 99999, 0));
        check.state("told as late as can be", () -> x.go(1, 100000, 0));
    }

    private static void firstLowSecondStays() {
        SmokeZones x = Check.house(10, 20);
        x.fire(0, 5, 30, 30, 0);
        x.run(5);
        check.due("none yet", x.roomAt(0, 6), NONE);
        x.run(1);
        check.due("the first one", x.roomAt(0, 6), 5);
        x.fan(0, 6, 45);
        x.run(1);
        check.due("clear again", x.roomAt(0, 4), 19);
        check.due("still the first one", x.roomAt(0, 6), 5);
        x.run(1);
        x.fire(0, 8, 100, 100, 0);
        x.run(1);
        check.due("low again", x.roomAt(0, 4) < 18 ? 1 : 0, 1);
        check.due("for ever the first one", x.roomAt(0, 6), 5);
        SmokeZones y = Check.house(10, 17);
        check.due("low, but no second has passed", y.roomAt(0, 6), NONE);
        y.run(1);
        check.due("low behind second 0", y.roomAt(0, 6), 0);
    }

    private static void glassKeepsWhatFlowed() {
        SmokeZones x = Check.house(10, 30, 10, 30);
        x.opening(0, 1, 1, 0, 30);
        x.fire(1, 0, 160, 160, 9);
        x.run(1);
        check.due("to its room", x.openingAt(0, 1), -10);
        check.due("in all", x.openingAt(0, 2), 10);
        x.glass(0, 10);
        x.run(5);
        check.due("closed", x.openingAt(0, 0), 0);
        check.due("nothing in the last second", x.openingAt(0, 1), 0);
        check.due("in all as before", x.openingAt(0, 2), 10);
        check.due("nothing comes", x.roomAt(0, 0), 10);
    }

    private static void objectsStandAlone() {
        SmokeZones x = Check.house(10, 17);
        x.person(0);
        x.fire(0, 0, 10, 10, 10);
        SmokeZones y = new SmokeZones();
        x.run(9);
        check.due("second 0 comes there", y.run(1), 1);
        check.argument("no room there", () -> y.roomAt(0, 0));
        check.argument("no person there", () -> y.personAt(0, 0));
        check.due("nothing made there", y.balance(0), 0);
        check.due("ten seconds here", x.run(1), 10);
    }
}
