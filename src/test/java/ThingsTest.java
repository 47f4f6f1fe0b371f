/** Promises 1 to 10: a new object, and all things that can be put into it. */
public final class ThingsTest {
    private static final int NONE = SmokeZones.NONE;
    private static final int LOW = Integer.MIN_VALUE;
    private static final int HIGH = Integer.MAX_VALUE;
    private static final Check check = new Check("ThingsTest");

    public static void main(String[] args) {
        newObject();
        roomBounds();
        roomLimit();
        openingBounds();
        openingLimit();
        glassRefusals();
        glassBreaks();
        fireBounds();
        fireLimit();
        fireGrows();
        sprinklerRefusals();
        sprinklerHalves();
        fanBounds();
        fanTakes();
        steelBounds();
        steelRounds();
        personBounds();
        goBounds();
        goStates();
        goMoves();
        check.end();
    }

    private static void newObject() {
        SmokeZones x = new SmokeZones();
        check.due("1: NONE", SmokeZones.NONE, -1);
        for (int what = 0; what <= 4; what++) {
            check.due("1: balance(" + what + ")", x.balance(what), 0);
        }
        check.argument("1: no room", () -> x.roomAt(0, 0));
        check.argument("1: no opening", () -> x.openingAt(0, 0));
        check.argument("1: no person", () -> x.personAt(0, 0));
        check.argument("1: no steel", () -> x.steelAt(0));
        check.argument("1: no opening for a glass", () -> x.glass(0, 1));
        check.argument("1: no room for a fire", () -> x.fire(0, 0, 1, 1, 1));
        check.argument("1: no room for a sprinkler", () -> x.sprinkler(0, 1));
        check.argument("1: no room for a fan", () -> x.fan(0, 0, 1));
        check.argument("1: no room for steel", () -> x.steel(0, 1));
        check.argument("1: no room for a person", () -> x.person(0));
        check.argument("1: no person to go", () -> x.go(0, 0, NONE));
        check.due("1: second 0 has gone", x.run(1), 1);
        SmokeZones y = new SmokeZones();
        check.due("1: a second object stands alone", y.run(1), 1);
    }

    private static void roomBounds() {
        SmokeZones x = new SmokeZones();
        int[] badAreas = {LOW, -1, 0, 10001, HIGH};
        for (int area : badAreas) {
            check.argument("2: room(" + area + ", 1)", () -> x.room(area, 1));
        }
        int[] badHeights = {LOW, -1, 0, 101, HIGH};
        for (int height : badHeights) {
            check.argument("2: room(1, " + height + ")", () -> x.room(1, height));
        }
        check.answers("2: the least room", 0, () -> x.room(1, 1));
        check.answers("2: the largest room", 1, () -> x.room(10000, 100));
        check.due("2: clear up to its height", x.roomAt(1, 4), 100);
        check.due("2: no smoke", x.roomAt(1, 0), 0);
        check.due("2: no heat", x.roomAt(1, 1), 0);
    }

    private static void roomLimit() {
        SmokeZones x = new SmokeZones();
        for (int i = 0; i < 10; i++) {
            check.due("2: room " + i, x.room(5, 20 + i), i);
        }
        check.state("2: an eleventh room", () -> x.room(5, 20));
        check.argument("2: an eleventh room, out of bounds", () -> x.room(5, 0));
        check.argument("2: no room 10", () -> x.roomAt(10, 0));
        check.due("2: the last one stands", x.roomAt(9, 4), 29);
    }

    private static void openingBounds() {
        SmokeZones x = Check.house(10, 20, 10, 30);
        int[] noRooms = {LOW, -2, NONE, 2, HIGH};
        for (int room : noRooms) {
            check.argument("3: opening from " + room, () -> x.opening(room, 0, 1, 0, 1));
        }
        int[] noOthers = {LOW, -2, 2, HIGH};
        for (int other : noOthers) {
            check.argument("3: opening to " + other, () -> x.opening(0, other, 1, 0, 1));
        }
        int[] badWidths = {LOW, -1, 0, 51, HIGH};
        for (int width : badWidths) {
            check.argument("3: width " + width, () -> x.opening(0, 1, width, 0, 1));
        }
        int[] badSills = {LOW, -1, 5, 6, HIGH};
        for (int sill : badSills) {
            check.argument("3: sill " + sill + " below top 5", () -> x.opening(0, 1, 1, sill, 5));
        }
        check.argument("3: both one", () -> x.opening(1, 1, 1, 0, 1));
        check.argument("3: top 0", () -> x.opening(0, 1, 1, 0, 0));
        check.argument("3: top least", () -> x.opening(0, 1, 1, 0, LOW));
        check.argument("3: sill and top least", () -> x.opening(0, 1, 1, LOW, LOW));
        check.argument("3: top above its room", () -> x.opening(0, 1, 1, 0, 21));
        check.argument("3: top above the other room", () -> x.opening(1, 0, 1, 0, 21));
        check.argument("3: top above the room to the outside", () -> x.opening(1, NONE, 1, 0, 31));
        check.argument("3: top greatest", () -> x.opening(1, NONE, 1, 0, HIGH));
        check.answers("3: both rooms' least height", 0, () -> x.opening(0, 1, 50, 19, 20));
        check.answers("3: the other way", 1, () -> x.opening(1, 0, 1, 0, 20));
        check.answers("3: to the outside", 2, () -> x.opening(1, NONE, 1, 29, 30));
        for (int what = 0; what <= 2; what++) {
            check.due("3: new, openingAt(0, " + what + ")", x.openingAt(0, what), what == 0 ? 1 : 0);
        }
    }

    private static void openingLimit() {
        SmokeZones x = Check.house(10, 20, 10, 20);
        for (int i = 0; i < 15; i++) {
            check.due("3: opening " + i, x.opening(i % 2, 1 - i % 2, 1, 0, 1), i);
        }
        check.state("3: a sixteenth", () -> x.opening(0, 1, 1, 0, 1));
        check.argument("3: a sixteenth, out of bounds", () -> x.opening(0, 1, 1, 0, 21));
        check.argument("3: no opening 15", () -> x.openingAt(15, 0));
    }

    private static void glassRefusals() {
        SmokeZones x = Check.house(10, 20);
        x.opening(0, NONE, 1, 0, 20);
        x.opening(0, NONE, 1, 0, 20);
        int[] noOpenings = {LOW, -1, 2, HIGH};
        for (int opening : noOpenings) {
            check.argument("4: glass of " + opening, () -> x.glass(opening, 1));
        }
        int[] badLimits = {LOW, -1, 0, 1001, HIGH};
        for (int limit : badLimits) {
            check.argument("4: limit " + limit, () -> x.glass(0, limit));
        }
        check.due("4: still open", x.openingAt(0, 0), 1);
        check.fine("4: least limit", () -> x.glass(0, 1));
        check.fine("4: greatest limit", () -> x.glass(1, 1000));
        check.due("4: closed", x.openingAt(0, 0), 0);
        check.state("4: has one", () -> x.glass(0, 1));
        check.argument("4: has one, limit out of bounds", () -> x.glass(0, 0));
    }

    /** The smoke is of warmth 50 at once; only glass with a limit of 50 or less breaks. */
    private static void glassBreaks() {
        SmokeZones x = Check.house(10, 20, 10, 20);
        x.opening(0, NONE, 1, 0, 20);
        x.opening(1, 0, 1, 0, 20);
        x.opening(0, NONE, 1, 0, 20);
        x.glass(0, 50);
        x.glass(1, 49);
        x.glass(2, 51);
        x.fire(0, 0, 160, 160, 50);
        x.run(1);
        check.due("4: nothing through glass", x.roomAt(0, 0), 160);
        check.due("4: no flow through glass", x.openingAt(0, 2), 0);
        check.due("4: breaks at its limit", x.openingAt(0, 0), 1);
        check.due("4: breaks by the other room", x.openingAt(1, 0), 1);
        check.due("4: holds below its limit", x.openingAt(2, 0), 0);
        check.state("4: broke", () -> x.glass(0, 50));
        check.argument("4: broke, limit out of bounds", () -> x.glass(0, 1001));
        // 320 in room 0, all of it covered: 100 asked, 320 / 16 = 20 go
        x.run(1);
        check.due("4: flows from the next second on", x.openingAt(0, 1), 20);
        check.due("4: flows back to its room", x.openingAt(1, 1), 20 * -1);
        check.due("4: the third holds", x.openingAt(2, 2), 0);
        x.fan(0, 2, 100000);
        x.fan(1, 2, 100000);
        x.run(5);
        check.due("4: cold", x.roomAt(0, 3), 0);
        check.due("4: open for ever", x.openingAt(0, 0), 1);

        SmokeZones y = Check.house(10, 20);
        y.opening(0, NONE, 1, 0, 20);
        y.fire(0, 0, 160, 160, 50);
        y.run(1);
        check.due("4: before its glass", y.openingAt(0, 1), 10);
        y.glass(0, 1);
        check.due("4: closed although it is warm", y.openingAt(0, 0), 0);
        check.due("4: the last second's flow stays told", y.openingAt(0, 1), 10);
        y.run(1);
        check.due("4: closed for that second", y.openingAt(0, 1), 0);
        check.due("4: no smoke goes", y.roomAt(0, 0), 200);
        check.due("4: no heat goes", y.roomAt(0, 1), 200 * 50);
        check.due("4: and then broken", y.openingAt(0, 0), 1);
    }

    private static void fireBounds() {
        SmokeZones x = Check.house(10, 20);
        x.run(7);
        int[] noRooms = {LOW, -2, NONE, 1, HIGH};
        for (int room : noRooms) {
            check.argument("5: fire in " + room, () -> x.fire(room, 7, 1, 1, 1));
        }
        int[] badSeconds = {LOW, -1, 0, 6, 100001, HIGH};
        for (int second : badSeconds) {
            check.argument("5: second " + second, () -> x.fire(0, second, 1, 1, 1));
        }
        int[] badGrowths = {LOW, -1, 0, 1001, HIGH};
        for (int growth : badGrowths) {
            check.argument("5: growth " + growth, () -> x.fire(0, 7, growth, 1, 1));
        }
        int[] badMosts = {LOW, -1, 0, 100001, HIGH};
        for (int most : badMosts) {
            check.argument("5: most " + most, () -> x.fire(0, 7, 1, most, 1));
        }
        int[] badHeats = {LOW, -1, 1001, HIGH};
        for (int heat : badHeats) {
            check.argument("5: heat " + heat, () -> x.fire(0, 7, 1, 1, heat));
        }
        check.answers("5: the least", 0, () -> x.fire(0, 7, 1, 1, 0));
        check.answers("5: the greatest", 1, () -> x.fire(0, 100000, 1000, 100000, 1000));
        x.run(1);
        check.due("5: none but the least burnt", x.balance(0), 1);
    }

    private static void fireLimit() {
        SmokeZones x = Check.house(10, 20);
        for (int i = 0; i < 5; i++) {
            check.due("5: fire " + i, x.fire(0, 0, 1, 1, 1), i);
        }
        check.state("5: a sixth", () -> x.fire(0, 0, 1, 1, 1));
        check.argument("5: a sixth, out of bounds", () -> x.fire(0, 0, 1, 1, 1001));
        x.run(1);
        check.due("5: five burn", x.balance(0), 5);
    }

    private static void fireGrows() {
        SmokeZones x = Check.house(100, 100);
        x.fire(0, 2, 7, 20, 3);
        int[] madeBehind = {0, 0, 7, 21, 41, 61};
        for (int second = 0; second < madeBehind.length; second++) {
            x.run(1);
            check.due("5: made behind second " + second, x.balance(0), madeBehind[second]);
            check.due("5: its heat behind second " + second, x.roomAt(0, 1), 3 * madeBehind[second]);
        }
    }

    private static void sprinklerRefusals() {
        SmokeZones x = Check.house(10, 20, 10, 20);
        int[] noRooms = {LOW, -2, NONE, 2, HIGH};
        for (int room : noRooms) {
            check.argument("6: sprinkler in " + room, () -> x.sprinkler(room, 1));
        }
        int[] badLimits = {LOW, -1, 0, 1001, HIGH};
        for (int limit : badLimits) {
            check.argument("6: limit " + limit, () -> x.sprinkler(0, limit));
        }
        check.fine("6: least limit", () -> x.sprinkler(0, 1));
        check.fine("6: greatest limit", () -> x.sprinkler(1, 1000));
        check.state("6: has one", () -> x.sprinkler(0, 2));
        check.argument("6: has one, limit out of bounds", () -> x.sprinkler(0, 0));
        check.due("6: does not act by itself", x.roomAt(0, 5), 0);
        x.run(1);
        check.due("6: does not act without warmth", x.roomAt(0, 5), 0);
    }

    private static void sprinklerHalves() {
        SmokeZones x = Check.house(100, 100, 100, 100);
        x.sprinkler(0, 30);
        x.sprinkler(1, 31);
        x.fire(0, 0, 7, 7, 30);
        x.fire(1, 0, 7, 7, 30);
        x.run(1);
        check.due("6: acts at its limit", x.roomAt(0, 5), 1);
        check.due("6: not below its limit", x.roomAt(1, 5), 0);
        check.due("6: all of the first second", x.roomAt(0, 0), 7);
        x.run(1);
        check.due("6: half, rounded down, from the next second on", x.roomAt(0, 0), 10);
        check.due("6: with the heat of half", x.roomAt(0, 1), 300);
        check.due("6: not halved in the other room", x.roomAt(1, 0), 14);
        x.fan(0, 2, 100000);
        x.run(1);
        check.due("6: cold", x.roomAt(0, 3), 0);
        check.due("6: acts for ever", x.roomAt(0, 5), 1);
        check.due("6: made is what was halved", x.balance(0), 7 + 3 + 3 + 21);
        check.state("6: has one that acts", () -> x.sprinkler(0, 30));
        // a fire of one litre a second makes nothing below a sprinkler
        SmokeZones y = Check.house(100, 100);
        y.sprinkler(0, 1);
        y.fire(0, 0, 1, 1, 1);
        y.run(10);
        check.due("6: half of 1 is 0", y.balance(0), 1);
    }

    private static void fanBounds() {
        SmokeZones x = Check.house(10, 20);
        x.run(7);
        int[] noRooms = {LOW, -2, NONE, 1, HIGH};
        for (int room : noRooms) {
            check.argument("7: fan in " + room, () -> x.fan(room, 7, 1));
        }
        int[] badSeconds = {LOW, -1, 0, 6, 100001, HIGH};
        for (int second : badSeconds) {
            check.argument("7: second " + second, () -> x.fan(0, second, 1));
        }
        int[] badRates = {LOW, -1, 0, 100001, HIGH};
        for (int rate : badRates) {
            check.argument("7: rate " + rate, () -> x.fan(0, 7, rate));
        }
        check.answers("7: the least", 0, () -> x.fan(0, 7, 1));
        check.answers("7: the greatest", 1, () -> x.fan(0, 100000, 100000));
        for (int i = 2; i < 9; i++) {
            check.due("7: fan " + i, x.fan(0, 7, 1), i);
        }
        check.state("7: a tenth", () -> x.fan(0, 7, 1));
        check.argument("7: a tenth, out of bounds", () -> x.fan(0, 6, 1));
    }

    private static void fanTakes() {
        SmokeZones x = Check.house(100, 100);
        x.fire(0, 0, 10, 10, 10);
        x.fire(0, 0, 1, 1, 5);
        x.fan(0, 1, 3);
        x.fan(0, 2, 100000);
        x.run(1);
        check.due("7: not before its second", x.balance(3), 0);
        // 22 litres with heat 210: 3 litres take 210 * 3 / 22 = 28
        x.run(1);
        check.due("7: its rate", x.balance(3), 3);
        check.due("7: leaves smoke", x.roomAt(0, 0), 19);
        check.due("7: takes heat, rounded down", x.roomAt(0, 1), 182);
        x.run(1);
        check.due("7: all that there is", x.balance(3), 33);
        check.due("7: leaves none", x.roomAt(0, 0), 0);
        check.due("7: leaves no heat", x.roomAt(0, 1), 0);
    }

    private static void steelBounds() {
        SmokeZones x = Check.house(10, 20);
        int[] noRooms = {LOW, -2, NONE, 1, HIGH};
        for (int room : noRooms) {
            check.argument("8: steel in " + room, () -> x.steel(room, 1));
        }
        int[] badSections = {LOW, -1, 0, 1001, HIGH};
        for (int section : badSections) {
            check.argument("8: section " + section, () -> x.steel(0, section));
        }
        check.answers("8: the least", 0, () -> x.steel(0, 1));
        check.answers("8: the greatest", 1, () -> x.steel(0, 1000));
        for (int i = 2; i < 9; i++) {
            check.due("8: steel " + i, x.steel(0, 1), i);
        }
        check.state("8: a tenth", () -> x.steel(0, 1));
        check.argument("8: a tenth, out of bounds", () -> x.steel(0, 0));
        check.due("8: cold at first", x.steelAt(8), 0);
    }

    private static void steelRounds() {
        SmokeZones x = Check.house(10, 20);
        x.steel(0, 3);
        x.steel(0, 1);
        x.steel(0, 1000);
        x.fire(0, 0, 1, 1, 100);
        int[] warmer = {33, 55, 70, 80, 86};
        for (int second = 0; second < warmer.length; second++) {
            x.run(1);
            check.due("8: behind second " + second, x.steelAt(0), warmer[second]);
        }
        check.due("8: section 1 follows at once", x.steelAt(1), 100);
        check.due("8: a large section stays", x.steelAt(2), 0);
        x.fan(0, 5, 100000);
        // to 0 and not down: (0 - 86) / 3 is -28, and (0 - 2) / 3 is 0
        int[] colder = {58, 39, 26, 18, 12, 8, 6, 4, 3, 2, 2};
        for (int i = 0; i < colder.length; i++) {
            x.run(1);
            check.due("8: colder " + i, x.steelAt(0), colder[i]);
        }
    }

    private static void personBounds() {
        SmokeZones x = Check.house(10, 20);
        int[] noRooms = {LOW, -2, 1, HIGH};
        for (int room : noRooms) {
            check.argument("9: person in " + room, () -> x.person(room));
        }
        check.answers("9: in a room", 0, () -> x.person(0));
        check.answers("9: outside", 1, () -> x.person(NONE));
        check.due("9: is in the room", x.personAt(0, 0), 0);
        check.due("9: is outside", x.personAt(1, 0), NONE);
        check.due("9: no dose", x.personAt(0, 1), 0);
        check.due("9: no breath", x.personAt(0, 2), 0);
        for (int i = 2; i < 9; i++) {
            check.due("9: person " + i, x.person(0), i);
        }
        check.state("9: a tenth", () -> x.person(0));
        check.argument("9: a tenth, nowhere", () -> x.person(1));
    }

    private static void goBounds() {
        SmokeZones x = Check.house(10, 20);
        x.person(0);
        x.run(7);
        int[] noPersons = {LOW, -1, 1, HIGH};
        for (int person : noPersons) {
            check.argument("10: person " + person, () -> x.go(person, 7, 0));
        }
        int[] badSeconds = {LOW, -1, 0, 6, 100001, HIGH};
        for (int second : badSeconds) {
            check.argument("10: second " + second, () -> x.go(0, second, 0));
        }
        int[] noRooms = {LOW, -2, 1, HIGH};
        for (int room : noRooms) {
            check.argument("10: room " + room, () -> x.go(0, 7, room));
        }
        check.fine("10: the second that comes", () -> x.go(0, 7, NONE));
        check.fine("10: the last second", () -> x.go(0, 100000, 0));
        check.state("10: no second behind the last", () -> x.go(0, 100000, 0));
    }

    private static void goStates() {
        SmokeZones x = Check.house(10, 20);
        x.person(NONE);
        x.person(NONE);
        x.go(0, 5, 0);
        check.state("10: that second", () -> x.go(0, 5, NONE));
        check.state("10: an earlier one", () -> x.go(0, 4, NONE));
        check.argument("10: that second, but no room", () -> x.go(0, 5, 1));
        check.fine("10: of another person", () -> x.go(1, 5, 0));
        for (int i = 1; i < 20; i++) {
            int second = 5 + i;
            check.fine("10: telling " + i, () -> x.go(0, second, 0));
        }
        check.state("10: a twenty-first", () -> x.go(0, 50, 0));
        check.argument("10: a twenty-first, out of bounds", () -> x.go(0, 100001, 0));
        x.run(30);
        check.state("10: a twenty-first, behind all of them", () -> x.go(0, 50, 0));
        check.fine("10: the other one may", () -> x.go(1, 30, NONE));
    }

    private static void goMoves() {
        SmokeZones x = Check.house(10, 10, 10, 30);
        x.person(NONE);
        x.go(0, 0, 0);
        x.go(0, 2, 1);
        x.go(0, 3, NONE);
        x.go(0, 5, 0);
        int[] places = {0, 0, 1, NONE, NONE, 0, 0};
        for (int second = 0; second < places.length; second++) {
            x.run(1);
            check.due("10: behind second " + second, x.personAt(0, 0), places[second]);
        }
        // room 0 is low even without smoke: it breathed in seconds 0, 1, 5, 6
        check.due("10: goes before it breathes", x.personAt(0, 2), 4);
        SmokeZones y = Check.house(10, 10);
        y.person(NONE);
        y.go(0, 3, 0);
        y.run(3);
        check.due("10: not before its second", y.personAt(0, 0), NONE);
        y.run(100);
        check.due("10: within a longer run", y.personAt(0, 0), 0);
        check.due("10: breathes from then on", y.personAt(0, 2), 100);
    }
}
