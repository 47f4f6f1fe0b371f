import java.util.ArrayList;
import java.util.List;

/**
 * Every way in which a call is refused, each on a house of its own and beside a twin that never got the
 * call: it throws what the document names first, and nothing that is told, then or later, has changed.
 */
public final class RefusedTest {
    private static final int NONE = SmokeZones.NONE;
    private static final int LOW = Integer.MIN_VALUE;
    private static final int HIGH = Integer.MAX_VALUE;
    private static final int NOW = 6;
    private static final Check check = new Check("RefusedTest");

    interface Call {
        void on(SmokeZones x);
    }

    interface Builder {
        SmokeZones build();
    }

    interface Wrong {
        void on(SmokeZones x, int value);
    }

    private record Refusal(String name, Call call) {
    }

    public static void main(String[] args) {
        argumentsWithPlace();
        argumentsWhenFull();
        argumentsWhenTheStateIsWrongToo();
        statesWithPlace();
        statesWhenFull();
        runBeyondTheEnd();
        check.end();
    }

    /** Two rooms and one or two of each thing, in second 6: of each there is place for more. */
    private static SmokeZones halfFull() {
        SmokeZones x = Check.house(10, 30, 7, 20);
        x.opening(0, 1, 2, 3, 20);
        x.opening(1, NONE, 1, 5, 18);
        x.opening(0, NONE, 1, 20, 30);
        x.glass(1, 900);
        x.glass(2, 5);
        x.fire(0, 1, 9, 40, 31);
        x.sprinkler(0, 200);
        x.fan(1, 4, 2);
        x.steel(0, 3);
        x.person(0);
        x.person(NONE);
        x.go(0, 2, 1);
        x.go(0, 12, 0);
        x.run(NOW);
        return x;
    }

    /** As many of each thing as can be, in second 6. */
    private static SmokeZones full() {
        SmokeZones x = new SmokeZones();
        for (int i = 0; i < 10; i++) {
            x.room(5 + i, 20 + i);
        }
        for (int i = 0; i < 15; i++) {
            x.opening(i % 10, i % 3 == 0 ? NONE : (i + 1) % 10, 1 + i, i, 20);
        }
        for (int i = 0; i < 5; i++) {
            x.fire(i, i, 5 + i, 50, 20 + i);
        }
        for (int i = 0; i < 9; i++) {
            x.fan(i, 5 + i, 1 + i);
            x.steel(i, 1 + i);
            x.person(i);
        }
        for (int i = 0; i < 20; i++) {
            x.go(0, 8 + i, i % 10);
        }
        x.glass(0, 1000);
        x.glass(1, 20);
        x.sprinkler(0, 1000);
        x.run(NOW);
        return x;
    }

    /** All that is told of a house, up to the first thing of each kind that there is not. */
    private static List<Long> told(SmokeZones x) {
        List<Long> all = new ArrayList<>();
        tellEach(all, 10, 7, x::roomAt);
        tellEach(all, 15, 3, x::openingAt);
        tellEach(all, 9, 3, x::personAt);
        tellEach(all, 9, 1, (member, what) -> x.steelAt(member));
        for (int what = 0; what <= 4; what++) {
            all.add(x.balance(what));
        }
        return all;
    }

    interface Telling {
        long of(int number, int what);
    }

    private static void tellEach(List<Long> all, int most, int whats, Telling telling) {
        for (int number = 0; number < most; number++) {
            for (int what = 0; what < whats; what++) {
                try {
                    all.add(telling.of(number, what));
                } catch (IllegalArgumentException e) {
                    return;
                }
            }
        }
    }

    /** The numbers that things made after the refused call get, and whether they can be made. */
    private static List<Long> goOn(SmokeZones x) {
        List<Long> all = new ArrayList<>();
        all.add(number(y -> y.room(9, 19), x));
        all.add(number(y -> y.opening(1, 0, 3, 1, 9), x));
        all.add(number(y -> y.fire(1, NOW + 1, 3, 60, 15), x));
        all.add(number(y -> y.fan(0, NOW, 1), x));
        all.add(number(y -> y.steel(1, 2), x));
        all.add(number(y -> y.person(1), x));
        all.add(number(y -> { y.sprinkler(1, 9); return 0; }, x));
        all.add(number(y -> { y.glass(0, 30); return 0; }, x));
        all.add(number(y -> { y.go(1, NOW, 1); return 0; }, x));
        all.add(number(y -> { y.go(0, NOW + 7, 1); return 0; }, x));
        all.add(number(y -> y.run(20), x));
        return all;
    }

    interface Numbered {
        long on(SmokeZones x);
    }

    private static long number(Numbered call, SmokeZones x) {
        try {
            return call.on(x);
        } catch (IllegalStateException e) {
            return -2;
        }
    }

    private static void refused(boolean isState, Builder builder, Refusal refusal) {
        SmokeZones x = builder.build();
        SmokeZones twin = builder.build();
        if (isState) {
            check.state(refusal.name, () -> refusal.call.on(x));
        } else {
            check.argument(refusal.name, () -> refusal.call.on(x));
        }
        check.yes(refusal.name + " changed what is told", told(x).equals(told(twin)));
        check.yes(refusal.name + " changed what can be made", goOn(x).equals(goOn(twin)));
        check.yes(refusal.name + " changed what comes", told(x).equals(told(twin)));
    }

    private static void each(List<Refusal> all, String name, int[] values, Wrong wrong) {
        for (int value : values) {
            all.add(new Refusal(name + " " + value, x -> wrong.on(x, value)));
        }
    }

    private static int[] outside(int least, int most) {
        return new int[] {LOW, least - 1, most + 1, HIGH};
    }

    private static int[] noNumber(int count) {
        return new int[] {LOW, -2, -1, count, count + 1, HIGH};
    }

    private static int[] noPlace(int rooms) {
        return new int[] {LOW, -3, -2, rooms, rooms + 1, HIGH};
    }

    private static int[] noSecond() {
        return new int[] {LOW, -1, 0, NOW - 1, 100001, HIGH};
    }

    /** Each argument of each call out of its bounds, with all the others within theirs. */
    private static List<Refusal> wrongArguments(int rooms, int openings, int persons, int members) {
        List<Refusal> all = new ArrayList<>();
        each(all, "2: room, area", outside(1, 10000), (x, v) -> x.room(v, 20));
        each(all, "2: room, height", outside(1, 100), (x, v) -> x.room(10, v));
        each(all, "3: opening, room", noNumber(rooms), (x, v) -> x.opening(v, 0, 1, 0, 10));
        each(all, "3: opening, other", noPlace(rooms), (x, v) -> x.opening(0, v, 1, 0, 10));
        each(all, "3: opening, both are one", new int[] {0, 1}, (x, v) -> x.opening(v, v, 1, 0, 10));
        each(all, "3: opening, width", outside(1, 50), (x, v) -> x.opening(0, 1, v, 0, 10));
        each(all, "3: opening, sill", new int[] {LOW, -1, 10, 11, HIGH}, (x, v) -> x.opening(0, 1, 1, v, 10));
        each(all, "3: opening, top", new int[] {LOW, -1, 0, 4, 5, 101, HIGH}, (x, v) -> x.opening(0, 1, 1, 5, v));
        each(all, "4: glass, opening", noNumber(openings), (x, v) -> x.glass(v, 20));
        each(all, "4: glass, limit", outside(1, 1000), (x, v) -> x.glass(0, v));
        each(all, "5: fire, room", noNumber(rooms), (x, v) -> x.fire(v, NOW, 1, 1, 1));
        each(all, "5: fire, second", noSecond(), (x, v) -> x.fire(0, v, 1, 1, 1));
        each(all, "5: fire, growth", outside(1, 1000), (x, v) -> x.fire(0, NOW, v, 1, 1));
        each(all, "5: fire, most", outside(1, 100000), (x, v) -> x.fire(0, NOW, 1, v, 1));
        each(all, "5: fire, heat", outside(0, 1000), (x, v) -> x.fire(0, NOW, 1, 1, v));
        each(all, "6: sprinkler, room", noNumber(rooms), (x, v) -> x.sprinkler(v, 20));
        each(all, "6: sprinkler, limit", outside(1, 1000), (x, v) -> x.sprinkler(1, v));
        each(all, "7: fan, room", noNumber(rooms), (x, v) -> x.fan(v, NOW, 1));
        each(all, "7: fan, second", noSecond(), (x, v) -> x.fan(0, v, 1));
        each(all, "7: fan, rate", outside(1, 100000), (x, v) -> x.fan(0, NOW, v));
        each(all, "8: steel, room", noNumber(rooms), (x, v) -> x.steel(v, 1));
        each(all, "8: steel, section", outside(1, 1000), (x, v) -> x.steel(0, v));
        each(all, "9: person, room", noPlace(rooms), (x, v) -> x.person(v));
        each(all, "10: go, person", noNumber(persons), (x, v) -> x.go(v, 99, 0));
        each(all, "10: go, second", noSecond(), (x, v) -> x.go(0, v, 0));
        each(all, "10: go, room", noPlace(rooms), (x, v) -> x.go(0, 99, v));
        each(all, "11: run, n", outside(1, 500), (x, v) -> x.run(v));
        each(all, "12: roomAt, room", noNumber(rooms), (x, v) -> x.roomAt(v, 0));
        each(all, "12: roomAt, what", outside(0, 6), (x, v) -> x.roomAt(0, v));
        each(all, "13: openingAt, opening", noNumber(openings), (x, v) -> x.openingAt(v, 0));
        each(all, "13: openingAt, what", outside(0, 2), (x, v) -> x.openingAt(0, v));
        each(all, "14: personAt, person", noNumber(persons), (x, v) -> x.personAt(v, 0));
        each(all, "14: personAt, what", outside(0, 2), (x, v) -> x.personAt(0, v));
        each(all, "15: steelAt, member", noNumber(members), (x, v) -> x.steelAt(v));
        each(all, "16: balance, what", outside(0, 4), (x, v) -> x.balance(v));
        return all;
    }

    private static void argumentsWithPlace() {
        List<Refusal> all = wrongArguments(2, 3, 2, 1);
        each(all, "3: opening, top above one of its rooms", new int[] {21, 30}, (x, v) -> x.opening(0, 1, 1, 0, v));
        each(all, "3: opening, top above the other one", new int[] {21, 30}, (x, v) -> x.opening(1, 0, 1, 0, v));
        each(all, "3: opening, top above its only room", new int[] {21, 30}, (x, v) -> x.opening(1, NONE, 1, 0, v));
        for (Refusal refusal : all) {
            refused(false, RefusedTest::halfFull, refusal);
        }
    }

    /** Illegal state holds too, but it is named second. */
    private static void argumentsWhenFull() {
        for (Refusal refusal : wrongArguments(10, 15, 9, 9)) {
            refused(false, RefusedTest::full, refusal);
        }
    }

    private static void argumentsWhenTheStateIsWrongToo() {
        List<Refusal> all = new ArrayList<>();
        each(all, "4: glass where one is, limit", outside(1, 1000), (x, v) -> x.glass(1, v));
        each(all, "4: glass where one broke, limit", outside(1, 1000), (x, v) -> x.glass(2, v));
        each(all, "6: sprinkler where one is, limit", outside(1, 1000), (x, v) -> x.sprinkler(0, v));
        each(all, "10: go in a second that was told, room", noPlace(2), (x, v) -> x.go(0, 12, v));
        each(all, "10: go before a second that was told, room", noPlace(2), (x, v) -> x.go(0, 11, v));
        for (Refusal refusal : all) {
            refused(false, RefusedTest::halfFull, refusal);
        }
    }

    private static void statesWithPlace() {
        check.due("4: that glass broke", halfFull().openingAt(2, 0), 1);
        check.due("4: that glass holds", halfFull().openingAt(1, 0), 0);
        List<Refusal> all = new ArrayList<>();
        each(all, "4: glass where one is", new int[] {1, 20, 900, 1000}, (x, v) -> x.glass(1, v));
        each(all, "4: glass where one broke", new int[] {1, 5, 1000}, (x, v) -> x.glass(2, v));
        each(all, "6: sprinkler where one is", new int[] {1, 200, 1000}, (x, v) -> x.sprinkler(0, v));
        each(all, "10: go in or before a second that was told", new int[] {NOW, 11, 12}, (x, v) -> x.go(0, v, 1));
        each(all, "10: go outside in or before one", new int[] {NOW, 11, 12}, (x, v) -> x.go(0, v, NONE));
        for (Refusal refusal : all) {
            refused(true, RefusedTest::halfFull, refusal);
        }
    }

    private static void statesWhenFull() {
        List<Refusal> all = new ArrayList<>();
        each(all, "2: an eleventh room, area", new int[] {1, 10000}, (x, v) -> x.room(v, 20));
        each(all, "3: a sixteenth opening to", new int[] {NONE, 1, 9}, (x, v) -> x.opening(0, v, 1, 0, 20));
        each(all, "5: a sixth fire in", new int[] {0, 9}, (x, v) -> x.fire(v, NOW, 1, 1, 0));
        each(all, "7: a tenth fan in", new int[] {0, 9}, (x, v) -> x.fan(v, NOW, 1));
        each(all, "8: a tenth member in", new int[] {0, 9}, (x, v) -> x.steel(v, 1));
        each(all, "9: a tenth person in", new int[] {NONE, 0, 9}, (x, v) -> x.person(v));
        each(all, "10: a twenty-first go to", new int[] {NONE, 0, 9}, (x, v) -> x.go(0, 28, v));
        each(all, "10: a twenty-first go in second", new int[] {NOW, 27, 99, 100000}, (x, v) -> x.go(0, v, 0));
        for (Refusal refusal : all) {
            refused(true, RefusedTest::full, refusal);
        }
    }

    /** Too long by little and by much: not one second of it passes. */
    private static void runBeyondTheEnd() {
        int[] left = {0, 1, 2, 250, 499};
        for (int seconds : left) {
            SmokeZones x = Check.house(10, 17);
            x.person(0);
            for (int i = 0; i < 199; i++) {
                x.run(500);
            }
            x.run(500 - seconds);
            check.state("11: run, one too many", () -> x.run(seconds + 1));
            check.state("11: run, as many as can be asked", () -> x.run(500));
            check.argument("11: run, more than can be asked", () -> x.run(501));
            check.argument("11: run, none", () -> x.run(0));
            check.due("11: no second has passed", x.personAt(0, 2), 100000 - seconds);
            if (seconds > 0) {
                check.answers("11: run, just to the end", 100000, () -> x.run(seconds));
            }
            check.due("11: all seconds have passed", x.personAt(0, 2), 100000);
            check.state("11: run, none is left", () -> x.run(1));
        }
    }
}
