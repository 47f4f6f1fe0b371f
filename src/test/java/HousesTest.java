import java.util.Arrays;

/**
 * Many houses from a fixed row of numbers, each asked what the model is asked: every answer and every
 * exception is the model's, nothing is lost from sight, and a refused call shows in no later answer.
 */
public final class HousesTest {
    private static final int HOUSES = 1500;
    /** With all that is asked at the end this stays below the 512 calls for which an object is used. */
    private static final int CALLS = 340;
    private static final int[] TOLD = {Model.ROOM_AT, Model.OPENING_AT, Model.PERSON_AT};
    private static final int[] TOLD_OF = {Model.ROOM, Model.OPENING, Model.PERSON};
    private static final int[] WHATS = {7, 3, 3};
    private static final Check check = new Check("HousesTest");

    private final SmokeZones house = new SmokeZones();
    private final Model model = new Model();
    private final boolean small;
    private final int longest;
    /** Asked for more often than the others, so that there come to be as many as can be. */
    private final int favourite;
    private long seed;

    private HousesTest(int number) {
        seed = number;
        small = number % 3 != 0;
        favourite = number % 10;
        longest = number % 50 == 0 ? 500 : number % 5 == 0 ? 60 : 4;
    }

    public static void main(String[] args) {
        for (int i = 0; i < HOUSES; i++) {
            new HousesTest(i).live();
        }
        check.end();
    }

    private int below(int bound) {
        seed = seed * 6364136223846793005L + 1442695040888963407L;
        return (int) ((seed >>> 33) % bound);
    }

    private void live() {
        for (int i = 0; i < CALLS; i++) {
            int kind = i < 40 ? below(10) : below(15);
            ask(nextCall(below(5) == 0 ? favourite : kind));
        }
        askAll();
    }

    private void ask(int... call) {
        Object due = model.call(call);
        Object got = answer(house, call);
        check.yes(Arrays.toString(call) + " answered " + got + ", due is " + due, due.equals(got));
    }

    private void askAll() {
        for (int kind = 0; kind < TOLD.length; kind++) {
            for (int i = 0; i < model.count(TOLD_OF[kind]); i++) {
                for (int what = 0; what < WHATS[kind]; what++) {
                    ask(TOLD[kind], i, what);
                }
            }
        }
        for (int i = 0; i < model.count(Model.STEEL); i++) {
            ask(Model.STEEL_AT, i);
        }
        long found = 0;
        for (int what = 1; what <= 4; what++) {
            found += house.balance(what);
        }
        check.due("made is what is in rooms, out, blown and pressed out", found, house.balance(0));
    }

    /** Mostly within its bounds, often at them, now and then beyond. */
    private int number(int least, int most) {
        switch (below(30)) {
            case 0: return below(2) == 0 ? least - 1 : most + 1;
            case 1: return below(2) == 0 ? Integer.MIN_VALUE : Integer.MAX_VALUE;
            case 2: return least;
            case 3: return most;
            default: return least + below(small ? Math.min(30, most - least + 1) : most - least + 1);
        }
    }

    /** The number of a thing that there is, or just none. */
    private int thing(int kind) {
        int count = model.count(kind);
        return below(12) == 0 || count == 0 ? below(count + 3) - 1 : below(count);
    }

    private int place() {
        return below(6) == 0 ? below(2) - 2 : thing(Model.ROOM);
    }

    private int second() {
        int kind = below(30);
        return kind == 0 ? 100000 : kind == 1 ? 100001 : model.now() + below(10) - (kind == 2 ? 2 : 0);
    }

    /** Often the very warmth of a room, since limits are reached or just not. */
    private int limit() {
        int room = thing(Model.ROOM);
        if (below(3) == 0 || room < 0 || room >= model.count(Model.ROOM)) {
            return number(1, 1000);
        }
        return (int) model.warmth(room) + below(3) - 1;
    }

    private int[] nextCall(int kind) {
        switch (kind) {
            case Model.ROOM: return new int[] {kind, number(1, 10000), number(1, 100)};
            case Model.OPENING: return new int[] {kind, thing(Model.ROOM), place(), number(1, 50), number(0, 20), number(1, 100)};
            case Model.GLASS: return new int[] {kind, thing(Model.OPENING), limit()};
            case Model.FIRE: return new int[] {kind, thing(Model.ROOM), second(), number(1, 1000), number(1, 100000), number(0, 1000)};
            case Model.SPRINKLER: return new int[] {kind, thing(Model.ROOM), limit()};
            case Model.FAN: return new int[] {kind, thing(Model.ROOM), second(), number(1, 100000)};
            case Model.STEEL: return new int[] {kind, thing(Model.ROOM), number(1, 1000)};
            case Model.PERSON: return new int[] {kind, place()};
            case Model.GO: return new int[] {kind, favourite == kind ? 0 : thing(Model.PERSON), second(), place()};
            case Model.RUN: return new int[] {kind, below(20) == 0 ? number(1, 500) : 1 + below(longest)};
            case Model.ROOM_AT: return new int[] {kind, thing(Model.ROOM), number(0, 6)};
            case Model.OPENING_AT: return new int[] {kind, thing(Model.OPENING), number(0, 2)};
            case Model.PERSON_AT: return new int[] {kind, thing(Model.PERSON), number(0, 2)};
            case Model.STEEL_AT: return new int[] {kind, thing(Model.STEEL)};
            default: return new int[] {kind, number(0, 4)};
        }
    }

    /** A Long, or the class of what was thrown. */
    private static Object answer(SmokeZones x, int[] c) {
        try {
            return call(x, c);
        } catch (RuntimeException e) {
            return e.getClass();
        }
    }

    private static Long call(SmokeZones x, int[] c) {
        switch (c[0]) {
            case Model.ROOM: return (long) x.room(c[1], c[2]);
            case Model.OPENING: return (long) x.opening(c[1], c[2], c[3], c[4], c[5]);
            case Model.GLASS: x.glass(c[1], c[2]); return 0L;
            case Model.FIRE: return (long) x.fire(c[1], c[2], c[3], c[4], c[5]);
            case Model.SPRINKLER: x.sprinkler(c[1], c[2]); return 0L;
            case Model.FAN: return (long) x.fan(c[1], c[2], c[3]);
            case Model.STEEL: return (long) x.steel(c[1], c[2]);
            case Model.PERSON: return (long) x.person(c[1]);
            case Model.GO: x.go(c[1], c[2], c[3]); return 0L;
            case Model.RUN: return (long) x.run(c[1]);
            case Model.ROOM_AT: return x.roomAt(c[1], c[2]);
            case Model.OPENING_AT: return x.openingAt(c[1], c[2]);
            case Model.PERSON_AT: return x.personAt(c[1], c[2]);
            case Model.STEEL_AT: return (long) x.steelAt(c[1]);
            default: return x.balance(c[1]);
        }
    }
}
