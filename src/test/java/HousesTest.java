/**
 * Many houses from a fixed row of numbers: nothing is lost from sight, only the promised exceptions
 * are thrown, and a call that throws changes nothing (a twin that never got it answers the same).
 */
public final class HousesTest {
    private static final int HOUSES = 400;
    private static final int CALLS = 500;
    private static final Check check = new Check("HousesTest");

    private long seed;

    private HousesTest(long seed) {
        this.seed = seed;
    }

    public static void main(String[] args) {
        for (int i = 0; i < HOUSES; i++) {
            new HousesTest(i).live();
        }
        check.end();
    }

    private int below(int bound) {
        seed = seed * 6364136223846793005L + 1442695040888963407L;
        return (int) ((seed >>> 33) % bound);
    }

    /** Mostly within its bounds, now and then at them or beyond. */
    private int number(int least, int most) {
        int kind = below(40);
        if (kind == 0) {
            return least - 1;
        }
        if (kind == 1) {
            return most + 1;
        }
        if (kind == 2) {
            return below(2) == 0 ? Integer.MIN_VALUE : Integer.MAX_VALUE;
        }
        return least + below(most - least + 1);
    }

    private void live() {
        SmokeZones house = new SmokeZones();
        SmokeZones twin = new SmokeZones();
        int seconds = 0;
        for (int i = 0; i < CALLS; i++) {
            int[] call = nextCall(seconds);
            Object got = answer(house, call);
            if (got instanceof Long) {
                check.due("a twin's answer to " + text(call), (Long) got, asLong(answer(twin, call)));
                seconds = call[0] == 9 ? (int) (long) (Long) got : seconds;
            } else {
                boolean promised = got == IllegalArgumentException.class || got == IllegalStateException.class;
                check.due("only promised exceptions from " + text(call) + ", " + got, promised ? 1 : 0, 1);
            }
            if (i % 10 == 0) {
                balanceHolds(house);
            }
        }
        compare(house, twin);
    }

    private int[] nextCall(int now) {
        int kind = below(14);
        int second = now + number(0, 30);
        switch (kind) {
            case 0: return new int[] {0, number(1, below(2) == 0 ? 30 : 10000), number(1, 100)};
            case 1: return new int[] {1, below(11), below(12) - 1, number(1, 50), number(0, 20), number(1, 40)};
            case 2: return new int[] {2, below(16), number(1, 1000)};
            case 3: return new int[] {3, below(11), second, number(1, 1000), number(1, 100000), number(0, 1000)};
            case 4: return new int[] {4, below(11), number(1, 1000)};
            case 5: return new int[] {5, below(11), second, number(1, below(2) == 0 ? 50 : 100000)};
            case 6: return new int[] {6, below(11), number(1, 1000)};
            case 7: return new int[] {7, below(12) - 1};
            case 8: return new int[] {8, below(10), second, below(12) - 1};
            case 9: return new int[] {9, number(1, below(8) == 0 ? 500 : 5)};
            case 10: return new int[] {10, below(11), number(0, 6)};
            case 11: return new int[] {11, below(16), number(0, 2)};
            case 12: return new int[] {12, below(10), number(0, 2)};
            default: return new int[] {13, below(10)};
        }
    }

    /** A Long, or the class of what was thrown. */
    private static Object answer(SmokeZones x, int[] c) {
        try {
            return call(x, c);
        } catch (RuntimeException e) {
            return e.getClass();
        }
    }

    private static Long call(SmokeZones x, int[] c) {
        switch (c[0]) {
            case 0: return (long) x.room(c[1], c[2]);
            case 1: return (long) x.opening(c[1], c[2], c[3], c[4], c[5]);
            case 2: x.glass(c[1], c[2]); return 0L;
            case 3: return (long) x.fire(c[1], c[2], c[3], c[4], c[5]);
            case 4: x.sprinkler(c[1], c[2]); return 0L;
            case 5: return (long) x.fan(c[1], c[2], c[3]);
            case 6: return (long) x.steel(c[1], c[2]);
            case 7: return (long) x.person(c[1]);
            case 8: x.go(c[1], c[2], c[3]); return 0L;
            case 9: return (long) x.run(c[1]);
            case 10: return x.roomAt(c[1], c[2]);
            case 11: return x.openingAt(c[1], c[2]);
            case 12: return x.personAt(c[1], c[2]);
            default: return (long) x.steelAt(c[1]);
        }
    }

    private static long asLong(Object answered) {
        return answered instanceof Long ? (Long) answered : Long.MIN_VALUE;
    }

    private static String text(int[] call) {
        return java.util.Arrays.toString(call);
    }

    private static void balanceHolds(SmokeZones x) {
        long all = x.balance(1) + x.balance(2) + x.balance(3) + x.balance(4);
        check.due("16: made is what is in rooms, out, blown and pressed out", all, x.balance(0));
        for (int i = 0; i < 10; i++) {
            int room = i;
            Object smoke = answer(x, new int[] {10, room, 0});
            if (smoke instanceof Long) {
                check.due("no smoke below 0", (Long) smoke >= 0 ? 1 : 0, 1);
                check.due("no heat below 0", x.roomAt(room, 1) >= 0 ? 1 : 0, 1);
                check.due("clear not below 0", x.roomAt(room, 4) >= 0 ? 1 : 0, 1);
                check.due("no heat without smoke", (Long) smoke == 0 && x.roomAt(room, 1) != 0 ? 1 : 0, 0);
            }
        }
    }

    private static void compare(SmokeZones house, SmokeZones twin) {
        for (int number = 0; number < 16; number++) {
            for (int what = 0; what < 7; what++) {
                for (int kind = 10; kind <= 12; kind++) {
                    same(house, twin, new int[] {kind, number, what});
                }
            }
            same(house, twin, new int[] {13, number});
        }
        for (int what = 0; what < 5; what++) {
            check.due("a twin's balance", house.balance(what), twin.balance(what));
        }
    }

    private static void same(SmokeZones house, SmokeZones twin, int[] call) {
        Object one = answer(house, call);
        Object other = answer(twin, call);
        check.due("a twin's answer to " + text(call), one.equals(other) ? 1 : 0, 1);
    }
}
