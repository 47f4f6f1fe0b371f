/**
 * The document once more, in another way: rows of numbers, calls as rows of numbers, and sums where the
 * class divides or compares. HousesTest asks both, so an edge that one of them misses shows.
 */
final class Model {
    static final int ROOM = 0;
    static final int OPENING = 1;
    static final int GLASS = 2;
    static final int FIRE = 3;
    static final int SPRINKLER = 4;
    static final int FAN = 5;
    static final int STEEL = 6;
    static final int PERSON = 7;
    static final int GO = 8;
    static final int RUN = 9;
    static final int ROOM_AT = 10;
    static final int OPENING_AT = 11;
    static final int PERSON_AT = 12;
    static final int STEEL_AT = 13;
    static final int BALANCE = 14;

    static final Object ARGUMENT = IllegalArgumentException.class;
    static final Object STATE = IllegalStateException.class;
    private static final Object DONE = 0L;

    /** Of each room: area, height, limit of its sprinkler (0: none), whether it acts, first low second. */
    private final int[][] rooms = new int[10][];
    private final long[] smoke = new long[10];
    private final long[] heat = new long[10];
    /** Of each opening: room, other, width, sill, top, limit of its glass (0: never had one), closed (1). */
    private final int[][] openings = new int[15][];
    private final long[] flowed = new long[15];
    private final long[] flowedInAll = new long[15];
    private final int[][] fires = new int[5][];
    private final int[][] fans = new int[9][];
    /** Of each member: room, section, temperature. */
    private final int[][] members = new int[9][];
    private final int[] places = new int[9];
    private final long[] doses = new long[9];
    private final int[] breaths = new int[9];
    /** Of each person and telling: second, room. */
    private final int[][][] walks = new int[9][20][];
    private final int[] tellings = new int[9];
    private final int[] counts = new int[8];
    private final long[] balance = new long[5];
    private int now;

    int count(int kind) {
        return counts[kind];
    }

    int now() {
        return now;
    }

    long warmth(int room) {
        return smoke[room] == 0 ? 0 : heat[room] / smoke[room];
    }

    /** A Long, or the class that the call throws. */
    Object call(int... c) {
        if (!argumentsHold(c)) {
            return ARGUMENT;
        }
        switch (c[0]) {
            case ROOM: return put(c, rooms, new int[] {c[1], c[2], 0, 0, -1});
            case OPENING: return put(c, openings, new int[] {c[1], c[2], c[3], c[4], c[5], 0, 0});
            case FIRE: return put(c, fires, c.clone());
            case FAN: return put(c, fans, c.clone());
            case STEEL: return put(c, members, new int[] {c[1], c[2], 0});
            case GLASS: return glass(openings[c[1]], c[2]);
            case SPRINKLER: return sprinkler(rooms[c[1]], c[2]);
            case PERSON: return person(c[1]);
            case GO: return go(c[1], c[2], c[3]);
            case RUN: return run(c[1]);
            case ROOM_AT: return roomAt(c[1], c[2]);
            case OPENING_AT: return openingAt(c[1], c[2]);
            case PERSON_AT: return c[2] == 0 ? (long) places[c[1]] : c[2] == 1 ? doses[c[1]] : breaths[c[1]];
            case STEEL_AT: return (long) members[c[1]][2];
            default: return balance(c[1]);
        }
    }

    private static boolean in(long least, long value, long most) {
        return least <= value && value <= most;
    }

    private boolean number(int kind, int number) {
        return in(0, number, counts[kind] - 1);
    }

    private boolean place(int place) {
        return place == -1 || number(ROOM, place);
    }

    private boolean argumentsHold(int[] c) {
        switch (c[0]) {
            case ROOM: return in(1, c[1], 10000) && in(1, c[2], 100);
            case OPENING: return number(ROOM, c[1]) && place(c[2]) && c[1] != c[2] && in(1, c[3], 50)
                && 0 <= c[4] && c[4] < c[5] && c[5] <= rooms[c[1]][1] && (c[2] == -1 || c[5] <= rooms[c[2]][1]);
            case GLASS: return number(OPENING, c[1]) && in(1, c[2], 1000);
            case FIRE: return number(ROOM, c[1]) && in(now, c[2], 100000) && in(1, c[3], 1000)
                && in(1, c[4], 100000) && in(0, c[5], 1000);
            case SPRINKLER: return number(ROOM, c[1]) && in(1, c[2], 1000);
            case FAN: return number(ROOM, c[1]) && in(now, c[2], 100000) && in(1, c[3], 100000);
            case STEEL: return number(ROOM, c[1]) && in(1, c[2], 1000);
            case PERSON: return place(c[1]);
            case GO: return number(PERSON, c[1]) && in(now, c[2], 100000) && place(c[3]);
            case RUN: return in(1, c[1], 500);
            case ROOM_AT: return number(ROOM, c[1]) && in(0, c[2], 6);
            case OPENING_AT: return number(OPENING, c[1]) && in(0, c[2], 2);
            case PERSON_AT: return number(PERSON, c[1]) && in(0, c[2], 2);
            case STEEL_AT: return number(STEEL, c[1]);
            default: return in(0, c[1], 4);
        }
    }

    private Object put(int[] c, int[][] row, int[] thing) {
        int number = counts[c[0]];
        if (number == row.length) {
            return STATE;
        }
        row[number] = thing;
        counts[c[0]]++;
        return (long) number;
    }

    private static Object glass(int[] opening, int limit) {
        if (opening[5] != 0) {
            return STATE;
        }
        opening[5] = limit;
        opening[6] = 1;
        return DONE;
    }

    private static Object sprinkler(int[] room, int limit) {
        if (room[2] != 0) {
            return STATE;
        }
        room[2] = limit;
        return DONE;
    }

    private Object person(int place) {
        int number = counts[PERSON];
        if (number == 9) {
            return STATE;
        }
        places[number] = place;
        counts[PERSON]++;
        return (long) number;
    }

    private Object go(int person, int second, int room) {
        int told = tellings[person];
        if (told == 20 || told > 0 && walks[person][told - 1][0] >= second) {
            return STATE;
        }
        walks[person][told] = new int[] {second, room};
        tellings[person]++;
        return DONE;
    }

    private Object roomAt(int room, int what) {
        int[] r = rooms[room];
        long depth = smoke[room] / r[0];
        long[] told = {smoke[room], heat[room], depth, warmth(room), r[1] - depth, r[3], r[4]};
        return told[what];
    }

    private Object openingAt(int opening, int what) {
        return what == 0 ? 1L - openings[opening][6] : what == 1 ? flowed[opening] : flowedInAll[opening];
    }

    private Object balance(int what) {
        balance[1] = 0;
        for (long litres : smoke) {
            balance[1] += litres;
        }
        return balance[what];
    }

    private Object run(int n) {
        if (now + n > 100000) {
            return STATE;
        }
        for (int i = 0; i < n; i++) {
            second();
            now++;
        }
        return (long) now;
    }

    private void second() {
        for (int i = 0; i < counts[FIRE]; i++) {
            burn(fires[i]);
        }
        flow();
        for (int i = 0; i < counts[FAN]; i++) {
            blow(fans[i]);
        }
        for (int i = 0; i < counts[ROOM]; i++) {
            press(i);
        }
        for (int i = 0; i < counts[ROOM]; i++) {
            if (rooms[i][2] != 0 && warmth(i) >= rooms[i][2]) {
                rooms[i][3] = 1;
            }
        }
        for (int i = 0; i < counts[OPENING]; i++) {
            int[] o = openings[i];
            if (o[6] == 1 && (warmth(o[0]) >= o[5] || o[1] != -1 && warmth(o[1]) >= o[5])) {
                o[6] = 0;
            }
        }
        for (int i = 0; i < counts[STEEL]; i++) {
            int[] m = members[i];
            long more = warmth(m[0]) - m[2];
            m[2] += more >= 0 ? more / m[1] : -(-more / m[1]);
        }
        for (int i = 0; i < counts[PERSON]; i++) {
            walkAndBreathe(i);
        }
        for (int i = 0; i < counts[ROOM]; i++) {
            if (rooms[i][4] == -1 && low(i)) {
                rooms[i][4] = now;
            }
        }
    }

    private void burn(int[] fire) {
        long litres = 0;
        if (now >= fire[2]) {
            litres = Math.min((now - fire[2] + 1L) * fire[3], fire[4]) >> rooms[fire[1]][3];
        }
        smoke[fire[1]] += litres;
        heat[fire[1]] += litres * fire[5];
        balance[0] += litres;
    }

    /** Slice by slice: each decimetre of the opening that lies above where the room is clear. */
    private long covered(int room, int sill, int top) {
        long slices = 0;
        for (int slice = sill; room != -1 && slice < top; slice++) {
            slices += slice >= rooms[room][1] - smoke[room] / rooms[room][0] ? 1 : 0;
        }
        return slices;
    }

    private void flow() {
        long[] moreSmoke = new long[10];
        long[] moreHeat = new long[10];
        for (int i = 0; i < counts[OPENING]; i++) {
            int[] o = openings[i];
            long difference = covered(o[0], o[3], o[4]) - covered(o[1], o[3], o[4]);
            flowed[i] = 0;
            if (o[6] == 1 || difference == 0) {
                continue;
            }
            int from = difference > 0 ? o[0] : o[1];
            int to = difference > 0 ? o[1] : o[0];
            long litres = Math.min(5L * o[2] * Math.abs(difference), smoke[from] / 16);
            long itsHeat = heat[from] * litres / smoke[from];
            flowed[i] = difference > 0 ? litres : -litres;
            flowedInAll[i] += litres;
            moreSmoke[from] -= litres;
            moreHeat[from] -= itsHeat;
            if (to == -1) {
                balance[2] += litres;
            } else {
                moreSmoke[to] += litres;
                moreHeat[to] += itsHeat;
            }
        }
        for (int i = 0; i < 10; i++) {
            smoke[i] += moreSmoke[i];
            heat[i] += moreHeat[i];
        }
    }

    private void blow(int[] fan) {
        int room = fan[1];
        if (now < fan[2] || smoke[room] == 0) {
            return;
        }
        long litres = Math.min(fan[3], smoke[room]);
        heat[room] -= heat[room] * litres / smoke[room];
        smoke[room] -= litres;
        balance[3] += litres;
    }

    private void press(int room) {
        long holds = (long) rooms[room][0] * rooms[room][1];
        if (smoke[room] > holds) {
            heat[room] = heat[room] * holds / smoke[room];
            balance[4] += smoke[room] - holds;
            smoke[room] = holds;
        }
    }

    private boolean low(int room) {
        return rooms[room][1] - smoke[room] / rooms[room][0] < 18;
    }

    private void walkAndBreathe(int person) {
        for (int i = 0; i < tellings[person]; i++) {
            if (walks[person][i][0] == now) {
                places[person] = walks[person][i][1];
            }
        }
        if (places[person] != -1 && low(places[person])) {
            doses[person] += warmth(places[person]) + 1;
            breaths[person]++;
        }
    }
}
