/** Smoke in the rooms of a house, second by second, in whole numbers. */
public final class SmokeZones {
    /** There is none; the outside. */
    public static final int NONE = -1;

    private static final int MOST_ROOMS = 10;
    private static final int MOST_OPENINGS = 15;
    private static final int MOST_FIRES = 5;
    private static final int MOST_FANS = 9;
    private static final int MOST_STEEL = 9;
    private static final int MOST_PERSONS = 9;
    private static final int MOST_WALKS = 20;

    private static final int MOST_AREA = 10000;
    private static final int MOST_HEIGHT = 100;
    private static final int MOST_WIDTH = 50;
    private static final int MOST_LIMIT = 1000;
    private static final int MOST_GROWTH = 1000;
    private static final int MOST_LITRES = 100000;
    private static final int MOST_HEAT = 1000;
    private static final int MOST_SECTION = 1000;
    private static final int LAST_SECOND = 100000;
    private static final int LONGEST_RUN = 500;

    private static final int FLOW_FACTOR = 5;
    /** A sixteenth for each of at most 15 openings: no room can lose more than it has. */
    private static final int FLOW_PART = 16;
    /** Where the air is clear up to less than this, persons breathe smoke. */
    private static final int BREATH_HEIGHT = 18;

    private final Room[] rooms;
    private final Opening[] openings;
    private final Fire[] fires;
    private final Fan[] fans;
    private final Steel[] members;
    private final Person[] persons;
    private int roomCount;
    private int openingCount;
    private int fireCount;
    private int fanCount;
    private int memberCount;
    private int personCount;
    /** The second that comes. */
    private int now;
    private long made;
    private long out;
    private long blown;
    private long pressedOut;

    public SmokeZones() {
        rooms = new Room[MOST_ROOMS];
        openings = new Opening[MOST_OPENINGS];
        fires = new Fire[MOST_FIRES];
        fans = new Fan[MOST_FANS];
        members = new Steel[MOST_STEEL];
        persons = new Person[MOST_PERSONS];
    }

    public int room(int area, int height) throws IllegalArgumentException, IllegalStateException {
        needBetween(area, 1, MOST_AREA);
        needBetween(height, 1, MOST_HEIGHT);
        needSpace(roomCount, MOST_ROOMS);
        rooms[roomCount] = new Room(area, height);
        roomCount++;
        return roomCount - 1;
    }

    public int opening(int room, int other, int width, int sill, int top)
            throws IllegalArgumentException, IllegalStateException {
        needNumber(room, roomCount);
        needPlace(other);
        needArgument(room != other);
        needBetween(width, 1, MOST_WIDTH);
        needBetween(top, 1, rooms[room].height);
        needBetween(sill, 0, top - 1);
        Room far = other == NONE ? null : rooms[other];
        needArgument(far == null || top <= far.height);
        needSpace(openingCount, MOST_OPENINGS);
        openings[openingCount] = new Opening(rooms[room], far, width, sill, top);
        openingCount++;
        return openingCount - 1;
    }

    public void glass(int opening, int limit) throws IllegalArgumentException, IllegalStateException {
        needNumber(opening, openingCount);
        needBetween(limit, 1, MOST_LIMIT);
        needState(openings[opening].glassLimit == NONE);
        openings[opening].glassLimit = limit;
    }

    public int fire(int room, int second, int growth, int most, int heat)
            throws IllegalArgumentException, IllegalStateException {
        needNumber(room, roomCount);
        needBetween(second, now, LAST_SECOND);
        needBetween(growth, 1, MOST_GROWTH);
        needBetween(most, 1, MOST_LITRES);
        needBetween(heat, 0, MOST_HEAT);
        needSpace(fireCount, MOST_FIRES);
        fires[fireCount] = new Fire(rooms[room], second, growth, most, heat);
        fireCount++;
        return fireCount - 1;
    }

    public void sprinkler(int room, int limit) throws IllegalArgumentException, IllegalStateException {
        needNumber(room, roomCount);
        needBetween(limit, 1, MOST_LIMIT);
        needState(rooms[room].sprinklerLimit == NONE);
        rooms[room].sprinklerLimit = limit;
    }

    public int fan(int room, int second, int rate) throws IllegalArgumentException, IllegalStateException {
        needNumber(room, roomCount);
        needBetween(second, now, LAST_SECOND);
        needBetween(rate, 1, MOST_LITRES);
        needSpace(fanCount, MOST_FANS);
        fans[fanCount] = new Fan(rooms[room], second, rate);
        fanCount++;
        return fanCount - 1;
    }

    public int steel(int room, int section) throws IllegalArgumentException, IllegalStateException {
        needNumber(room, roomCount);
        needBetween(section, 1, MOST_SECTION);
        needSpace(memberCount, MOST_STEEL);
        members[memberCount] = new Steel(rooms[room], section);
        memberCount++;
        return memberCount - 1;
    }

    public int person(int room) throws IllegalArgumentException, IllegalStateException {
        needPlace(room);
        needSpace(personCount, MOST_PERSONS);
        persons[personCount] = new Person(room);
        personCount++;
        return personCount - 1;
    }

    public void go(int person, int second, int room) throws IllegalArgumentException, IllegalStateException {
        needNumber(person, personCount);
        needBetween(second, now, LAST_SECOND);
        needPlace(room);
        needState(persons[person].tell(second, room));
    }

    public int run(int n) throws IllegalArgumentException, IllegalStateException {
        needBetween(n, 1, LONGEST_RUN);
        needState(now + n <= LAST_SECOND);
        for (int i = 0; i < n; i++) {
            passSecond();
        }
        return now;
    }

    public long roomAt(int room, int what) throws IllegalArgumentException {
        needNumber(room, roomCount);
        needBetween(what, 0, 6);
        Room asked = rooms[room];
        switch (what) {
            case 0:
                return asked.smoke;
            case 1:
                return asked.heat;
            case 2:
                return asked.depth();
            case 3:
                return asked.warmth();
            case 4:
                return asked.clear();
            case 5:
                return asked.sprinklerActs ? 1 : 0;
            default:
                return asked.firstLowSecond;
        }
    }

    public long openingAt(int opening, int what) throws IllegalArgumentException {
        needNumber(opening, openingCount);
        needBetween(what, 0, 2);
        Opening asked = openings[opening];
        switch (what) {
            case 0:
                return asked.isOpen() ? 1 : 0;
            case 1:
                return asked.flow;
            default:
                return asked.flowedInAll;
        }
    }

    public long personAt(int person, int what) throws IllegalArgumentException {
        needNumber(person, personCount);
        needBetween(what, 0, 2);
        Person asked = persons[person];
        switch (what) {
            case 0:
                return asked.place;
            case 1:
                return asked.dose;
            default:
                return asked.breaths;
        }
    }

    public int steelAt(int member) throws IllegalArgumentException {
        needNumber(member, memberCount);
        return members[member].temperature;
    }

    public long balance(int what) throws IllegalArgumentException {
        needBetween(what, 0, 4);
        switch (what) {
            case 0:
                return made;
            case 1:
                return smokeInRooms();
            case 2:
                return out;
            case 3:
                return blown;
            default:
                return pressedOut;
        }
    }

    private static void needArgument(boolean holds) {
        if (!holds) {
            throw new IllegalArgumentException("a number is out of its bounds, or there is no such thing");
        }
    }

    private static void needState(boolean holds) {
        if (!holds) {
            throw new IllegalStateException("not in this state");
        }
    }

    private static void needBetween(int value, int least, int most) {
        needArgument(value >= least && value <= most);
    }

    private static void needNumber(int number, int count) {
        needArgument(number >= 0 && number < count);
    }

    private static void needSpace(int count, int most) {
        needState(count < most);
    }

    private void needPlace(int place) {
        needArgument(place == NONE || isRoom(place));
    }

    private boolean isRoom(int place) {
        return place >= 0 && place < roomCount;
    }

    private long smokeInRooms() {
        long sum = 0;
        for (int i = 0; i < roomCount; i++) {
            sum += rooms[i].smoke;
        }
        return sum;
    }

    private void passSecond() {
        burnFires();
        flowThroughOpenings();
        blowFans();
        pressOutOfRooms();
        warmThings();
        movePersons();
        noteLowRooms();
        now++;
    }

    private void burnFires() {
        for (int i = 0; i < fireCount; i++) {
            made += fires[i].burn(now);
        }
    }

    /** Two rounds, since every flow comes from what was there before any of them. */
    private void flowThroughOpenings() {
        for (int i = 0; i < openingCount; i++) {
            openings[i].measureFlow();
        }
        for (int i = 0; i < openingCount; i++) {
            out += openings[i].moveFlow();
        }
    }

    private void blowFans() {
        for (int i = 0; i < fanCount; i++) {
            blown += fans[i].blow(now);
        }
    }

    private void pressOutOfRooms() {
        for (int i = 0; i < roomCount; i++) {
            pressedOut += rooms[i].pressOut();
        }
    }

    private void warmThings() {
        for (int i = 0; i < roomCount; i++) {
            rooms[i].testSprinkler();
        }
        for (int i = 0; i < openingCount; i++) {
            openings[i].testGlass();
        }
        for (int i = 0; i < memberCount; i++) {
            members[i].getWarm();
        }
    }

    private void movePersons() {
        for (int i = 0; i < personCount; i++) {
            Person moved = persons[i];
            moved.walk(now);
            if (isRoom(moved.place)) {
                moved.breathe(rooms[moved.place]);
            }
        }
    }

    private void noteLowRooms() {
        for (int i = 0; i < roomCount; i++) {
            rooms[i].noteIfLow(now);
        }
    }

    /** A room with the smoke below its ceiling. */
    private static final class Room {
        final int area;
        final int height;
        final long holds;
        long smoke;
        long heat;
        /** NONE without a sprinkler. */
        int sprinklerLimit;
        boolean sprinklerActs;
        int firstLowSecond;

        Room(int area, int height) {
            this.area = area;
            this.height = height;
            holds = (long) area * height;
            sprinklerLimit = NONE;
            firstLowSecond = NONE;
        }

        long depth() {
            return area < 1 ? 0 : smoke / area;
        }

        long warmth() {
            return smoke < 1 ? 0 : heat / smoke;
        }

        long clear() {
            return height - depth();
        }

        boolean isLow() {
            return clear() < BREATH_HEIGHT;
        }

        long covered(int sill, int top) {
            return Math.max(0, top - Math.max(sill, clear()));
        }

        /** The heat that goes with so much of the smoke. */
        long heatWith(long litres) {
            return smoke < 1 ? 0 : heat * litres / smoke;
        }

        void add(long litres, long itsHeat) {
            smoke += litres;
            heat += itsHeat;
        }

        long pressOut() {
            if (smoke <= holds) {
                return 0;
            }
            long tooMuch = smoke - holds;
            heat = heatWith(holds);
            smoke = holds;
            return tooMuch;
        }

        void testSprinkler() {
            if (sprinklerLimit != NONE && warmth() >= sprinklerLimit) {
                sprinklerActs = true;
            }
        }

        void noteIfLow(int second) {
            if (firstLowSecond == NONE && isLow()) {
                firstLowSecond = second;
            }
        }
    }

    /** A way for smoke between two rooms, or from a room to the outside. */
    private static final class Opening {
        final Room near;
        /** Null: the outside. */
        final Room far;
        final int width;
        final int sill;
        final int top;
        /** NONE without a glass; kept when it breaks, since no second glass may come. */
        int glassLimit;
        boolean broken;
        /** What flowed in the last second, below 0 if to the near room. */
        long flow;
        long heatInFlow;
        long flowedInAll;

        Opening(Room near, Room far, int width, int sill, int top) {
            this.near = near;
            this.far = far;
            this.width = width;
            this.sill = sill;
            this.top = top;
            glassLimit = NONE;
        }

        boolean isOpen() {
            return glassLimit == NONE || broken;
        }

        void measureFlow() {
            flow = 0;
            heatInFlow = 0;
            if (!isOpen()) {
                return;
            }
            long coveredNear = near.covered(sill, top);
            long coveredFar = far == null ? 0 : far.covered(sill, top);
            if (coveredNear > coveredFar) {
                flow = flowFrom(near, coveredNear - coveredFar);
                heatInFlow = near.heatWith(flow);
            } else if (far != null && coveredFar > coveredNear) {
                long back = flowFrom(far, coveredFar - coveredNear);
                flow = -back;
                heatInFlow = far.heatWith(back);
            }
        }

        long flowFrom(Room source, long difference) {
            return Math.min(FLOW_FACTOR * width * difference, source.smoke / FLOW_PART);
        }

        /** Moves what was measured, and answers how much of it went outside. */
        long moveFlow() {
            flowedInAll += Math.abs(flow);
            near.add(-flow, flow < 0 ? heatInFlow : -heatInFlow);
            if (far == null) {
                return flow;
            }
            far.add(flow, flow < 0 ? -heatInFlow : heatInFlow);
            return 0;
        }

        void testGlass() {
            if (!isOpen() && (isHot(near) || isHot(far))) {
                broken = true;
            }
        }

        boolean isHot(Room side) {
            return side != null && side.warmth() >= glassLimit;
        }
    }

    /** A fire that grows from its first second on. */
    private static final class Fire {
        final Room place;
        final int firstSecond;
        final int growth;
        final int most;
        final int heat;

        Fire(Room place, int firstSecond, int growth, int most, int heat) {
            this.place = place;
            this.firstSecond = firstSecond;
            this.growth = growth;
            this.most = most;
            this.heat = heat;
        }

        /** Answers how many litres it made. */
        long burn(int second) {
            if (second < firstSecond) {
                return 0;
            }
            long age = second - firstSecond + 1;
            long litres = Math.min(age * growth, most);
            if (place.sprinklerActs) {
                litres = litres / 2;
            }
            place.add(litres, litres * heat);
            return litres;
        }
    }

    /** A fan that takes smoke out of the house. */
    private static final class Fan {
        final Room place;
        final int firstSecond;
        final int rate;

        Fan(Room place, int firstSecond, int rate) {
            this.place = place;
            this.firstSecond = firstSecond;
            this.rate = rate;
        }

        /** Answers how many litres it took. */
        long blow(int second) {
            if (second < firstSecond) {
                return 0;
            }
            long litres = Math.min(rate, place.smoke);
            place.add(-litres, -place.heatWith(litres));
            return litres;
        }
    }

    /** A member of steel that follows the warmth of its room. */
    private static final class Steel {
        final Room place;
        final int section;
        int temperature;

        Steel(Room place, int section) {
            this.place = place;
            this.section = section;
        }

        void getWarm() {
            if (section > 0) {
                temperature += (int) ((place.warmth() - temperature) / section);
            }
        }
    }

    /** A person, where it will go, and what it breathed. */
    private static final class Person {
        /** A room's number, or NONE for the outside. */
        int place;
        long dose;
        long breaths;
        final int[] walkSeconds;
        final int[] walkPlaces;
        int told;
        int lastTold;
        int walked;

        Person(int place) {
            this.place = place;
            walkSeconds = new int[MOST_WALKS];
            walkPlaces = new int[MOST_WALKS];
            lastTold = NONE;
        }

        /** Answers whether it could be told; if not, nothing has changed. */
        boolean tell(int second, int goal) {
            if (told >= MOST_WALKS || second <= lastTold) {
                return false;
            }
            walkSeconds[told] = second;
            walkPlaces[told] = goal;
            told++;
            lastTold = second;
            return true;
        }

        void walk(int second) {
            if (walked < told && walkSeconds[walked] == second) {
                place = walkPlaces[walked];
                walked++;
            }
        }

        void breathe(Room air) {
            if (air.isLow()) {
                dose += air.warmth() + 1;
                breaths++;
            }
        }
    }
}
