import java.util.ArrayList;
import java.util.Arrays;
import java.util.NoSuchElementException;

/** Lunch boxes that are led by trains from homes to desks and, empty, back again. */
public final class LunchMarks {
    public static final int NONE = -1;

    private static final int MOST_STATIONS = 10;
    private static final int MOST_SORTING = 60;
    private static final int MOST_TRAINS = 16;
    private static final int MOST_ROOM = 40;
    private static final int MOST_STOPS = 10;
    private static final int MOST_BOXES = 60;
    private static final int MOST_WALK = 120;
    private static final int MOST_LEGS = 3;
    private static final int MOST_CARRIERS = 40;
    private static final int MOST_DAYS = 31;
    private static final int MOST_SUM = 10000000;
    private static final int LAST_MINUTE = 1439;

    /** Later than any box can be anywhere. */
    private static final int NEVER = 1000000;

    /** A leg as numbers of a row: its train, the stop where a box gets on, the one where it gets off. */
    private static final int LEG_SIZE = 3;
    private static final int TRAIN = 0;
    private static final int ON = 1;
    private static final int OFF = 2;

    private final Network network;
    private final ArrayList<Box> boxes;
    private final Gang gang;
    private final int[] marks;
    private int now;

    public LunchMarks() {
        network = new Network();
        boxes = new ArrayList<Box>();
        gang = new Gang();
        marks = new int[MOST_BOXES];
        now = 0;
    }

    public int station(int sorting) {
        return isWithin(sorting, MOST_SORTING) ? network.addStation(sorting) : NONE;
    }

    public int train(int room) {
        return room >= 1 && room <= MOST_ROOM ? network.addTrain(room) : NONE;
    }

    public int stop(int train, int station, int minute) throws NoSuchElementException {
        Train that = trainOf(train);
        if (!network.hasStation(station) || !isMinute(minute) || that.isUsed()) {
            return NONE;
        }
        return that.addStop(station, minute);
    }

    public int box(int home, int walk, int ready, int desk, int walkThere, int due) {
        if (boxes.size() >= MOST_BOXES || !network.hasStation(home) || !network.hasStation(desk)) {
            return NONE;
        }
        if (!isWithin(walk, MOST_WALK) || !isWithin(walkThere, MOST_WALK)) {
            return NONE;
        }
        if (!isMinute(ready) || !isMinute(due)) {
            return NONE;
        }
        boxes.add(new Box(new Trip(home, walk, ready, desk, walkThere, due)));
        return boxes.size() - 1;
    }

    public int plan() {
        int led = 0;
        for (int i = 0; i < boxes.size(); i++) {
            if (leadByPlan(boxes.get(i).current())) {
                led++;
            }
        }
        return led;
    }

    public int minutes(int n) throws IllegalArgumentException {
        if (n < 0 || n > LAST_MINUTE - now) {
            throw new IllegalArgumentException("no such minute of this day");
        }
        now += n;
        return now;
    }

    public int cancel(int train) throws NoSuchElementException {
        Train that = trainOf(train);
        if (that.cancelled || !that.beginsAfter(now)) {
            return NONE;
        }
        that.cancelled = true;
        int had = takeOffAll(train);
        leadAnew();
        return had;
    }

    public boolean empty(int box, int ready) throws NoSuchElementException {
        Box that = boxOf(box);
        if (that.isEmpty() || !that.there.hasArrivedBy(now)) {
            return false;
        }
        if (!isMinute(ready) || ready < now) {
            return false;
        }
        that.back = that.there.turned(ready, LAST_MINUTE);
        return true;
    }

    public int of(int box, int what) throws NoSuchElementException {
        Box that = boxOf(box);
        Trip trip = that.current();
        switch (what) {
            case 0:
                return trip.legs;
            case 1:
                return trip.arrival();
            case 2:
                return asNumber(trip.isGoneBy(now));
            case 3:
                return asNumber(trip.isLate());
            case 4:
                return trip.standsAt;
            case 5:
                return trip.standsSince;
            case 6:
                return asNumber(that.isEmpty());
            default:
                throw new NoSuchElementException("nothing else is known of a box");
        }
    }

    public int leg(int box, int i, int what) throws NoSuchElementException {
        Box that = boxOf(box);
        if (what < 0 || what >= LEG_SIZE || i < 0 || i >= that.ledLegs()) {
            throw new NoSuchElementException("no such leg, or nothing else is known of one");
        }
        return that.ledLeg(i, what);
    }

    public int load(int train, int span) throws NoSuchElementException {
        Train that = trainOf(train);
        if (span < 0 || span >= that.stops - 1) {
            throw new NoSuchElementException("no such span");
        }
        return that.loads[span];
    }

    public int where(int box) throws NoSuchElementException {
        Trip trip = boxOf(box).current();
        if (!trip.isGoneBy(now)) {
            return 0;
        }
        if (trip.hasArrivedBy(now)) {
            return 4;
        }
        if (trip.isThereBy(now)) {
            return 3;
        }
        return network.isAboard(trip, now) ? 2 : 1;
    }

    public int mark(int box) throws NoSuchElementException {
        // the box is looked for ahead of the numbering, for its exception
        boxOf(box);
        numberMarks();
        return marks[box];
    }

    public int carrier(int days) {
        return isWithin(days, MOST_DAYS) ? gang.addCarrier(days) : NONE;
    }

    public int share(int carrier, int sum) throws NoSuchElementException, IllegalArgumentException {
        if (carrier < 0 || carrier >= gang.carriers) {
            throw new NoSuchElementException("no such carrier");
        }
        if (!isWithin(sum, MOST_SUM)) {
            throw new IllegalArgumentException("no such sum");
        }
        return gang.partOf(carrier, sum);
    }

    public int count(int what) throws NoSuchElementException {
        switch (what) {
            case 0:
                return network.stations;
            case 1:
                return network.trains.size();
            case 2:
                return boxes.size();
            case 3:
                return now;
            case 4:
                return boxesWithWay();
            case 5:
                return lateBoxes();
            case 6:
                return numberMarks();
            case 7:
                return gang.carriers;
            default:
                throw new NoSuchElementException("nothing else is counted");
        }
    }

    private static boolean isWithin(int number, int most) {
        return number >= 0 && number <= most;
    }

    private static boolean isMinute(int number) {
        return isWithin(number, LAST_MINUTE);
    }

    private static int asNumber(boolean yes) {
        return yes ? 1 : 0;
    }

    private Train trainOf(int number) {
        if (number < 0 || number >= network.trains.size()) {
            throw new NoSuchElementException("no such train");
        }
        return network.trains.get(number);
    }

    private Box boxOf(int number) {
        if (number < 0 || number >= boxes.size()) {
            throw new NoSuchElementException("no such box");
        }
        return boxes.get(number);
    }

    private boolean leadByPlan(Trip trip) {
        if (trip.stands()) {
            return network.leadOn(trip, trip.standsAt, Math.max(trip.standsSince, now));
        }
        if (trip.hadWay || trip.ready < now) {
            return false;
        }
        return network.leadOn(trip, trip.from, network.beginning(trip));
    }

    /** All give up their legs ahead of the first one that is led anew: their room is free for it. */
    private int takeOffAll(int train) {
        int had = 0;
        for (int i = 0; i < boxes.size(); i++) {
            Trip trip = boxes.get(i).current();
            int first = trip.firstLegOn(train);
            trip.takenOff = first != NONE;
            if (trip.takenOff) {
                network.giveUp(trip, first, now);
                had++;
            }
        }
        return had;
    }

    private void leadAnew() {
        for (int i = 0; i < boxes.size(); i++) {
            Trip trip = boxes.get(i).current();
            if (trip.takenOff) {
                network.leadOn(trip, trip.standsAt, trip.standsSince);
            }
        }
    }

    private int boxesWithWay() {
        int with = 0;
        for (int i = 0; i < boxes.size(); i++) {
            if (boxes.get(i).current().hasWay()) {
                with++;
            }
        }
        return with;
    }

    private int lateBoxes() {
        int late = 0;
        for (int i = 0; i < boxes.size(); i++) {
            if (boxes.get(i).current().isLate()) {
                late++;
            }
        }
        return late;
    }

    /** Numbers the ways there as they are now; answers how many marks there are. */
    private int numberMarks() {
        int next = 0;
        for (int i = 0; i < boxes.size() && i < marks.length; i++) {
            marks[i] = NONE;
            if (boxes.get(i).there.hasWay()) {
                marks[i] = markOfLikeBox(i);
                if (marks[i] == NONE) {
                    marks[i] = next;
                    next++;
                }
            }
        }
        return next;
    }

    private int markOfLikeBox(int box) {
        Trip trip = boxes.get(box).there;
        for (int i = 0; i < box; i++) {
            if (marks[i] != NONE && boxes.get(i).there.hasSameLegs(trip)) {
                return marks[i];
            }
        }
        return NONE;
    }

    /** A train with its stops, and how many legs are planned on each span behind a stop. */
    private static final class Train {
        final int room;
        final int[] stations;
        final int[] minutes;
        final int[] loads;
        int stops;
        boolean cancelled;

        Train(int room) {
            this.room = room;
            stations = new int[MOST_STOPS];
            minutes = new int[MOST_STOPS];
            loads = new int[MOST_STOPS];
            stops = 0;
            cancelled = false;
        }

        int addStop(int station, int minute) {
            if (stops >= MOST_STOPS || !mayFollow(station, minute)) {
                return NONE;
            }
            stations[stops] = station;
            minutes[stops] = minute;
            stops++;
            return stops - 1;
        }

        private boolean mayFollow(int station, int minute) {
            return stops == 0 || (minutes[stops - 1] < minute && stations[stops - 1] != station);
        }

        boolean isUsed() {
            for (int k = 0; k < MOST_STOPS; k++) {
                if (loads[k] > 0) {
                    return true;
                }
            }
            return false;
        }

        boolean beginsAfter(int minute) {
            return stops > 0 && minutes[0] > minute;
        }

        boolean isFull(int span) {
            return loads[span] >= room;
        }

        void changeLoads(int on, int off, int by) {
            for (int k = on; k < off; k++) {
                loads[k] += by;
            }
        }
    }

    /** A box: its way there and, once it is told empty, its way back. */
    private static final class Box {
        final Trip there;
        Trip back;

        Box(Trip there) {
            this.there = there;
            back = null;
        }

        boolean isEmpty() {
            return back != null;
        }

        Trip current() {
            return back == null ? there : back;
        }

        int ledLegs() {
            return back == null ? there.legs : there.legs + back.legs;
        }

        int ledLeg(int i, int what) {
            if (back == null || i < there.legs) {
                return there.legNumber(i, what);
            }
            return back.legNumber(i - there.legs, what);
        }
    }

    /** What a box is to do in one direction, and how far it is led by now. */
    private static final class Trip {
        final int from;
        final int walkFrom;
        final int ready;
        final int to;
        final int walkTo;
        final int due;
        final int[] row;
        int legs;
        boolean hadWay;
        int there;
        int standsAt;
        int standsSince;
        boolean takenOff;

        Trip(int from, int walkFrom, int ready, int to, int walkTo, int due) {
            this.from = from;
            this.walkFrom = walkFrom;
            this.ready = ready;
            this.to = to;
            this.walkTo = walkTo;
            this.due = due;
            row = new int[MOST_LEGS * LEG_SIZE];
            legs = 0;
            hadWay = false;
            there = NONE;
            standsAt = NONE;
            standsSince = NONE;
            takenOff = false;
        }

        Trip turned(int newReady, int newDue) {
            return new Trip(to, walkTo, newReady, from, walkFrom, newDue);
        }

        int legNumber(int leg, int what) {
            return row[leg * LEG_SIZE + what];
        }

        void addLeg(int train, int on, int off) {
            row[legs * LEG_SIZE + TRAIN] = train;
            row[legs * LEG_SIZE + ON] = on;
            row[legs * LEG_SIZE + OFF] = off;
            legs++;
        }

        int firstLegOn(int train) {
            for (int i = 0; i < legs; i++) {
                if (legNumber(i, TRAIN) == train) {
                    return i;
                }
            }
            return NONE;
        }

        boolean hasSameLegs(Trip other) {
            if (legs != other.legs) {
                return false;
            }
            for (int i = 0; i < legs * LEG_SIZE; i++) {
                if (row[i] != other.row[i]) {
                    return false;
                }
            }
            return true;
        }

        void endWayAt(int minute) {
            hadWay = true;
            there = minute;
            standsAt = NONE;
            standsSince = NONE;
        }

        void standAt(int station, int minute) {
            there = NONE;
            standsAt = station;
            standsSince = minute;
        }

        boolean stands() {
            return standsAt != NONE;
        }

        boolean hasWay() {
            return there != NONE;
        }

        int arrival() {
            return hasWay() ? there + walkTo : NONE;
        }

        boolean isLate() {
            return hasWay() && arrival() > due;
        }

        boolean isGoneBy(int minute) {
            return hadWay && ready <= minute;
        }

        boolean isThereBy(int minute) {
            return hasWay() && there <= minute;
        }

        boolean hasArrivedBy(int minute) {
            return hasWay() && arrival() <= minute;
        }
    }

    /** Stations and trains, and the search for a way by them. */
    private static final class Network {
        final int[] sorting;
        int stations;
        final ArrayList<Train> trains;
        /** By legs ridden and station: when a box can be sorted there at the earliest (or NEVER). */
        final int[][] earliest;
        /** By legs to ride and station: when a box must be sorted there at the latest (or NONE). */
        final int[][] latest;

        Network() {
            sorting = new int[MOST_STATIONS];
            stations = 0;
            trains = new ArrayList<Train>();
            earliest = new int[MOST_LEGS + 1][MOST_STATIONS];
            latest = new int[MOST_LEGS][MOST_STATIONS];
        }

        int addStation(int minutes) {
            if (stations >= MOST_STATIONS) {
                return NONE;
            }
            sorting[stations] = minutes;
            stations++;
            return stations - 1;
        }

        int addTrain(int room) {
            if (trains.size() >= MOST_TRAINS) {
                return NONE;
            }
            trains.add(new Train(room));
            return trains.size() - 1;
        }

        boolean hasStation(int number) {
            return number >= 0 && number < stations;
        }

        int beginning(Trip trip) {
            return trip.ready + trip.walkFrom + sorting[trip.from];
        }

        /** When a box that gets off at a stop is sorted there. */
        int sortedAt(Train train, int stop) {
            return train.minutes[stop] + sorting[train.stations[stop]];
        }

        boolean isAboard(Trip trip, int minute) {
            for (int i = 0; i < trip.legs; i++) {
                Train train = trains.get(trip.legNumber(i, TRAIN));
                boolean hasGotOn = train.minutes[trip.legNumber(i, ON)] <= minute;
                if (hasGotOn && train.minutes[trip.legNumber(i, OFF)] > minute) {
                    return true;
                }
            }
            return false;
        }

        /** Keeps the legs ahead of the one told; the box stands where they end, until it is led on. */
        void giveUp(Trip trip, int leg, int now) {
            for (int i = leg; i < trip.legs; i++) {
                Train train = trains.get(trip.legNumber(i, TRAIN));
                train.changeLoads(trip.legNumber(i, ON), trip.legNumber(i, OFF), -1);
            }
            trip.legs = leg;
            if (leg == 0) {
                trip.standAt(trip.from, Math.max(beginning(trip), now));
                return;
            }
            Train last = trains.get(trip.legNumber(leg - 1, TRAIN));
            int off = trip.legNumber(leg - 1, OFF);
            trip.standAt(last.stations[off], Math.max(sortedAt(last, off), now));
        }

        /** Leads a trip on from a station and a minute to its end by the way, if there is one. */
        boolean leadOn(Trip trip, int station, int minute) {
            int legs = legsOfTheWay(station, minute, trip.to, MOST_LEGS - trip.legs);
            if (legs == NONE) {
                return false;
            }
            int there = earliest[legs][trip.to];
            findLatest(trip.to, there, legs);
            takeLegs(trip, station, minute, legs);
            trip.endWayAt(there);
            return true;
        }

        private void takeLegs(Trip trip, int station, int minute, int legs) {
            int at = station;
            int from = minute;
            for (int left = legs - 1; left >= 0 && takeFirstLeg(trip, at, from, left); left--) {
                Train train = trains.get(trip.legNumber(trip.legs - 1, TRAIN));
                int off = trip.legNumber(trip.legs - 1, OFF);
                at = train.stations[off];
                from = sortedAt(train, off);
            }
        }

        /** How many legs the way has: the fewest of the ways that are there earliest. */
        private int legsOfTheWay(int station, int minute, int to, int most) {
            Arrays.fill(earliest[0], NEVER);
            earliest[0][station] = minute;
            int best = station == to ? 0 : NONE;
            for (int legs = 1; legs <= most; legs++) {
                findEarliest(earliest[legs - 1], earliest[legs]);
                if (earliest[legs][to] < (best == NONE ? NEVER : earliest[best][to])) {
                    best = legs;
                }
            }
            return best;
        }

        private void findEarliest(int[] before, int[] after) {
            Arrays.fill(after, NEVER);
            for (int i = 0; i < trains.size(); i++) {
                if (!trains.get(i).cancelled) {
                    ride(trains.get(i), before, after);
                }
            }
        }

        private void ride(Train train, int[] before, int[] after) {
            boolean aboard = false;
            for (int k = 0; k < train.stops; k++) {
                int station = train.stations[k];
                if (aboard) {
                    after[station] = Math.min(after[station], sortedAt(train, k));
                }
                boolean getsOn = before[station] <= train.minutes[k];
                aboard = (aboard || getsOn) && !train.isFull(k);
            }
        }

        private void findLatest(int to, int there, int legs) {
            Arrays.fill(latest[0], NONE);
            latest[0][to] = there;
            for (int left = 1; left < legs; left++) {
                Arrays.fill(latest[left], NONE);
                for (int i = 0; i < trains.size(); i++) {
                    if (!trains.get(i).cancelled) {
                        rideBackwards(trains.get(i), latest[left - 1], latest[left]);
                    }
                }
            }
        }

        private void rideBackwards(Train train, int[] behind, int[] ahead) {
            boolean inTime = false;
            for (int k = train.stops - 1; k >= 0; k--) {
                int station = train.stations[k];
                inTime = inTime && !train.isFull(k);
                if (inTime) {
                    ahead[station] = Math.max(ahead[station], train.minutes[k]);
                }
                inTime = inTime || sortedAt(train, k) <= behind[station];
            }
        }

        /** Takes the first leg, as numbers, behind which the end is reached in time by the legs left. */
        private boolean takeFirstLeg(Trip trip, int station, int minute, int left) {
            for (int i = 0; i < trains.size(); i++) {
                Train train = trains.get(i);
                for (int on = 0; on < train.stops && !train.cancelled; on++) {
                    if (train.stations[on] == station && train.minutes[on] >= minute) {
                        int off = firstOff(train, on, latest[left]);
                        if (off != NONE) {
                            train.changeLoads(on, off, 1);
                            trip.addLeg(i, on, off);
                            return true;
                        }
                    }
                }
            }
            return false;
        }

        private int firstOff(Train train, int on, int[] inTime) {
            for (int off = on + 1; off < train.stops && !train.isFull(off - 1); off++) {
                if (sortedAt(train, off) <= inTime[train.stations[off]]) {
                    return off;
                }
            }
            return NONE;
        }
    }

    /** The carriers, and how a sum is parted among them. */
    private static final class Gang {
        final int[] days;
        int carriers;

        Gang() {
            days = new int[MOST_CARRIERS];
            carriers = 0;
        }

        int addCarrier(int worked) {
            if (carriers >= MOST_CARRIERS) {
                return NONE;
            }
            days[carriers] = worked;
            carriers++;
            return carriers - 1;
        }

        int partOf(int carrier, int sum) {
            int worked = allDays();
            boolean alike = worked == 0;
            int all = alike ? carriers : worked;
            if (all <= 0) {
                return 0;
            }
            int left = sum;
            int ahead = 0;
            int ownRest = weighed(carrier, sum, alike) % all;
            for (int i = 0; i < carriers; i++) {
                int weighed = weighed(i, sum, alike);
                left -= weighed / all;
                int rest = weighed % all;
                if (rest > ownRest || (rest == ownRest && i < carrier)) {
                    ahead++;
                }
            }
            int own = weighed(carrier, sum, alike) / all;
            return ahead < left ? own + 1 : own;
        }

        private int allDays() {
            int all = 0;
            for (int i = 0; i < carriers; i++) {
                all += days[i];
            }
            return all;
        }

        private int weighed(int carrier, int sum, boolean alike) {
            return alike ? sum : sum * days[carrier];
        }
    }
}
