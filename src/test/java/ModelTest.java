import java.util.ArrayList;
import java.util.List;
import java.util.Random;

/** Random runs of at most 512 calls, the class against the plain model, with all answers of all promises. */
public final class ModelTest {
    private static final int RUNS = 4000;
    private static final int FULL_RUNS = 3;
    private static final int WILD_RUNS = 1500;
    /** Numbers at both sides of all bounds of the document, and at the ends of int. */
    private static final int[] WILD = {
        Integer.MIN_VALUE, Integer.MIN_VALUE + 1, -1440, -2, -1, 0, 1, 2, 3, 6, 7, 8, 9, 10, 11, 15, 16, 17, 30, 31, 32, 39,
        40, 41, 59, 60, 61, 119, 120, 121, 1438, 1439, 1440, 1441, 9999999, 10000000, 10000001, Integer.MAX_VALUE - 1439,
        Integer.MAX_VALUE - 1, Integer.MAX_VALUE};
    private static final int CALLS = 512;

    private final Random random;
    private final LunchMarks x = new LunchMarks();
    private final Model model = new Model();
    private final List<String> calls = new ArrayList<>();
    private final int seed;
    private int stations;
    private int trains;
    private int boxes;
    private int carriers;
    private int horizon;
    private boolean line;

    private ModelTest(int seed) {
        this.seed = seed;
        random = new Random(seed);
    }

    public static void main(String[] args) {
        for (int seed = 0; seed < RUNS && Check.isClean(); seed++) {
            new ModelTest(seed).run();
        }
        for (int seed = RUNS; seed < RUNS + FULL_RUNS && Check.isClean(); seed++) {
            new ModelTest(seed).runFull();
        }
        for (int seed = RUNS + FULL_RUNS; seed < RUNS + FULL_RUNS + WILD_RUNS && Check.isClean(); seed++) {
            new ModelTest(seed).runWild();
        }
        Check.end();
    }

    private void run() {
        horizon = random.nextInt(8) == 0 ? 1439 : 120 + random.nextInt(300);
        line = random.nextInt(3) > 0;
        stations = 2 + random.nextInt(random.nextInt(12) == 0 ? 9 : 4);
        for (int i = 0; i < stations; i++) {
            int sorting = random.nextInt(3) == 0 ? 0 : random.nextInt(line ? 6 : 12);
            ask("station " + sorting, () -> model.station(sorting), () -> x.station(sorting));
        }
        int first = 3 + random.nextInt(line ? 12 : 6);
        for (int i = 0; i < first; i++) {
            newTrain();
        }
        int begun = 2 + random.nextInt(14);
        for (int i = 0; i < begun; i++) {
            newBox();
        }
        while (calls.size() < CALLS && Check.isClean()) {
            change();
            look();
        }
    }

    /** As much of all as there may be: 10 stations, 16 trains of 10 stops, 60 boxes, 40 carriers. */
    private void runFull() {
        horizon = 300;
        stations = 10;
        for (int i = 0; i < stations; i++) {
            int sorting = i;
            ask("station " + sorting, () -> model.station(sorting), () -> x.station(sorting));
        }
        for (trains = 0; trains < 16; trains++) {
            int train = trains;
            ask("train", () -> model.train(2), () -> x.train(2));
            int station = random.nextInt(stations);
            for (int k = 0; k < 10; k++) {
                newStop(train, station, train * 10 + k * 25 + random.nextInt(20));
                station = (station + 1 + random.nextInt(stations - 1)) % stations;
            }
        }
        for (int i = 0; i < 60; i++) {
            newBox();
        }
        for (int i = 0; i < 40; i++) {
            int days = random.nextInt(32);
            ask("carrier " + days, () -> model.carrier(days), () -> x.carrier(days));
        }
        carriers = 40;
        while (calls.size() < CALLS && Check.isClean()) {
            change();
            look();
        }
    }

    /** Any call with any numbers in any state: it answers, or throws what the document names. */
    private void runWild() {
        while (calls.size() < CALLS && Check.isClean()) {
            if (random.nextBoolean()) {
                changeWildly();
            } else {
                lookWildly();
            }
        }
    }

    private int wild(int usual) {
        return random.nextInt(12) == 0 ? WILD[random.nextInt(WILD.length)] : random.nextInt(usual);
    }

    private void changeWildly() {
        int a = wild(3);
        int b = wild(4);
        int c = wild(5);
        int d = wild(4);
        int minute = wild(200);
        switch (random.nextInt(12)) {
            case 0 -> ask("station " + a, () -> model.station(a), () -> x.station(a));
            case 1 -> ask("train " + (a + 1), () -> model.train(a + 1), () -> x.train(a + 1));
            case 2, 3, 4, 5 -> newStop(a, b, minute);
            case 6, 7 -> ask("box " + a + " " + b + " " + minute + " " + d + " " + c + " " + minute,
                    () -> model.box(a, b, minute, d, c, minute), () -> x.box(a, b, minute, d, c, minute));
            case 8 -> ask("plan", model::plan, x::plan);
            case 9 -> ask("minutes " + b, () -> model.minutes(b), () -> x.minutes(b));
            case 10 -> ask("cancel " + a, () -> model.cancel(a), () -> x.cancel(a));
            default -> ask("carrier " + c, () -> model.carrier(c), () -> x.carrier(c));
        }
    }

    private void lookWildly() {
        int a = wild(4);
        int b = wild(4);
        int what = wild(8);
        int minute = random.nextBoolean() ? wild(200) : model.count(3);
        switch (random.nextInt(8)) {
            case 0 -> ask("empty " + a + " " + minute, () -> model.empty(a, minute), () -> x.empty(a, minute));
            case 1 -> ask("of " + a + " " + what, () -> model.of(a, what), () -> x.of(a, what));
            case 2 -> ask("leg " + a + " " + b + " " + what, () -> model.leg(a, b, what), () -> x.leg(a, b, what));
            case 3 -> ask("load " + a + " " + b, () -> model.load(a, b), () -> x.load(a, b));
            case 4 -> ask("where " + a, () -> model.where(a), () -> x.where(a));
            case 5 -> ask("mark " + a, () -> model.mark(a), () -> x.mark(a));
            case 6 -> ask("share " + a + " " + minute, () -> model.share(a, minute), () -> x.share(a, minute));
            default -> ask("count " + what, () -> model.count(what), () -> x.count(what));
        }
    }

    private void ask(String call, Check.Call want, Check.Call got) {
        if (calls.size() >= CALLS || !Check.isClean()) {
            return;
        }
        calls.add(call);
        Check.due("seed " + seed + ", call " + calls.size() + " " + call, Check.told(want), got);
        if (!Check.isClean()) {
            System.out.println(String.join("; ", calls));
        }
    }

    private void newTrain() {
        int room = random.nextInt(4) == 0 ? 1 + random.nextInt(40) : 1 + random.nextInt(3);
        ask("train " + room, () -> model.train(room), () -> x.train(room));
        trains = model.count(1);
        int minute = model.count(3) - 5 + random.nextInt(horizon);
        int station = random.nextInt(stations);
        int stops = random.nextInt(10) == 0 ? 10 : 2 + random.nextInt(3);
        for (int i = 0; i < stops; i++) {
            newStop(trains - 1, station, minute);
            minute += 1 + random.nextInt(random.nextBoolean() ? 8 : 30);
            station = line ? neighbour(station) : random.nextInt(stations);
        }
    }

    private int neighbour(int station) {
        int next = random.nextBoolean() ? station + 1 : station - 1;
        return next < 0 ? 1 : next >= stations ? stations - 2 : next;
    }

    private void newStop(int train, int station, int minute) {
        ask("stop " + train + " " + station + " " + minute,
                () -> model.stop(train, station, minute), () -> x.stop(train, station, minute));
    }

    private void newBox() {
        int home = random.nextInt(stations);
        int desk = random.nextInt(stations);
        int walk = random.nextInt(random.nextBoolean() ? 3 : 15);
        int walkThere = random.nextInt(random.nextBoolean() ? 3 : 15);
        int ready = Math.min(1439, model.count(3) - 1 + random.nextInt(horizon) / 2);
        int due = Math.min(1439, ready + random.nextInt(horizon));
        ask("box " + home + " " + walk + " " + ready + " " + desk + " " + walkThere + " " + due,
                () -> model.box(home, walk, ready, desk, walkThere, due),
                () -> x.box(home, walk, ready, desk, walkThere, due));
        boxes = model.count(2);
    }

    private void change() {
        int kind = random.nextInt(100);
        if (kind < 22) {
            ask("plan", model::plan, x::plan);
        } else if (kind < 40) {
            int n = random.nextInt(60) == 0 ? -1 + random.nextInt(1500) : random.nextInt(horizon / 8);
            ask("minutes " + n, () -> model.minutes(n), () -> x.minutes(n));
        } else if (kind < 50) {
            int train = random.nextInt(trains + 2) - 1;
            ask("cancel " + train, () -> model.cancel(train), () -> x.cancel(train));
        } else if (kind < 75) {
            int box = someBox();
            int ready = model.count(3) - 2 + random.nextInt(30);
            ask("empty " + box + " " + ready, () -> model.empty(box, ready), () -> x.empty(box, ready));
        } else if (kind < 82) {
            newBox();
        } else if (kind < 90) {
            newTrain();
        } else if (kind < 96) {
            newStop(random.nextInt(trains), random.nextInt(stations), random.nextInt(horizon));
        } else {
            int days = random.nextInt(3) == 0 ? random.nextInt(34) - 1 : 0;
            ask("carrier " + days, () -> model.carrier(days), () -> x.carrier(days));
            carriers = model.count(7);
        }
    }

    /** More often than not one that may be told empty, if there is one. */
    private int someBox() {
        int box = random.nextInt(boxes + 2) - 1;
        for (int i = 0; i < boxes && random.nextInt(20) > 0; i++) {
            if (model.where(i) == 4 && model.of(i, 6) == 0) {
                return i;
            }
        }
        return box;
    }

    private void look() {
        int looks = 3 + random.nextInt(12);
        for (int i = 0; i < looks; i++) {
            lookOnce();
        }
    }

    private void lookOnce() {
        int box = random.nextInt(40) == 0 ? boxes : random.nextInt(boxes + 1);
        int what = random.nextInt(9) - 1;
        int i = random.nextInt(8) - 1;
        int train = random.nextInt(trains + 1);
        int sum = random.nextInt(4) == 0 ? 9999990 + random.nextInt(14) : random.nextInt(3000) - 10;
        int carrier = random.nextInt(carriers + 1);
        switch (random.nextInt(8)) {
            case 0, 1 -> ask("of " + box + " " + what, () -> model.of(box, what), () -> x.of(box, what));
            case 2 -> ask("leg " + box + " " + i + " " + what % 4,
                    () -> model.leg(box, i, what % 4), () -> x.leg(box, i, what % 4));
            case 3 -> ask("load " + train + " " + i, () -> model.load(train, i), () -> x.load(train, i));
            case 4 -> ask("where " + box, () -> model.where(box), () -> x.where(box));
            case 5 -> ask("mark " + box, () -> model.mark(box), () -> x.mark(box));
            case 6 -> ask("share " + carrier + " " + sum,
                    () -> model.share(carrier, sum), () -> x.share(carrier, sum));
            default -> ask("count " + what, () -> model.count(what), () -> x.count(what));
        }
    }
}
