/** Promise 5, sentence by sentence, on both sides of each boundary. */
public final class EdgeBoxTest {
    private static final Story TWO = Story.withStations(0, 0);
    private static final String[] NAMES = {"HOME", "WALK", "READY", "DESK", "WALK there", "DUE"};
    private static final int[] GOOD = {0, 5, 10, 1, 5, 100};
    private static final int[] LEAST = {0, 0, 0, 0, 0, 0};
    private static final int[] MOST = {1, 120, 1439, 1, 120, 1439};

    public static void main(String[] args) {
        sixtyBoxes();
        lastNumbersTaken();
        firstNumbersRefused();
        noStationsYet();
        refusedBoxesTakeNoNumber();
        numbersAreKeptAsTold();
        whatIsNotRuledOut();
        Check.end();
    }

    private static int box(LunchMarks x, int[] a) {
        return x.box(a[0], a[1], a[2], a[3], a[4], a[5]);
    }

    private static int[] with(int place, int value) {
        int[] numbers = GOOD.clone();
        numbers[place] = value;
        return numbers;
    }

    private static void sixtyBoxes() {
        Story most = TWO.boxes(59, 0, 0, 0);
        Story full = TWO.boxes(60, 0, 0, 0);
        Edge.due("5: the first", 0, TWO, x -> box(x, GOOD));
        Edge.due("5: the sixtieth", 59, most, x -> box(x, GOOD));
        Edge.due("5: sixty are counted", 60, full, x -> x.count(2));
        Edge.none("5: NONE: there are 60", full, x -> box(x, GOOD));
        Edge.due("5: the sixtieth is PLANNED, asked and told EMPTY", "60 0 true 0 1", full,
                x -> x.plan() + " " + x.of(59, 1) + " " + x.empty(59, 0) + " " + x.mark(59) + " " + x.of(59, 6));
        Edge.noSuch("5: a 61st isn't there", full.then(x -> box(x, GOOD)), x -> x.of(60, 0));
    }

    private static void lastNumbersTaken() {
        for (int i = 0; i < GOOD.length; i++) {
            int place = i;
            Edge.due("5: " + NAMES[i] + " " + LEAST[i], 0, TWO, x -> box(x, with(place, LEAST[place])));
            Edge.due("5: " + NAMES[i] + " " + MOST[i], 0, TWO, x -> box(x, with(place, MOST[place])));
        }
        Edge.due("5: the least of all", 0, TWO, x -> box(x, LEAST));
        Edge.due("5: the most of all", 0, TWO, x -> box(x, MOST));
    }

    private static void firstNumbersRefused() {
        for (int i = 0; i < GOOD.length; i++) {
            for (int wrong : new int[] {LEAST[i] - 1, MOST[i] + 1, Integer.MIN_VALUE, Integer.MAX_VALUE}) {
                int place = i;
                Edge.none("5: " + NAMES[i] + " " + wrong, TWO, x -> box(x, with(place, wrong)));
            }
        }
    }

    private static void noStationsYet() {
        Edge.none("5: no such STATIONS: none", Story.begun(), x -> x.box(0, 0, 0, 0, 0, 0));
        Edge.none("5: no such STATIONS: one of two", Story.withStations(0), x -> x.box(0, 0, 0, 1, 0, 0));
        Edge.none("5: no such STATIONS: the other", Story.withStations(0), x -> x.box(1, 0, 0, 0, 0, 0));
        Edge.due("5: STATIONS 9 and 9 of ten", 0, Story.withStations(0, 0, 0, 0, 0, 0, 0, 0, 0, 0),
                x -> x.box(9, 0, 0, 9, 0, 0));
        Edge.none("5: HOME 10 of ten", Story.withStations(0, 0, 0, 0, 0, 0, 0, 0, 0, 0), x -> x.box(10, 0, 0, 9, 0, 0));
        Edge.none("5: DESK 10 of ten", Story.withStations(0, 0, 0, 0, 0, 0, 0, 0, 0, 0), x -> x.box(9, 0, 0, 10, 0, 0));
    }

    private static void refusedBoxesTakeNoNumber() {
        Edge.due("5: the number behind refused ones", 1,
                TWO.boxes(1, 0, 0, 0).then(x -> box(x, with(1, 121)), x -> box(x, with(2, 1440))), x -> box(x, GOOD));
    }

    private static void numbersAreKeptAsTold() {
        Story one = Story.withStations(0);
        Edge.due("5: WALK 120", "120 1", one.box(0, 120, 0, 0, 0, 119).planned(), x -> x.of(0, 1) + " " + x.of(0, 3));
        Edge.due("5: WALK there 120", "120 0", one.box(0, 0, 0, 0, 120, 120).planned(),
                x -> x.of(0, 1) + " " + x.of(0, 3));
        Edge.due("5: READY 1439", "1439 0", one.box(0, 0, 1439, 0, 0, 1439).planned(),
                x -> x.of(0, 1) + " " + x.of(0, 3));
        Edge.due("5: READY 1438, DUE 1437", "1438 1", one.box(0, 0, 1438, 0, 0, 1437).planned(),
                x -> x.of(0, 1) + " " + x.of(0, 3));
        Edge.due("5: all at their most arrives behind the day", "1739 1",
                Story.withStations(60).box(0, 120, 1439, 0, 120, 1439).planned(), x -> x.of(0, 1) + " " + x.of(0, 3));
        Edge.due("5: from HOME to DESK, not the other way", "1 20 -1",
                TWO.train(9, 0, 10, 1, 20).boxes(1, 0, 0, 1).boxes(1, 1, 0, 0), x -> x.plan() + " " + x.of(0, 1) + " "
                        + x.of(1, 1));
    }

    private static void whatIsNotRuledOut() {
        Edge.due("5: HOME and DESK at one STATION", 0, TWO, x -> x.box(1, 0, 0, 1, 0, 0));
        Edge.due("5: DUE ahead of READY", 0, TWO, x -> x.box(0, 0, 500, 1, 0, 499));
        Edge.due("5: READY ahead of NOW", 0, TWO.at(500), x -> x.box(0, 0, 499, 1, 0, 600));
        Edge.due("5: DUE ahead of NOW", 0, TWO.at(500), x -> x.box(0, 0, 500, 1, 0, 0));
    }
}
