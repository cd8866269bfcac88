/** Promises 1 to 4: a new object, station, train, stop. */
public final class NetworkTest {
    public static void main(String[] args) {
        aNewObjectIsBare();
        stationsAreNumberedUpToTen();
        sortingTimesHaveEdges();
        trainsAreNumberedUpToSixteen();
        roomsHaveEdges();
        stopsAreNumberedUpToTen();
        stopsGoOnInTimeAndPlace();
        noStopBehindPlannedBoxes();
        aTrainThatDoesNotRunMayGetStops();
        Check.end();
    }

    private static void aNewObjectIsBare() {
        LunchMarks x = new LunchMarks();
        for (int what = 0; what <= 7; what++) {
            final int w = what;
            Check.due("1: count " + what, 0, () -> x.count(w));
        }
        Check.due("1: plan", 0, x::plan);
        Check.noSuch("1: no box", () -> x.of(0, 0));
        Check.noSuch("1: no train", () -> x.load(0, 0));
        Check.noSuch("1: no carrier", () -> x.share(0, 0));
        Check.due("1: no station for a box", -1, () -> x.box(0, 0, 0, 0, 0, 0));
        LunchMarks other = new LunchMarks();
        other.station(1);
        other.minutes(5);
        Check.row("1: objects are apart", "0 0", () -> x.count(0), () -> x.count(3));
    }

    private static void stationsAreNumberedUpToTen() {
        LunchMarks x = new LunchMarks();
        for (int i = 0; i < 10; i++) {
            Check.due("2: number", i, () -> x.station(7));
        }
        Check.row("2: an eleventh", "-1 10", () -> x.station(7), () -> x.count(0));
    }

    private static void sortingTimesHaveEdges() {
        LunchMarks x = new LunchMarks();
        Check.row("2: sorting", "-1 -1 -1 -1 0 1 2", () -> x.station(-1), () -> x.station(61),
                () -> x.station(Integer.MIN_VALUE), () -> x.station(Integer.MAX_VALUE),
                () -> x.station(0), () -> x.station(60), () -> x.count(0));
    }

    private static void trainsAreNumberedUpToSixteen() {
        LunchMarks x = new LunchMarks();
        for (int i = 0; i < 16; i++) {
            Check.due("3: number", i, () -> x.train(3));
        }
        Check.row("3: a seventeenth", "-1 16", () -> x.train(3), () -> x.count(1));
    }

    private static void roomsHaveEdges() {
        LunchMarks x = new LunchMarks();
        Check.row("3: room", "-1 -1 -1 -1 0 1 2", () -> x.train(0), () -> x.train(41),
                () -> x.train(Integer.MIN_VALUE), () -> x.train(Integer.MAX_VALUE),
                () -> x.train(1), () -> x.train(40), () -> x.count(1));
    }

    private static void stopsAreNumberedUpToTen() {
        LunchMarks x = Nets.withStations(0, 0);
        x.train(1);
        for (int i = 0; i < 10; i++) {
            final int k = i;
            Check.due("4: number", i, () -> x.stop(0, k % 2, 10 * k));
        }
        Check.due("4: an eleventh", -1, () -> x.stop(0, 0, 1000));
        Check.row("4: nine spans", "0 " + Check.NO_SUCH, () -> x.load(0, 8), () -> x.load(0, 9));
    }

    private static void stopsGoOnInTimeAndPlace() {
        LunchMarks x = Nets.withStations(0, 0);
        Check.noSuch("4: no train yet", () -> x.stop(0, 0, 0));
        x.train(1);
        Check.noSuch("4: train -1", () -> x.stop(-1, 0, 0));
        Check.noSuch("4: train 1", () -> x.stop(1, 0, 0));
        Check.noSuch("4: no train goes ahead of a wrong station", () -> x.stop(1, 9, -5));
        Check.row("4: stations and minutes that can't be", "-1 -1 -1 -1 -1", () -> x.stop(0, -1, 5),
                () -> x.stop(0, 2, 5), () -> x.stop(0, 0, -1), () -> x.stop(0, 0, 1440),
                () -> x.stop(0, 0, Integer.MAX_VALUE));
        Check.due("4: minute 0", 0, () -> x.stop(0, 0, 0));
        Check.row("4: side by side, or not later", "-1 -1 1 -1 -1", () -> x.stop(0, 0, 5), () -> x.stop(0, 1, 0),
                () -> x.stop(0, 1, 1), () -> x.stop(0, 0, 1), () -> x.stop(0, 1, 7));
        Check.due("4: a station again, at the last minute", 2, () -> x.stop(0, 0, 1439));
        x.minutes(100);
        x.train(1);
        Check.due("4: nothing rules out a minute that is past", 0, () -> x.stop(1, 0, 3));
    }

    private static void noStopBehindPlannedBoxes() {
        LunchMarks x = Nets.withStations(0, 0, 0);
        Nets.train(x, 1, 0, 10, 1, 20, 2, 30);
        Nets.train(x, 1, 0, 50, 1, 60);
        x.box(1, 0, 0, 2, 0, 99);
        x.plan();
        Check.due("4: a box on a later span", -1, () -> x.stop(0, 0, 40));
        Check.due("4: another train has none", 2, () -> x.stop(1, 0, 70));
        x.minutes(40);
        Check.due("4: a box that was led stays so", -1, () -> x.stop(0, 0, 40));
        x.empty(0, 40);
        Check.due("4: its way there stays led when it is empty", -1, () -> x.stop(0, 0, 40));
    }

    private static void aTrainThatDoesNotRunMayGetStops() {
        LunchMarks x = Nets.withStations(0, 0);
        Nets.train(x, 1, 0, 10, 1, 20);
        x.box(0, 0, 0, 1, 0, 99);
        x.plan();
        x.cancel(0);
        Check.row("4: cancelled", "2 0", () -> x.stop(0, 0, 30), x::plan);
    }
}
