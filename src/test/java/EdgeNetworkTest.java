/** Promises 1 to 4, sentence by sentence, on both sides of each boundary. */
public final class EdgeNetworkTest {
    private static final Story NEW = Story.begun();
    private static final Story TWO = Story.withStations(0, 0);
    private static final Story THREE = Story.withStations(0, 0, 0);

    public static void main(String[] args) {
        nowIsZeroAtFirst();
        noStationsAtFirst();
        noTrainsAtFirst();
        noBoxesAtFirst();
        noCarriersAtFirst();
        objectsAreApart();
        anObjectAnswers512Calls();
        tenStations();
        sortingIsZeroToSixty();
        refusedStationsTakeNoNumber();
        sixteenTrains();
        roomIsOneToForty();
        refusedTrainsTakeNoNumber();
        tenStops();
        aStopsStationIsThere();
        aStopsMinuteIsOfTheDay();
        eachMinuteIsGreaterThanTheOneAhead();
        noTwoSideBySideAtOneStation();
        noStopIfABoxIsPlannedOnTheTrain();
        boxesThatDoNotKeepStopsAway();
        roomGivenUpLetsStopsInAgain();
        noSuchTrainToStopAt();
        Check.end();
    }

    private static void nowIsZeroAtFirst() {
        Edge.due("1: NOW 0", 0, NEW, x -> x.count(3));
        Edge.due("1: NOW 0: the whole day is left", 1439, NEW, x -> x.minutes(1439));
        Edge.illegal("1: NOW 0: no more than it", NEW, x -> x.minutes(1440));
        Edge.due("1: NOW 0: READY 0 isn't less", 1, TWO.box(0, 0, 0, 0, 0, 0), x -> x.plan());
        Edge.none("1: NOW 0: a STOP at 0 isn't after it", TWO.train(1, 0, 0, 1, 1), x -> x.cancel(0));
        Edge.due("1: NOW 0: a STOP at 1 is after it", 0, TWO.train(1, 0, 1, 1, 2), x -> x.cancel(0));
    }

    private static void noStationsAtFirst() {
        Edge.due("1: no STATIONS", 0, NEW, x -> x.count(0));
        Edge.none("1: no STATIONS: no STOP", NEW.train(1), x -> x.stop(0, 0, 5));
        Edge.none("1: no STATIONS: no box", NEW, x -> x.box(0, 0, 0, 0, 0, 0));
        Edge.due("1: no STATIONS: the first is 0", 0, NEW, x -> x.station(5));
    }

    private static void noTrainsAtFirst() {
        Edge.due("1: no TRAINS", 0, NEW, x -> x.count(1));
        Edge.noSuch("1: no TRAINS: stop", TWO, x -> x.stop(0, 0, 5));
        Edge.noSuch("1: no TRAINS: cancel", NEW, x -> x.cancel(0));
        Edge.noSuch("1: no TRAINS: load", NEW, x -> x.load(0, 0));
        Edge.due("1: no TRAINS: the first is 0", 0, NEW, x -> x.train(5));
    }

    private static void noBoxesAtFirst() {
        Edge.due("1: no boxes", 0, NEW, x -> x.count(2));
        Edge.due("1: no boxes: none gets a WAY", 0, NEW, x -> x.plan());
        Edge.due("1: no boxes: none has a WAY, is LATE, has a MARK", "0 0 0", NEW,
                x -> x.count(4) + " " + x.count(5) + " " + x.count(6));
        Edge.noSuch("1: no boxes: empty", NEW, x -> x.empty(0, 0));
        Edge.noSuch("1: no boxes: of", NEW, x -> x.of(0, 0));
        Edge.noSuch("1: no boxes: leg", NEW, x -> x.leg(0, 0, 0));
        Edge.noSuch("1: no boxes: where", NEW, x -> x.where(0));
        Edge.noSuch("1: no boxes: mark", NEW, x -> x.mark(0));
        Edge.due("1: no boxes: the first is 0", 0, TWO, x -> x.box(0, 0, 0, 1, 0, 0));
    }

    private static void noCarriersAtFirst() {
        Edge.due("1: no carriers", 0, NEW, x -> x.count(7));
        Edge.noSuch("1: no carriers: share", NEW, x -> x.share(0, 0));
        Edge.due("1: no carriers: the first is 0", 0, NEW, x -> x.carrier(5));
    }

    private static void objectsAreApart() {
        String bare = NEW.everything();
        LunchMarks full = THREE.train(1, 0, 10, 1, 20).boxes(1, 0, 0, 1).planned().at(5).then(x -> x.carrier(1)).told();
        Check.due("1: an object is new, whatever others did", bare, NEW::everything);
        Check.due("1: and leaves them as they were", 5, () -> full.count(3));
    }

    private static void anObjectAnswers512Calls() {
        LunchMarks x = new LunchMarks();
        x.station(5);
        x.box(0, 10, 20, 0, 30, 64);
        x.plan();
        for (int call = 4; call <= 510; call++) {
            x.minutes(call % 2);
        }
        Check.row("1: the 511th and the 512th call", "65 253", () -> x.of(0, 1), () -> x.count(3));
    }

    private static void tenStations() {
        Story nine = Story.withStations(1, 1, 1, 1, 1, 1, 1, 1, 1);
        Story ten = nine.then(x -> x.station(1));
        Edge.due("2: the tenth", 9, nine, x -> x.station(1));
        Edge.due("2: ten are counted", 10, ten, x -> x.count(0));
        Edge.none("2: NONE: there are 10", ten, x -> x.station(1));
        Edge.none("2: NONE: there are 10, and the SORTING time is wrong", ten, x -> x.station(61));
        Edge.due("2: the tenth can be used", 0, ten.train(1), x -> x.stop(0, 9, 5));
        Edge.none("2: an eleventh can't", ten.train(1).then(x -> x.station(1)), x -> x.stop(0, 10, 5));
    }

    private static void sortingIsZeroToSixty() {
        Edge.due("2: SORTING 0", 0, NEW, x -> x.station(0));
        Edge.due("2: SORTING 60", 0, NEW, x -> x.station(60));
        Edge.due("2: SORTING 0 takes no MINUTE", 7, Story.withStations(0).box(0, 0, 7, 0, 0, 9).planned(),
                x -> x.of(0, 1));
        Edge.due("2: SORTING 60 takes sixty", 67, Story.withStations(60).box(0, 0, 7, 0, 0, 9).planned(),
                x -> x.of(0, 1));
        for (int wrong : new int[] {-1, 61, Integer.MIN_VALUE, Integer.MAX_VALUE}) {
            Edge.none("2: SORTING " + wrong, NEW, x -> x.station(wrong));
        }
    }

    private static void refusedStationsTakeNoNumber() {
        Edge.due("2: the number behind refused ones", 1, Story.withStations(3).then(x -> x.station(-1), x -> x.station(61)),
                x -> x.station(3));
    }

    private static Story trains(int number) {
        Story story = TWO;
        for (int i = 0; i < number; i++) {
            story = story.train(1);
        }
        return story;
    }

    private static void sixteenTrains() {
        Edge.due("3: the sixteenth", 15, trains(15), x -> x.train(1));
        Edge.due("3: sixteen are counted", 16, trains(16), x -> x.count(1));
        Edge.none("3: NONE: there are 16", trains(16), x -> x.train(1));
        Edge.none("3: NONE: there are 16, and the ROOM is wrong", trains(16), x -> x.train(0));
        Edge.due("3: the sixteenth can be used", 0, trains(16), x -> x.stop(15, 0, 5));
        Edge.noSuch("3: a seventeenth can't", trains(16).then(x -> x.train(1)), x -> x.stop(16, 0, 5));
        Edge.due("3: it leads boxes, too", "20 15", trains(15).train(1, 0, 10, 1, 20).boxes(1, 0, 0, 1).planned(),
                x -> x.of(0, 1) + " " + x.leg(0, 0, 0));
    }

    private static void roomIsOneToForty() {
        Edge.due("3: ROOM 1", 0, NEW, x -> x.train(1));
        Edge.due("3: ROOM 40", 0, NEW, x -> x.train(40));
        Edge.due("3: ROOM 1 is for one box", "1 1", TWO.train(1, 0, 10, 1, 20).boxes(2, 0, 0, 1),
                x -> x.plan() + " " + x.load(0, 0));
        Edge.due("3: ROOM 40 is for forty boxes", "40 40", TWO.train(40, 0, 10, 1, 20).boxes(41, 0, 0, 1),
                x -> x.plan() + " " + x.load(0, 0));
        for (int wrong : new int[] {0, 41, -1, Integer.MIN_VALUE, Integer.MAX_VALUE}) {
            Edge.none("3: ROOM " + wrong, NEW, x -> x.train(wrong));
        }
    }

    private static void refusedTrainsTakeNoNumber() {
        Edge.due("3: the number behind refused ones", 1, trains(1).then(x -> x.train(0), x -> x.train(41)),
                x -> x.train(3));
    }

    private static void tenStops() {
        Story nine = TWO.train(1, 0, 10, 1, 20, 0, 30, 1, 40, 0, 50, 1, 60, 0, 70, 1, 80, 0, 90);
        Story ten = nine.then(x -> x.stop(0, 1, 100));
        Edge.due("4: the first", 0, TWO.train(1), x -> x.stop(0, 0, 10));
        Edge.due("4: the tenth", 9, nine, x -> x.stop(0, 1, 100));
        Edge.none("4: NONE: there are 10", ten, x -> x.stop(0, 0, 110));
        Edge.due("4: the tenth is gone to", "100 0:8-9", ten.boxes(1, 0, 90, 1).planned(),
                x -> x.of(0, 1) + " " + Nets.legs(x, 0));
        Edge.due("4: another TRAIN has its own ten", 0, ten.train(1), x -> x.stop(1, 0, 5));
    }

    private static void aStopsStationIsThere() {
        Story train = TWO.train(1);
        Edge.due("4: STATION 0", 0, train, x -> x.stop(0, 0, 5));
        Edge.due("4: the last STATION", 0, train, x -> x.stop(0, 1, 5));
        for (int wrong : new int[] {-1, 2, 10, Integer.MIN_VALUE, Integer.MAX_VALUE}) {
            Edge.none("4: the STATION can't be: " + wrong, train, x -> x.stop(0, wrong, 5));
        }
    }

    private static void aStopsMinuteIsOfTheDay() {
        Story train = TWO.train(1);
        Edge.due("4: MINUTE 0", 0, train, x -> x.stop(0, 0, 0));
        Edge.due("4: MINUTE 1439", 0, train, x -> x.stop(0, 0, 1439));
        Edge.due("4: MINUTE 1439 behind another", 1, TWO.train(1, 0, 1438), x -> x.stop(0, 1, 1439));
        for (int wrong : new int[] {-1, 1440, Integer.MIN_VALUE, Integer.MAX_VALUE}) {
            Edge.none("4: the MINUTE can't be: " + wrong, train, x -> x.stop(0, 0, wrong));
            Edge.none("4: nor behind another: " + wrong, TWO.train(1, 0, 50), x -> x.stop(0, 1, wrong));
        }
        Edge.due("4: a MINUTE that is past can be", 0, train.at(100), x -> x.stop(0, 0, 99));
    }

    private static void eachMinuteIsGreaterThanTheOneAhead() {
        Story one = TWO.train(1, 0, 50);
        Edge.due("4: a MINUTE later", 1, one, x -> x.stop(0, 1, 51));
        Edge.none("4: the same MINUTE", one, x -> x.stop(0, 1, 50));
        Edge.none("4: a MINUTE ahead", one, x -> x.stop(0, 1, 49));
        Edge.none("4: a MINUTE between two", TWO.train(1, 0, 50, 1, 60), x -> x.stop(0, 0, 55));
        Edge.due("4: another TRAIN may be earlier", 0, one.train(1), x -> x.stop(1, 0, 40));
    }

    private static void noTwoSideBySideAtOneStation() {
        Edge.none("4: side by side at one STATION", TWO.train(1, 0, 50), x -> x.stop(0, 0, 60));
        Edge.none("4: side by side behind others", TWO.train(1, 0, 50, 1, 60), x -> x.stop(0, 1, 70));
        Edge.due("4: one STATION again, with another between", 2, TWO.train(1, 0, 50, 1, 60), x -> x.stop(0, 0, 70));
        Edge.due("4: another TRAIN may begin where one ended", 0, TWO.train(1, 0, 50).train(1), x -> x.stop(1, 0, 60));
    }

    private static void noStopIfABoxIsPlannedOnTheTrain() {
        Story train = THREE.train(2, 0, 10, 1, 20, 2, 30);
        Edge.none("4: a box PLANNED on its first SPAN", train.boxes(1, 0, 0, 1).planned(), x -> x.stop(0, 0, 40));
        Edge.none("4: a box PLANNED on its last SPAN", train.boxes(1, 1, 0, 2).planned(), x -> x.stop(0, 0, 40));
        Edge.none("4: a box PLANNED on all", train.boxes(1, 0, 0, 2).planned(), x -> x.stop(0, 0, 40));
        Edge.none("4: a box that has ARRIVED was PLANNED on it", train.boxes(1, 0, 0, 1).planned().at(35),
                x -> x.stop(0, 0, 40));
        Edge.none("4: an EMPTY box was LED by it", train.boxes(1, 0, 0, 1).planned().at(35).emptied(0, 35),
                x -> x.stop(0, 0, 40));
        Edge.none("4: a box PLANNED on the last SPAN of ten STOPS' nine",
                TWO.train(1, 0, 1, 1, 2, 0, 3, 1, 4, 0, 5, 1, 6, 0, 7, 1, 8, 0, 9).boxes(1, 1, 8, 0).planned(),
                x -> x.stop(0, 1, 10));
    }

    private static void boxesThatDoNotKeepStopsAway() {
        Story train = THREE.train(2, 0, 10, 1, 20, 2, 30);
        Edge.due("4: no box", 3, train, x -> x.stop(0, 0, 40));
        Edge.due("4: a box that isn't PLANNED yet", 3, train.boxes(1, 0, 0, 1), x -> x.stop(0, 0, 40));
        Edge.due("4: a box that got no WAY", 3, train.boxes(1, 0, 11, 1).planned(), x -> x.stop(0, 0, 40));
        Edge.due("4: a box without LEGS", 3, train.boxes(1, 0, 0, 0).planned(), x -> x.stop(0, 0, 40));
        Edge.due("4: a box on another TRAIN", 3, train.train(1, 0, 5, 1, 15).boxes(1, 0, 0, 1).planned(),
                x -> x.stop(0, 0, 40));
    }

    private static void roomGivenUpLetsStopsInAgain() {
        Story two = THREE.train(1, 0, 10, 1, 20).train(1, 1, 30, 2, 40).boxes(1, 0, 0, 2).planned();
        Edge.none("4: PLANNED on the second TRAIN", two, x -> x.stop(1, 0, 50));
        Edge.due("4: given up, since the first is CANCELLED", 2, two.cancelled(0), x -> x.stop(1, 0, 50));
        Edge.due("4: a CANCELLED TRAIN has no box either", 2, two.cancelled(1), x -> x.stop(1, 0, 50));
        Edge.none("4: what it keeps is PLANNED still", two.cancelled(1), x -> x.stop(0, 0, 50));
    }

    private static void noSuchTrainToStopAt() {
        for (int wrong : new int[] {-1, 2, Integer.MIN_VALUE, Integer.MAX_VALUE}) {
            Edge.noSuch("4: no such TRAIN: " + wrong, trains(2), x -> x.stop(wrong, 0, 5));
            Edge.noSuch("4: no such TRAIN, wrong STATION, MINUTE: " + wrong, trains(2), x -> x.stop(wrong, 9, 1440));
        }
        Edge.due("4: the last TRAIN", 0, trains(2), x -> x.stop(1, 0, 5));
    }
}
