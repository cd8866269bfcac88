/** PLANNED and STANDS (promise 6), and load (promise 12), on both sides of each boundary. */
public final class EdgePlanTest {
    private static final Story TWO = Story.withStations(0, 0);
    private static final Story SIX = Story.withStations(0, 0, 0, 0, 0, 0);

    public static void main(String[] args) {
        howManyGotAWay();
        oneWithAWayIsNotLedAgain();
        oneThatGotNoneIsTriedAgain();
        zeroFirst();
        roomIsTakenAtOnce();
        readyLessThanNowGetsNone();
        oneThatStandsIsLedThoughReadyIsPast();
        inItsTurn();
        fromTheMinuteItStands();
        fromNowIfThatIsLater();
        legsLeftToOneThatStands();
        ledNowhereItStandsAsBefore();
        spansOfATrain();
        noSuchSpan();
        noSuchTrain();
        loadIsOfTheSpansRidden();
        loadIsOfPlannedLegsAlone();
        Check.end();
    }

    private static void howManyGotAWay() {
        Story train = TWO.train(2, 0, 10, 1, 20);
        Edge.due("6: none, without boxes", 0, train, x -> x.plan());
        Edge.refused("6: none, since there is no WAY", 0, TWO.boxes(2, 0, 0, 1), x -> x.plan());
        Edge.due("6: one", 1, train.boxes(1, 0, 0, 1), x -> x.plan());
        Edge.due("6: two of three", 2, train.boxes(3, 0, 0, 1), x -> x.plan());
        Edge.due("6: sixty of sixty", 60, TWO.boxes(60, 0, 0, 0), x -> x.plan());
        Edge.refused("6: none a second time", 0, train.boxes(3, 0, 0, 1).planned(), x -> x.plan());
    }

    private static void oneWithAWayIsNotLedAgain() {
        Story led = TWO.train(1, 0, 50, 1, 60).boxes(1, 0, 0, 1).planned().train(1, 0, 20, 1, 30);
        Edge.refused("6: it has a WAY", 0, led, x -> x.plan());
        Edge.due("6: the WAY that it has", "60 0:0-1", led.planned(), x -> x.of(0, 1) + " " + Nets.legs(x, 0));
        Edge.refused("6: it has ARRIVED", 0, led.at(70), x -> x.plan());
    }

    private static void oneThatGotNoneIsTriedAgain() {
        Story waiting = TWO.boxes(1, 0, 30, 1).planned();
        Edge.refused("6: no WAY yet", 0, waiting, x -> x.plan());
        Edge.due("6: a TRAIN has come", "1 60", waiting.train(1, 0, 50, 1, 60), x -> x.plan() + " " + x.of(0, 1));
    }

    private static void zeroFirst() {
        Story two = TWO.train(1, 0, 10, 1, 20).train(1, 0, 10, 1, 30).boxes(3, 0, 0, 1).planned();
        Edge.due("6: 0 first", "20 30 -1", two, x -> x.of(0, 1) + " " + x.of(1, 1) + " " + x.of(2, 1));
        Edge.due("6: not the one that is READY or DUE first", "20 -1",
                TWO.train(1, 0, 10, 1, 20).box(0, 0, 9, 1, 0, 1439).box(0, 0, 0, 1, 0, 20).planned(),
                x -> x.of(0, 1) + " " + x.of(1, 1));
    }

    private static void roomIsTakenAtOnce() {
        Story line = SIX.train(1, 0, 10, 1, 20, 2, 30, 3, 40);
        Edge.due("6: ROOM is taken at once", "1 -1", line.boxes(1, 0, 0, 3).boxes(1, 1, 0, 2),
                x -> x.plan() + " " + x.of(1, 1));
        Edge.due("6: not where it doesn't ride", "2 40", line.boxes(1, 0, 0, 2).boxes(1, 2, 0, 3),
                x -> x.plan() + " " + x.of(1, 1));
        Edge.due("6: a box without a WAY takes none", "1 -1 30",
                line.boxes(1, 0, 11, 2).boxes(1, 1, 0, 2), x -> x.plan() + " " + x.of(0, 1) + " " + x.of(1, 1));
    }

    private static void readyLessThanNowGetsNone() {
        Story train = TWO.train(9, 0, 500, 1, 600);
        Edge.due("6: READY is NOW", "1 600", train.boxes(1, 0, 30, 1).at(30), x -> x.plan() + " " + x.of(0, 1));
        Edge.refused("6: READY is less than NOW", 0, train.boxes(1, 0, 29, 1).at(30), x -> x.plan());
        Edge.refused("6: READY is less than NOW, at one STATION", 0, train.boxes(1, 0, 29, 0).at(30), x -> x.plan());
        Edge.due("6: READY is after NOW", "1 600", train.boxes(1, 0, 31, 1).at(30), x -> x.plan() + " " + x.of(0, 1));
        Edge.due("6: READY is the last MINUTE, and NOW", "1 1439", TWO.boxes(1, 0, 1439, 0).at(1439),
                x -> x.plan() + " " + x.of(0, 1));
        Edge.refused("6: READY is a MINUTE ahead of the last", 0, TWO.boxes(1, 0, 1438, 0).at(1439), x -> x.plan());
    }

    private static Story standing() {
        return TWO.train(1, 0, 10, 1, 20).boxes(1, 0, 5, 1).planned().cancelled(0);
    }

    private static void oneThatStandsIsLedThoughReadyIsPast() {
        Edge.due("6: it had a WAY, READY is past", "1 60", standing().train(1, 0, 50, 1, 60).at(40),
                x -> x.plan() + " " + x.of(0, 1));
        Edge.refused("6: it never had one, READY is past", 0, TWO.boxes(1, 0, 5, 1).train(1, 0, 50, 1, 60).at(40),
                x -> x.plan());
    }

    private static void inItsTurn() {
        Edge.due("6: 0 STANDS, 1 has had none: 0 first", "60 -1",
                standing().boxes(1, 0, 5, 1).train(1, 0, 50, 1, 60).planned(), x -> x.of(0, 1) + " " + x.of(1, 1));
        Story second = TWO.boxes(1, 0, 11, 1).train(1, 0, 10, 1, 20).boxes(1, 0, 5, 1).planned().cancelled(0);
        Edge.due("6: 0 has had none, 1 STANDS: 0 first", "60 -1", second.train(1, 0, 50, 1, 60).planned(),
                x -> x.of(0, 1) + " " + x.of(1, 1));
        Edge.due("6: there is ROOM for both", "60 60", second.train(2, 0, 50, 1, 60).planned(),
                x -> x.of(0, 1) + " " + x.of(1, 1));
    }

    private static Story standingBehindALeg() {
        return Story.withStations(0, 5, 0).train(1, 0, 10, 1, 20).train(1, 1, 30, 2, 40).boxes(1, 0, 0, 2).planned()
                .cancelled(1);
    }

    private static void fromTheMinuteItStands() {
        Edge.due("6: it STANDS at STATION 1 from 25 on", "1 25", standingBehindALeg(), x -> x.of(0, 4) + " " + x.of(0, 5));
        Edge.due("6: a TRAIN at that MINUTE", "1 90", standingBehindALeg().train(1, 1, 25, 2, 90),
                x -> x.plan() + " " + x.of(0, 1));
        Edge.refused("6: a TRAIN a MINUTE ahead", 0, standingBehindALeg().train(1, 1, 24, 2, 90), x -> x.plan());
        Edge.refused("6: a TRAIN from elsewhere", 0, standingBehindALeg().train(1, 0, 25, 2, 90), x -> x.plan());
        Edge.due("6: NOW is ahead of it", "1 90", standingBehindALeg().train(1, 1, 25, 2, 90).at(24),
                x -> x.plan() + " " + x.of(0, 1));
    }

    private static void fromNowIfThatIsLater() {
        Story leaving = standingBehindALeg().train(1, 1, 50, 2, 90);
        Edge.due("6: a TRAIN that leaves NOW", "1 90", leaving.at(50), x -> x.plan() + " " + x.of(0, 1));
        Edge.refused("6: a TRAIN that left a MINUTE ago", 0, leaving.at(51), x -> x.plan());
        Edge.due("6: NOW is the last MINUTE but one", "1 1439", standingBehindALeg().train(1, 1, 1438, 2, 1439).at(1438),
                x -> x.plan() + " " + x.of(0, 1));
        Edge.refused("6: NOW is the last MINUTE", 0, standingBehindALeg().train(1, 1, 1438, 2, 1439).at(1439),
                x -> x.plan());
    }

    /** A box from STATION 0 to 5 that has kept as many LEGS as told, and STANDS at the STATION of that number. */
    private static Story kept(int legs) {
        Story story = SIX;
        for (int i = 0; i < legs; i++) {
            story = story.train(1, i, 10 * i + 10, i + 1, 10 * i + 20);
        }
        return story.train(1, legs, 10 * legs + 10, 5, 90).boxes(1, 0, 0, 5).planned().cancelled(legs);
    }

    /** Trains from that STATION on to STATION 5, as many as told, each from where the one ahead ends. */
    private static Story more(Story story, int from, int legs) {
        Story longer = story;
        int at = from;
        for (int i = 0; i < legs; i++) {
            int next = i == legs - 1 ? 5 : (i % 2 == 0 ? 4 : 3);
            longer = longer.train(1, at, 100 + 10 * i, next, 110 + 10 * i);
            at = next;
        }
        return longer;
    }

    private static void legsLeftToOneThatStands() {
        for (int legs = 0; legs < 3; legs++) {
            int kept = legs;
            Story stands = kept(legs);
            Edge.due("6: it has kept " + legs, kept + " " + kept, stands, x -> x.of(0, 0) + " " + x.of(0, 4));
            Edge.due("6: it keeps " + legs + ", and gets the LEGS left of 3", "1 3", more(stands, legs, 3 - legs),
                    x -> x.plan() + " " + x.of(0, 0));
        }
        Edge.refused("6: it keeps 1, and 3 more would be 4", 0, more(kept(1), 1, 3), x -> x.plan());
        Edge.refused("6: it keeps 2, and 2 more would be 4", 0, more(kept(2), 2, 2), x -> x.plan());
        Story four = kept(0).train(1, 0, 100, 1, 110).train(1, 1, 110, 2, 120).train(1, 2, 120, 3, 130)
                .train(1, 3, 130, 5, 140);
        Edge.refused("6: it keeps none, and 4 are too many", 0, four, x -> x.plan());
    }

    private static void ledNowhereItStandsAsBefore() {
        Story waiting = standingBehindALeg().at(60);
        Edge.refused("6: no WAY on: it STANDS", 0, waiting, x -> x.plan());
        Edge.due("6: since when it did", "1 -1 1 0 1 25 0", waiting.planned(), x -> Nets.state(x, 0));
        Edge.due("6: led on, it STANDS no more", "2 99 1 0 -1 -1 0", waiting.train(1, 1, 60, 2, 99).planned(),
                x -> Nets.state(x, 0));
    }

    private static void spansOfATrain() {
        Story two = TWO.train(1, 0, 10, 1, 20);
        Edge.asked("12: the only SPAN of two STOPS", 0, two, x -> x.load(0, 0));
        Edge.noSuch("12: no second SPAN of two STOPS", two, x -> x.load(0, 1));
        Edge.noSuch("12: no SPAN of one STOP", TWO.train(1, 0, 10), x -> x.load(0, 0));
        Edge.noSuch("12: no SPAN of no STOP", TWO.train(1), x -> x.load(0, 0));
        Edge.noSuch("12: nor one ahead of it", TWO.train(1), x -> x.load(0, -1));
        Story ten = TWO.train(1, 0, 1, 1, 2, 0, 3, 1, 4, 0, 5, 1, 6, 0, 7, 1, 8, 0, 9, 1, 10);
        Edge.asked("12: the ninth SPAN of ten STOPS", 1, ten.boxes(1, 0, 9, 1).planned(), x -> x.load(0, 8));
        Edge.noSuch("12: no tenth", ten.boxes(1, 0, 9, 1).planned(), x -> x.load(0, 9));
    }

    private static void noSuchSpan() {
        Story train = SIX.train(1, 0, 10, 1, 20, 2, 30).boxes(1, 0, 0, 2).planned();
        for (int wrong : new int[] {-1, 2, 9, 10, Integer.MIN_VALUE, Integer.MAX_VALUE}) {
            Edge.noSuch("12: no such SPAN: " + wrong, train, x -> x.load(0, wrong));
        }
    }

    private static void noSuchTrain() {
        Story train = SIX.train(1, 0, 10, 1, 20, 2, 30).train(1, 0, 10, 1, 20);
        for (int wrong : new int[] {-1, 2, 16, Integer.MIN_VALUE, Integer.MAX_VALUE}) {
            Edge.noSuch("12: no such TRAIN: " + wrong, train, x -> x.load(wrong, 0));
        }
        Edge.asked("12: the last TRAIN", 0, train, x -> x.load(1, 0));
    }

    private static void loadIsOfTheSpansRidden() {
        Story line = SIX.train(3, 0, 10, 1, 20, 2, 30, 3, 40, 4, 50).train(3, 0, 10, 5, 20);
        Edge.due("12: no box is PLANNED yet", " 0 0 0 0", line.boxes(1, 1, 0, 3), x -> Nets.loads(x, 0));
        Edge.due("12: from where it gets on to where it gets off", " 0 1 1 0", line.boxes(1, 1, 0, 3).planned(),
                x -> Nets.loads(x, 0));
        Edge.due("12: boxes that overlap", " 1 2 2 1", line.boxes(1, 1, 0, 4).boxes(1, 0, 0, 3).planned(),
                x -> Nets.loads(x, 0));
        Edge.due("12: of that TRAIN alone", " 0", line.boxes(1, 1, 0, 3).planned(), x -> Nets.loads(x, 1));
    }

    private static void loadIsOfPlannedLegsAlone() {
        Story led = SIX.train(1, 0, 10, 1, 20).train(1, 1, 30, 2, 40).train(1, 2, 50, 3, 60).boxes(1, 0, 0, 3).planned();
        Edge.due("12: three LEGS", " 1 1 1", led, x -> Nets.loads(x, 0) + Nets.loads(x, 1) + Nets.loads(x, 2));
        Edge.due("12: the second and all behind given up", " 1 0 0", led.cancelled(1),
                x -> Nets.loads(x, 0) + Nets.loads(x, 1) + Nets.loads(x, 2));
        Edge.due("12: all are gone by, and were PLANNED", " 1 1 1", led.at(100),
                x -> Nets.loads(x, 0) + Nets.loads(x, 1) + Nets.loads(x, 2));
        Edge.due("12: an EMPTY box's way there stays LED", " 1 1 1", led.at(100).emptied(0, 100),
                x -> Nets.loads(x, 0) + Nets.loads(x, 1) + Nets.loads(x, 2));
    }
}
