/** Promise 8, sentence by sentence, on both sides of each boundary. */
public final class EdgeCancelTest {
    private static final Story TWO = Story.withStations(0, 0);
    private static final Story SIX = Story.withStations(0, 0, 0, 0, 0, 0);

    public static void main(String[] args) {
        noSuchTrain();
        alreadyCancelled();
        noStops();
        firstStopIsNotAfterNow();
        onlyTheFirstStopCounts();
        howManyHadALeg();
        oneWithTwoLegsOnItCountsOnce();
        thatLegAndAllBehindIt();
        roomIsFreeAtOnce();
        zeroFirst();
        fromWhereTheLegAheadEnds();
        fromWhereItBegins();
        notAheadOfNow();
        asManyLegsAsThreeLessThoseKept();
        standsAtThatStationFromThatMinute();
        notLedOnByAnotherCancelling();
        whatStandsLosesMore();
        ledAnewItIsLateOrNot();
        onItsWayBack();
        Check.end();
    }

    private static String state(LunchMarks x, int box) {
        return Nets.state(x, box) + " by " + Nets.legs(x, box);
    }

    private static void noSuchTrain() {
        Story two = TWO.train(1, 0, 10, 1, 20).train(1, 0, 10, 1, 20).boxes(1, 0, 0, 1).planned();
        for (int wrong : new int[] {-1, 2, 16, Integer.MIN_VALUE, Integer.MAX_VALUE}) {
            Edge.noSuch("8: no such TRAIN: " + wrong, two, x -> x.cancel(wrong));
        }
        Edge.due("8: the last TRAIN", 0, two, x -> x.cancel(1));
    }

    private static void alreadyCancelled() {
        Story train = TWO.train(1, 0, 10, 1, 20).boxes(1, 0, 0, 1).planned();
        Edge.due("8: it runs", 1, train, x -> x.cancel(0));
        Edge.none("8: NONE: it is already", train.cancelled(0), x -> x.cancel(0));
        Edge.none("8: NONE: it is already, and has got a STOP since",
                train.cancelled(0).then(x -> x.stop(0, 0, 30)), x -> x.cancel(0));
    }

    private static void noStops() {
        Edge.none("8: NONE: it has no STOPS", TWO.train(1), x -> x.cancel(0));
        Edge.due("8: one STOP is enough", 0, TWO.train(1, 0, 10), x -> x.cancel(0));
        Edge.due("8: NONE for want of STOPS, then it has some", 0,
                TWO.train(1).then(x -> x.cancel(0), x -> x.stop(0, 0, 10)), x -> x.cancel(0));
    }

    private static void firstStopIsNotAfterNow() {
        Story train = TWO.train(1, 0, 10, 1, 20).boxes(1, 0, 0, 1).planned();
        Edge.due("8: its first STOP is a MINUTE after NOW", 1, train.at(9), x -> x.cancel(0));
        Edge.none("8: its first STOP is NOW", train.at(10), x -> x.cancel(0));
        Edge.none("8: its first STOP was a MINUTE ago", train.at(11), x -> x.cancel(0));
        Edge.none("8: its last STOP was, too", train.at(21), x -> x.cancel(0));
        Edge.none("8: at 0, NOW 0", TWO.train(1, 0, 0, 1, 20), x -> x.cancel(0));
        Edge.due("8: at 1, NOW 0", 0, TWO.train(1, 0, 1, 1, 20), x -> x.cancel(0));
        Edge.due("8: at 1439, NOW 1438", 0, TWO.train(1, 0, 1439).at(1438), x -> x.cancel(0));
        Edge.none("8: at 1439, NOW 1439", TWO.train(1, 0, 1439).at(1439), x -> x.cancel(0));
    }

    private static void onlyTheFirstStopCounts() {
        Story train = SIX.train(1, 0, 10, 1, 20, 2, 30).boxes(1, 1, 0, 2).planned();
        Edge.none("8: the box gets on later, but the first STOP is NOW", train.at(10), x -> x.cancel(0));
        Edge.due("8: the first STOP is after NOW", 1, train.at(9), x -> x.cancel(0));
    }

    private static void howManyHadALeg() {
        Story train = SIX.train(9, 0, 10, 1, 20, 2, 30).train(9, 0, 5, 3, 15);
        Edge.due("8: no box", 0, train, x -> x.cancel(0));
        Edge.due("8: a box that isn't PLANNED", 0, train.boxes(1, 0, 0, 1), x -> x.cancel(0));
        Edge.due("8: a box without a WAY", 0, train.boxes(1, 0, 11, 1).planned(), x -> x.cancel(0));
        Edge.due("8: a box without LEGS", 0, train.boxes(1, 0, 0, 0).planned(), x -> x.cancel(0));
        Edge.due("8: a box on another TRAIN", 0, train.boxes(1, 0, 0, 3).planned(), x -> x.cancel(0));
        Edge.due("8: two on it, one not", 2, train.boxes(1, 0, 0, 1).boxes(1, 0, 0, 3).boxes(1, 1, 0, 2).planned(),
                x -> x.cancel(0));
        Edge.due("8: forty of sixty", 40, TWO.train(40, 0, 10, 1, 20).boxes(60, 0, 0, 1).planned(), x -> x.cancel(0));
        Edge.due("8: counted, though it is led anew", "1 30",
                TWO.train(1, 0, 10, 1, 20).train(1, 0, 10, 1, 30).boxes(1, 0, 0, 1).planned(),
                x -> x.cancel(0) + " " + x.of(0, 1));
    }

    /** Box 1 rides TRAIN 0, round its full SPAN by TRAIN 1, and TRAIN 0 again. */
    private static Story twiceOnOneTrain() {
        return SIX.train(1, 0, 10, 1, 20, 2, 30, 3, 40).boxes(1, 1, 0, 2).planned().train(1, 1, 20, 2, 30)
                .boxes(1, 0, 0, 3).planned();
    }

    private static void oneWithTwoLegsOnItCountsOnce() {
        Edge.due("8: two LEGS on it", "0:0-1 1:0-1 0:2-3", twiceOnOneTrain(), x -> Nets.legs(x, 1));
        Edge.due("8: two boxes, of three LEGS", 2, twiceOnOneTrain(), x -> x.cancel(0));
        Edge.due("8: it gives up from the first of them on", "0 -1 1 0 0 0 0 by ", twiceOnOneTrain().cancelled(0),
                x -> state(x, 1));
    }

    private static Story threeLegs() {
        return SIX.train(1, 0, 10, 1, 20).train(1, 1, 30, 2, 40).train(1, 2, 50, 3, 60).boxes(1, 0, 0, 3).planned();
    }

    private static void thatLegAndAllBehindIt() {
        Edge.due("8: the last LEG", "2 -1 1 0 2 40 0 by 0:0-1 1:0-1", threeLegs().cancelled(2), x -> state(x, 0));
        Edge.due("8: the one in the middle, and the last", "1 -1 1 0 1 20 0 by 0:0-1", threeLegs().cancelled(1),
                x -> state(x, 0));
        Edge.due("8: all", "0 -1 1 0 0 0 0 by ", threeLegs().cancelled(0), x -> state(x, 0));
        Edge.due("8: ROOM behind the last", " 1 1 0", threeLegs().cancelled(2),
                x -> Nets.loads(x, 0) + Nets.loads(x, 1) + Nets.loads(x, 2));
        Edge.due("8: ROOM behind the middle", " 1 0 0", threeLegs().cancelled(1),
                x -> Nets.loads(x, 0) + Nets.loads(x, 1) + Nets.loads(x, 2));
        Edge.due("8: ROOM behind the first", " 0 0 0", threeLegs().cancelled(0),
                x -> Nets.loads(x, 0) + Nets.loads(x, 1) + Nets.loads(x, 2));
        Edge.due("8: another box can have it", "1 60", threeLegs().cancelled(0).boxes(1, 2, 50, 3),
                x -> x.plan() + " " + x.of(1, 1));
    }

    private static void roomIsFreeAtOnce() {
        Story waits = SIX.train(2, 0, 10, 1, 20).train(1, 1, 40, 2, 50).boxes(1, 0, 0, 2).planned()
                .train(1, 1, 30, 2, 45).boxes(1, 0, 0, 2).planned().train(2, 0, 10, 1, 25);
        Edge.due("8: box 1 has the better TRAIN", "50 45", waits, x -> x.of(0, 1) + " " + x.of(1, 1));
        Edge.due("8: given up by all, box 0 gets it, and box 1 the other", "45 50", waits.cancelled(0),
                x -> x.of(0, 1) + " " + x.of(1, 1));
    }

    private static void zeroFirst() {
        Story two = TWO.train(2, 0, 10, 1, 20).train(1, 0, 10, 1, 30).boxes(2, 0, 0, 1).planned().cancelled(0);
        Edge.due("8: 0 first", "30 -1", two, x -> x.of(0, 1) + " " + x.of(1, 1));
        Story three = TWO.train(2, 0, 10, 1, 20).boxes(1, 0, 11, 1).boxes(2, 0, 0, 1).planned().train(9, 0, 11, 1, 30);
        Edge.due("8: these boxes alone, not one that has no WAY", "2 -1 30 30", three,
                x -> x.cancel(0) + " " + x.of(0, 1) + " " + x.of(1, 1) + " " + x.of(2, 1));
    }

    private static Story secondLegLost(int sorting, int minute) {
        return Story.withStations(0, sorting, 0).train(1, 0, 10, 1, 20).train(1, 1, 80, 2, 85).train(1, 1, minute, 2, 90)
                .boxes(1, 0, 0, 2).planned().cancelled(1);
    }

    private static void fromWhereTheLegAheadEnds() {
        Edge.due("8: SORTED just in time", "2 90 1 0 -1 -1 0 by 0:0-1 2:0-1", secondLegLost(5, 25), x -> state(x, 0));
        Edge.due("8: a MINUTE too late", "1 -1 1 0 1 25 0 by 0:0-1", secondLegLost(5, 24), x -> state(x, 0));
        Edge.due("8: SORTED in no time", "2 90 1 0 -1 -1 0 by 0:0-1 2:0-1", secondLegLost(0, 20), x -> state(x, 0));
        Story longer = Story.withStations(0, 5, 0, 7).train(1, 0, 10, 2, 15, 1, 20).train(1, 1, 30, 3, 40)
                .boxes(1, 0, 0, 3).planned().cancelled(1);
        Edge.due("8: where the LEG ahead ends is its own last STOP", "1 -1 1 0 1 25 0 by 0:0-2", longer, x -> state(x, 0));
        Edge.due("8: off a MINUTE too late", "1 -1 1 0 1 20 0 by 0:0-1", secondLegLost(0, 19), x -> state(x, 0));
    }

    private static Story firstLegLost(int minute) {
        return Story.withStations(5, 0).train(1, 0, 80, 1, 85).train(1, 0, minute, 1, 90).box(0, 10, 30, 1, 1, 999)
                .planned();
    }

    private static void fromWhereItBegins() {
        Edge.due("8: READY, WALK, SORTED just in time", "1 91 0 0 -1 -1 0 by 1:0-1", firstLegLost(45).cancelled(0),
                x -> state(x, 0));
        Edge.due("8: a MINUTE too late", "0 -1 0 0 0 45 0 by ", firstLegLost(44).cancelled(0), x -> state(x, 0));
        Edge.due("8: NOW is ahead of that", "1 91 1 0 -1 -1 0 by 1:0-1", firstLegLost(45).at(44).cancelled(0),
                x -> state(x, 0));
        Edge.due("8: it STANDS from when it is SORTED, though NOW is ahead", "0 -1 1 0 0 45 0 by ",
                firstLegLost(44).at(40).cancelled(0), x -> state(x, 0));
    }

    private static void notAheadOfNow() {
        Edge.due("8: a TRAIN that leaves NOW", "1 91 1 0 -1 -1 0 by 1:0-1", firstLegLost(60).at(60).cancelled(0),
                x -> state(x, 0));
        Edge.due("8: a TRAIN that left a MINUTE ago", "0 -1 1 0 0 61 0 by ", firstLegLost(60).at(61).cancelled(0),
                x -> state(x, 0));
        Edge.due("8: behind a LEG, a TRAIN that leaves NOW", "2 90 1 0 -1 -1 0 by 0:0-1 2:0-1",
                lateLoss(50).at(50).cancelled(1), x -> state(x, 0));
        Edge.due("8: behind a LEG, a TRAIN that left a MINUTE ago", "1 -1 1 0 1 51 0 by 0:0-1",
                lateLoss(50).at(51).cancelled(1), x -> state(x, 0));
    }

    private static Story lateLoss(int minute) {
        return Story.withStations(0, 5, 0).train(1, 0, 10, 1, 20).train(1, 1, 80, 2, 85).train(1, 1, minute, 2, 90)
                .boxes(1, 0, 0, 2).planned();
    }

    /** A box from 0 to 5 keeps as many LEGS as told and loses the next; from there more TRAINS go, one by one. */
    private static Story anew(int kept, int more) {
        Story story = SIX;
        for (int i = 0; i < kept; i++) {
            story = story.train(1, i, 10 * i + 10, i + 1, 10 * i + 20);
        }
        story = story.train(1, kept, 10 * kept + 10, 5, 50);
        int at = kept;
        for (int i = 0; i < more; i++) {
            int next = i == more - 1 ? 5 : i + kept + 1;
            story = story.train(1, at, 100 + 10 * i, next, 110 + 10 * i);
            at = next;
        }
        return story.boxes(1, 0, 0, 5).planned().cancelled(kept);
    }

    private static void asManyLegsAsThreeLessThoseKept() {
        for (int kept = 0; kept < 3; kept++) {
            int legs = kept;
            Edge.due("8: it keeps " + kept + ", and gets as many as 3 less those", "3 -1", anew(kept, 3 - kept),
                    x -> x.of(0, 0) + " " + x.of(0, 4));
            Edge.due("8: it keeps " + kept + ", one more is too many", legs + " " + legs, anew(kept, 4 - kept),
                    x -> x.of(0, 0) + " " + x.of(0, 4));
        }
        Edge.due("8: it keeps 1, and gets one", "2 -1", anew(1, 1), x -> x.of(0, 0) + " " + x.of(0, 4));
    }

    private static void standsAtThatStationFromThatMinute() {
        Edge.due("8: at its HOME's STATION, since it is SORTED there", "0 45", firstLegLost(44).cancelled(0),
                x -> x.of(0, 4) + " " + x.of(0, 5));
        Edge.due("8: where the LEG ahead ends, since it is SORTED there", "1 25", secondLegLost(5, 24),
                x -> x.of(0, 4) + " " + x.of(0, 5));
        Edge.due("8: since NOW, if that is later", "1 70", lateLoss(50).at(70).cancelled(1),
                x -> x.of(0, 4) + " " + x.of(0, 5));
        Edge.due("8: since when it is SORTED, if that is NOW", "1 25", lateLoss(24).at(25).cancelled(1),
                x -> x.of(0, 4) + " " + x.of(0, 5));
        Edge.due("8: later MINUTES don't change it", "1 25", secondLegLost(5, 24).at(900),
                x -> x.of(0, 4) + " " + x.of(0, 5));
    }

    private static void notLedOnByAnotherCancelling() {
        Story stands = TWO.train(1, 0, 10, 1, 20).boxes(1, 0, 0, 1).planned().cancelled(0).train(9, 0, 30, 1, 40)
                .train(9, 0, 31, 1, 41);
        Edge.due("8: another TRAIN is CANCELLED: it STANDS still", "0 0 0", stands,
                x -> x.cancel(2) + " " + x.of(0, 4) + " " + x.of(0, 5));
        Edge.due("8: the next PLANNING leads it on", "1 40", stands.cancelled(2), x -> x.plan() + " " + x.of(0, 1));
    }

    private static void whatStandsLosesMore() {
        Story stands = threeLegs().cancelled(2);
        Edge.due("8: it STANDS behind two LEGS", "2 40", stands, x -> x.of(0, 4) + " " + x.of(0, 5));
        Edge.due("8: the second is lost, too", 1, stands, x -> x.cancel(1));
        Edge.due("8: it STANDS behind one", "1 -1 1 0 1 20 0 by 0:0-1", stands.cancelled(1), x -> state(x, 0));
        Edge.due("8: and the first", "0 -1 1 0 0 0 0 by ", stands.cancelled(1).cancelled(0), x -> state(x, 0));
        Edge.due("8: one that STANDS without LEGS has none to lose", 0, stands.cancelled(0), x -> x.cancel(1));
        Edge.due("8: one that STANDS may be led anew, if more is lost", "1 99 1 0 -1 -1 0 by 3:0-1",
                stands.train(1, 0, 50, 3, 99).cancelled(0), x -> state(x, 0));
    }

    private static Story dueAt(int due) {
        return TWO.train(1, 0, 10, 1, 20).train(1, 0, 10, 1, 30).box(0, 0, 0, 1, 5, due).planned();
    }

    private static void ledAnewItIsLateOrNot() {
        Edge.due("8: in time by the first", "25 0", dueAt(34), x -> x.of(0, 1) + " " + x.of(0, 3));
        Edge.due("8: LATE by the second", "35 1", dueAt(34).cancelled(0), x -> x.of(0, 1) + " " + x.of(0, 3));
        Edge.due("8: in time by both", "35 0", dueAt(35).cancelled(0), x -> x.of(0, 1) + " " + x.of(0, 3));
        Edge.due("8: without a WAY it isn't LATE", "-1 0", dueAt(34).cancelled(0).cancelled(1),
                x -> x.of(0, 1) + " " + x.of(0, 3));
    }

    private static void onItsWayBack() {
        Story back = Story.withStations(1, 2).train(1, 0, 10, 1, 20).train(1, 1, 50, 0, 60).train(1, 1, 36, 0, 70)
                .box(0, 3, 0, 1, 4, 999).planned().at(26).emptied(0, 30).planned();
        Edge.due("8: back by TRAIN 1", "1 64 0 0 -1 -1 1 by 0:0-1 1:0-1", back, x -> state(x, 0));
        Edge.due("8: led anew from its DESK", "1 74 0 0 -1 -1 1 by 0:0-1 2:0-1", back.cancelled(1), x -> state(x, 0));
        Edge.due("8: STANDS at its DESK's STATION", "0 -1 0 0 1 36 1 by 0:0-1", back.cancelled(2).cancelled(1),
                x -> state(x, 0));
        Edge.none("8: the TRAIN that it came by began ahead of NOW", back, x -> x.cancel(0));
    }
}
