/** What the terms say of a LEG, a WAY and THE WAY (promise 6), on both sides of each boundary. */
public final class EdgeWayTest {
    private static final Story TWO = Story.withStations(0, 0);
    private static final Story SIX = Story.withStations(0, 0, 0, 0, 0, 0);

    public static void main(String[] args) {
        onlyAStopThatIsNotLess();
        sortedWhereItChanges();
        sortedAtTheLastStationToo();
        offAtALaterStop();
        notByACancelledTrain();
        atMostThreeLegs();
        withNoneIfBothStationsAreOne();
        allSpansHaveLessThanTheRoom();
        onlyItsOwnSpansCount();
        theEarliest();
        ofLikeOnesTheFewestLegs();
        thenTheFirstLegsTrain();
        thenTheFirstLegsStopToGetOn();
        thenTheFirstLegsStopToGetOff();
        thenTheSecondLegsNumbers();
        thenTheThirdLegsNumbers();
        oneLegIsAheadOfTheNext();
        numbersAreComparedAsNumbers();
        trainsOfTenStopsThatAreOfNoUse();
        whatAnEarlierSearchFoundIsForgotten();
        aFullTrainIsNoConnection();
        Check.end();
    }

    private static Object led(LunchMarks x, int box) {
        return x.of(box, 1) == LunchMarks.NONE ? "none" : x.of(box, 1) + " by " + Nets.legs(x, box);
    }

    private static void led(String sentence, String want, Story story) {
        Edge.due(sentence, want, story.planned(), x -> led(x, 0));
    }

    private static Story toTrainAt(int sorting, int walk, int ready, int minute) {
        return Story.withStations(sorting, 0).train(1, 0, minute, 1, 200).box(0, walk, ready, 1, 0, 999);
    }

    private static void onlyAStopThatIsNotLess() {
        led("6: READY, WALK, SORTED, and the MINUTE isn't less", "200 by 0:0-1", toTrainAt(7, 13, 80, 100));
        led("6: READY a MINUTE later", "none", toTrainAt(7, 13, 81, 100));
        led("6: WALK a MINUTE more", "none", toTrainAt(7, 14, 80, 100));
        led("6: SORTED a MINUTE more", "none", toTrainAt(8, 13, 80, 100));
        led("6: the STOP a MINUTE ahead", "none", toTrainAt(7, 13, 80, 99));
        led("6: it may wait", "200 by 0:0-1", toTrainAt(7, 13, 80, 199));
        led("6: at MINUTE 0", "200 by 0:0-1", toTrainAt(0, 0, 0, 0));
        led("6: at the last MINUTES", "1439 by 0:0-1", TWO.train(1, 0, 1438, 1, 1439).boxes(1, 0, 1438, 1));
    }

    private static Story changing(int sorting, int minute) {
        return Story.withStations(0, sorting, 0).train(1, 0, 10, 1, 20).train(1, 1, minute, 2, 90).boxes(1, 0, 0, 2);
    }

    private static void sortedWhereItChanges() {
        led("6: SORTED where it gets off, in time", "90 by 0:0-1 1:0-1", changing(5, 25));
        led("6: a MINUTE too late", "none", changing(5, 24));
        led("6: SORTED in no time", "90 by 0:0-1 1:0-1", changing(0, 20));
        led("6: the next TRAIN left a MINUTE ahead", "none", changing(0, 19));
        led("6: SORTED for sixty", "90 by 0:0-1 1:0-1", changing(60, 80));
        led("6: sixty, a MINUTE too late", "none", changing(60, 79));
        Edge.due("6: on again to the TRAIN that it left, SORTED just in time", "50 by 0:0-1 1:0-1 0:2-3",
                roundAFullSpan(35), x -> led(x, 1));
        Edge.due("6: on again, a MINUTE too late", "none", roundAFullSpan(36), x -> led(x, 1));
    }

    /** Box 0 has the only ROOM from STATION 1 to 2 in TRAIN 0; box 1 can go round it by TRAIN 1. */
    private static Story roundAFullSpan(int minute) {
        return Story.withStations(0, 5, 5, 0).train(1, 0, 10, 1, 20, 2, 40, 3, 50).boxes(1, 1, 0, 2).planned()
                .train(1, 1, 25, 2, minute).boxes(1, 0, 0, 3).planned();
    }

    private static void sortedAtTheLastStationToo() {
        led("6: SORTED at the last STATION", "40 by 0:0-1",
                Story.withStations(0, 20).train(1, 0, 10, 1, 20).boxes(1, 0, 0, 1));
        Edge.due("6: then on foot, just in time", "43 0",
                Story.withStations(0, 20).train(1, 0, 10, 1, 20).box(0, 0, 0, 1, 3, 43).planned(),
                x -> x.of(0, 1) + " " + x.of(0, 3));
        Edge.due("6: then on foot, a MINUTE late", "43 1",
                Story.withStations(0, 20).train(1, 0, 10, 1, 20).box(0, 0, 0, 1, 3, 42).planned(),
                x -> x.of(0, 1) + " " + x.of(0, 3));
    }

    private static void offAtALaterStop() {
        led("6: off at a later STOP", "20 by 0:0-1", TWO.train(1, 0, 10, 1, 20).boxes(1, 0, 0, 1));
        led("6: not at one ahead", "none", TWO.train(1, 1, 10, 0, 20).boxes(1, 0, 0, 1));
        led("6: one STOP alone is no LEG", "none", TWO.train(1, 0, 10).boxes(1, 0, 0, 1));
        led("6: the first of later ones, by its time", "20 by 0:0-1",
                TWO.train(1, 0, 10, 1, 20, 0, 30, 1, 40).boxes(1, 0, 0, 1));
    }

    private static void notByACancelledTrain() {
        Story two = TWO.train(1, 0, 10, 1, 20).train(1, 0, 10, 1, 30).boxes(1, 0, 0, 1);
        led("6: the earlier TRAIN", "20 by 0:0-1", two);
        led("6: it isn't CANCELLED", "30 by 1:0-1", two.cancelled(0));
        led("6: none is left", "none", two.cancelled(0).cancelled(1));
    }

    private static Story chain(int legs) {
        Story story = SIX;
        for (int i = 0; i < legs; i++) {
            story = story.train(1, i, 10 * i, i + 1, 10 * i + 10);
        }
        return story.boxes(1, 0, 0, legs);
    }

    private static void atMostThreeLegs() {
        led("6: one LEG", "10 by 0:0-1", chain(1));
        led("6: three LEGS", "30 by 0:0-1 1:0-1 2:0-1", chain(3));
        led("6: not four", "none", chain(4));
        Edge.due("6: with none it has no LEGS", "0 -1 0 0 -1 -1 0", chain(4).planned(), x -> Nets.state(x, 0));
        led("6: a later one of three, where four would be earlier", "99 by 4:0-1", chain(4).train(1, 0, 10, 4, 99));
    }

    private static void withNoneIfBothStationsAreOne() {
        led("6: no LEGS, and no TRAIN is needed", "66 by ", Story.withStations(9).box(0, 3, 50, 0, 4, 99));
        led("6: nor one taken that goes round", "66 by ",
                Story.withStations(9, 0).train(1, 0, 62, 1, 63, 0, 64).box(0, 3, 50, 0, 4, 99));
        led("6: with two STATIONS none but by LEGS", "none", Story.withStations(9, 9).box(0, 3, 50, 1, 4, 99));
        Edge.due("6: it counts as a WAY", 1, Story.withStations(9).box(0, 3, 50, 0, 4, 99), x -> x.plan());
    }

    private static Story line(int room) {
        return Story.withStations(0, 0, 0, 0).train(room, 0, 10, 1, 20, 2, 30, 3, 40);
    }

    private static void allSpansHaveLessThanTheRoom() {
        for (int span = 0; span < 3; span++) {
            Story oneOfTwo = line(2).boxes(1, span, 0, span + 1).boxes(1, 0, 0, 3).planned();
            Edge.due("6: SPAN " + span + " has less than the ROOM", "40 by 0:0-3", oneOfTwo, x -> led(x, 1));
            Story twoOfTwo = line(2).boxes(2, span, 0, span + 1).boxes(1, 0, 0, 3).planned();
            Edge.due("6: SPAN " + span + " has the ROOM's number", "none", twoOfTwo, x -> led(x, 2));
        }
        Story most = line(40).boxes(39, 1, 0, 2).boxes(2, 0, 0, 3).planned();
        Edge.due("6: ROOM 40 has place for a fortieth", "40 by 0:0-3", most, x -> led(x, 39));
        Edge.due("6: but not for a 41st", "none", most, x -> led(x, 40));
    }

    private static void onlyItsOwnSpansCount() {
        Edge.due("6: a full SPAN ahead of where it gets on", "30 by 0:1-2",
                line(1).boxes(1, 0, 0, 1).boxes(1, 1, 0, 2).planned(), x -> led(x, 1));
        Edge.due("6: a full SPAN behind where it gets off", "30 by 0:1-2",
                line(1).boxes(1, 2, 0, 3).boxes(1, 1, 0, 2).planned(), x -> led(x, 1));
        Edge.due("6: full on both sides", "30 by 0:1-2",
                line(1).boxes(1, 0, 0, 1).boxes(1, 2, 0, 3).boxes(1, 1, 0, 2).planned(), x -> led(x, 2));
    }

    private static Story threeLegsAgainstOne(int minute) {
        return SIX.train(1, 0, 10, 3, minute).train(1, 0, 10, 1, 20).train(1, 1, 20, 2, 40).train(1, 2, 50, 3, 60)
                .boxes(1, 0, 0, 3);
    }

    private static void theEarliest() {
        led("6: three LEGS, a MINUTE earlier than one", "60 by 1:0-1 2:0-1 3:0-1", threeLegsAgainstOne(61));
        led("6: one LEG, a MINUTE earlier", "59 by 0:0-1", threeLegsAgainstOne(59));
        led("6: the earlier of two TRAINS, the second", "20 by 1:0-1",
                TWO.train(1, 0, 10, 1, 21).train(1, 0, 10, 1, 20).boxes(1, 0, 0, 1));
        led("6: the earlier of two TRAINS, the first", "20 by 0:0-1",
                TWO.train(1, 0, 10, 1, 20).train(1, 0, 10, 1, 21).boxes(1, 0, 0, 1));
        led("6: there, not where it changes: the first row of like ends", "40 by 0:0-1 2:0-1",
                SIX.train(1, 0, 10, 1, 28).train(1, 0, 10, 1, 20).train(1, 1, 30, 3, 40).boxes(1, 0, 0, 3));
        led("6: a change counts from where it gets off, not from a STOP ahead", "40 by 0:0-2 1:2-3",
                SIX.train(1, 0, 10, 3, 20, 1, 30).train(1, 1, 25, 4, 27, 1, 35, 2, 40).boxes(1, 0, 0, 2));
        led("6: nor is it in time by a STOP ahead", "40 by 1:0-1 2:0-1",
                SIX.train(1, 0, 10, 3, 20, 1, 50).train(1, 0, 10, 1, 20).train(1, 1, 30, 2, 40).boxes(1, 0, 0, 2));
        led("6: a change that is a MINUTE too late is none", "40 by 1:0-1 2:0-1",
                SIX.train(1, 0, 10, 1, 31).train(1, 0, 10, 1, 20).train(1, 1, 30, 3, 40).boxes(1, 0, 0, 3));
    }

    private static void ofLikeOnesTheFewestLegs() {
        led("6: one LEG, not three, if they are there alike", "60 by 0:0-1", threeLegsAgainstOne(60));
        led("6: one LEG of a greater number, not two", "60 by 2:0-1",
                SIX.train(1, 0, 10, 1, 20).train(1, 1, 30, 2, 60).train(1, 0, 5, 2, 60).boxes(1, 0, 0, 2));
        led("6: two LEGS of greater numbers, not three", "60 by 3:0-1 4:0-1",
                SIX.train(1, 0, 10, 1, 20).train(1, 1, 30, 2, 40).train(1, 2, 50, 5, 60).train(1, 0, 10, 3, 20)
                        .train(1, 3, 30, 5, 60).boxes(1, 0, 0, 5));
        led("6: not off and on again at one STOP", "30 by 0:0-2",
                Story.withStations(0, 0, 0).train(1, 0, 10, 1, 20, 2, 30).boxes(1, 0, 0, 2));
    }

    private static void thenTheFirstLegsTrain() {
        Story two = TWO.train(1, 0, 15, 1, 20).train(1, 0, 5, 1, 20).boxes(2, 0, 0, 1).planned();
        Edge.due("6: the first TRAIN", "20 by 0:0-1", two, x -> led(x, 0));
        Edge.due("6: the second, if that is full", "20 by 1:0-1", two, x -> led(x, 1));
        led("6: the first TRAIN, though it is gone on later", "40 by 0:0-1 2:0-1",
                SIX.train(1, 0, 15, 1, 25).train(1, 0, 10, 1, 20).train(1, 1, 30, 2, 40).boxes(1, 0, 0, 2));
    }

    private static void thenTheFirstLegsStopToGetOn() {
        Story round = SIX.train(2, 0, 10, 2, 12, 0, 14, 1, 20);
        led("6: the first STOP to get on", "20 by 0:0-3", round.boxes(1, 0, 10, 1));
        led("6: the later one, a MINUTE later", "20 by 0:2-3", round.boxes(1, 0, 11, 1));
        Edge.due("6: the later one, if a SPAN ahead is full", "20 by 0:2-3",
                round.boxes(2, 0, 10, 2).boxes(1, 0, 10, 1).planned(), x -> led(x, 2));
        led("6: a lower TRAIN is ahead of a lower STOP", "20 by 0:2-3",
                SIX.train(1, 3, 5, 2, 12, 0, 14, 1, 20).train(1, 0, 10, 1, 20).boxes(1, 0, 0, 1));
    }

    private static void thenTheFirstLegsStopToGetOff() {
        Story passing = SIX.train(1, 0, 10, 1, 20, 2, 22, 1, 24);
        led("6: the first STOP to get off", "40 by 0:0-1 1:0-1", passing.train(1, 1, 30, 3, 40).boxes(1, 0, 0, 3));
        led("6: the later one from behind the first", "40 by 0:2-3 1:0-1",
                passing.train(1, 1, 30, 3, 40).boxes(1, 2, 0, 3));
        led("6: the lower STOP, though the next TRAIN's number is greater", "40 by 0:0-1 2:0-1",
                SIX.train(1, 0, 10, 1, 20, 2, 22).train(1, 2, 30, 3, 40).train(1, 1, 30, 3, 40).boxes(1, 0, 0, 3));
    }

    private static void thenTheSecondLegsNumbers() {
        Story two = SIX.train(1, 1, 30, 3, 40).train(1, 1, 30, 3, 40).train(2, 0, 10, 1, 20).boxes(2, 0, 0, 3).planned();
        Edge.due("6: the second LEG's first TRAIN", "40 by 2:0-1 0:0-1", two, x -> led(x, 0));
        Edge.due("6: the next, if that is full", "40 by 2:0-1 1:0-1", two, x -> led(x, 1));
        led("6: the second LEG's first STOP to get on", "40 by 0:0-1 1:0-3",
                SIX.train(1, 0, 10, 1, 30).train(1, 1, 30, 2, 32, 1, 34, 3, 40).boxes(1, 0, 0, 3));
        led("6: the later one, a MINUTE later", "40 by 0:0-1 1:2-3",
                SIX.train(1, 0, 10, 1, 31).train(1, 1, 30, 2, 32, 1, 34, 3, 40).boxes(1, 0, 0, 3));
        led("6: the second LEG's first STOP to get off", "60 by 0:0-1 1:0-1 2:0-1",
                SIX.train(1, 0, 10, 1, 20).train(1, 1, 30, 2, 40, 4, 42, 2, 44).train(1, 2, 50, 3, 60).boxes(1, 0, 0, 3));
    }

    private static void thenTheThirdLegsNumbers() {
        Story start = SIX.train(2, 0, 10, 1, 20).train(2, 1, 30, 2, 40);
        Story two = start.train(1, 2, 50, 3, 60).train(1, 2, 50, 3, 60).boxes(2, 0, 0, 3).planned();
        Edge.due("6: the third LEG's first TRAIN", "60 by 0:0-1 1:0-1 2:0-1", two, x -> led(x, 0));
        Edge.due("6: the next, if that is full", "60 by 0:0-1 1:0-1 3:0-1", two, x -> led(x, 1));
        led("6: the third LEG's first STOP to get on", "60 by 0:0-1 1:0-1 2:0-3",
                start.train(1, 2, 40, 4, 52, 2, 54, 3, 60).boxes(1, 0, 0, 3));
        led("6: the later one, a MINUTE later", "60 by 0:0-1 1:0-1 2:2-3",
                start.train(1, 2, 39, 4, 52, 2, 54, 3, 60).boxes(1, 0, 0, 3));
    }

    private static void oneLegIsAheadOfTheNext() {
        led("6: the first LEG is ahead of the second", "100 by 1:0-1 3:0-1",
                SIX.train(1, 2, 50, 3, 100).train(1, 0, 20, 1, 30).train(1, 0, 10, 2, 40).train(1, 1, 50, 3, 100)
                        .boxes(1, 0, 0, 3));
        led("6: the second LEG is ahead of the third", "60 by 4:0-1 1:0-1 3:0-1",
                SIX.train(1, 3, 50, 5, 60).train(1, 1, 30, 2, 40).train(1, 1, 30, 3, 40).train(1, 2, 50, 5, 60)
                        .train(1, 0, 10, 1, 20).boxes(1, 0, 0, 5));
    }

    private static void numbersAreComparedAsNumbers() {
        Story story = TWO;
        for (int i = 0; i < 11; i++) {
            story = i == 2 || i == 10 ? story.train(1, 0, 10, 1, 20) : story.train(1);
        }
        Edge.due("6: TRAIN 2 is ahead of TRAIN 10", "20 by 2:0-1", story.boxes(2, 0, 0, 1).planned(), x -> led(x, 0));
        Edge.due("6: then TRAIN 10", "20 by 10:0-1", story.boxes(2, 0, 0, 1).planned(), x -> led(x, 1));
    }

    private static void trainsOfTenStopsThatAreOfNoUse() {
        Story ten = SIX.train(1, 4, 1, 5, 2, 4, 3, 5, 4, 4, 5, 5, 6, 4, 7, 5, 8, 4, 9, 5, 10);
        led("6: one LEG, past a TRAIN of ten STOPS", "40 by 1:0-1", ten.train(1, 0, 30, 1, 40).boxes(1, 0, 0, 1));
        led("6: two LEGS, past a TRAIN of ten STOPS", "60 by 1:0-1 2:0-1",
                ten.train(1, 0, 30, 1, 40).train(1, 1, 50, 2, 60).boxes(1, 0, 0, 2));
        led("6: from where the ten STOPS end there is no LEG", "60 by 1:0-1",
                ten.train(1, 5, 50, 1, 60).boxes(1, 5, 10, 1));
    }

    private static void whatAnEarlierSearchFoundIsForgotten() {
        Story two = SIX.train(9, 0, 10, 1, 50).train(9, 0, 10, 1, 20).train(9, 1, 30, 2, 40).train(9, 1, 60, 2, 70)
                .train(9, 0, 11, 1, 55).boxes(1, 0, 11, 2).boxes(1, 0, 0, 2).planned();
        Edge.due("6: box 0 is there later, by a later TRAIN", "70 by 4:0-1 3:0-1", two, x -> led(x, 0));
        Edge.due("6: box 1 has to be in time for the earlier one", "40 by 1:0-1 2:0-1", two, x -> led(x, 1));
    }

    private static void aFullTrainIsNoConnection() {
        Story full = SIX.train(9, 0, 10, 1, 50).train(9, 0, 10, 1, 20).train(9, 1, 30, 2, 70).train(1, 1, 60, 2, 65)
                .boxes(1, 1, 55, 2).boxes(1, 0, 0, 2).planned();
        Edge.due("6: box 0 takes the last ROOM", "65 by 3:0-1", full, x -> led(x, 0));
        Edge.due("6: box 1 has to be in time for the TRAIN that has ROOM", "70 by 1:0-1 2:0-1", full, x -> led(x, 1));
    }
}
