/** Promises 10, 11, 14 and 17, sentence by sentence, on both sides of each boundary. */
public final class EdgeAskTest {
    private static final Story TWO = Story.withStations(0, 0);
    private static final Story SIX = Story.withStations(0, 0, 0, 0, 0, 0);

    public static void main(String[] args) {
        noSuchBox();
        anotherWhat();
        howManyLegs();
        whenItArrives();
        whetherItIsGone();
        whetherItIsLate();
        whereItStands();
        whetherItIsEmpty();
        legsFromTheFirstToTheLast();
        legsThereAndBack();
        noSuchLeg();
        likeLegsHaveOneMark();
        otherLegsHaveOthers();
        noLegsHaveOneToo();
        withoutAWayToTheEndNoMark();
        marksAreNumberedInOrderOfTheBoxes();
        marksAreOfTheWayThere();
        countsOfWhatWasMade();
        countsOfWays();
        countsOfLateOnes();
        countsOfMarks();
        Check.end();
    }

    private static void noSuchBox() {
        Story two = TWO.train(2, 0, 10, 1, 20).boxes(2, 0, 0, 1).planned();
        for (int wrong : new int[] {-1, 2, 60, Integer.MIN_VALUE, Integer.MAX_VALUE}) {
            Edge.noSuch("10: no such box: " + wrong, two, x -> x.of(wrong, 0));
            Edge.noSuch("10: no such box, another what: " + wrong, two, x -> x.of(wrong, 7));
            Edge.noSuch("11: no such box: " + wrong, two, x -> x.leg(wrong, 0, 0));
            Edge.noSuch("14: no such box: " + wrong, two, x -> x.mark(wrong));
        }
        Edge.asked("10: the last box", 1, two, x -> x.of(1, 0));
        Edge.asked("11: the last box", 1, two, x -> x.leg(1, 0, 2));
        Edge.asked("14: the last box", 0, two, x -> x.mark(1));
    }

    private static void anotherWhat() {
        Story one = TWO.train(1, 0, 10, 1, 20).boxes(1, 0, 0, 1).planned();
        for (int wrong : new int[] {-1, 7, Integer.MIN_VALUE, Integer.MAX_VALUE}) {
            Edge.noSuch("10: another what: " + wrong, one, x -> x.of(0, wrong));
        }
        for (int wrong : new int[] {-1, 3, Integer.MIN_VALUE, Integer.MAX_VALUE}) {
            Edge.noSuch("11: another what: " + wrong, one, x -> x.leg(0, 0, wrong));
        }
        for (int wrong : new int[] {-1, 8, Integer.MIN_VALUE, Integer.MAX_VALUE}) {
            Edge.noSuch("17: another what: " + wrong, one, x -> x.count(wrong));
        }
        for (int what = 0; what <= 6; what++) {
            int asked = what;
            Edge.asked("10: what " + what, new int[] {1, 20, 1, 0, -1, -1, 0}[what], one, x -> x.of(0, asked));
        }
        for (int what = 0; what <= 2; what++) {
            int asked = what;
            Edge.asked("11: what " + what, new int[] {0, 0, 1}[what], one, x -> x.leg(0, 0, asked));
        }
        for (int what = 0; what <= 7; what++) {
            int asked = what;
            Edge.asked("17: what " + what, new int[] {2, 1, 1, 0, 1, 0, 1, 0}[what], one, x -> x.count(asked));
        }
    }

    private static Story chain() {
        return SIX.train(1, 0, 10, 1, 20).train(1, 1, 30, 2, 40).train(1, 2, 50, 3, 60).boxes(1, 0, 5, 3);
    }

    private static void howManyLegs() {
        Edge.due("10: no LEGS yet", 0, chain(), x -> x.of(0, 0));
        Edge.due("10: three LEGS", 3, chain().planned(), x -> x.of(0, 0));
        Edge.due("10: two that it keeps", 2, chain().planned().cancelled(2), x -> x.of(0, 0));
        Edge.due("10: three, ridden, too", 3, chain().planned().at(100), x -> x.of(0, 0));
        Edge.due("10: none on its way back", 0, chain().planned().at(60).emptied(0, 60), x -> x.of(0, 0));
    }

    private static void whenItArrives() {
        Edge.due("10: NONE: not PLANNED", -1, chain(), x -> x.of(0, 1));
        Edge.due("10: told ahead", 60, chain().planned(), x -> x.of(0, 1));
        Edge.due("10: told behind", 60, chain().planned().at(100), x -> x.of(0, 1));
        Edge.due("10: NONE: no WAY to the end", -1, chain().planned().cancelled(2), x -> x.of(0, 1));
        Edge.due("10: NONE: EMPTY, no WAY back", -1, chain().planned().at(60).emptied(0, 60), x -> x.of(0, 1));
        Edge.due("10: MINUTE 0", 0, TWO.boxes(1, 0, 0, 0).planned(), x -> x.of(0, 1));
        Edge.due("10: behind the last MINUTE", 1619,
                Story.withStations(0, 60).train(1, 0, 1438, 1, 1439).box(0, 0, 0, 1, 120, 1439).planned(), x -> x.of(0, 1));
    }

    private static void whetherItIsGone() {
        Story led = chain().planned();
        Edge.due("10: READY is a MINUTE after NOW", 0, led.at(4), x -> x.of(0, 2));
        Edge.due("10: READY is NOW", 1, led.at(5), x -> x.of(0, 2));
        Edge.due("10: READY is past", 1, led.at(6), x -> x.of(0, 2));
        Edge.due("10: without a WAY", 0, chain().at(5), x -> x.of(0, 2));
        Edge.due("10: it had a WAY", 1, led.cancelled(0).at(5), x -> x.of(0, 2));
        Edge.due("10: it had a WAY, READY is after NOW", 0, led.cancelled(0).at(4), x -> x.of(0, 2));
        Edge.due("10: it has ARRIVED", 1, led.at(60), x -> x.of(0, 2));
        Edge.due("10: READY 0, NOW 0", 1, TWO.boxes(1, 0, 0, 0).planned(), x -> x.of(0, 2));
        Edge.due("10: PLANNED when READY is NOW", 1, chain().at(5).planned(), x -> x.of(0, 2));
    }

    private static void whetherItIsLate() {
        Story story = TWO.train(3, 0, 10, 1, 20).box(0, 0, 0, 1, 5, 25).box(0, 0, 0, 1, 5, 24).box(0, 0, 0, 1, 5, 26);
        Edge.due("10: without a WAY, 0", "0 0 0", story, x -> x.of(0, 3) + " " + x.of(1, 3) + " " + x.of(2, 3));
        Edge.due("10: at DUE, a MINUTE after, a MINUTE ahead", "0 1 0", story.planned(),
                x -> x.of(0, 3) + " " + x.of(1, 3) + " " + x.of(2, 3));
        Edge.due("10: as before, when it has been", "0 1 0", story.planned().at(500),
                x -> x.of(0, 3) + " " + x.of(1, 3) + " " + x.of(2, 3));
        Edge.due("10: DUE 0, there at 0", 0, TWO.box(0, 0, 0, 0, 0, 0).planned(), x -> x.of(0, 3));
        Edge.due("10: DUE 0, there at 1", 1, TWO.box(0, 0, 1, 0, 0, 0).planned(), x -> x.of(0, 3));
        Edge.due("10: DUE 1439, there at 1439", 0, TWO.box(0, 0, 1439, 0, 0, 1439).planned(), x -> x.of(0, 3));
        Edge.due("10: DUE 1439, there at 1440", 1, TWO.box(0, 0, 1439, 0, 1, 1439).planned(), x -> x.of(0, 3));
        Edge.due("10: DUE is past, without a WAY, 0", 0, TWO.box(0, 0, 0, 1, 0, 5).planned().at(9), x -> x.of(0, 3));
    }

    private static void whereItStands() {
        Edge.due("10: NONE: not PLANNED", "-1 -1", chain(), x -> x.of(0, 4) + " " + x.of(0, 5));
        Edge.due("10: NONE: it has a WAY", "-1 -1", chain().planned(), x -> x.of(0, 4) + " " + x.of(0, 5));
        Edge.due("10: NONE: it got no WAY", "-1 -1", TWO.boxes(1, 0, 0, 1).planned(), x -> x.of(0, 4) + " " + x.of(0, 5));
        Edge.due("10: it STANDS", "2 40", chain().planned().cancelled(2), x -> x.of(0, 4) + " " + x.of(0, 5));
        Edge.due("10: it STANDS at STATION 0 since 5", "0 5", chain().planned().cancelled(0),
                x -> x.of(0, 4) + " " + x.of(0, 5));
        Edge.due("10: NONE: led on", "-1 -1", chain().planned().cancelled(2).train(1, 2, 55, 3, 70).planned(),
                x -> x.of(0, 4) + " " + x.of(0, 5));
    }

    private static void whetherItIsEmpty() {
        Story there = chain().planned();
        Edge.due("10: not EMPTY on its way", 0, there, x -> x.of(0, 6));
        Edge.due("10: not EMPTY when it has ARRIVED", 0, there.at(60), x -> x.of(0, 6));
        Edge.due("10: EMPTY when it is told so", 1, there.at(60).emptied(0, 70), x -> x.of(0, 6));
        Edge.due("10: not EMPTY when it is refused", 0, there.at(60).then(x -> x.empty(0, 59)), x -> x.of(0, 6));
    }

    private static void legsFromTheFirstToTheLast() {
        Story led = chain().planned();
        Edge.asked("11: the first", 0, led, x -> x.leg(0, 0, 0));
        Edge.asked("11: the last", 2, led, x -> x.leg(0, 2, 0));
        Edge.noSuch("11: none behind the last", led, x -> x.leg(0, 3, 0));
        Edge.noSuch("11: none ahead of the first", led, x -> x.leg(0, -1, 0));
        Story ten = Story.withStations(0, 0, 0).train(1, 0, 1, 1, 2, 0, 3, 1, 4, 0, 5, 1, 6, 0, 7, 1, 8, 0, 9, 2, 10);
        Edge.due("11: TRAIN 0, on at 2, off at 9", "0 2 9", ten.boxes(1, 0, 3, 2).planned(),
                x -> x.leg(0, 0, 0) + " " + x.leg(0, 0, 1) + " " + x.leg(0, 0, 2));
        Story line = Story.withStations(0, 0, 0).train(1).train(1, 0, 10, 1, 20, 0, 30, 2, 40).boxes(1, 1, 0, 2).planned();
        Edge.due("11: TRAIN 1, on at 1, off at 3", "1 1 3", line, x -> x.leg(0, 0, 0) + " " + x.leg(0, 0, 1) + " "
                + x.leg(0, 0, 2));
    }

    private static void legsThereAndBack() {
        Story back = chain().train(1, 3, 100, 2, 110).train(1, 2, 110, 1, 120).train(1, 1, 120, 0, 130).planned().at(60)
                .emptied(0, 60);
        Edge.due("11: LED there alone", 2, back, x -> x.leg(0, 2, 0));
        Edge.noSuch("11: none back yet", back, x -> x.leg(0, 3, 0));
        Edge.due("11: the first one back", "3 0 1", back.planned(), x -> x.leg(0, 3, 0) + " " + x.leg(0, 3, 1) + " "
                + x.leg(0, 3, 2));
        Edge.asked("11: the sixth", 5, back.planned(), x -> x.leg(0, 5, 0));
        Edge.noSuch("11: no seventh", back.planned(), x -> x.leg(0, 6, 0));
        Edge.due("11: back from a box without LEGS there", 0,
                TWO.boxes(1, 0, 0, 0).planned().emptied(0, 0).planned(), x -> x.of(0, 0));
        Edge.due("11: what is kept of those back", "0:0-1 1:0-1 2:0-1 3:0-1", back.planned().cancelled(4),
                x -> Nets.legs(x, 0));
    }

    private static void noSuchLeg() {
        Story led = chain().planned();
        for (int wrong : new int[] {Integer.MIN_VALUE, -1, 3, 6, Integer.MAX_VALUE}) {
            Edge.noSuch("11: there is none: " + wrong, led, x -> x.leg(0, wrong, 0));
        }
        Edge.noSuch("11: no LEGS: not PLANNED", chain(), x -> x.leg(0, 0, 0));
        Edge.noSuch("11: no LEGS: one STATION", TWO.boxes(1, 0, 0, 0).planned(), x -> x.leg(0, 0, 0));
        Edge.noSuch("11: a LEG given up", led.cancelled(2), x -> x.leg(0, 2, 0));
        Edge.asked("11: a LEG kept", 1, led.cancelled(2), x -> x.leg(0, 1, 0));
    }

    private static String marks(LunchMarks x) {
        StringBuilder text = new StringBuilder();
        for (int i = 0; i < x.count(2); i++) {
            text.append(x.mark(i)).append(' ');
        }
        return text.append("of ").append(x.count(6)).toString();
    }

    private static void likeLegsHaveOneMark() {
        Edge.due("14: like LEGS, other WALKS, READY, DUE", "0 0 0 of 1",
                TWO.train(9, 0, 10, 1, 20).box(0, 0, 0, 1, 0, 99).box(0, 5, 1, 1, 7, 1).box(0, 10, 0, 1, 0, 0).planned(),
                x -> marks(x));
        Edge.due("14: three like LEGS", "0 0 of 1",
                SIX.train(2, 0, 10, 1, 20).train(2, 1, 30, 2, 40).train(2, 2, 50, 3, 60).boxes(2, 0, 0, 3).planned(),
                x -> marks(x));
    }

    private static void otherLegsHaveOthers() {
        Edge.due("14: another TRAIN", "0 1 of 2",
                TWO.train(1, 0, 10, 1, 20).train(1, 0, 10, 1, 20).boxes(2, 0, 0, 1).planned(), x -> marks(x));
        Edge.due("14: another STOP to get on", "0 1 of 2",
                SIX.train(9, 0, 10, 1, 20, 2, 30).boxes(1, 0, 0, 2).boxes(1, 1, 0, 2).planned(), x -> marks(x));
        Edge.due("14: another STOP to get off", "0 1 of 2",
                SIX.train(9, 0, 10, 1, 20, 2, 30).boxes(1, 0, 0, 1).boxes(1, 0, 0, 2).planned(), x -> marks(x));
        Edge.due("14: a LEG more", "0 1 of 2",
                SIX.train(9, 0, 10, 1, 20).train(9, 1, 30, 2, 40).boxes(1, 0, 0, 1).boxes(1, 0, 0, 2).planned(),
                x -> marks(x));
        Edge.due("14: another third LEG", "0 1 of 2",
                SIX.train(9, 0, 10, 1, 20).train(9, 1, 30, 2, 40).train(1, 2, 50, 3, 60).train(1, 2, 50, 3, 60)
                        .boxes(2, 0, 0, 3).planned(), x -> marks(x));
        Edge.due("14: the last STOP of the last LEG", "0 1 of 2",
                SIX.train(9, 0, 10, 1, 20).train(9, 1, 30, 2, 40).train(9, 2, 50, 3, 60, 4, 70).boxes(1, 0, 0, 3)
                        .boxes(1, 0, 0, 4).planned(), x -> marks(x));
    }

    private static void noLegsHaveOneToo() {
        Edge.due("14: no LEGS, at other STATIONS, too", "0 0 0 of 1",
                SIX.boxes(1, 0, 0, 0).boxes(1, 1, 5, 1).boxes(1, 5, 9, 5).planned(), x -> marks(x));
        Edge.due("14: no LEGS behind some", "0 1 1 of 2",
                SIX.train(1, 0, 10, 1, 20).boxes(1, 0, 0, 1).boxes(1, 1, 5, 1).boxes(1, 5, 9, 5).planned(), x -> marks(x));
    }

    private static void withoutAWayToTheEndNoMark() {
        Edge.due("14: NONE: not PLANNED", "-1 -1 of 0", TWO.boxes(1, 0, 0, 0).boxes(1, 0, 0, 1), x -> marks(x));
        Edge.due("14: NONE: it got no WAY", "0 -1 of 1", TWO.boxes(1, 0, 0, 0).boxes(1, 0, 0, 1).planned(),
                x -> marks(x));
        Edge.due("14: NONE: it STANDS, though it has a LEG", "1 -1 of 0", chain().planned().cancelled(1),
                x -> x.of(0, 0) + " " + marks(x));
        Edge.due("14: NONE: it STANDS without LEGS, others have none and a WAY", "-1 0 of 1",
                TWO.train(1, 0, 10, 1, 20).boxes(1, 0, 0, 1).boxes(1, 0, 0, 0).planned().cancelled(0), x -> marks(x));
        Edge.due("14: led on, it has one again", "0 of 1",
                chain().planned().cancelled(1).train(1, 1, 50, 3, 90).planned(), x -> marks(x));
    }

    private static void marksAreNumberedInOrderOfTheBoxes() {
        Story story = SIX.train(9, 0, 30, 1, 40).train(9, 0, 10, 2, 20).boxes(1, 0, 0, 1).boxes(1, 0, 0, 2)
                .boxes(1, 0, 0, 3).boxes(1, 0, 0, 2).boxes(1, 0, 0, 0).boxes(1, 0, 0, 1).planned();
        Edge.due("14: 0 first, not by TRAIN or time", "0 1 -1 1 2 0 of 3", story, x -> marks(x));
        Edge.due("14: as it is now: the first ones have none", "-1 0 -1 0 1 -1 of 2", story.cancelled(0), x -> marks(x));
        Edge.due("14: sixty of one MARK", "0 1", SIX.boxes(60, 0, 0, 0).planned(), x -> x.mark(59) + " " + x.count(6));
    }

    private static void marksAreOfTheWayThere() {
        Story back = TWO.train(9, 0, 10, 1, 20).train(9, 1, 30, 0, 40).boxes(2, 0, 0, 1).boxes(1, 1, 30, 0).planned()
                .at(20);
        Edge.due("14: there", "0 0 1 of 2", back, x -> marks(x));
        Edge.due("14: EMPTY, of its WAY there", "0 0 1 of 2", back.emptied(0, 20), x -> marks(x));
        Edge.due("14: led back, of its WAY there", "0 0 1 of 2", back.emptied(0, 20).planned(), x -> marks(x));
        Edge.due("14: the second of like ones EMPTY", "0 0 1 of 2", back.emptied(1, 20), x -> marks(x));
        Edge.due("14: and led back", "0 0 1 of 2", back.emptied(1, 20).planned(), x -> marks(x));
        Edge.due("14: both EMPTY and led back", "0 0 1 of 2", back.emptied(0, 20).emptied(1, 20).planned(), x -> marks(x));
        Edge.due("14: that it STANDS on its way back changes none", "0 0 -1 of 1",
                back.emptied(0, 20).planned().cancelled(1), x -> marks(x));
    }

    private static void countsOfWhatWasMade() {
        Story story = SIX.train(1, 0, 10, 1, 20).train(1).boxes(3, 0, 0, 1).at(7).then(x -> x.carrier(1),
                x -> x.carrier(2), x -> x.carrier(0), x -> x.carrier(31));
        Edge.asked("17: STATIONS", 6, story, x -> x.count(0));
        Edge.asked("17: TRAINS", 2, story, x -> x.count(1));
        Edge.asked("17: TRAINS that are CANCELLED, too", 2, story.cancelled(0), x -> x.count(1));
        Edge.asked("17: boxes", 3, story, x -> x.count(2));
        Edge.asked("17: NOW", 7, story, x -> x.count(3));
        Edge.asked("17: carriers", 4, story, x -> x.count(7));
    }

    private static void countsOfWays() {
        Story story = TWO.train(2, 0, 10, 1, 20).boxes(3, 0, 0, 1).boxes(1, 0, 0, 0);
        Edge.asked("17: no WAYS", 0, story, x -> x.count(4));
        Edge.asked("17: two by TRAIN, one without LEGS", 3, story.planned(), x -> x.count(4));
        Edge.asked("17: those that STAND have none to the end", 1, story.planned().cancelled(0), x -> x.count(4));
        Edge.asked("17: ARRIVED, they have it still", 3, story.planned().at(500), x -> x.count(4));
        Story told = story.planned().at(20).emptied(0, 20);
        Edge.asked("17: an EMPTY box without a WAY back", 2, told, x -> x.count(4));
        Edge.asked("17: an EMPTY box with a WAY back", 3, told.train(1, 1, 30, 0, 40).planned(), x -> x.count(4));
    }

    private static void countsOfLateOnes() {
        Story story = TWO.train(3, 0, 10, 1, 20).box(0, 0, 0, 1, 0, 20).box(0, 0, 0, 1, 0, 19).box(0, 0, 0, 1, 0, 0)
                .box(0, 0, 0, 1, 0, 0);
        Edge.asked("17: none is LATE without a WAY", 0, story, x -> x.count(5));
        Edge.asked("17: at DUE, two after, one without a WAY", 2, story.planned(), x -> x.count(5));
        Edge.asked("17: box 0 alone is LATE", 1, TWO.box(0, 0, 1, 0, 0, 0).box(0, 0, 1, 0, 0, 1).planned(),
                x -> x.count(5));
        Edge.asked("17: the last box alone is LATE", 1, TWO.box(0, 0, 1, 0, 0, 1).box(0, 0, 1, 0, 0, 0).planned(),
                x -> x.count(5));
        Edge.asked("17: none of those that STAND", 0, story.planned().cancelled(0), x -> x.count(5));
        Edge.asked("17: an EMPTY one isn't LATE without a WAY back", 1, story.planned().at(20).emptied(1, 20),
                x -> x.count(5));
        Edge.asked("17: nor if it is back in time", 1, story.planned().at(20).emptied(1, 20).train(1, 1, 30, 0, 1439)
                .planned(), x -> x.count(5));
    }

    private static void countsOfMarks() {
        Edge.asked("17: no MARKS", 0, chain(), x -> x.count(6));
        Edge.asked("17: one MARK", 1, chain().planned(), x -> x.count(6));
        Edge.asked("17: none, if it STANDS", 0, chain().planned().cancelled(2), x -> x.count(6));
        Story most = SIX.train(40, 0, 10, 1, 20, 2, 30, 3, 40, 4, 50);
        for (int from = 0; from < 4; from++) {
            for (int to = from; to < 5; to++) {
                most = most.boxes(2, from, 0, to);
            }
        }
        Edge.asked("17: ten by LEGS and one without", 11, most.planned(), x -> x.count(6));
    }
}
