/** Promises 7 and 13, sentence by sentence, on both sides of each boundary. */
public final class EdgeTimeTest {
    private static final Story NEW = Story.begun();

    public static void main(String[] args) {
        noMinutesLater();
        upToTheLastMinute();
        belowZero();
        aboveTheLastMinute();
        notGone();
        onFootSortedOrWaiting();
        onATrain();
        sortedWhereItGetsOff();
        onFootAtTheEnd();
        withoutAWalkItArrivesAtOnce();
        withoutLegs();
        changingAtOneMinute();
        oneThatStands();
        oneThatIsEmpty();
        noSuchBox();
        Check.end();
    }

    private static void noMinutesLater() {
        Edge.refused("7: 0 MINUTES later", 0, NEW, x -> x.minutes(0));
        Edge.refused("7: 0 MINUTES later than 700", 700, NEW.at(700), x -> x.minutes(0));
        Edge.refused("7: 0 MINUTES later than the last", 1439, NEW.at(1439), x -> x.minutes(0));
    }

    private static void upToTheLastMinute() {
        Edge.due("7: a MINUTE later", "1 1", NEW, x -> x.minutes(1) + " " + x.count(3));
        Edge.due("7: some later, and some more", "12 12", NEW.at(5), x -> x.minutes(7) + " " + x.count(3));
        Edge.due("7: the last MINUTE at once", "1439 1439", NEW, x -> x.minutes(1439) + " " + x.count(3));
        Edge.due("7: the last MINUTE from the one ahead", 1439, NEW.at(1438), x -> x.minutes(1));
        Edge.due("7: the last MINUTE from 700", 1439, NEW.at(700), x -> x.minutes(739));
    }

    private static void belowZero() {
        for (int wrong : new int[] {-1, -700, Integer.MIN_VALUE}) {
            Edge.illegal("7: n is below 0: " + wrong, NEW, x -> x.minutes(wrong));
            Edge.illegal("7: n is below 0, NOW 700: " + wrong, NEW.at(700), x -> x.minutes(wrong));
            Edge.illegal("7: n is below 0, NOW 1439: " + wrong, NEW.at(1439), x -> x.minutes(wrong));
        }
    }

    private static void aboveTheLastMinute() {
        for (int now : new int[] {0, 1, 700, 1438, 1439}) {
            for (int wrong : new int[] {1440 - now, 1441, Integer.MAX_VALUE - now, Integer.MAX_VALUE}) {
                Edge.illegal("7: above 1439, NOW " + now + ", n " + wrong, NEW.at(now), x -> x.minutes(wrong));
            }
        }
    }

    /** READY 80, SORTED 95, on 100, off 120, SORTED 130, on 140, off 160, SORTED 164, at the DESK 171. */
    private static Story led() {
        return Story.withStations(5, 10, 4).train(1, 0, 100, 1, 120).train(1, 1, 140, 2, 160).box(0, 10, 80, 2, 7, 999)
                .planned();
    }

    private static void where(String sentence, Story story, int minute, int want) {
        Edge.asked(sentence + ", at " + minute, want, story.at(minute), x -> x.where(0));
    }

    private static void notGone() {
        where("13: not GONE", led(), 0, 0);
        where("13: a MINUTE ahead of READY", led(), 79, 0);
        where("13: READY, on foot", led(), 80, 1);
        Story none = Story.withStations(0, 0).box(0, 10, 80, 1, 7, 999).planned();
        where("13: without a WAY, at READY", none, 80, 0);
        where("13: without a WAY, behind it", none, 1439, 0);
        where("13: READY at 0, NOW 0", Story.withStations(0).box(0, 1, 0, 0, 0, 9).planned(), 0, 1);
    }

    private static void onFootSortedOrWaiting() {
        where("13: on foot", led(), 89, 1);
        where("13: being SORTED", led(), 90, 1);
        where("13: waiting", led(), 95, 1);
        where("13: waiting, a MINUTE ahead of the TRAIN", led(), 99, 1);
    }

    private static void onATrain() {
        where("13: on the TRAIN where it gets on", led(), 100, 2);
        where("13: on it a MINUTE ahead of where it gets off", led(), 119, 2);
        where("13: off it where it gets off", led(), 120, 1);
        where("13: waiting for the next, a MINUTE ahead", led(), 139, 1);
        where("13: on the next where it gets on", led(), 140, 2);
        where("13: on the next a MINUTE ahead of where it gets off", led(), 159, 2);
        where("13: on it at a STOP between", Story.withStations(0, 0, 0).train(1, 0, 10, 1, 20, 2, 30).boxes(1, 0, 0, 2)
                .planned(), 20, 2);
    }

    private static void sortedWhereItGetsOff() {
        where("13: SORTED where it changes", led(), 129, 1);
        where("13: off at the last STATION, being SORTED", led(), 160, 1);
        where("13: SORTED there, a MINUTE to go", led(), 163, 1);
    }

    private static void onFootAtTheEnd() {
        where("13: on foot at the end", led(), 164, 3);
        where("13: a MINUTE ahead of ARRIVED", led(), 170, 3);
        where("13: ARRIVED", led(), 171, 4);
        where("13: ARRIVED, at the day's end", led(), 1439, 4);
        Story late = Story.withStations(0).box(0, 0, 1439, 0, 1, 1439).planned();
        where("13: on foot at the end of the day", late, 1439, 3);
    }

    private static void withoutAWalkItArrivesAtOnce() {
        Story none = Story.withStations(0, 5).train(1, 0, 10, 1, 20).box(0, 0, 0, 1, 0, 99).planned();
        where("13: being SORTED, no WALK ahead of it", none, 24, 1);
        where("13: ARRIVED when it is SORTED", none, 25, 4);
        Story one = Story.withStations(0, 5).train(1, 0, 10, 1, 20).box(0, 0, 0, 1, 1, 99).planned();
        where("13: a WALK of one MINUTE", one, 25, 3);
        where("13: ARRIVED behind it", one, 26, 4);
        Story bare = Story.withStations(0, 0).train(1, 0, 10, 1, 20).box(0, 0, 10, 1, 0, 99).planned();
        where("13: a MINUTE ahead of READY, which is the TRAIN's", bare, 9, 0);
        where("13: READY and on the TRAIN at one MINUTE", bare, 10, 2);
        where("13: off it and ARRIVED at one MINUTE", bare, 20, 4);
    }

    private static void withoutLegs() {
        Story one = Story.withStations(5).box(0, 10, 80, 0, 3, 999).planned();
        where("13: without LEGS, not GONE", one, 79, 0);
        where("13: without LEGS, on foot", one, 80, 1);
        where("13: without LEGS, being SORTED", one, 94, 1);
        where("13: without LEGS, SORTED", one, 95, 3);
        where("13: without LEGS, on foot at the end", one, 97, 3);
        where("13: without LEGS, ARRIVED", one, 98, 4);
        Story bare = Story.withStations(0).box(0, 0, 80, 0, 0, 999).planned();
        where("13: without LEGS and all, not GONE", bare, 79, 0);
        where("13: without LEGS and all, ARRIVED", bare, 80, 4);
    }

    private static void changingAtOneMinute() {
        Story changes = Story.withStations(0, 0, 0).train(1, 0, 10, 1, 20).train(1, 1, 20, 2, 30).boxes(1, 0, 0, 2)
                .planned();
        where("13: off one TRAIN and on the next at one MINUTE", changes, 20, 2);
        Story waits = Story.withStations(0, 1, 0).train(1, 0, 10, 1, 20).train(1, 1, 21, 2, 30).boxes(1, 0, 0, 2)
                .planned();
        where("13: SORTED for a MINUTE between them", waits, 20, 1);
        where("13: on the next then", waits, 21, 2);
    }

    private static void oneThatStands() {
        Story cut = led().cancelled(1);
        where("13: it will STAND, not GONE", cut, 79, 0);
        where("13: on foot to where it will be", cut, 80, 1);
        where("13: on the TRAIN that it keeps", cut, 100, 2);
        where("13: still on it", cut, 119, 2);
        where("13: off it, and STANDS", cut, 120, 1);
        where("13: where the TRAIN given up would be", cut, 140, 1);
        where("13: STANDS to the day's end", cut, 1439, 1);
        Story home = led().cancelled(0);
        where("13: STANDS where it begins, not GONE", home, 79, 0);
        where("13: STANDS where it begins, GONE", home, 80, 1);
        where("13: where the first TRAIN would be", home, 100, 1);
    }

    private static void oneThatIsEmpty() {
        Story there = Story.withStations(1, 2).train(1, 0, 10, 1, 20).train(1, 1, 50, 0, 60).box(0, 3, 0, 1, 4, 99)
                .planned().at(26);
        where("13: ARRIVED there", there, 26, 4);
        where("13: EMPTY, not GONE", there.emptied(0, 26), 26, 0);
        where("13: EMPTY, READY is past, it has no WAY", there.emptied(0, 26), 100, 0);
        where("13: EMPTY with a WAY, READY NOW", there.emptied(0, 26).planned(), 26, 1);
        Story back = there.emptied(0, 30).planned();
        where("13: a MINUTE ahead of READY", back, 29, 0);
        where("13: READY", back, 30, 1);
        where("13: a MINUTE ahead of the TRAIN", back, 49, 1);
        where("13: on the TRAIN", back, 50, 2);
        where("13: a MINUTE on it", back, 59, 2);
        where("13: off it", back, 60, 1);
        where("13: on foot at the end", back, 61, 3);
        where("13: a MINUTE ahead of HOME", back, 63, 3);
        where("13: back", back, 64, 4);
    }

    private static void noSuchBox() {
        Story two = Story.withStations(0).boxes(2, 0, 0, 0);
        for (int wrong : new int[] {-1, 2, 60, Integer.MIN_VALUE, Integer.MAX_VALUE}) {
            Edge.noSuch("13: no such box: " + wrong, two, x -> x.where(wrong));
        }
        Edge.asked("13: the last box", 0, two, x -> x.where(1));
    }
}
