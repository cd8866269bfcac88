/** Promises 6 and 12: plan, load. */
public final class PlanTest {
    public static void main(String[] args) {
        walkAndSortingGoAheadOfTheTrain();
        theEarliestWayIsTaken();
        thenTheFewestLegs();
        thenTheFirstRow();
        theRowIsComparedFromItsBeginning();
        atMostThreeLegs();
        sortingWhereItChanges();
        sortingAtTheLastStationDecides();
        noLegsWithinOneStation();
        roomFromStopToStop();
        boxesInOrderTakeRoom();
        aTrainTwice();
        onceLedNotAgain();
        readyNowButNotPast();
        standingOnesAreLedOn();
        loadsOfSpans();
        Check.end();
    }

    private static String led(LunchMarks x, int box) {
        return x.of(box, 1) + " by " + Nets.legs(x, box);
    }

    private static void walkAndSortingGoAheadOfTheTrain() {
        LunchMarks x = Nets.withStations(7, 4);
        Nets.train(x, 9, 0, 100, 1, 120);
        x.box(0, 13, 80, 1, 6, 999);
        x.box(0, 13, 81, 1, 6, 999);
        x.box(0, 0, 100, 1, 6, 999);
        Check.due("6: just in time, and not", 1, x::plan);
        Check.row("6: which", "130 -1 -1", () -> x.of(0, 1), () -> x.of(1, 1), () -> x.of(2, 1));
    }

    private static void theEarliestWayIsTaken() {
        LunchMarks x = Nets.withStations(0, 0, 0, 0);
        Nets.train(x, 9, 0, 10, 3, 61);
        Nets.train(x, 9, 0, 10, 1, 20);
        Nets.train(x, 9, 1, 20, 2, 40);
        Nets.train(x, 9, 2, 50, 3, 60);
        x.box(0, 0, 0, 3, 0, 999);
        x.plan();
        Check.due("6: three legs, a minute earlier", "60 by 1:0-1 2:0-1 3:0-1", () -> led(x, 0));
    }

    private static void thenTheFewestLegs() {
        LunchMarks x = Nets.withStations(0, 0, 0);
        Nets.train(x, 9, 0, 10, 1, 20);
        Nets.train(x, 9, 1, 30, 2, 60);
        Nets.train(x, 9, 0, 5, 2, 60);
        x.box(0, 0, 0, 2, 0, 999);
        x.plan();
        Check.due("6: one leg of a later number", "60 by 2:0-1", () -> led(x, 0));
    }

    private static void thenTheFirstRow() {
        LunchMarks x = Nets.withStations(0, 0, 0, 0, 0);
        // by train 1, stop 0 or 2, off at 1 or 3; the same last train from all of them
        Nets.train(x, 9, 2, 200, 4, 210, 3, 300);
        Nets.train(x, 9, 0, 10, 2, 20, 0, 30, 2, 40);
        Nets.train(x, 9, 0, 1, 2, 3);
        x.box(0, 0, 0, 3, 0, 999);
        x.box(0, 0, 11, 3, 0, 999);
        x.plan();
        Check.due("6: the least train, stop, stop", "300 by 1:0-1 0:0-2", () -> led(x, 0));
        Check.due("6: the later stop where it gets on", "300 by 1:2-3 0:0-2", () -> led(x, 1));
    }

    private static void theRowIsComparedFromItsBeginning() {
        LunchMarks x = Nets.withStations(0, 0, 0, 0);
        Nets.train(x, 9, 2, 50, 3, 100);
        Nets.train(x, 9, 0, 20, 1, 30);
        Nets.train(x, 9, 0, 10, 2, 40);
        Nets.train(x, 9, 1, 50, 3, 100);
        x.box(0, 0, 0, 3, 0, 999);
        x.plan();
        Check.due("6: 1 3 is ahead of 2 0", "100 by 1:0-1 3:0-1", () -> led(x, 0));
    }

    private static void atMostThreeLegs() {
        LunchMarks x = Nets.withStations(0, 0, 0, 0, 0);
        for (int i = 0; i < 4; i++) {
            Nets.train(x, 9, i, 10 * i, i + 1, 10 * i + 10);
        }
        x.box(0, 0, 0, 3, 0, 999);
        x.box(0, 0, 0, 4, 0, 999);
        Check.due("6: three legs, not four", 1, x::plan);
        Check.row("6: which", "30 -1 0", () -> x.of(0, 1), () -> x.of(1, 1), () -> x.of(1, 0));
    }

    private static void sortingWhereItChanges() {
        LunchMarks x = Nets.withStations(0, 5, 0);
        Nets.train(x, 9, 0, 10, 1, 20);
        Nets.train(x, 9, 1, 24, 2, 30);
        Nets.train(x, 9, 1, 25, 2, 40);
        x.box(0, 0, 0, 2, 0, 999);
        x.plan();
        Check.due("6: five minutes for sorting", "40 by 0:0-1 2:0-1", () -> led(x, 0));
    }

    private static void sortingAtTheLastStationDecides() {
        LunchMarks x = Nets.withStations(0, 20);
        Nets.train(x, 9, 0, 10, 1, 30);
        x.box(0, 0, 0, 1, 3, 52);
        x.plan();
        Check.row("6: sorted, then on foot", "53 1", () -> x.of(0, 1), () -> x.of(0, 3));
    }

    private static void noLegsWithinOneStation() {
        LunchMarks x = Nets.withStations(9, 0);
        Nets.train(x, 9, 0, 100, 1, 110, 0, 120);
        x.box(0, 3, 50, 0, 4, 66);
        Check.due("6: a way with no legs counts", 1, x::plan);
        Check.due("6: it is sorted once", "66 by ", () -> led(x, 0));
    }

    private static void roomFromStopToStop() {
        LunchMarks x = Nets.withStations(0, 0, 0);
        Nets.train(x, 1, 0, 10, 1, 20, 2, 30);
        x.box(1, 0, 0, 2, 0, 999);
        x.box(0, 0, 0, 2, 0, 999);
        x.box(0, 0, 0, 1, 0, 999);
        Check.due("6: the middle one has no room on one span", 2, x::plan);
        Check.row("6: which", "30 -1 20", () -> x.of(0, 1), () -> x.of(1, 1), () -> x.of(2, 1));
    }

    private static void boxesInOrderTakeRoom() {
        LunchMarks x = Nets.withStations(0, 0);
        Nets.train(x, 2, 0, 10, 1, 20);
        Nets.train(x, 1, 0, 11, 1, 21);
        for (int i = 0; i < 4; i++) {
            x.box(0, 0, 0, 1, 0, 999);
        }
        Check.due("6: three have room", 3, x::plan);
        Check.row("6: in order", "20 20 21 -1", () -> x.of(0, 1), () -> x.of(1, 1), () -> x.of(2, 1), () -> x.of(3, 1));
        Nets.train(x, 1, 0, 12, 1, 22);
        Check.row("6: the last one next time", "1 22 0", x::plan, () -> x.of(3, 1), x::plan);
    }

    private static void aTrainTwice() {
        LunchMarks x = Nets.withStations(0, 0, 0, 0);
        Nets.train(x, 1, 0, 10, 1, 20, 2, 30, 3, 40);
        Nets.train(x, 9, 1, 21, 2, 29);
        x.box(1, 0, 20, 2, 0, 999);
        x.box(0, 0, 0, 3, 0, 999);
        x.plan();
        Check.due("6: the first takes the quicker", "29 by 1:0-1", () -> led(x, 0));
        Check.due("6: the train has room all along", "40 by 0:0-3", () -> led(x, 1));
        LunchMarks y = Nets.withStations(0, 0, 0, 0);
        Nets.train(y, 1, 0, 10, 1, 20, 2, 30, 3, 40);
        y.box(1, 0, 20, 2, 0, 999);
        y.plan();
        Nets.train(y, 9, 1, 21, 2, 29);
        y.box(0, 0, 0, 3, 0, 999);
        y.plan();
        Check.due("6: off where it is full, and on again", "40 by 0:0-1 1:0-1 0:2-3", () -> led(y, 1));
        Check.row("12: its spans", "1 1 1 1", () -> y.load(0, 0), () -> y.load(0, 1), () -> y.load(0, 2),
                () -> y.load(1, 0));
        Check.row("8: all behind the first leg on it is given up", "2 0 0", () -> y.cancel(0), () -> y.of(1, 0),
                () -> y.load(1, 0) - 1);
    }

    private static void onceLedNotAgain() {
        LunchMarks x = Nets.withStations(0, 0);
        Nets.train(x, 9, 0, 50, 1, 60);
        x.box(0, 0, 0, 1, 0, 999);
        x.plan();
        Nets.train(x, 9, 0, 20, 1, 30);
        Check.row("6: a better train comes too late", "0 60", x::plan, () -> x.of(0, 1));
    }

    private static void readyNowButNotPast() {
        LunchMarks x = Nets.withStations(0, 0);
        x.box(0, 0, 30, 1, 0, 999);
        x.box(0, 0, 29, 1, 0, 999);
        Check.due("6: no train", 0, x::plan);
        Nets.train(x, 9, 0, 50, 1, 60);
        x.minutes(30);
        Check.row("6: ready isn't less than now; it is", "1 60 -1", x::plan, () -> x.of(0, 1), () -> x.of(1, 1));
    }

    private static void standingOnesAreLedOn() {
        LunchMarks x = Nets.withStations(0, 5, 0, 0, 0);
        Nets.train(x, 9, 0, 100, 1, 120);
        Nets.train(x, 9, 1, 130, 2, 140);
        Nets.train(x, 9, 2, 150, 4, 160);
        x.box(0, 0, 100, 4, 0, 999);
        x.plan();
        x.cancel(2);
        Check.due("6: it keeps two", "2 -1 0 0 2 140 0", () -> Nets.state(x, 0));
        Nets.train(x, 9, 2, 170, 3, 180);
        Nets.train(x, 9, 3, 190, 4, 200);
        Check.due("6: one leg is left of three", 0, x::plan);
        Nets.train(x, 9, 2, 145, 4, 210);
        x.minutes(146);
        Check.due("6: from now, which is later", 0, x::plan);
        Check.due("6: it stands since then still", "2 -1 1 0 2 140 0", () -> Nets.state(x, 0));
        Nets.train(x, 9, 2, 146, 4, 220);
        Check.due("6: on", 1, x::plan);
        Check.due("6: led", "220 by 0:0-1 1:0-1 6:0-1", () -> led(x, 0));
        Check.due("6: stands no more", "3 220 1 0 -1 -1 0", () -> Nets.state(x, 0));
    }

    private static void loadsOfSpans() {
        LunchMarks x = Nets.withStations(0, 0, 0);
        Nets.train(x, 3, 0, 10, 1, 20, 2, 30);
        x.train(1);
        x.box(0, 0, 0, 2, 0, 999);
        x.box(0, 0, 0, 1, 0, 999);
        Check.row("12: ahead of planning", "0 0", () -> x.load(0, 0), () -> x.load(0, 1));
        x.plan();
        Check.row("12: planned", "2 1", () -> x.load(0, 0), () -> x.load(0, 1));
        for (int wrong : new int[] {-1, 2, Integer.MIN_VALUE, Integer.MAX_VALUE}) {
            Check.noSuch("12: span " + wrong, () -> x.load(0, wrong));
            Check.noSuch("12: train " + wrong, () -> x.load(wrong, 0));
        }
        Check.noSuch("12: no stops", () -> x.load(1, 0));
        Check.noSuch("12: no stops, span -1", () -> x.load(1, -1));
        x.stop(1, 0, 10);
        Check.noSuch("12: one stop", () -> x.load(1, 0));
        x.cancel(0);
        Check.row("12: cancelled, it has its spans still", "0 0", () -> x.load(0, 0), () -> x.load(0, 1));
    }
}
