/** Promises 5, 10 and 11: box, of, leg. */
public final class BoxTest {
    public static void main(String[] args) {
        boxesAreNumberedUpToSixty();
        numbersHaveEdges();
        wrongNumbersMakeNone();
        aNewBoxHasNothing();
        aBoxTellsItsWay();
        goneIsOneThatHadAWay();
        lateIsAfterDue();
        arrivalsMayLieBehindTheDay();
        wrongAsks();
        legsAreLedThereAndBack();
        Check.end();
    }

    private static void boxesAreNumberedUpToSixty() {
        LunchMarks x = Nets.withStations(0);
        for (int i = 0; i < 60; i++) {
            Check.due("5: number", i, () -> x.box(0, 0, 0, 0, 0, 0));
        }
        Check.row("5: a 61st", "-1 60 60", () -> x.box(0, 0, 0, 0, 0, 0), () -> x.count(2), x::plan);
    }

    private static void numbersHaveEdges() {
        LunchMarks x = Nets.withStations(0, 0);
        Check.row("5: edges", "0 1", () -> x.box(0, 0, 0, 1, 0, 0), () -> x.box(1, 120, 1439, 0, 120, 1439));
        x.minutes(50);
        Check.due("5: ready may be past", 2, () -> x.box(0, 0, 10, 0, 0, 5));
        Check.due("5: or now", 3, () -> x.box(0, 0, 50, 0, 0, 5));
        Check.row("5: a past one gets no way", "1 -1 50", x::plan, () -> x.of(2, 1), () -> x.of(3, 1));
    }

    private static void wrongNumbersMakeNone() {
        LunchMarks x = Nets.withStations(0, 0);
        int[] good = {0, 5, 10, 1, 5, 100};
        int[][] wrong = {{-1, 2}, {-1, 121}, {-1, 1440}, {-1, 2}, {-1, 121}, {-1, 1440}};
        for (int i = 0; i < good.length; i++) {
            for (int value : new int[] {wrong[i][0], wrong[i][1], Integer.MIN_VALUE, Integer.MAX_VALUE}) {
                int[] a = good.clone();
                a[i] = value;
                Check.due("5: number " + i + " is " + value, -1, () -> x.box(a[0], a[1], a[2], a[3], a[4], a[5]));
            }
        }
        Check.due("5: none was made", 0, () -> x.count(2));
    }

    private static void aNewBoxHasNothing() {
        LunchMarks x = Nets.withStations(0, 0);
        x.box(0, 0, 0, 1, 0, 0);
        Check.due("10: new", "0 -1 0 0 -1 -1 0", () -> Nets.state(x, 0));
        Check.due("11: new", "", () -> Nets.legs(x, 0));
    }

    private static void aBoxTellsItsWay() {
        LunchMarks x = Nets.withStations(5, 10, 3);
        Nets.train(x, 1, 0, 100, 1, 120);
        Nets.train(x, 1, 1, 130, 2, 150);
        x.box(0, 15, 80, 2, 7, 159);
        x.plan();
        Check.due("10: two legs, sorted at the last station, too", "2 160 0 1 -1 -1 0", () -> Nets.state(x, 0));
        Check.due("11: two legs", "0:0-1 1:0-1", () -> Nets.legs(x, 0));
    }

    private static void goneIsOneThatHadAWay() {
        LunchMarks x = Nets.withStations(0, 0);
        Nets.train(x, 1, 0, 100, 1, 120);
        x.box(0, 0, 30, 1, 0, 1000);
        x.box(0, 0, 30, 1, 0, 1000);
        x.plan();
        x.minutes(29);
        Check.row("10: ready is after now", "0 0", () -> x.of(0, 2), () -> x.of(1, 2));
        x.minutes(1);
        Check.row("10: ready is now; without a way", "1 0", () -> x.of(0, 2), () -> x.of(1, 2));
        x.cancel(0);
        Check.due("10: it had a way", "0 -1 1 0 0 30 0", () -> Nets.state(x, 0));
    }

    private static void lateIsAfterDue() {
        LunchMarks x = Nets.withStations(0);
        x.box(0, 10, 0, 0, 10, 20);
        x.box(0, 10, 0, 0, 10, 19);
        x.box(0, 10, 0, 0, 10, 0);
        Check.row("10: without a way", "0 0", () -> x.of(1, 3), () -> x.of(2, 3));
        x.plan();
        Check.row("10: at due, and after", "0 1 1", () -> x.of(0, 3), () -> x.of(1, 3), () -> x.of(2, 3));
    }

    private static void arrivalsMayLieBehindTheDay() {
        LunchMarks x = Nets.withStations(60, 60);
        Nets.train(x, 1, 0, 1438, 1, 1439);
        x.box(0, 120, 1200, 1, 120, 1439);
        x.box(0, 120, 1439, 0, 120, 1439);
        x.plan();
        Check.row("10: a number above 1439", "1619 1 1739 1", () -> x.of(0, 1), () -> x.of(0, 3),
                () -> x.of(1, 1), () -> x.of(1, 3));
    }

    private static void wrongAsks() {
        LunchMarks x = Nets.withStations(0, 0);
        Nets.train(x, 1, 0, 10, 1, 20);
        Check.noSuch("10: no box", () -> x.of(0, 0));
        Check.noSuch("11: no box", () -> x.leg(0, 0, 0));
        x.box(0, 0, 0, 1, 0, 0);
        x.plan();
        for (int wrong : new int[] {-1, 7, Integer.MIN_VALUE, Integer.MAX_VALUE}) {
            Check.noSuch("10: what " + wrong, () -> x.of(0, wrong));
            Check.noSuch("10: box " + wrong, () -> x.of(wrong, 0));
            Check.noSuch("11: box " + wrong, () -> x.leg(wrong, 0, 0));
            Check.noSuch("11: leg " + wrong, () -> x.leg(0, wrong, 0));
            Check.noSuch("11: what " + wrong, () -> x.leg(0, 0, wrong));
        }
        Check.noSuch("10: box 1", () -> x.of(1, 0));
        Check.noSuch("11: leg 1", () -> x.leg(0, 1, 0));
        Check.noSuch("11: what 3", () -> x.leg(0, 0, 3));
        Check.row("11: all that is told", "0 0 1", () -> x.leg(0, 0, 0), () -> x.leg(0, 0, 1), () -> x.leg(0, 0, 2));
    }

    private static void legsAreLedThereAndBack() {
        LunchMarks x = Nets.withStations(0, 0, 0, 0);
        Nets.train(x, 9, 0, 10, 1, 20);
        Nets.train(x, 9, 1, 20, 2, 30);
        Nets.train(x, 9, 2, 30, 3, 40);
        Nets.train(x, 9, 3, 50, 2, 60);
        Nets.train(x, 9, 2, 60, 1, 70);
        Nets.train(x, 9, 1, 70, 0, 80);
        x.box(0, 0, 10, 3, 0, 40);
        x.plan();
        x.minutes(40);
        x.empty(0, 50);
        Check.due("11: there alone", "0:0-1 1:0-1 2:0-1", () -> Nets.legs(x, 0));
        x.plan();
        Check.due("11: there and back", "0:0-1 1:0-1 2:0-1 3:0-1 4:0-1 5:0-1", () -> Nets.legs(x, 0));
        Check.due("10: those back alone", "3 80 0 0 -1 -1 1", () -> Nets.state(x, 0));
        x.cancel(4);
        Check.due("11: what it keeps", "0:0-1 1:0-1 2:0-1 3:0-1", () -> Nets.legs(x, 0));
    }
}
