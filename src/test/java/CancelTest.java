/** Promise 8: cancel. */
public final class CancelTest {
    public static void main(String[] args) {
        whatCanNotBeCancelled();
        nobodyOnIt();
        ledAnewFromItsBeginning();
        notAheadOfNow();
        ledAnewBehindTheLegAhead();
        asManyLegsAsAreLeft();
        allGiveUpAheadOfTheFirst();
        legsBehindAreGivenUp();
        othersThatStandStay();
        oneThatStandsLosesMore();
        onItsWayBack();
        Check.end();
    }

    private static void whatCanNotBeCancelled() {
        LunchMarks x = Nets.withStations(0, 0);
        Check.noSuch("8: no train", () -> x.cancel(0));
        x.train(1);
        Nets.train(x, 1, 0, 10, 1, 20);
        Nets.train(x, 1, 0, 11, 1, 20);
        Nets.train(x, 1, 0, 12);
        for (int wrong : new int[] {-1, 4, Integer.MIN_VALUE, Integer.MAX_VALUE}) {
            Check.noSuch("8: train " + wrong, () -> x.cancel(wrong));
        }
        x.box(0, 0, 0, 1, 0, 999);
        x.plan();
        x.minutes(10);
        Check.row("8: no stops, begun now", "-1 -1", () -> x.cancel(0), () -> x.cancel(1));
        Check.due("8: nothing changes", "1 20 1 0 -1 -1 0", () -> Nets.state(x, 0));
        Check.row("8: the next minute, then already; one stop is enough", "0 -1 0", () -> x.cancel(2),
                () -> x.cancel(2), () -> x.cancel(3));
    }

    private static void nobodyOnIt() {
        LunchMarks x = Nets.withStations(0, 0);
        Nets.train(x, 1, 0, 10, 1, 20);
        Check.due("8: no box", 0, () -> x.cancel(0));
        x.box(0, 0, 0, 1, 0, 999);
        Check.row("8: it doesn't run", "0 -1", x::plan, () -> x.of(0, 1));
    }

    private static void ledAnewFromItsBeginning() {
        LunchMarks x = Nets.withStations(5, 0);
        Nets.train(x, 2, 0, 50, 1, 60);
        Nets.train(x, 1, 0, 45, 1, 70);
        for (int i = 0; i < 3; i++) {
            x.box(0, 10, 30, 1, 1, 999);
        }
        x.plan();
        Check.row("8: planned", "61 61 71", () -> x.of(0, 1), () -> x.of(1, 1), () -> x.of(2, 1));
        Nets.train(x, 1, 0, 45, 1, 80);
        Check.due("8: two had a leg on it", 2, () -> x.cancel(0));
        Check.due("8: led anew", "1 81 0 0 -1 -1 0", () -> Nets.state(x, 0));
        Check.due("8: stands where it begins", "0 -1 0 0 0 45 0", () -> Nets.state(x, 1));
        Check.due("8: not on it", "1 71 0 0 -1 -1 0", () -> Nets.state(x, 2));
        Check.row("8: loads", "0 1 1", () -> x.load(0, 0), () -> x.load(1, 0), () -> x.load(2, 0));
    }

    private static void notAheadOfNow() {
        LunchMarks x = Nets.withStations(5, 0);
        Nets.train(x, 1, 0, 90, 1, 95);
        Nets.train(x, 1, 0, 60, 1, 100);
        x.box(0, 10, 30, 1, 1, 999);
        x.plan();
        x.minutes(61);
        Check.due("8: one", 1, () -> x.cancel(0));
        Check.due("8: the other train has left", "0 -1 1 0 0 61 0", () -> Nets.state(x, 0));
        LunchMarks y = Nets.withStations(5, 0);
        Nets.train(y, 1, 0, 90, 1, 95);
        Nets.train(y, 1, 0, 60, 1, 100);
        y.box(0, 10, 30, 1, 1, 999);
        y.plan();
        y.minutes(60);
        Check.row("8: it leaves now", "1 101", () -> y.cancel(0), () -> y.of(0, 1));
    }

    private static void ledAnewBehindTheLegAhead() {
        LunchMarks x = Nets.withStations(0, 5, 0);
        Nets.train(x, 1, 0, 10, 1, 20);
        Nets.train(x, 1, 1, 30, 2, 40);
        Nets.train(x, 1, 1, 24, 2, 50);
        Nets.train(x, 1, 1, 25, 2, 60);
        x.box(0, 0, 0, 2, 0, 999);
        x.plan();
        Check.row("8: sorted first", "1 60", () -> x.cancel(1), () -> x.of(0, 1));
        Check.due("8: by", "0:0-1 3:0-1", () -> Nets.legs(x, 0));
        Check.row("8: again", "1 1 1 25", () -> x.cancel(3), () -> x.of(0, 0), () -> x.of(0, 4), () -> x.of(0, 5));
    }

    private static void asManyLegsAsAreLeft() {
        LunchMarks x = Nets.withStations(0, 0, 0, 0, 0);
        Nets.train(x, 1, 0, 10, 1, 20);
        Nets.train(x, 1, 1, 20, 4, 30);
        Nets.train(x, 1, 1, 20, 2, 30);
        Nets.train(x, 1, 2, 30, 3, 40);
        Nets.train(x, 1, 3, 40, 4, 50);
        x.box(0, 0, 0, 4, 0, 999);
        x.plan();
        Check.row("8: three more would be four", "1 -1 1 20", () -> x.cancel(1), () -> x.of(0, 1), () -> x.of(0, 4),
                () -> x.of(0, 5));
        Nets.train(x, 1, 2, 31, 4, 60);
        Check.row("8: two more", "1 60 3", x::plan, () -> x.of(0, 1), () -> x.of(0, 0));
    }

    private static void allGiveUpAheadOfTheFirst() {
        LunchMarks x = Nets.withStations(0, 0, 0);
        Nets.train(x, 2, 0, 10, 1, 20);
        Nets.train(x, 1, 1, 20, 2, 30);
        x.box(0, 0, 0, 1, 0, 999);
        x.box(0, 0, 0, 2, 0, 999);
        x.plan();
        Nets.train(x, 9, 0, 15, 2, 18, 1, 40);
        Nets.train(x, 1, 0, 12, 1, 20);
        Check.due("8: two", 2, () -> x.cancel(0));
        Check.row("8: the second one's second leg is free", "20 18 0", () -> x.of(0, 1), () -> x.of(1, 1),
                () -> x.load(1, 0));
    }

    private static void legsBehindAreGivenUp() {
        LunchMarks x = Nets.withStations(0, 0, 0, 0);
        Nets.train(x, 1, 0, 10, 1, 20);
        Nets.train(x, 1, 1, 20, 2, 30);
        Nets.train(x, 1, 2, 30, 3, 40);
        x.box(0, 0, 0, 3, 0, 999);
        x.plan();
        x.cancel(1);
        Check.row("8: room", "1 0 0", () -> x.load(0, 0), () -> x.load(1, 0), () -> x.load(2, 0));
        x.box(2, 0, 0, 3, 0, 999);
        Check.row("8: for another", "1 40", x::plan, () -> x.of(1, 1));
    }

    private static void othersThatStandStay() {
        LunchMarks x = Nets.withStations(0, 0);
        Nets.train(x, 1, 0, 10, 1, 20);
        x.box(0, 0, 0, 1, 0, 999);
        x.plan();
        x.cancel(0);
        Nets.train(x, 9, 0, 30, 1, 40);
        Nets.train(x, 9, 0, 31, 1, 41);
        x.box(0, 0, 0, 1, 0, 999);
        Check.row("8: cancelling leads none but its own", "0 -1 0", () -> x.cancel(2), () -> x.of(0, 1),
                () -> x.of(0, 4));
        Check.row("8: nor one without a way", "-1 2 40 40", () -> x.of(1, 1), x::plan, () -> x.of(0, 1),
                () -> x.of(1, 1));
    }

    private static void oneThatStandsLosesMore() {
        LunchMarks x = Nets.withStations(2, 5, 0);
        Nets.train(x, 1, 0, 10, 1, 20);
        Nets.train(x, 1, 1, 30, 2, 40);
        x.box(0, 1, 3, 2, 0, 999);
        x.plan();
        x.cancel(1);
        Check.due("8: stands behind one leg", "1 -1 0 0 1 25 0", () -> Nets.state(x, 0));
        Check.due("8: one", 1, () -> x.cancel(0));
        Check.due("8: stands where it begins", "0 -1 0 0 0 6 0", () -> Nets.state(x, 0));
        Check.due("8: no legs", "", () -> Nets.legs(x, 0));
    }

    private static void onItsWayBack() {
        LunchMarks x = Nets.withStations(1, 2);
        Nets.train(x, 1, 0, 10, 1, 20);
        Nets.train(x, 1, 1, 50, 0, 60);
        x.box(0, 3, 0, 1, 4, 999);
        x.plan();
        x.minutes(26);
        x.empty(0, 30);
        x.plan();
        Check.row("8: back", "64 1", () -> x.of(0, 1), () -> x.cancel(1));
        Check.due("8: stands at its desk's station", "0 -1 0 0 1 36 1", () -> Nets.state(x, 0));
        Check.due("8: the way there stays", "0:0-1", () -> Nets.legs(x, 0));
        x.minutes(10);
        Check.due("8: gone since its way back was planned once", "0 -1 1 0 1 36 1", () -> Nets.state(x, 0));
        Nets.train(x, 1, 1, 36, 0, 70);
        Check.row("8: led on", "1 74", x::plan, () -> x.of(0, 1));
    }
}
