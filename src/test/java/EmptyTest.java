/** Promise 9: empty. */
public final class EmptyTest {
    public static void main(String[] args) {
        onlyOneThatHasArrived();
        theMinuteIsNotPast();
        once();
        itGoesBackByItsOwnWay();
        dueAtTheDaysEnd();
        anEmptyBoxIsPlannedLikeOthers();
        wrongAsks();
        Check.end();
    }

    private static LunchMarks withOneBox() {
        LunchMarks x = Nets.withStations(1, 2);
        Nets.train(x, 1, 0, 10, 1, 20, 0, 100);
        x.box(0, 3, 0, 1, 4, 10);
        x.plan();
        return x;
    }

    private static void onlyOneThatHasArrived() {
        LunchMarks x = withOneBox();
        x.minutes(25);
        Check.row("9: a minute ahead of it", "false 0", () -> x.empty(0, 30), () -> x.of(0, 6));
        x.minutes(1);
        Check.row("9: arrived now", "true 1", () -> x.empty(0, 30), () -> x.of(0, 6));
        LunchMarks y = Nets.withStations(0, 0);
        y.box(0, 0, 0, 1, 0, 0);
        y.plan();
        y.minutes(50);
        Check.due("9: one without a way", false, () -> y.empty(0, 60));
    }

    private static void theMinuteIsNotPast() {
        LunchMarks x = withOneBox();
        x.minutes(40);
        Check.row("9: minutes that can't be", "false false false false false", () -> x.empty(0, 39),
                () -> x.empty(0, -1), () -> x.empty(0, 1440), () -> x.empty(0, Integer.MIN_VALUE),
                () -> x.empty(0, Integer.MAX_VALUE));
        Check.row("9: none changed it", "0 26", () -> x.of(0, 6), () -> x.of(0, 1));
        Check.due("9: now", true, () -> x.empty(0, 40));
        LunchMarks y = withOneBox();
        y.minutes(40);
        Check.due("9: the last minute", true, () -> y.empty(0, 1439));
    }

    private static void once() {
        LunchMarks x = withOneBox();
        x.minutes(26);
        Check.row("9: twice", "true false", () -> x.empty(0, 30), () -> x.empty(0, 30));
        Nets.train(x, 1, 1, 50, 0, 60);
        x.plan();
        x.minutes(100);
        Check.row("9: nor when it is back", "4 false", () -> x.where(0), () -> x.empty(0, 200));
    }

    private static void itGoesBackByItsOwnWay() {
        LunchMarks x = withOneBox();
        x.minutes(26);
        x.empty(0, 30);
        Check.due("9: it begins anew", "0 -1 0 0 -1 -1 1", () -> Nets.state(x, 0));
        Check.row("9: its way there stays led", "0:0-1 1 0", () -> Nets.legs(x, 0), () -> x.load(0, 0),
                () -> x.mark(0));
        Nets.train(x, 1, 1, 35, 0, 50);
        Nets.train(x, 1, 1, 36, 0, 60);
        Check.row("9: walked four, sorted two; sorted one, walked three", "1 64", x::plan, () -> x.of(0, 1));
        Check.due("9: led", "0:0-1 2:0-1", () -> Nets.legs(x, 0));
    }

    private static void dueAtTheDaysEnd() {
        LunchMarks x = Nets.withStations(60, 0);
        Nets.train(x, 9, 0, 70, 1, 80);
        Nets.train(x, 1, 1, 1300, 0, 1376);
        Nets.train(x, 1, 1, 1300, 0, 1377);
        x.box(0, 3, 0, 1, 5, 10);
        x.box(0, 3, 0, 1, 5, 10);
        x.plan();
        Check.row("9: late there", "1 1", () -> x.of(0, 3), () -> x.of(1, 3));
        x.minutes(100);
        Check.row("9: told", "true true", () -> x.empty(0, 1295), () -> x.empty(1, 1295));
        Check.row("9: not late without a way", "0 0", () -> x.of(0, 3), () -> x.of(1, 3));
        x.plan();
        Check.row("9: in the day, and behind it", "1439 0 1440 1", () -> x.of(0, 1), () -> x.of(0, 3),
                () -> x.of(1, 1), () -> x.of(1, 3));
    }

    private static void anEmptyBoxIsPlannedLikeOthers() {
        LunchMarks x = withOneBox();
        x.minutes(26);
        x.empty(0, 30);
        x.minutes(5);
        Nets.train(x, 1, 1, 50, 0, 60);
        Check.row("9: ready is past, it has had no way back", "0 -1 0", x::plan, () -> x.of(0, 1), () -> x.of(0, 2));
        LunchMarks y = withOneBox();
        y.minutes(26);
        y.empty(0, 30);
        y.minutes(4);
        Nets.train(y, 1, 1, 50, 0, 60);
        Check.row("9: ready is now", "1 1 1", y::plan, () -> y.of(0, 2), () -> y.where(0));
    }

    private static void wrongAsks() {
        LunchMarks x = withOneBox();
        for (int wrong : new int[] {-1, 1, Integer.MIN_VALUE, Integer.MAX_VALUE}) {
            Check.noSuch("9: box " + wrong, () -> x.empty(wrong, 30));
            Check.noSuch("9: box " + wrong + " goes ahead of a wrong minute", () -> x.empty(wrong, -1));
        }
    }
}
