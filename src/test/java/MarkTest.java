/** Promises 14 and 17: mark, count. */
public final class MarkTest {
    public static void main(String[] args) {
        likeWaysShareAMark();
        noLegsShareOneEverywhere();
        legsCountOneByOne();
        marksAreOfTheWayAsItIsNow();
        theWayThereOfAnEmptyBox();
        wrongAsks();
        countsOfAll();
        countsOfWays();
        Check.end();
    }

    private static String marks(LunchMarks x) {
        StringBuilder text = new StringBuilder();
        for (int i = 0; i < x.count(2); i++) {
            text.append(x.mark(i)).append(' ');
        }
        return text.append("of ").append(x.count(6)).toString();
    }

    private static void likeWaysShareAMark() {
        LunchMarks x = Nets.withStations(0, 0, 0);
        Nets.train(x, 2, 0, 10, 1, 20, 2, 30);
        Nets.train(x, 9, 0, 15, 2, 40);
        x.box(0, 9, 0, 2, 0, 999);
        x.box(1, 0, 0, 0, 0, 999);
        x.box(0, 0, 3, 2, 7, 1);
        x.box(0, 0, 0, 2, 0, 999);
        x.box(0, 0, 0, 2, 0, 999);
        Check.due("14: without ways", "-1 -1 -1 -1 -1 of 0", () -> marks(x));
        x.plan();
        Check.due("14: with ways", "0 -1 0 1 1 of 2", () -> marks(x));
    }

    private static void noLegsShareOneEverywhere() {
        LunchMarks x = Nets.withStations(0, 5);
        Nets.train(x, 9, 0, 10, 1, 20);
        x.box(0, 0, 0, 1, 0, 999);
        x.box(0, 0, 0, 0, 0, 999);
        x.box(1, 0, 9, 1, 0, 999);
        x.plan();
        Check.due("14: none, too", "0 1 1 of 2", () -> marks(x));
    }

    private static void legsCountOneByOne() {
        LunchMarks x = Nets.withStations(0, 0, 0, 0);
        Nets.train(x, 9, 0, 10, 1, 20, 0, 25, 1, 30, 3, 70);
        Nets.train(x, 9, 1, 40, 2, 50, 3, 60);
        x.box(0, 0, 0, 1, 0, 999);
        x.box(0, 0, 15, 1, 0, 999);
        x.box(0, 0, 0, 2, 0, 999);
        x.box(0, 0, 0, 3, 0, 999);
        x.box(1, 0, 35, 2, 0, 999);
        x.box(1, 0, 35, 3, 0, 999);
        x.box(0, 0, 5, 2, 0, 999);
        x.plan();
        Check.due("14: other stops, more legs", "0 1 2 3 4 5 2 of 6", () -> marks(x));
    }

    private static void marksAreOfTheWayAsItIsNow() {
        LunchMarks x = Nets.withStations(0, 0);
        Nets.train(x, 1, 0, 10, 1, 20);
        Nets.train(x, 9, 0, 11, 1, 21);
        x.box(0, 0, 0, 1, 0, 999);
        x.box(0, 0, 0, 1, 0, 999);
        x.box(1, 0, 0, 1, 0, 999);
        x.plan();
        Check.due("14: planned", "0 1 2 of 3", () -> marks(x));
        x.cancel(0);
        Check.due("14: led anew", "0 0 1 of 2", () -> marks(x));
        x.cancel(1);
        Check.due("14: those that stand have none", "-1 -1 0 of 1", () -> marks(x));
    }

    private static void theWayThereOfAnEmptyBox() {
        LunchMarks x = Nets.withStations(0, 0);
        Nets.train(x, 9, 0, 10, 1, 20);
        Nets.train(x, 1, 1, 30, 0, 40);
        x.box(1, 0, 0, 0, 0, 999);
        x.box(0, 0, 0, 1, 0, 999);
        x.box(0, 0, 0, 1, 0, 999);
        x.plan();
        x.minutes(20);
        x.empty(1, 25);
        Check.due("14: empty", "0 1 1 of 2", () -> marks(x));
        x.plan();
        Check.due("14: its way back has none", "0 1 1 of 2", () -> marks(x));
    }

    private static void wrongAsks() {
        LunchMarks x = Nets.withStations(0);
        Check.noSuch("14: no box", () -> x.mark(0));
        x.box(0, 0, 0, 0, 0, 0);
        for (int wrong : new int[] {-1, 1, Integer.MIN_VALUE, Integer.MAX_VALUE}) {
            Check.noSuch("14: box " + wrong, () -> x.mark(wrong));
        }
        for (int wrong : new int[] {-1, 8, Integer.MIN_VALUE, Integer.MAX_VALUE}) {
            Check.noSuch("17: what " + wrong, () -> x.count(wrong));
        }
    }

    private static String counts(LunchMarks x) {
        StringBuilder text = new StringBuilder();
        for (int what = 0; what <= 7; what++) {
            text.append(what == 0 ? "" : " ").append(x.count(what));
        }
        return text.toString();
    }

    private static void countsOfAll() {
        LunchMarks x = Nets.withStations(0, 0, 0, 0);
        Nets.train(x, 9, 0, 10, 1, 20);
        x.train(1);
        x.train(99);
        x.carrier(1);
        x.carrier(2);
        x.carrier(3);
        x.carrier(99);
        x.box(0, 0, 0, 1, 0, 999);
        x.box(0, 0, 0, 1, 0, 19);
        x.box(0, 0, 0, 0, 0, 999);
        x.box(0, 0, 0, 3, 0, 0);
        x.box(9, 0, 0, 3, 0, 0);
        x.minutes(8);
        Check.due("17: ahead of planning", "4 2 4 8 0 0 0 3", () -> counts(x));
        LunchMarks y = Nets.withStations(0, 0, 0, 0);
        Nets.train(y, 9, 0, 10, 1, 20);
        y.box(0, 0, 0, 1, 0, 999);
        y.box(0, 0, 0, 1, 0, 19);
        y.box(0, 0, 0, 0, 0, 999);
        y.box(0, 0, 0, 3, 0, 0);
        y.plan();
        y.minutes(9);
        Check.due("17: planned", "4 1 4 9 3 1 2 0", () -> counts(y));
        y.cancel(0);
        Check.due("17: cancelled; late ones have a way", "4 1 4 9 1 0 1 0", () -> counts(y));
    }

    private static void countsOfWays() {
        LunchMarks x = Nets.withStations(0, 0);
        Nets.train(x, 9, 0, 10, 1, 20);
        x.box(0, 0, 0, 1, 0, 5);
        x.box(0, 0, 0, 1, 0, 5);
        x.plan();
        x.minutes(20);
        Check.row("17: there", "2 2 1", () -> x.count(4), () -> x.count(5), () -> x.count(6));
        x.empty(0, 30);
        Check.row("17: an empty one without a way back", "1 1 1", () -> x.count(4), () -> x.count(5), () -> x.count(6));
        Nets.train(x, 9, 1, 40, 0, 50);
        x.plan();
        Check.row("17: back, and not late", "2 1 1", () -> x.count(4), () -> x.count(5), () -> x.count(6));
    }
}
