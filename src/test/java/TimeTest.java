/** Promises 7 and 13: minutes, where. */
public final class TimeTest {
    public static void main(String[] args) {
        theDayHasAnEnd();
        whereALedBoxIs();
        whereABoxWithoutLegsIs();
        whereAStandingBoxIs();
        whereAnEmptyBoxIs();
        fromTrainToTrainAtOnce();
        wrongAsks();
        Check.end();
    }

    private static void theDayHasAnEnd() {
        LunchMarks x = new LunchMarks();
        Check.row("7: on", "0 5 1438", () -> x.minutes(0), () -> x.minutes(5), () -> x.minutes(1433));
        Check.illegal("7: back", () -> x.minutes(-1));
        Check.illegal("7: far back", () -> x.minutes(Integer.MIN_VALUE));
        Check.illegal("7: over the day's end", () -> x.minutes(2));
        Check.illegal("7: far over", () -> x.minutes(Integer.MAX_VALUE));
        Check.row("7: nothing has changed", "1438 1439 1439", () -> x.count(3), () -> x.minutes(1), () -> x.minutes(0));
        Check.illegal("7: no minute is left", () -> x.minutes(1));
    }

    /** Where a box is at minutes told, one after another. */
    private static String walkThrough(LunchMarks x, int box, int... minutes) {
        StringBuilder text = new StringBuilder();
        for (int minute : minutes) {
            x.minutes(minute - x.count(3));
            text.append(x.where(box));
        }
        return text.toString();
    }

    private static void whereALedBoxIs() {
        LunchMarks x = Nets.withStations(5, 10, 4);
        Nets.train(x, 1, 0, 100, 1, 120);
        Nets.train(x, 1, 1, 140, 2, 160);
        x.box(0, 10, 80, 2, 7, 999);
        x.plan();
        Check.due("13: on its way", "0111122111221133344",
                () -> walkThrough(x, 0, 79, 80, 90, 95, 99, 100, 119, 120, 130, 139, 140, 159, 160, 163, 164, 165, 170,
                        171, 1439));
    }

    private static void whereABoxWithoutLegsIs() {
        LunchMarks x = Nets.withStations(5, 0);
        x.box(0, 10, 80, 0, 3, 999);
        x.box(1, 0, 80, 1, 0, 999);
        x.box(1, 0, 80, 1, 1, 999);
        x.box(0, 0, 80, 1, 1, 999);
        x.plan();
        Check.due("13: within one station", "0113344", () -> walkThrough(x, 0, 79, 80, 94, 95, 97, 98, 99));
        LunchMarks y = Nets.withStations(0);
        y.box(0, 0, 80, 0, 0, 999);
        y.box(0, 0, 80, 0, 1, 999);
        y.plan();
        Check.row("13: at once", "0 0 80 4 3", () -> y.where(0), () -> y.where(1), () -> y.minutes(80),
                () -> y.where(0), () -> y.where(1));
        Check.row("13: without a way it isn't gone", "0 0", () -> x.where(3), () -> x.of(3, 2));
    }

    private static void whereAStandingBoxIs() {
        LunchMarks x = Nets.withStations(0, 0, 0);
        Nets.train(x, 1, 0, 100, 1, 120);
        Nets.train(x, 1, 1, 140, 2, 160);
        x.box(0, 0, 80, 2, 7, 999);
        x.plan();
        x.cancel(1);
        Check.due("13: it goes as far as it is led", "011221111", () -> walkThrough(x, 0, 79, 80, 99, 100, 119, 120,
                139, 140, 1439));
    }

    private static void whereAnEmptyBoxIs() {
        LunchMarks x = Nets.withStations(0, 0);
        Nets.train(x, 1, 0, 10, 1, 20, 0, 60);
        Nets.train(x, 1, 1, 50, 0, 60);
        x.box(0, 3, 0, 1, 2, 999);
        x.plan();
        x.minutes(22);
        Check.row("13: there", "4 true 0", () -> x.where(0), () -> x.empty(0, 30), () -> x.where(0));
        x.plan();
        Check.due("13: back", "0112233344", () -> walkThrough(x, 0, 29, 30, 49, 50, 59, 60, 61, 62, 63, 64));
    }

    private static void fromTrainToTrainAtOnce() {
        LunchMarks x = Nets.withStations(0, 0, 0);
        Nets.train(x, 1, 0, 10, 1, 20);
        Nets.train(x, 1, 1, 20, 2, 30);
        x.box(0, 0, 5, 2, 0, 999);
        x.plan();
        Check.due("13: on the next train at the same minute", "1222244", () -> walkThrough(x, 0, 9, 10, 19, 20, 29, 30,
                31));
    }

    private static void wrongAsks() {
        LunchMarks x = Nets.withStations(0);
        Check.noSuch("13: no box", () -> x.where(0));
        x.box(0, 0, 0, 0, 0, 0);
        for (int wrong : new int[] {-1, 1, Integer.MIN_VALUE, Integer.MAX_VALUE}) {
            Check.noSuch("13: box " + wrong, () -> x.where(wrong));
        }
    }
}
