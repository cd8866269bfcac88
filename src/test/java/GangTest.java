/** Promises 15 and 16: carrier, share. */
public final class GangTest {
    public static void main(String[] args) {
        carriersAreNumberedUpToForty();
        daysHaveEdges();
        theRestGoesToTheGreatest();
        ofLikeRestsTheFirst();
        withoutDaysAllAlike();
        greatSums();
        nothingIsLost();
        wrongAsks();
        Check.end();
    }

    private static LunchMarks withDays(int... days) {
        LunchMarks x = new LunchMarks();
        for (int worked : days) {
            x.carrier(worked);
        }
        return x;
    }

    private static String shares(LunchMarks x, int sum) {
        StringBuilder text = new StringBuilder();
        for (int i = 0; i < x.count(7); i++) {
            text.append(i == 0 ? "" : " ").append(x.share(i, sum));
        }
        return text.toString();
    }

    private static void carriersAreNumberedUpToForty() {
        LunchMarks x = new LunchMarks();
        for (int i = 0; i < 40; i++) {
            Check.due("15: number", i, () -> x.carrier(1));
        }
        Check.row("15: a 41st", "-1 40", () -> x.carrier(1), () -> x.count(7));
    }

    private static void daysHaveEdges() {
        LunchMarks x = new LunchMarks();
        Check.row("15: days", "-1 -1 -1 -1 0 1 2", () -> x.carrier(-1), () -> x.carrier(32),
                () -> x.carrier(Integer.MIN_VALUE), () -> x.carrier(Integer.MAX_VALUE), () -> x.carrier(0),
                () -> x.carrier(31), () -> x.count(7));
    }

    private static void theRestGoesToTheGreatest() {
        Check.due("16: 30/7, 0, 40/7", "4 0 6", () -> shares(withDays(3, 0, 4), 10));
        Check.due("16: two of three are left", "1 2 4", () -> shares(withDays(1, 2, 3), 7));
        Check.due("16: whole parts", "2 4 6", () -> shares(withDays(1, 2, 3), 12));
        Check.due("16: nothing to part", "0 0 0", () -> shares(withDays(1, 2, 3), 0));
        Check.due("16: one carrier", "17", () -> shares(withDays(5), 17));
    }

    private static void ofLikeRestsTheFirst() {
        Check.due("16: 10/3 each", "4 3 3", () -> shares(withDays(2, 2, 2), 10));
        Check.due("16: 11/3 each", "4 4 3", () -> shares(withDays(2, 2, 2), 11));
        Check.due("16: one", "1 0", () -> shares(withDays(31, 31), 1));
    }

    private static void withoutDaysAllAlike() {
        Check.due("16: all days 0", "4 4 3", () -> shares(withDays(0, 0, 0), 11));
        Check.due("16: one alone", "5", () -> shares(withDays(0), 5));
        Check.due("16: one has worked", "0 5 0", () -> shares(withDays(0, 1, 0), 5));
    }

    private static void greatSums() {
        Check.due("16: the greatest", "10000000 0", () -> shares(withDays(31, 0), 10000000));
        Check.due("16: parted", "9687500 312500", () -> shares(withDays(31, 1), 10000000));
    }

    private static void nothingIsLost() {
        LunchMarks x = new LunchMarks();
        for (int i = 0; i < 40; i++) {
            x.carrier(i * 7 % 32);
        }
        for (int sum : new int[] {1, 39, 40, 41, 999, 9999999, 10000000}) {
            int all = 0;
            for (int i = 0; i < 40; i++) {
                all += x.share(i, sum);
            }
            final int parted = all;
            Check.due("16: parted whole", sum, () -> parted);
        }
    }

    private static void wrongAsks() {
        LunchMarks none = new LunchMarks();
        Check.noSuch("16: nobody", () -> none.share(0, 10));
        LunchMarks x = withDays(1, 2);
        for (int wrong : new int[] {-1, 2, Integer.MIN_VALUE, Integer.MAX_VALUE}) {
            Check.noSuch("16: carrier " + wrong, () -> x.share(wrong, 10));
        }
        for (int wrong : new int[] {-1, 10000001, Integer.MIN_VALUE, Integer.MAX_VALUE}) {
            Check.illegal("16: sum " + wrong, () -> x.share(0, wrong));
            Check.noSuch("16: no carrier goes ahead of a wrong sum", () -> x.share(2, wrong));
        }
    }
}
