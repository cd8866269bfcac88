/** Promises 15 and 16, sentence by sentence, on both sides of each boundary. */
public final class EdgeGangTest {
    private static final Story NEW = Story.begun();

    public static void main(String[] args) {
        fortyCarriers();
        daysAreZeroToThirtyOne();
        refusedCarriersTakeNoNumber();
        noSuchCarrier();
        sumIsZeroToTenMillion();
        noSuchCarrierIsAheadOfAWrongSum();
        oneCarrier();
        cutDown();
        theGreatestRest();
        ofLikeRestsTheFirst();
        withoutDaysNothing();
        allDaysZero();
        fortyShareTheMost();
        aSumIsPartedWhole();
        sharesAreNotKept();
        Check.end();
    }

    private static Story gang(int... days) {
        Story story = NEW;
        for (int worked : days) {
            story = story.then(x -> x.carrier(worked));
        }
        return story;
    }

    private static Story gangOf(int number, int days) {
        Story story = NEW;
        for (int i = 0; i < number; i++) {
            story = story.then(x -> x.carrier(days));
        }
        return story;
    }

    private static String shares(LunchMarks x, int sum) {
        StringBuilder text = new StringBuilder();
        for (int i = 0; i < x.count(7); i++) {
            text.append(i == 0 ? "" : " ").append(x.share(i, sum));
        }
        return text.toString();
    }

    private static void parted(String sentence, String want, int sum, int... days) {
        Edge.due(sentence, want, gang(days), x -> shares(x, sum));
    }

    private static void fortyCarriers() {
        Edge.due("15: the first", 0, NEW, x -> x.carrier(1));
        Edge.due("15: the fortieth", 39, gangOf(39, 1), x -> x.carrier(1));
        Edge.due("15: forty are counted", 40, gangOf(40, 1), x -> x.count(7));
        Edge.none("15: NONE: there are 40", gangOf(40, 1), x -> x.carrier(1));
        Edge.none("15: NONE: there are 40, and the days are wrong", gangOf(40, 1), x -> x.carrier(32));
        Edge.noSuch("15: a 41st isn't there", gangOf(40, 1).then(x -> x.carrier(1)), x -> x.share(40, 10));
    }

    private static void daysAreZeroToThirtyOne() {
        Edge.due("15: days 0", 0, NEW, x -> x.carrier(0));
        Edge.due("15: days 31", 0, NEW, x -> x.carrier(31));
        Edge.due("15: days 0 and 31 are kept as told", "0 31 1", gang(0, 31, 1), x -> shares(x, 32));
        for (int wrong : new int[] {-1, 32, Integer.MIN_VALUE, Integer.MAX_VALUE}) {
            Edge.none("15: days " + wrong, NEW, x -> x.carrier(wrong));
            Edge.none("15: days " + wrong + " behind others", gang(3, 4), x -> x.carrier(wrong));
        }
    }

    private static void refusedCarriersTakeNoNumber() {
        Edge.due("15: the number behind refused ones", 1, gang(3, -1, 32), x -> x.carrier(3));
    }

    private static void noSuchCarrier() {
        Edge.noSuch("16: no carriers", NEW, x -> x.share(0, 10));
        for (int wrong : new int[] {-1, 2, 40, Integer.MIN_VALUE, Integer.MAX_VALUE}) {
            Edge.noSuch("16: no such carrier: " + wrong, gang(1, 2), x -> x.share(wrong, 10));
        }
        Edge.asked("16: the first carrier", 3, gang(1, 2), x -> x.share(0, 9));
        Edge.asked("16: the last carrier", 6, gang(1, 2), x -> x.share(1, 9));
        Edge.asked("16: the fortieth carrier", 2, gangOf(40, 1), x -> x.share(39, 80));
    }

    private static void sumIsZeroToTenMillion() {
        Edge.asked("16: sum 0", 0, gang(1, 2), x -> x.share(1, 0));
        Edge.asked("16: sum 1", 1, gang(1, 2), x -> x.share(1, 1));
        Edge.asked("16: sum 10,000,000", 6666667, gang(1, 2), x -> x.share(1, 10000000));
        for (int wrong : new int[] {-1, 10000001, Integer.MIN_VALUE, Integer.MAX_VALUE}) {
            Edge.illegal("16: sum " + wrong, gang(1, 2), x -> x.share(0, wrong));
            Edge.illegal("16: sum " + wrong + ", all days 0", gang(0, 0), x -> x.share(1, wrong));
        }
    }

    private static void noSuchCarrierIsAheadOfAWrongSum() {
        Edge.noSuch("16: no such carrier, and a sum below 0", gang(1, 2), x -> x.share(2, -1));
        Edge.noSuch("16: no such carrier, and a sum above", gang(1, 2), x -> x.share(-1, 10000001));
    }

    private static void oneCarrier() {
        parted("16: n is 1", "17", 17, 5);
        parted("16: n is 1, of 31 days, the most", "10000000", 10000000, 31);
        parted("16: n is 1, without days", "10000000", 10000000, 0);
    }

    private static void cutDown() {
        parted("16: nothing is left", "2 4 6", 12, 1, 2, 3);
        parted("16: 13/6, 26/6, 39/6: the last has the greatest rest", "2 4 7", 13, 1, 2, 3);
        parted("16: 11/6, 22/6, 33/6: two are left", "2 4 5", 11, 1, 2, 3);
    }

    private static void theGreatestRest() {
        parted("16: 30/7 rest 2, 40/7 rest 5", "4 6", 10, 3, 4);
        parted("16: 9/5 rest 4, 36/5 rest 1", "2 7", 9, 1, 4);
        parted("16: rests 1, 2, 3 of 6, one is left", "1 2 4", 7, 1, 2, 3);
        parted("16: the greatest rest of the last, not the first", "0 0 1", 1, 1, 1, 2);
    }

    private static void ofLikeRestsTheFirst() {
        parted("16: one is left for three alike", "4 3 3", 10, 2, 2, 2);
        parted("16: two are left for three alike", "4 4 3", 11, 2, 2, 2);
        parted("16: none is left for three alike", "4 4 4", 12, 2, 2, 2);
        parted("16: the greatest first, then the first of like ones", "1 0 1", 2, 1, 1, 2);
    }

    private static void withoutDaysNothing() {
        parted("16: one alone has worked", "0 5 0", 5, 0, 1, 0);
        parted("16: those without days get no rest either", "0 3 0 2", 5, 0, 1, 0, 1);
    }

    private static void allDaysZero() {
        parted("16: all days 0: as if each had 1", "4 4 3", 11, 0, 0, 0);
        parted("16: all days 0, the sum is less than n", "1 1 0", 2, 0, 0, 0);
        parted("16: all days 0, sum 0", "0 0 0", 0, 0, 0, 0);
        parted("16: a single day, and it isn't all days 0", "0 0 11", 11, 0, 0, 1);
        Edge.due("16: forty without days, the most", "250000 250000", gangOf(40, 0),
                x -> x.share(0, 10000000) + " " + x.share(39, 10000000));
        Edge.due("16: forty without days, one is left", "1 0 0", gangOf(40, 0),
                x -> x.share(0, 1) + " " + x.share(1, 1) + " " + x.share(39, 1));
    }

    private static void fortyShareTheMost() {
        Edge.due("16: forty of 31 days", "250000 250000", gangOf(40, 31),
                x -> x.share(0, 10000000) + " " + x.share(39, 10000000));
        Edge.due("16: forty of 31 days, one less: the last lacks it", "250000 250000 249999", gangOf(40, 31),
                x -> x.share(0, 9999999) + " " + x.share(38, 9999999) + " " + x.share(39, 9999999));
        parted("16: 31 days against 1, the most", "9687500 312500", 10000000, 31, 1);
    }

    private static void aSumIsPartedWhole() {
        int[] days = new int[40];
        for (int i = 0; i < days.length; i++) {
            days[i] = i * 7 % 32;
        }
        for (int sum : new int[] {0, 1, 39, 40, 41, 9999999, 10000000}) {
            Edge.due("16: parted whole: " + sum, sum, gang(days), x -> {
                int all = 0;
                for (int i = 0; i < days.length; i++) {
                    all += x.share(i, sum);
                }
                return all;
            });
        }
    }

    private static void sharesAreNotKept() {
        Edge.due("16: asked again, the same", "5 5", gang(1, 1), x -> x.share(0, 10) + " " + x.share(0, 10));
        Edge.due("16: parted anew with another carrier", "3 2 5", gang(1, 1).then(x -> x.share(0, 10), x -> x.carrier(2)),
                x -> shares(x, 10));
    }
}
