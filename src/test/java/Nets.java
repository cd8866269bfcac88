/** Objects that several tests begin with. */
final class Nets {
    private Nets() {
    }

    static LunchMarks withStations(int... sorting) {
        LunchMarks x = new LunchMarks();
        for (int minutes : sorting) {
            x.station(minutes);
        }
        return x;
    }

    /** A train with stops told as station, minute, station, minute and so on; its number. */
    static int train(LunchMarks x, int room, int... stops) {
        int train = x.train(room);
        for (int i = 0; i < stops.length; i += 2) {
            if (x.stop(train, stops[i], stops[i + 1]) != i / 2) {
                throw new IllegalStateException("a test's own train can't be made");
            }
        }
        return train;
    }

    /** A box's answers of `of`, 0 to 6, in one line. */
    static String state(LunchMarks x, int box) {
        StringBuilder text = new StringBuilder();
        for (int what = 0; what <= 6; what++) {
            text.append(what == 0 ? "" : " ").append(x.of(box, what));
        }
        return text.toString();
    }

    /** The legs that a box is led, as train:on-off, in one line. */
    static String legs(LunchMarks x, int box) {
        StringBuilder text = new StringBuilder();
        for (int i = 0; i < 7; i++) {
            final int leg = i;
            if (Check.told(() -> x.leg(box, leg, 0)).equals(Check.NO_SUCH)) {
                return text.toString();
            }
            text.append(i == 0 ? "" : " ").append(x.leg(box, i, 0)).append(':')
                    .append(x.leg(box, i, 1)).append('-').append(x.leg(box, i, 2));
        }
        return text + " and more";
    }

    /** The loads of a train's spans, in one line, up to the first that there isn't. */
    static String loads(LunchMarks x, int train) {
        StringBuilder text = new StringBuilder();
        for (int i = 0; i < 10; i++) {
            final int span = i;
            String load = Check.told(() -> x.load(train, span));
            if (load.equals(Check.NO_SUCH)) {
                return text.toString();
            }
            text.append(' ').append(load);
        }
        return text + " and more";
    }
}
