/** Promise 9, sentence by sentence, on both sides of each boundary. */
public final class EdgeEmptyTest {
    private static final Story SIX = Story.withStations(0, 0, 0, 0, 0, 0);

    public static void main(String[] args) {
        arrivedByNow();
        neverArrived();
        toldAlready();
        readyIsAMinute();
        readyIsNotLessThanNow();
        noSuchBox();
        itBeginsAnew();
        itsWayThereStaysLed();
        fromDeskToHome();
        threeLegsBack();
        dueAtTheLastMinute();
        noWayYet();
        inItsTurn();
        Check.end();
    }

    /** There at 26: SORTED 4, on 10, off 20, SORTED 22. */
    private static Story led() {
        return Story.withStations(1, 2).train(1, 0, 10, 1, 20).box(0, 3, 0, 1, 4, 25).planned();
    }

    private static void arrivedByNow() {
        Edge.due("9: it ARRIVES NOW", "true 1", led().at(26), x -> x.empty(0, 30) + " " + x.of(0, 6));
        Edge.refused("9: false: it ARRIVES a MINUTE later", false, led().at(25), x -> x.empty(0, 30));
        Edge.due("9: it ARRIVED a MINUTE ago", true, led().at(27), x -> x.empty(0, 30));
        Edge.due("9: without LEGS it ARRIVES NOW", true, SIX.boxes(1, 0, 0, 0).planned(), x -> x.empty(0, 0));
        Edge.refused("9: without LEGS, a MINUTE later", false, SIX.box(0, 0, 0, 0, 1, 9).planned(), x -> x.empty(0, 5));
        Edge.due("9: it ARRIVES at the day's last MINUTE", true, SIX.boxes(1, 0, 1439, 0).planned().at(1439),
                x -> x.empty(0, 1439));
        Edge.refused("9: it ARRIVES behind it", false, SIX.box(0, 0, 1439, 0, 1, 9).planned().at(1439),
                x -> x.empty(0, 1439));
    }

    private static void neverArrived() {
        Edge.refused("9: false: it isn't PLANNED", false, SIX.boxes(1, 0, 0, 0).at(50), x -> x.empty(0, 60));
        Edge.refused("9: false: it has no WAY", false, SIX.boxes(1, 0, 0, 1).planned().at(50), x -> x.empty(0, 60));
        Edge.refused("9: false: it STANDS", false, led().cancelled(0).at(50), x -> x.empty(0, 60));
        Edge.refused("9: false: it isn't GONE", false, SIX.boxes(1, 0, 51, 0).planned().at(50), x -> x.empty(0, 60));
    }

    private static void toldAlready() {
        Story told = led().at(26).emptied(0, 30);
        Edge.refused("9: false: told already, at the same READY", false, told, x -> x.empty(0, 30));
        Edge.refused("9: false: told already, at another", false, told, x -> x.empty(0, 40));
        Story back = led().train(1, 1, 50, 0, 60).at(26).emptied(0, 30).planned();
        Edge.refused("9: false: told already, it is led back", false, back, x -> x.empty(0, 40));
        Edge.refused("9: false: told already, it is back", false, back.at(64), x -> x.empty(0, 70));
        Edge.due("9: another box isn't told yet", true, SIX.boxes(2, 0, 0, 0).planned().emptied(0, 0),
                x -> x.empty(1, 0));
    }

    private static void readyIsAMinute() {
        Edge.due("9: READY 1439", true, led().at(26), x -> x.empty(0, 1439));
        Edge.due("9: READY 0, NOW 0", true, SIX.boxes(1, 0, 0, 0).planned(), x -> x.empty(0, 0));
        for (int wrong : new int[] {-1, 1440, Integer.MIN_VALUE, Integer.MAX_VALUE}) {
            Edge.refused("9: false: no MINUTE: " + wrong, false, led().at(26), x -> x.empty(0, wrong));
            Edge.refused("9: false: no MINUTE, NOW 0: " + wrong, false, SIX.boxes(1, 0, 0, 0).planned(),
                    x -> x.empty(0, wrong));
        }
    }

    private static void readyIsNotLessThanNow() {
        Edge.due("9: READY is NOW", true, led().at(40), x -> x.empty(0, 40));
        Edge.refused("9: false: READY is a MINUTE less than NOW", false, led().at(40), x -> x.empty(0, 39));
        Edge.refused("9: false: READY is 0", false, led().at(40), x -> x.empty(0, 0));
        Edge.due("9: READY is NOW, the last MINUTE", true, led().at(1439), x -> x.empty(0, 1439));
        Edge.refused("9: false: READY is less than the last MINUTE", false, led().at(1439), x -> x.empty(0, 1438));
        Edge.due("9: refused first, then taken", "false true", led().at(40),
                x -> x.empty(0, 39) + " " + x.empty(0, 40));
    }

    private static void noSuchBox() {
        Story arrived = SIX.boxes(2, 0, 0, 0).planned().at(5);
        for (int wrong : new int[] {-1, 2, 60, Integer.MIN_VALUE, Integer.MAX_VALUE}) {
            Edge.noSuch("9: no such box: " + wrong, arrived, x -> x.empty(wrong, 5));
            Edge.noSuch("9: no such box, and no MINUTE: " + wrong, arrived, x -> x.empty(wrong, 1440));
        }
        Edge.due("9: the last box", true, arrived, x -> x.empty(1, 5));
    }

    private static void itBeginsAnew() {
        Edge.due("9: as it was", "1 26 1 1 -1 -1 0", led().at(26), x -> Nets.state(x, 0));
        Edge.due("9: no LEGS, no WAY, not GONE, not LATE, EMPTY", "0 -1 0 0 -1 -1 1", led().at(26).emptied(0, 30),
                x -> Nets.state(x, 0));
        Edge.due("9: not GONE at READY either, without a WAY", "0 -1 0 0 -1 -1 1", led().at(26).emptied(0, 26),
                x -> Nets.state(x, 0));
    }

    private static void itsWayThereStaysLed() {
        Story back = led().train(1, 1, 50, 0, 60).at(26).emptied(0, 30);
        Edge.due("9: LEGS, load and MARK there", "0:0-1 1 0 1", back,
                x -> Nets.legs(x, 0) + " " + x.load(0, 0) + " " + x.mark(0) + " " + x.count(6));
        Edge.due("9: the same, led back, too", "0:0-1 1:0-1 1 0 1", back.planned(),
                x -> Nets.legs(x, 0) + " " + x.load(0, 0) + " " + x.mark(0) + " " + x.count(6));
        Edge.due("9: its WAY back takes ROOM", 1, back.planned(), x -> x.load(1, 0));
    }

    private static Story backBy(int minute) {
        return led().train(1, 1, minute, 0, 60).at(26).emptied(0, 30).planned();
    }

    private static void fromDeskToHome() {
        Edge.due("9: WALK 4 and SORTED 2 at the DESK, just in time; SORTED 1 and WALK 3 at HOME", 64, backBy(36),
                x -> x.of(0, 1));
        Edge.due("9: a MINUTE too late", -1, backBy(35), x -> x.of(0, 1));
        Edge.due("9: no LEGS back, if both STATIONS are one", "0 70",
                Story.withStations(5).box(0, 10, 0, 0, 20, 99).planned().at(35).emptied(0, 35).planned(),
                x -> x.of(0, 0) + " " + x.of(0, 1));
    }

    private static Story thereAndBack(int legs) {
        Story story = SIX.train(1, 0, 10, 1, 20).train(1, 1, 20, 2, 30).train(1, 2, 30, 3, 40);
        int at = 3;
        for (int i = 0; i < legs; i++) {
            int next = i == legs - 1 ? 0 : i == 0 ? 4 : i == 1 ? 5 : 1;
            story = story.train(1, at, 50 + 10 * i, next, 60 + 10 * i);
            at = next;
        }
        return story.boxes(1, 0, 0, 3).planned().at(40).emptied(0, 40).planned();
    }

    private static void threeLegsBack() {
        Edge.due("9: three LEGS there, three back", "3 80 0:0-1 1:0-1 2:0-1 3:0-1 4:0-1 5:0-1", thereAndBack(3),
                x -> x.of(0, 0) + " " + x.of(0, 1) + " " + Nets.legs(x, 0));
        Edge.due("9: not four", "0 -1 0:0-1 1:0-1 2:0-1", thereAndBack(4),
                x -> x.of(0, 0) + " " + x.of(0, 1) + " " + Nets.legs(x, 0));
    }

    private static void dueAtTheLastMinute() {
        Story arrived = SIX.train(1, 1, 1300, 0, 1419).train(1, 1, 1300, 0, 1420).train(2, 0, 30, 1, 40)
                .box(0, 20, 0, 1, 0, 39).box(0, 20, 0, 1, 0, 39).planned().at(40);
        Edge.due("9: LATE there", "1 1", arrived, x -> x.of(0, 3) + " " + x.of(1, 3));
        Story back = arrived.emptied(0, 40).emptied(1, 40).planned();
        Edge.due("9: DUE 1439: at that MINUTE it isn't LATE", "1439 0", back, x -> x.of(0, 1) + " " + x.of(0, 3));
        Edge.due("9: DUE 1439: a MINUTE later it is", "1440 1", back, x -> x.of(1, 1) + " " + x.of(1, 3));
        Edge.due("9: counted so", "2 1", back, x -> x.count(4) + " " + x.count(5));
    }

    private static void noWayYet() {
        Story told = led().train(1, 1, 50, 0, 60).at(26).emptied(0, 30);
        Edge.due("9: READY back is NOW", "1 64", told.at(30), x -> x.plan() + " " + x.of(0, 1));
        Edge.refused("9: READY back is less than NOW", 0, told.at(31), x -> x.plan());
        Edge.due("9: GONE at READY", 1, told.planned().at(30), x -> x.of(0, 2));
        Edge.due("9: not GONE a MINUTE ahead of it", 0, told.planned().at(29), x -> x.of(0, 2));
        Edge.refused("9: not led back a second time", 0, told.planned(), x -> x.plan());
    }

    private static void inItsTurn() {
        Story first = SIX.train(2, 0, 10, 1, 20).boxes(1, 0, 0, 1).planned().at(20).emptied(0, 20).train(1, 1, 50, 0, 60)
                .boxes(1, 1, 20, 0).planned();
        Edge.due("9: EMPTY box 0 is led ahead of box 1", "60 -1", first, x -> x.of(0, 1) + " " + x.of(1, 1));
        Story second = SIX.train(2, 0, 10, 1, 20).boxes(1, 1, 20, 0).boxes(1, 0, 0, 1).planned().at(20).emptied(1, 20)
                .train(1, 1, 50, 0, 60).planned();
        Edge.due("9: EMPTY box 1 behind box 0", "60 -1", second, x -> x.of(0, 1) + " " + x.of(1, 1));
    }
}
