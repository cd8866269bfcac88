import java.util.ArrayList;
import java.util.List;

/** A run of calls that is told on a new object as often as it is wanted; each "then" makes a longer one. */
final class Story {
    /** Something that is done with the object, or asked of it. */
    interface Step {
        Object on(LunchMarks x);
    }

    /** A step holds two calls at most, and what is asked behind them some forty: an object has 512. */
    private static final int MOST_STEPS = 230;

    /** Calls that would answer otherwise, if a refused call had left behind what can't be asked. */
    private static final Step[] GOING_ON = {
        x -> x.stop(0, 1, 600), x -> x.stop(0, 0, 601), x -> x.stop(1, 1, 600), x -> x.stop(1, 0, 601),
        x -> x.stop(2, 1, 600), x -> x.stop(2, 0, 601), x -> x.box(0, 1, 590, 1, 1, 700), x -> x.box(1, 1, 590, 0, 1, 700),
        x -> x.plan(), x -> x.cancel(0), x -> x.cancel(1), x -> x.cancel(2), x -> x.plan(), x -> x.minutes(1),
        x -> x.empty(0, 640), x -> x.empty(1, 640), x -> x.plan(),
        // new ones last: if there is no place for them, they are what a test has refused
        x -> x.carrier(5), x -> x.station(9), x -> x.train(3), x -> x.stop(x.count(1) - 1, 0, 700),
        x -> x.stop(x.count(1) - 1, 1, 701), x -> x.stop(x.count(1) - 1, 0, 702), x -> x.plan()};

    /** Boxes at many minutes from now on, which show what stations and trains are like. */
    private static final Step[] RIDES = rides();

    private final List<Step> steps;

    private Story(List<Step> ahead, Step... more) {
        steps = new ArrayList<>(ahead);
        steps.addAll(List.of(more));
        sure(steps.size() <= MOST_STEPS, "run is too long");
    }

    static Story begun() {
        return new Story(List.of());
    }

    static Story withStations(int... sorting) {
        Story story = begun();
        for (int minutes : sorting) {
            story = story.then(x -> sure(x.station(minutes) >= 0, "station can't be made"));
        }
        return story;
    }

    Story then(Step... more) {
        return new Story(steps, more);
    }

    /** A train with stops told as station, minute, station, minute and so on. */
    Story train(int room, int... stops) {
        Story story = then(x -> sure(x.train(room) >= 0, "train can't be made"));
        for (int i = 0; i < stops.length; i += 2) {
            int station = stops[i];
            int minute = stops[i + 1];
            int number = i / 2;
            story = story.then(x -> sure(x.stop(x.count(1) - 1, station, minute) == number, "stop can't be made"));
        }
        return story;
    }

    Story box(int home, int walk, int ready, int desk, int walkThere, int due) {
        return then(x -> sure(x.box(home, walk, ready, desk, walkThere, due) >= 0, "box can't be made"));
    }

    /** As many boxes as told that go from one station to another, without a walk. */
    Story boxes(int number, int home, int ready, int desk) {
        Story story = this;
        for (int i = 0; i < number; i++) {
            story = story.box(home, 0, ready, desk, 0, 1439);
        }
        return story;
    }

    Story planned() {
        return then(x -> x.plan());
    }

    /** On to a minute of the day. */
    Story at(int minute) {
        return then(x -> sure(x.minutes(minute - x.count(3)) == minute, "minute can't be reached"));
    }

    Story cancelled(int train) {
        return then(x -> sure(x.cancel(train) >= 0, "train can't be cancelled"));
    }

    Story emptied(int box, int ready) {
        return then(x -> sure(x.empty(box, ready), "box can't be told empty"));
    }

    /** A new object behind all the calls. */
    LunchMarks told() {
        LunchMarks x = new LunchMarks();
        for (Step step : steps) {
            step.on(x);
        }
        return x;
    }

    /** All that can be asked of what is there; objects are made anew on the way, so that none is asked too much. */
    String everything() {
        StringBuilder text = new StringBuilder();
        LunchMarks all = told();
        for (int what = 0; what <= 7; what++) {
            text.append(what == 0 ? "counts " : " ").append(all.count(what));
        }
        for (int box = 0; box < all.count(2); box++) {
            LunchMarks x = told();
            text.append("; box ").append(box).append(": ").append(Nets.state(x, box)).append(", where ")
                    .append(x.where(box)).append(", mark ").append(x.mark(box)).append(", by ").append(Nets.legs(x, box));
        }
        for (int train = 0; train < all.count(1); train++) {
            text.append("; train ").append(train).append(':').append(Nets.loads(told(), train));
        }
        LunchMarks gang = told();
        for (int i = 0; i < gang.count(7); i++) {
            text.append(i == 0 ? "; shares " : " ").append(gang.share(i, 9999991));
        }
        return text.toString();
    }

    /** What more calls answer, and all that can be asked behind them. */
    String goingOn() {
        return answersOf(GOING_ON) + " and " + answersOf(RIDES);
    }

    private String answersOf(Step[] more) {
        StringBuilder text = new StringBuilder();
        LunchMarks x = told();
        Story longer = this;
        for (Step step : more) {
            text.append(Check.told(() -> step.on(x))).append(' ');
            longer = longer.then(y -> Check.told(() -> step.on(y)));
        }
        return text + longer.everything();
    }

    private static Step[] rides() {
        List<Step> rides = new ArrayList<>();
        for (int station = 0; station < 3; station++) {
            int at = station;
            rides.add(x -> x.box(at, 0, x.count(3), at, 0, 0));
        }
        for (int i = 0; i < 10; i++) {
            int later = 10 * i;
            rides.add(x -> x.box(0, 0, x.count(3) + later, 1, 0, 0));
            rides.add(x -> x.box(1, 0, x.count(3) + later, 0, 0, 0));
        }
        rides.add(x -> x.plan());
        return rides.toArray(new Step[0]);
    }

    private static boolean sure(boolean holds, String what) {
        if (!holds) {
            throw new IllegalStateException("a test's own " + what);
        }
        return true;
    }
}
