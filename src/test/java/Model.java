import java.math.BigInteger;
import java.util.ArrayList;
import java.util.Arrays;
import java.util.LinkedHashMap;
import java.util.List;
import java.util.Map;
import java.util.NoSuchElementException;

/** The document once more, plainest and slowest: all ways are listed, and nothing is kept that can be counted. */
final class Model {
    private static final int NONE = -1;

    private static final class Train {
        int room;
        boolean cancelled;
        final List<int[]> stops = new ArrayList<>();
    }

    /** One direction of a box; legs are rows of train, on, off. */
    private static final class Half {
        int from;
        int walk;
        int ready;
        int to;
        int walkTo;
        int due;
        List<int[]> legs = new ArrayList<>();
        boolean complete;
        boolean had;
        int stand = NONE;
        int since = NONE;
    }

    private static final class Box {
        final List<Half> halves = new ArrayList<>();

        Half last() {
            return halves.get(halves.size() - 1);
        }
    }

    private final List<Integer> sorting = new ArrayList<>();
    private final List<Train> trains = new ArrayList<>();
    private final List<Box> boxes = new ArrayList<>();
    private final List<Integer> carriers = new ArrayList<>();
    private int now = 0;

    private List<int[]> bestWay;
    private int bestThere;

    int station(int minutes) {
        if (sorting.size() == 10 || minutes < 0 || minutes > 60) {
            return NONE;
        }
        sorting.add(minutes);
        return sorting.size() - 1;
    }

    int train(int room) {
        if (trains.size() == 16 || room < 1 || room > 40) {
            return NONE;
        }
        Train t = new Train();
        t.room = room;
        trains.add(t);
        return trains.size() - 1;
    }

    private Train trainAt(int n) {
        if (n < 0 || n >= trains.size()) {
            throw new NoSuchElementException();
        }
        return trains.get(n);
    }

    private Box boxAt(int n) {
        if (n < 0 || n >= boxes.size()) {
            throw new NoSuchElementException();
        }
        return boxes.get(n);
    }

    int stop(int train, int station, int minute) {
        Train t = trainAt(train);
        if (t.stops.size() == 10 || station < 0 || station >= sorting.size() || minute < 0 || minute > 1439) {
            return NONE;
        }
        if (!t.stops.isEmpty()) {
            int[] last = t.stops.get(t.stops.size() - 1);
            if (last[0] == station || last[1] >= minute) {
                return NONE;
            }
        }
        for (int k = 0; k + 1 < t.stops.size(); k++) {
            if (onSpan(train, k) > 0) {
                return NONE;
            }
        }
        t.stops.add(new int[] {station, minute});
        return t.stops.size() - 1;
    }

    int box(int home, int walk, int ready, int desk, int walkThere, int due) {
        boolean stations = home >= 0 && home < sorting.size() && desk >= 0 && desk < sorting.size();
        boolean walks = walk >= 0 && walk <= 120 && walkThere >= 0 && walkThere <= 120;
        boolean minutes = ready >= 0 && ready <= 1439 && due >= 0 && due <= 1439;
        if (boxes.size() == 60 || !stations || !walks || !minutes) {
            return NONE;
        }
        Box b = new Box();
        b.halves.add(half(home, walk, ready, desk, walkThere, due));
        boxes.add(b);
        return boxes.size() - 1;
    }

    private static Half half(int from, int walk, int ready, int to, int walkTo, int due) {
        Half h = new Half();
        h.from = from;
        h.walk = walk;
        h.ready = ready;
        h.to = to;
        h.walkTo = walkTo;
        h.due = due;
        return h;
    }

    private int onSpan(int train, int span) {
        int n = 0;
        for (Box b : boxes) {
            for (Half h : b.halves) {
                for (int[] leg : h.legs) {
                    if (leg[0] == train && leg[1] <= span && span < leg[2]) {
                        n++;
                    }
                }
            }
        }
        return n;
    }

    private boolean isFree(int train, int on, int off) {
        for (int k = on; k < off; k++) {
            if (onSpan(train, k) >= trains.get(train).room) {
                return false;
            }
        }
        return true;
    }

    /** Lists every row of free legs that ends at the station told, and keeps the best. */
    private void list(List<int[]> way, int at, int minute, int to, int most) {
        if (at == to) {
            compare(way, minute);
        }
        if (most == 0) {
            return;
        }
        for (int t = 0; t < trains.size(); t++) {
            List<int[]> stops = trains.get(t).stops;
            if (trains.get(t).cancelled) {
                continue;
            }
            for (int on = 0; on < stops.size(); on++) {
                if (stops.get(on)[0] != at || stops.get(on)[1] < minute) {
                    continue;
                }
                for (int off = on + 1; off < stops.size(); off++) {
                    if (isFree(t, on, off)) {
                        way.add(new int[] {t, on, off});
                        int next = stops.get(off)[0];
                        list(way, next, stops.get(off)[1] + sorting.get(next), to, most - 1);
                        way.remove(way.size() - 1);
                    }
                }
            }
        }
    }

    private void compare(List<int[]> way, int there) {
        boolean better = bestWay == null || there < bestThere;
        if (bestWay != null && there == bestThere) {
            better = way.size() < bestWay.size()
                    || (way.size() == bestWay.size() && Arrays.compare(flat(way), flat(bestWay)) < 0);
        }
        if (better) {
            bestWay = new ArrayList<>(way);
            bestThere = there;
        }
    }

    private static int[] flat(List<int[]> legs) {
        return legs.stream().flatMapToInt(Arrays::stream).toArray();
    }

    private boolean lead(Half h, int at, int minute) {
        bestWay = null;
        list(new ArrayList<>(), at, minute, h.to, 3 - h.legs.size());
        if (bestWay == null) {
            return false;
        }
        h.legs.addAll(bestWay);
        h.complete = true;
        h.had = true;
        h.stand = NONE;
        h.since = NONE;
        return true;
    }

    private int begin(Half h) {
        return h.ready + h.walk + sorting.get(h.from);
    }

    private int endOf(Half h) {
        if (h.legs.isEmpty()) {
            return begin(h);
        }
        int[] leg = h.legs.get(h.legs.size() - 1);
        int[] stop = trains.get(leg[0]).stops.get(leg[2]);
        return stop[1] + sorting.get(stop[0]);
    }

    int plan() {
        int got = 0;
        for (Box b : boxes) {
            Half h = b.last();
            if (h.stand != NONE) {
                got += lead(h, h.stand, Math.max(h.since, now)) ? 1 : 0;
            } else if (!h.had && h.ready >= now) {
                got += lead(h, h.from, begin(h)) ? 1 : 0;
            }
        }
        return got;
    }

    int minutes(int n) {
        if (n < 0 || (long) now + n > 1439) {
            throw new IllegalArgumentException();
        }
        now += n;
        return now;
    }

    int cancel(int train) {
        Train t = trainAt(train);
        if (t.cancelled || t.stops.isEmpty() || t.stops.get(0)[1] <= now) {
            return NONE;
        }
        t.cancelled = true;
        List<Half> lost = new ArrayList<>();
        for (Box b : boxes) {
            Half h = b.last();
            for (int i = 0; i < h.legs.size(); i++) {
                if (h.legs.get(i)[0] == train) {
                    h.legs = new ArrayList<>(h.legs.subList(0, i));
                    h.complete = false;
                    lost.add(h);
                    break;
                }
            }
        }
        for (Half h : lost) {
            int at = h.from;
            if (!h.legs.isEmpty()) {
                int[] leg = h.legs.get(h.legs.size() - 1);
                at = trains.get(leg[0]).stops.get(leg[2])[0];
            }
            int minute = Math.max(endOf(h), now);
            if (!lead(h, at, minute)) {
                h.stand = at;
                h.since = minute;
            }
        }
        return lost.size();
    }

    boolean empty(int box, int ready) {
        Box b = boxAt(box);
        Half h = b.halves.get(0);
        boolean arrived = h.complete && endOf(h) + h.walkTo <= now;
        if (b.halves.size() > 1 || !arrived || ready < 0 || ready > 1439 || ready < now) {
            return false;
        }
        b.halves.add(half(h.to, h.walkTo, ready, h.from, h.walk, 1439));
        return true;
    }

    private int arrival(Half h) {
        return h.complete ? endOf(h) + h.walkTo : NONE;
    }

    int of(int box, int what) {
        Half h = boxAt(box).last();
        int[] all = {
            h.legs.size(), arrival(h), h.had && h.ready <= now ? 1 : 0, h.complete && arrival(h) > h.due ? 1 : 0,
            h.stand, h.since, boxAt(box).halves.size() - 1};
        if (what < 0 || what >= all.length) {
            throw new NoSuchElementException();
        }
        return all[what];
    }

    int leg(int box, int i, int what) {
        List<int[]> all = new ArrayList<>();
        for (Half h : boxAt(box).halves) {
            all.addAll(h.legs);
        }
        if (i < 0 || i >= all.size() || what < 0 || what > 2) {
            throw new NoSuchElementException();
        }
        return all.get(i)[what];
    }

    int load(int train, int span) {
        if (span < 0 || span >= trainAt(train).stops.size() - 1) {
            throw new NoSuchElementException();
        }
        return onSpan(train, span);
    }

    int where(int box) {
        Half h = boxAt(box).last();
        if (!h.had || h.ready > now) {
            return 0;
        }
        if (h.complete && now >= endOf(h)) {
            return now >= arrival(h) ? 4 : 3;
        }
        for (int[] leg : h.legs) {
            List<int[]> stops = trains.get(leg[0]).stops;
            if (stops.get(leg[1])[1] <= now && now < stops.get(leg[2])[1]) {
                return 2;
            }
        }
        return 1;
    }

    private Map<String, Integer> allMarks() {
        Map<String, Integer> marks = new LinkedHashMap<>();
        for (Box b : boxes) {
            if (b.halves.get(0).complete) {
                marks.putIfAbsent(Arrays.toString(flat(b.halves.get(0).legs)), marks.size());
            }
        }
        return marks;
    }

    int mark(int box) {
        Half h = boxAt(box).halves.get(0);
        return h.complete ? allMarks().get(Arrays.toString(flat(h.legs))) : NONE;
    }

    int carrier(int days) {
        if (carriers.size() == 40 || days < 0 || days > 31) {
            return NONE;
        }
        carriers.add(days);
        return carriers.size() - 1;
    }

    int share(int carrier, int sum) {
        if (carrier < 0 || carrier >= carriers.size()) {
            throw new NoSuchElementException();
        }
        if (sum < 0 || sum > 10000000) {
            throw new IllegalArgumentException();
        }
        boolean idle = carriers.stream().allMatch(d -> d == 0);
        BigInteger all = BigInteger.valueOf(idle ? carriers.size() : carriers.stream().mapToLong(d -> d).sum());
        List<BigInteger[]> parts = new ArrayList<>();
        int left = sum;
        for (int days : carriers) {
            BigInteger weight = BigInteger.valueOf(idle ? 1 : days);
            parts.add(BigInteger.valueOf(sum).multiply(weight).divideAndRemainder(all));
            left -= parts.get(parts.size() - 1)[0].intValueExact();
        }
        List<Integer> order = new ArrayList<>();
        for (int i = 0; i < parts.size(); i++) {
            order.add(i);
        }
        order.sort((a, b) -> parts.get(b)[1].compareTo(parts.get(a)[1]));
        return parts.get(carrier)[0].intValueExact() + (order.indexOf(carrier) < left ? 1 : 0);
    }

    int count(int what) {
        int with = 0;
        int late = 0;
        for (int i = 0; i < boxes.size(); i++) {
            with += of(i, 1) == NONE ? 0 : 1;
            late += of(i, 3);
        }
        int[] all = {
            sorting.size(), trains.size(), boxes.size(), now, with, late, allMarks().size(), carriers.size()};
        if (what < 0 || what >= all.length) {
            throw new NoSuchElementException();
        }
        return all[what];
    }
}
