import java.util.ArrayList;
import java.util.Arrays;
import java.util.Collections;
import java.util.Comparator;
import java.util.HashMap;
import java.util.List;
import java.util.Map;
import java.util.NoSuchElementException;
import java.util.TreeMap;

/**
 * The document told once more, in the plainest way: every plan is written down and the best one is
 * picked by comparing them, every assignment of channels is tried, and undo keeps whole copies.
 */
final class Model {
    static final class Station {
        int id;
        int x;
        int y;
        int channel;
        int expiry;
        boolean licensed;

        Station copy() {
            Station other = new Station();
            other.id = id;
            other.x = x;
            other.y = y;
            other.channel = channel;
            other.expiry = expiry;
            other.licensed = licensed;
            return other;
        }
    }

    static final class State {
        int near = 10;
        int middle = 20;
        int far = 40;
        int day = 0;
        int nextId = 0;
        int expired = 0;
        int ended = 0;
        TreeMap<Integer, Station> stations = new TreeMap<>();
        Map<List<Integer>, Integer> complaints = new HashMap<>();
        List<int[]> lastPlan = null;

        State copy() {
            State other = new State();
            other.near = near;
            other.middle = middle;
            other.far = far;
            other.day = day;
            other.nextId = nextId;
            other.expired = expired;
            other.ended = ended;
            for (Station station : stations.values()) {
                other.stations.put(station.id, station.copy());
            }
            other.complaints.putAll(complaints);
            other.lastPlan = lastPlan;
            return other;
        }
    }

    /** Moves of id, old channel and new channel; the channel of the served station; its disturbance. */
    static final class Plan {
        List<int[]> moves;
        int channel;
        int disturbance;
    }

    State state = new State();
    private final List<State> past = new ArrayList<>();
    private State snapshot = null;
    private String line = "";

    // ---- what the terms say

    private void modify() {
        past.add(state.copy());
        if (past.size() > 6) {
            past.remove(0);
        }
    }

    private Station station(int id) {
        Station station = state.stations.get(id);
        if (station == null) {
            throw new NoSuchElementException();
        }
        return station;
    }

    private static void range(int value, int low, int high) {
        if (value < low || value > high) {
            throw new IllegalArgumentException();
        }
    }

    private static void point(int x, int y) {
        range(x, 0, 99);
        range(y, 0, 99);
    }

    private static void legal(boolean condition) {
        if (!condition) {
            throw new IllegalStateException();
        }
    }

    private static int squared(Station a, Station b) {
        return (a.x - b.x) * (a.x - b.x) + (a.y - b.y) * (a.y - b.y);
    }

    private int base(Station a, Station b) {
        int squared = squared(a, b);
        int base = 0;
        for (int radius : new int[] {state.near, state.middle, state.far}) {
            base += squared < radius * radius ? 1 : 0;
        }
        return base;
    }

    private int complaints(Station a, Station b) {
        return state.complaints.getOrDefault(key(a, b), 0);
    }

    private static List<Integer> key(Station a, Station b) {
        return List.of(Math.min(a.id, b.id), Math.max(a.id, b.id));
    }

    private int separation(Station a, Station b) {
        return base(a, b) + complaints(a, b);
    }

    private boolean conflict(Station a, Station b) {
        return Math.abs(a.channel - b.channel) < separation(a, b);
    }

    private List<Station> licensed() {
        List<Station> licensed = new ArrayList<>();
        for (Station station : state.stations.values()) {
            if (station.licensed) {
                licensed.add(station);
            }
        }
        return licensed;
    }

    private int disturbance(Station at, List<Station> others) {
        int sum = 0;
        for (Station other : others) {
            if (other.id != at.id && squared(at, other) < state.far * state.far) {
                sum += Math.max(4 - Math.abs(at.channel - other.channel), 0);
            }
        }
        return sum;
    }

    private Station probe(int x, int y, int channel) {
        Station station = new Station();
        station.id = -1;
        station.x = x;
        station.y = y;
        station.channel = channel;
        return station;
    }

    private boolean conflictsWithOne(Station station, List<Station> others) {
        for (Station other : others) {
            if (other.id != station.id && conflict(station, other)) {
                return true;
            }
        }
        return false;
    }

    // ---- plans

    private Plan best(Station served, int wanted, int held) {
        List<Station> others = new ArrayList<>();
        for (Station station : licensed()) {
            if (station.id != served.id) {
                others.add(station.copy());
            }
        }
        List<Plan> plans = new ArrayList<>();
        collect(plans, others, served.copy(), wanted, held, new ArrayList<>());
        if (plans.isEmpty()) {
            throw new UnsupportedOperationException();
        }
        return Collections.min(plans, Comparator.comparingInt((Plan plan) -> plan.moves.size())
                .thenComparing(plan -> moveKey(plan, 0))
                .thenComparing(plan -> moveKey(plan, 1))
                .thenComparing(plan -> plan.disturbance)
                .thenComparing(plan -> plan.channel));
    }

    private static int moveKey(Plan plan, int move) {
        return move < plan.moves.size() ? plan.moves.get(move)[0] * 8 + plan.moves.get(move)[2] : 0;
    }

    private void collect(List<Plan> plans, List<Station> others, Station served, int wanted, int held,
            List<int[]> moves) {
        for (int channel = 0; channel < 8; channel++) {
            served.channel = channel;
            if ((wanted < 0 || wanted == channel) && !conflictsWithOne(served, others)) {
                Plan plan = new Plan();
                plan.moves = new ArrayList<>(moves);
                plan.channel = channel;
                plan.disturbance = disturbance(served, others);
                plans.add(plan);
            }
        }
        if (moves.size() < 2) {
            for (Station station : others) {
                if (station.id != held) {
                    collectMovesOf(station, plans, others, served, wanted, held, moves);
                }
            }
        }
    }

    private void collectMovesOf(Station station, List<Plan> plans, List<Station> others, Station served, int wanted,
            int held, List<int[]> moves) {
        int old = station.channel;
        for (int channel = 0; channel < 8; channel++) {
            station.channel = channel;
            if (channel != old && !conflictsWithOne(station, others)) {
                moves.add(new int[] {station.id, old, channel});
                collect(plans, others, served, wanted, held, moves);
                moves.remove(moves.size() - 1);
            }
        }
        station.channel = old;
    }

    private void carryOut(Plan plan, Station served) {
        for (int[] move : plan.moves) {
            state.stations.get(move[0]).channel = move[2];
        }
        served.channel = plan.channel;
        state.lastPlan = plan.moves;
        List<Station> ended = new ArrayList<>();
        for (Station station : state.stations.values()) {
            if (!station.licensed && conflictsWithOne(station, licensed())) {
                ended.add(station);
            }
        }
        for (Station station : ended) {
            state.stations.remove(station.id);
            state.ended++;
        }
    }

    private Station add(int x, int y, int days, boolean isLicensed) {
        Station station = probe(x, y, 0);
        station.id = state.nextId++;
        station.expiry = state.day + days;
        station.licensed = isLicensed;
        state.stations.put(station.id, station);
        return station;
    }

    private Station other(int id, int other) {
        station(id);
        Station station = station(other);
        if (id == other) {
            throw new IllegalArgumentException();
        }
        return station;
    }

    private Station changing(int id, int channel) {
        Station station = station(id);
        range(channel, 0, 7);
        legal(station.licensed && station.channel != channel);
        return station;
    }

    // ---- the calls

    Object setRadii(int near, int middle, int far) {
        if (near < 0 || middle < near || far < middle || far > 200) {
            throw new IllegalArgumentException();
        }
        legal(state.stations.isEmpty());
        modify();
        int previous = state.far;
        state.near = near;
        state.middle = middle;
        state.far = far;
        return previous;
    }

    Object license(int x, int y, int days) {
        point(x, y);
        range(days, 1, 365);
        legal(state.stations.size() < 7);
        Plan plan = best(probe(x, y, 0), -1, -1);
        modify();
        Station station = add(x, y, days, true);
        carryOut(plan, station);
        return station.id;
    }

    Object startTrial(int x, int y, int days) {
        point(x, y);
        range(days, 1, 30);
        legal(state.stations.size() < 7);
        int best = -1;
        for (int channel = 7; channel >= 0; channel--) {
            boolean free = !conflictsWithOne(probe(x, y, channel), new ArrayList<>(state.stations.values()));
            if (free && (best < 0 || disturbance(probe(x, y, channel), licensed())
                    <= disturbance(probe(x, y, best), licensed()))) {
                best = channel;
            }
        }
        if (best < 0) {
            throw new UnsupportedOperationException();
        }
        modify();
        Station station = add(x, y, days, false);
        station.channel = best;
        return station.id;
    }

    Object confirm(int id, int days) {
        station(id);
        range(days, 1, 365);
        legal(!station(id).licensed);
        modify();
        station(id).licensed = true;
        station(id).expiry = state.day + days;
        return station(id).expiry;
    }

    Object renew(int id, int days) {
        station(id);
        range(days, 1, 365);
        legal(station(id).licensed && station(id).expiry + days - state.day <= 365);
        modify();
        station(id).expiry += days;
        return station(id).expiry;
    }

    Object close(int id) {
        station(id);
        modify();
        state.stations.remove(id);
        return state.stations.size();
    }

    Object pass(int days) {
        range(days, 1, 99);
        legal(state.day + days <= 999);
        modify();
        int before = state.stations.size();
        state.day += days;
        state.stations.values().removeIf(station -> station.expiry <= state.day);
        state.expired += before - state.stations.size();
        return before - state.stations.size();
    }

    Object stationAt(int position) {
        return atPosition(new ArrayList<>(state.stations.values()), position);
    }

    Object stationByExpiry(int position) {
        List<Station> sorted = new ArrayList<>(state.stations.values());
        sorted.sort(Comparator.comparingInt((Station station) -> station.expiry)
                .thenComparing(station -> station.id));
        return atPosition(sorted, position);
    }

    private static Object atPosition(List<Station> stations, int position) {
        if (position < 0 || position >= stations.size()) {
            throw new IndexOutOfBoundsException();
        }
        return stations.get(position).id;
    }

    /** What a station is like: 0 x, 1 y, 2 channel, 3 expiry, 4 trial, 5 close to nothing but the line. */
    Object ofStation(int what, int id) {
        Station station = station(id);
        switch (what) {
            case 0: return station.x;
            case 1: return station.y;
            case 2: return station.channel;
            case 3: return station.expiry;
            case 4: return !station.licensed;
            default:
                line = id + "@" + station.x + "," + station.y + " c" + station.channel + " "
                        + (station.licensed ? "L" : "T") + station.expiry;
                return line.length();
        }
    }

    /** What two stations are like: 0 distance, 1 base separation, 2 complaints, 3 separation, 4 margin. */
    Object ofPair(int what, int id, int otherId) {
        Station other = other(id, otherId);
        Station station = station(id);
        switch (what) {
            case 0: return squared(station, other);
            case 1: return base(station, other);
            case 2: return complaints(station, other);
            case 3: return separation(station, other);
            default: return Math.abs(station.channel - other.channel) - separation(station, other);
        }
    }

    Object conflictsAt(int x, int y, int channel) {
        point(x, y);
        range(channel, 0, 7);
        int conflicts = 0;
        for (Station station : state.stations.values()) {
            conflicts += conflict(probe(x, y, channel), station) ? 1 : 0;
        }
        return conflicts;
    }

    Object disturbanceAt(int x, int y, int channel) {
        point(x, y);
        range(channel, 0, 7);
        return disturbance(probe(x, y, channel), licensed());
    }

    Object meanDisturbance() {
        int sum = 0;
        for (Station station : licensed()) {
            sum += disturbance(station, licensed());
        }
        if (licensed().isEmpty()) {
            throw new ArithmeticException();
        }
        return (float) sum / (float) licensed().size();
    }

    Object isConsistent() {
        for (Station station : state.stations.values()) {
            boolean bad = conflictsWithOne(station, new ArrayList<>(state.stations.values()));
            if (bad || station.expiry <= state.day) {
                return false;
            }
        }
        return true;
    }

    Object openChannels(int x, int y) {
        point(x, y);
        int open = 0;
        for (int channel = 0; channel < 8; channel++) {
            open += conflictsWithOne(probe(x, y, channel), licensed()) ? 0 : 1 << channel;
        }
        return open;
    }

    Object movesFor(int x, int y) {
        point(x, y);
        return best(probe(x, y, 0), -1, -1).moves.size();
    }

    Object movesToChange(int id, int channel) {
        return best(changing(id, channel), channel, -1).moves.size();
    }

    Object change(int id, int channel) {
        Plan plan = best(changing(id, channel), channel, -1);
        modify();
        carryOut(plan, station(id));
        return plan.moves.size();
    }

    Object complain(int id, int otherId) {
        other(id, otherId);
        legal(station(id).licensed && station(otherId).licensed && base(station(id), station(otherId)) > 0
                && complaints(station(id), station(otherId)) < 2);
        State before = state.copy();
        Station station = station(id);
        Station other = station(otherId);
        state.complaints.merge(key(station, other), 1, Integer::sum);
        Plan plan = null;
        if (conflict(station, other)) {
            try {
                plan = best(other, -1, id);
            } catch (UnsupportedOperationException none) {
                state = before;
                throw none;
            }
        }
        past.add(before);
        if (past.size() > 6) {
            past.remove(0);
        }
        if (plan == null) {
            return 0;
        }
        carryOut(plan, other);
        return plan.moves.size() + 1;
    }

    Object moveCount() {
        if (state.lastPlan == null) {
            throw new NoSuchElementException();
        }
        return state.lastPlan.size();
    }

    /** What a move is like: 0 station, 1 old channel, 2 new channel. */
    Object ofMove(int what, int move) {
        if (state.lastPlan == null || move < 0 || move >= state.lastPlan.size()) {
            throw new NoSuchElementException();
        }
        return state.lastPlan.get(move)[what];
    }

    Object leastSpan() {
        List<Station> licensed = licensed();
        int number = 0;
        while (!assignable(licensed, new int[licensed.size()], 0, number)) {
            number++;
        }
        return number;
    }

    private boolean assignable(List<Station> licensed, int[] channels, int done, int number) {
        if (done == licensed.size()) {
            return true;
        }
        for (int channel = 0; channel < number; channel++) {
            channels[done] = channel;
            boolean fits = true;
            for (int k = 0; k < done; k++) {
                fits &= Math.abs(channels[k] - channel) >= separation(licensed.get(k), licensed.get(done));
            }
            if (fits && assignable(licensed, channels, done + 1, number)) {
                return true;
            }
        }
        return false;
    }

    Object usedSpan() {
        int[] used = licensed().stream().mapToInt(station -> station.channel).toArray();
        return used.length == 0 ? 0 : Arrays.stream(used).max().getAsInt() - Arrays.stream(used).min().getAsInt() + 1;
    }

    Object lineAt(int index) {
        if (index < 0 || index >= line.length()) {
            throw new IndexOutOfBoundsException();
        }
        return line.charAt(index);
    }

    Object undo() {
        legal(!past.isEmpty());
        state = past.remove(past.size() - 1);
        return past.size();
    }

    Object save() {
        snapshot = state.copy();
        return state.stations.size();
    }

    Object restore() {
        legal(snapshot != null);
        state = snapshot.copy();
        past.clear();
        return state.stations.size();
    }
}
