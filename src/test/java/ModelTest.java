import java.util.Arrays;
import java.util.NoSuchElementException;
import java.util.Objects;

/** Long runs of mixed calls, every answer of which has to be that of the model (promises 1 to 52). */
public final class ModelTest {
    private static final int RUNS = 1500;
    private static final int CALLS = 512;
    private static final int[] ODD = {
        -1, 0, 7, 8, 99, 100, 200, 201, 365, 366, 1000, -1000, 46341, 65536, Integer.MAX_VALUE, Integer.MIN_VALUE,
    };
    private static final int[] CHECKED = {
        0, 0, 1, 1, 1, 2, 2, 3, 4, 5, 5, 6, 7, 8, 9, 10, 11, 12, 13, 14, 15, 16, 17, 18, 19, 20, 21, 22, 23, 24, 25,
        26, 27, 28, 29, 30, 31, 32, 33, 34, 35, 35, 35, 36, 36, 36, 36, 37, 38, 39, 40, 41, 42, 43, 44, 45, 46, 47,
        48, 49, 50, 1, 1, 1, 36, 36, 35, 35, 8, 9,
    };

    private final FrequencyOffice office = new FrequencyOffice();
    private final Model model = new Model();
    private final int width;
    private final boolean odd;
    private final boolean quiet;
    private long seed;
    private final int[] given = new int[3];

    private ModelTest(int run) {
        seed = run * 7919L + 17L;
        width = new int[] {100, 30, 60, 45, 80, 12, 1}[run % 7];
        odd = run % 4 == 0;
        quiet = run % 3 != 0;
    }

    public static void main(String[] args) {
        long[] reached = new long[8];
        for (int run = 0; run < RUNS && !Checks.anyWrong(); run++) {
            new ModelTest(run).go(run, reached);
        }
        checkReached(reached);
        Checks.end();
    }

    /** A model that never gets to the interesting states would agree with anything. */
    private static void checkReached(long[] reached) {
        for (int kind = 0; kind < reached.length; kind++) {
            if (reached[kind] < 50 && !Checks.anyWrong()) {
                Checks.report("the runs reached kind " + kind + " only " + reached[kind] + " times");
            }
        }
    }

    private int below(int bound) {
        seed = seed * 6364136223846793005L + 1442695040888963407L;
        return (int) ((seed >>> 33) % bound);
    }

    private int pick(int low, int high) {
        if (odd && below(25) == 0) {
            return ODD[below(ODD.length)];
        }
        return low + below(high - low + 1);
    }

    private int id() {
        int count = model.state.stations.size();
        if (count == 0 || below(30) == 0) {
            return pick(-1, 9);
        }
        return (int) model.state.stations.keySet().toArray()[below(count)];
    }

    private void go(int run, long[] reached) {
        int[] radii = run % 6 == 0 ? new int[] {below(201), below(201), below(201)}
                : new int[] {below(30), below(40), below(60)};
        Arrays.sort(radii);
        boolean ownRadii = run % 2 == 0;
        for (int call = 0; call < CALLS; call++) {
            int kind = CHECKED[below(CHECKED.length)];
            if (quiet && (kind == 5 || kind == 6 || kind == 48 || kind == 50) && below(5) != 0) {
                kind = 1;
            }
            if (call == 0 && ownRadii) {
                kind = 0;
            }
            draw(kind);
            if (call == 0 && ownRadii) {
                System.arraycopy(radii, 0, given, 0, 3);
            }
            Object want = answer(kind, true);
            Object got = answer(kind, false);
            count(kind, want, reached);
            if (!Objects.equals(want, got)) {
                Checks.report("run " + run + ", call " + call + ", kind " + kind + " " + Arrays.toString(given)
                        + " answered " + got + ", due is " + want);
                return;
            }
        }
    }

    private void count(int kind, Object want, long[] reached) {
        boolean number = want instanceof Integer;
        reached[0] += kind == 1 && number && model.state.lastPlan.size() == 1 ? 1 : 0;
        reached[1] += kind == 1 && number && model.state.lastPlan.size() == 2 ? 1 : 0;
        reached[2] += kind == 35 && number && (int) want == 2 ? 1 : 0;
        reached[3] += kind == 36 && number && (int) want == 2 ? 1 : 0;
        reached[4] += kind == 36 && number && (int) want == 3 ? 1 : 0;
        reached[5] += kind == 36 && want == UnsupportedOperationException.class ? 1 : 0;
        reached[6] += kind == 41 && number && (int) want == 8 ? 1 : 0;
        reached[7] += kind == 49 ? 1 : 0;
    }

    private void draw(int kind) {
        given[0] = id();
        given[1] = id();
        given[2] = pick(0, 7);
        if (kind == 0) {
            given[0] = pick(0, 12);
            given[1] = pick(8, 30);
            given[2] = pick(20, 80);
        } else if (kind == 1 || kind == 2 || kind >= 26 && kind <= 27 || kind >= 30 && kind <= 32) {
            given[0] = pick(0, width - 1);
            given[1] = pick(0, width - 1);
            given[2] = kind == 1 ? pick(1, 365) : kind == 2 ? pick(1, 30) : pick(0, 7);
        } else if (kind == 3 || kind == 4) {
            given[1] = pick(1, quiet ? 200 : 365);
        } else if (kind == 6) {
            given[0] = below(4) == 0 ? pick(1, 99) : pick(1, 9);
        } else if (kind >= 33 && kind <= 35) {
            given[1] = pick(0, 7);
        } else if (kind == 12 || kind == 13) {
            given[0] = pick(-1, 7);
        } else if (kind >= 38 && kind <= 40) {
            given[0] = pick(-1, 2);
        } else if (kind == 46) {
            given[0] = pick(-1, 18);
        }
    }

    private Object answer(int kind, boolean ofModel) {
        try {
            return ofModel ? modelAnswer(kind) : officeAnswer(kind);
        } catch (IllegalArgumentException | IllegalStateException | UnsupportedOperationException
                | NoSuchElementException | IndexOutOfBoundsException | ArithmeticException thrown) {
            if (!ofModel && !Checks.thrownByTheClass(thrown)) {
                return thrown;
            }
            return thrown.getClass();
        }
    }

    private Object modelAnswer(int kind) {
        int a = given[0];
        int b = given[1];
        int c = given[2];
        switch (kind) {
            case 0: return model.setRadii(a, b, c);
            case 1: return model.license(a, b, c);
            case 2: return model.startTrial(a, b, c);
            case 3: return model.confirm(a, b);
            case 4: return model.renew(a, b);
            case 5: return model.close(a);
            case 6: return model.pass(a);
            case 7: return model.state.day;
            case 8: return model.state.stations.size();
            case 9: return (int) model.state.stations.values().stream().filter(s -> s.licensed).count();
            case 10: return model.state.stations.containsKey(a);
            case 11: return model.state.near * 1000000 + model.state.middle * 1000 + model.state.far;
            case 12: return model.stationAt(a);
            case 13: return model.stationByExpiry(a);
            case 14: case 15: case 16: case 17: case 18: return model.ofStation(kind - 14, a);
            case 19: return model.state.expired;
            case 20: return model.state.ended;
            case 21: case 22: case 23: case 24: case 25: return model.ofPair(kind - 21, a, b);
            case 26: return model.conflictsAt(a, b, c);
            case 27: return model.disturbanceAt(a, b, c);
            case 28: return model.meanDisturbance();
            case 29: return model.isConsistent();
            case 30: return model.openChannels(a, b);
            case 31: case 32: return model.movesFor(a, b);
            case 33: case 34: return model.movesToChange(a, b);
            case 35: return model.change(a, b);
            case 36: return model.complain(a, b);
            case 37: return model.moveCount();
            case 38: case 39: case 40: return model.ofMove(kind - 38, a);
            case 41: case 42: return model.leastSpan();
            case 43: case 44: return model.usedSpan();
            case 45: return model.ofStation(5, a);
            case 46: return model.lineAt(a);
            case 47: case 48: return model.undo();
            case 49: return model.save();
            default: return model.restore();
        }
    }

    private Object officeAnswer(int kind) {
        int a = given[0];
        int b = given[1];
        int c = given[2];
        switch (kind) {
            case 0: return office.setRadii(a, b, c);
            case 1: return office.license(a, b, c);
            case 2: return office.startTrial(a, b, c);
            case 3: return office.confirm(a, b);
            case 4: return office.renew(a, b);
            case 5: return office.close(a);
            case 6: return office.pass(a);
            case 7: return office.today();
            case 8: return office.stationCount();
            case 9: return office.licensedCount();
            case 10: return office.exists(a);
            case 11: return office.nearRadius() * 1000000 + office.middleRadius() * 1000 + office.farRadius();
            case 12: return office.stationAt(a);
            case 13: return office.stationByExpiry(a);
            case 14: return office.xOf(a);
            case 15: return office.yOf(a);
            case 16: return office.channelOf(a);
            case 17: return office.expiryOf(a);
            case 18: return office.isOnTrial(a);
            case 19: return office.expiredTotal();
            case 20: return office.endedTrials();
            case 21: return office.squaredDistance(a, b);
            case 22: return office.baseSeparation(a, b);
            case 23: return office.complaintCount(a, b);
            case 24: return office.separation(a, b);
            case 25: return office.margin(a, b);
            case 26: return office.conflictsAt(a, b, c);
            default: return officeAnswerOfRest(kind, a, b, c);
        }
    }

    private Object officeAnswerOfRest(int kind, int a, int b, int c) {
        switch (kind) {
            case 27: return office.disturbanceAt(a, b, c);
            case 28: return office.meanDisturbance();
            case 29: return office.isConsistent();
            case 30: return office.openChannels(a, b);
            case 31: return office.movesFor(a, b);
            case 32: return office.movesForByQueue(a, b);
            case 33: return office.movesToChange(a, b);
            case 34: return office.movesToChangeByQueue(a, b);
            case 35: return office.change(a, b);
            case 36: return office.complain(a, b);
            case 37: return office.moveCount();
            case 38: return office.movedStation(a);
            case 39: return office.movedFrom(a);
            case 40: return office.movedTo(a);
            case 41: return office.leastSpan();
            case 42: return office.leastSpanByOrders();
            case 43: case 44: return office.usedSpan();
            case 45: return office.writeStation(a);
            case 46: return office.lineAt(a);
            case 47: case 48: return office.undo();
            case 49: return office.save();
            default: return office.restore();
        }
    }
}
