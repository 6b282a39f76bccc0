import java.math.BigInteger;
import java.util.ArrayList;
import java.util.Arrays;
import java.util.HashSet;
import java.util.List;
import java.util.Set;
import java.util.TreeSet;

/**
 * A second reading of the document, for RunsTest: it keeps what happened as lists and works every
 * answer out from them anew, with none of the class's own ways of holding its state.
 */
final class Oracle {
    private static final int NONE = -1;
    private static final int[] LEAST_SPAN = {14, 2, 1};
    private static final int[] LOCKOUT = {300, 45, 170};

    /** An action, or a contact if kind is NONE. */
    private record Entry(int side, int kind, int time, int span, int target) {
    }

    private static final class Bout {
        int[] fencers;
        int weapon;
        int to;
        int pool;
        int[] touches = {0, 0};
        List<List<Integer>> cards = List.of(new ArrayList<>(), new ArrayList<>());
        int winner = NONE;
        int drawn = NONE;
        int seconds = 0;
        int quietFrom = 0;
        int passive = 0;
    }

    private static final class Pool {
        Set<Integer> members = new TreeSet<>();
        Set<Integer> gone = new HashSet<>();
    }

    private final List<Bout> bouts = new ArrayList<>();
    private final List<Pool> pools = new ArrayList<>();
    private final List<Entry> phrase = new ArrayList<>();
    private final List<int[][]> rounds = new ArrayList<>();
    private int fencers = 0;
    private int lastReason = NONE;
    private BigInteger seedNow = BigInteger.ZERO;

    private static void index(boolean wrong) {
        if (wrong) {
            throw new IndexOutOfBoundsException();
        }
    }

    private static void argument(boolean wrong) {
        if (wrong) {
            throw new IllegalArgumentException();
        }
    }

    private static void state(boolean wrong) {
        if (wrong) {
            throw new IllegalStateException();
        }
    }

    private static boolean out(int value, int least, int most) {
        return value < least || value > most;
    }

    /** The bout on the piste, or null. */
    private Bout now() {
        Bout last = bouts.isEmpty() ? null : bouts.get(bouts.size() - 1);
        return last == null || last.winner != NONE ? null : last;
    }

    int fencer() {
        state(fencers == 12);
        return fencers++;
    }

    int begin(int left, int right, int weapon, int to, int pool) {
        index(out(left, 0, fencers - 1) || out(right, 0, fencers - 1) || out(pool, -1, pools.size() - 1));
        argument(left == right || out(weapon, 0, 2) || out(to, 1, 45));
        Set<Integer> both = Set.of(left, right);
        argument(pool != NONE && !pools.get(pool).members.containsAll(both));
        state(now() != null || bouts.size() == 80);
        state(pool != NONE && pools.get(pool).gone.stream().anyMatch(both::contains));
        Bout bout = new Bout();
        bout.fencers = new int[] {left, right};
        bout.weapon = weapon;
        bout.to = to;
        bout.pool = pool;
        bouts.add(bout);
        return bouts.size() - 1;
    }

    private int append(Entry entry) {
        state(now() == null || phrase.size() == 24);
        state(!phrase.isEmpty() && entry.time < phrase.get(phrase.size() - 1).time);
        phrase.add(entry);
        return phrase.size();
    }

    int act(int side, int kind, int time) {
        argument(out(side, 0, 1) || out(kind, 0, 6) || out(time, 0, 1_000_000));
        return append(new Entry(side, kind, time, 0, 0));
    }

    int hit(int side, int time, int span, int target) {
        argument(out(side, 0, 1) || out(time, 0, 1_000_000) || out(span, 0, 1000) || out(target, 0, 2));
        return append(new Entry(side, NONE, time, span, target));
    }

    /** Both registered contacts by side, as places in the row. */
    private int[] registered(int weapon) {
        int[] place = {NONE, NONE};
        for (int i = 0; i < phrase.size(); i++) {
            Entry e = phrase.get(i);
            boolean good = e.target == 0 || e.target == 1 && weapon == 0;
            if (e.kind != NONE || !good || e.span < LEAST_SPAN[weapon] || place[e.side] != NONE) {
                continue;
            }
            int other = place[1 - e.side];
            if (other == NONE || e.time <= phrase.get(other).time + LOCKOUT[weapon]) {
                place[e.side] = i;
            }
        }
        return place;
    }

    /** Who has it, by what and since when: the words of the document, action by action. */
    private int holderOf(List<Entry> row) {
        int has = NONE;
        int by = NONE;
        int since = 0;
        List<int[]> parries = new ArrayList<>();
        for (Entry e : row) {
            int me = e.side;
            int you = 1 - me;
            int[] last = parries.isEmpty() ? new int[] {NONE, 0} : parries.get(parries.size() - 1);
            boolean soon = e.time - last[1] <= 300;
            if (e.kind == 0 && has == you && by == 0 && e.time - since <= 40) {
                has = NONE;
            } else if (e.kind == 0 && has != you) {
                has = me;
                by = 0;
                since = e.time;
            } else if (e.kind == 1 && has == NONE) {
                has = me;
                by = 1;
            } else if (e.kind == 2 && has == you && by == 1) {
                has = me;
                by = 0;
                since = e.time;
            } else if (e.kind == 3 && has == you && by != 1) {
                has = NONE;
                parries.add(new int[] {me, e.time});
            } else if (e.kind == 4 && has == NONE && last[0] == me && soon) {
                has = me;
                by = 4;
            } else if (e.kind == 5 && has == NONE && last[0] == you && !soon) {
                has = me;
                by = 5;
            } else if (e.kind == 6 && has == me) {
                has = NONE;
            }
        }
        return has;
    }

    /** The reason times 4, and the sides. */
    private int verdict(Bout bout) {
        int[] place = registered(bout.weapon);
        if (place[0] == NONE && place[1] == NONE) {
            return 0;
        }
        if (place[0] == NONE || place[1] == NONE) {
            int side = place[0] == NONE ? 1 : 0;
            return phrase.get(place[side]).target == 0 ? 1 * 4 + (side + 1) : 2 * 4;
        }
        if (bout.weapon == 1) {
            return 3 * 4 + (Math.min(bout.touches[0], bout.touches[1]) + 1 >= bout.to ? 0 : 3);
        }
        int has = holderOf(phrase.subList(0, Math.max(place[0], place[1])));
        if (has == NONE) {
            return 4 * 4;
        }
        Entry own = phrase.get(place[has]);
        Entry others = phrase.get(place[1 - has]);
        if (others.target == 0 && own.time - 150 >= others.time) {
            return 5 * 4 + (2 - has);
        }
        return own.target == 0 ? 6 * 4 + (has + 1) : 2 * 4;
    }

    private int leader(Bout bout) {
        int more = Integer.compare(bout.touches[0], bout.touches[1]);
        return more > 0 || more == 0 && bout.fencers[0] < bout.fencers[1] ? 0 : 1;
    }

    private void over(Bout bout, int winner) {
        bout.winner = winner;
        phrase.clear();
    }

    private void touch(Bout bout, int sides) {
        bout.touches[0] += sides & 1;
        bout.touches[1] += sides >> 1;
        boolean unlike = bout.touches[0] != bout.touches[1];
        if (Math.max(bout.touches[0], bout.touches[1]) >= bout.to || bout.drawn != NONE && unlike) {
            over(bout, leader(bout));
        }
    }

    int judge() {
        Bout bout = now();
        state(bout == null);
        int verdict = verdict(bout);
        lastReason = verdict / 4;
        phrase.clear();
        if (verdict % 4 != 0) {
            bout.quietFrom = bout.seconds;
            touch(bout, verdict % 4);
        }
        return verdict % 4;
    }

    int card(int side, int group) {
        argument(out(side, 0, 1) || out(group, 1, 3));
        Bout bout = now();
        state(bout == null);
        List<Integer> had = bout.cards.get(side);
        int colour = group == 1 && had.isEmpty() ? 1 : group == 3 && had.contains(3) ? 3 : 2;
        had.add(group);
        if (colour == 2) {
            bout.quietFrom = bout.seconds;
            touch(bout, side == 0 ? 2 : 1);
        }
        if (colour == 3) {
            over(bout, 1 - side);
        }
        return colour;
    }

    private void second(Bout bout) {
        bout.seconds++;
        if (bout.seconds == bout.quietFrom + 60) {
            bout.quietFrom = bout.seconds;
            bout.passive++;
            if (bout.passive == 2) {
                touch(bout, 3);
            }
            if (bout.passive == 3) {
                over(bout, leader(bout));
            }
        }
        if (bout.winner == NONE && bout.seconds == 180) {
            if (bout.touches[0] != bout.touches[1]) {
                over(bout, leader(bout));
            } else {
                seedNow = seedNow.multiply(BigInteger.valueOf(1103515245)).add(BigInteger.valueOf(12345));
                seedNow = seedNow.mod(BigInteger.ONE.shiftLeft(31));
                bout.drawn = seedNow.testBit(16) ? 1 : 0;
            }
        }
        if (bout.winner == NONE && bout.seconds == 240) {
            over(bout, bout.drawn);
        }
    }

    int clock(int seconds) {
        argument(out(seconds, 1, 240));
        Bout bout = now();
        state(bout == null);
        for (int i = 0; i < seconds; i++) {
            if (bout.winner == NONE) {
                second(bout);
            }
        }
        return bout.winner != NONE ? 0 : bout.drawn == NONE ? 180 - bout.seconds : 240 - bout.seconds;
    }

    int end() {
        Bout bout = now();
        state(bout == null);
        over(bout, leader(bout));
        return bout.winner;
    }

    void seed(int seed) {
        argument(seed < 0);
        seedNow = BigInteger.valueOf(seed);
    }

    int pool(int set) {
        Pool pool = new Pool();
        for (int i = 0; i < 32; i++) {
            if ((set >>> i & 1) == 1) {
                argument(i >= fencers);
                pool.members.add(i);
            }
        }
        argument(pool.members.size() < 2);
        state(pools.size() == 6);
        pools.add(pool);
        return pools.size() - 1;
    }

    private Pool poolOf(int pool) {
        index(out(pool, 0, pools.size() - 1));
        return pools.get(pool);
    }

    private List<Bout> counting(int pool) {
        List<Bout> found = new ArrayList<>();
        for (Bout bout : bouts) {
            Set<Integer> gone = bout.pool == pool ? poolOf(pool).gone : Set.of();
            boolean both = !gone.contains(bout.fencers[0]) && !gone.contains(bout.fencers[1]);
            if (bout.pool == pool && bout.winner != NONE && both) {
                found.add(bout);
            }
        }
        return found;
    }

    int withdraw(int pool, int fencer) {
        Pool from = poolOf(pool);
        index(!from.members.contains(fencer));
        Bout bout = now();
        boolean busy = bout != null && bout.pool == pool && (bout.fencers[0] == fencer || bout.fencers[1] == fencer);
        state(busy || from.gone.contains(fencer));
        int before = counting(pool).size();
        from.gone.add(fencer);
        return before - counting(pool).size();
    }

    /** Bouts, wins, touches given and got. */
    private int[] row(int pool, int fencer) {
        int[] row = new int[4];
        for (Bout bout : counting(pool)) {
            for (int side = 0; side < 2; side++) {
                if (bout.fencers[side] == fencer) {
                    row[0]++;
                    row[1] += bout.winner == side ? 1 : 0;
                    row[2] += bout.touches[side];
                    row[3] += bout.touches[1 - side];
                }
            }
        }
        return row;
    }

    private List<Integer> ranks(int pool) {
        List<Integer> ranks = new ArrayList<>(poolOf(pool).members);
        ranks.removeAll(poolOf(pool).gone);
        ranks.sort((a, b) -> compare(row(pool, a), row(pool, b)));
        return ranks;
    }

    /** The sort is stable and begins with lower numbers first. */
    private static int compare(int[] a, int[] b) {
        long left = (long) a[1] * (b[0] == 0 ? 1 : b[0]);
        long right = (long) b[1] * (a[0] == 0 ? 1 : a[0]);
        if (left != right) {
            return Long.compare(right, left);
        }
        int balance = Integer.compare(b[2] - b[3], a[2] - a[3]);
        return balance != 0 ? balance : Integer.compare(b[2], a[2]);
    }

    private static List<Integer> order(int places) {
        if (places == 2) {
            return List.of(0, 1);
        }
        List<Integer> order = new ArrayList<>();
        for (int p : order(places / 2)) {
            order.addAll(Arrays.asList(p, places - 1 - p));
        }
        return order;
    }

    int tableau(int pool) {
        List<Integer> ranks = ranks(pool);
        state(ranks.size() < 2);
        int places = ranks.size() <= 2 ? 2 : ranks.size() <= 4 ? 4 : ranks.size() <= 8 ? 8 : 16;
        rounds.clear();
        for (int matches = places / 2; matches > 0; matches /= 2) {
            int[][] round = new int[matches][3];
            for (int[] match : round) {
                Arrays.fill(match, NONE);
            }
            rounds.add(round);
        }
        List<Integer> order = order(places);
        for (int i = 0; i < places; i++) {
            int rank = order.get(i);
            rounds.get(0)[i / 2][i % 2] = rank < ranks.size() ? ranks.get(rank) : NONE;
        }
        for (int match = 0; match < places / 2; match++) {
            int[] met = rounds.get(0)[match];
            if (met[0] == NONE || met[1] == NONE) {
                won(0, match, met[0] == NONE ? met[1] : met[0]);
            }
        }
        return places;
    }

    private void won(int round, int match, int fencer) {
        rounds.get(round)[match][2] = fencer;
        if (round + 1 < rounds.size()) {
            rounds.get(round + 1)[match / 2][match % 2] = fencer;
        }
    }

    private int[] matchOf(int round, int match) {
        index(out(round, 0, rounds.size() - 1));
        index(out(match, 0, rounds.get(round).length - 1));
        return rounds.get(round)[match];
    }

    int wins(int round, int match, int side) {
        int[] met = matchOf(round, match);
        argument(out(side, 0, 1));
        state(met[0] == NONE || met[1] == NONE || met[2] != NONE);
        won(round, match, met[side]);
        return met[side];
    }

    int lamp(int side) {
        argument(out(side, 0, 1));
        int place = now() == null ? NONE : registered(now().weapon)[side];
        return place == NONE ? NONE : phrase.get(place).target;
    }

    int holder() {
        return holderOf(phrase);
    }

    int reason() {
        return lastReason;
    }

    int ofBout(int bout, int what) {
        index(out(bout, 0, bouts.size() - 1));
        argument(out(what, 0, 5));
        Bout b = bouts.get(bout);
        return new int[] {b.touches[0], b.touches[1], b.winner, b.seconds, b.passive, b.drawn}[what];
    }

    int ofPool(int pool, int fencer, int what) {
        index(!poolOf(pool).members.contains(fencer));
        argument(out(what, 0, 3));
        return row(pool, fencer)[what];
    }

    int rank(int pool, int place) {
        List<Integer> ranks = ranks(pool);
        index(place < 0);
        return place < ranks.size() ? ranks.get(place) : NONE;
    }

    int meets(int round, int match, int side) {
        int[] met = matchOf(round, match);
        argument(out(side, 0, 2));
        return met[side];
    }
}
