/**
 * A hall of fencing: phrases of actions and contacts are judged by lamps and right of way, bouts
 * end by touches, cards, time or passivity, pools keep a table, and a tableau is fenced out.
 */
public final class Phrasehall {
    public static final int NONE = -1;
    public static final int FOIL = 0, EPEE = 1, SABRE = 2;
    public static final int ATTACK = 0, LINE = 1, BEAT = 2, PARRY = 3, RIPOSTE = 4, REMISE = 5, MISS = 6;
    public static final int ON = 0, OFF = 1, GROUND = 2;
    public static final int NO_LAMP = 0, SINGLE = 1, OFF_TARGET = 2, DOUBLE = 3, TOGETHER = 4, IN_TIME = 5, BY_RIGHT = 6;
    public static final int YELLOW = 1, RED = 2, BLACK = 3;

    private static final int MOST_FENCERS = 12;
    private static final int MOST_BOUTS = 80;
    private static final int MOST_POOLS = 6;
    private static final int MOST_TOUCHES = 45;
    private static final int LATEST_TIME = 1000000;
    private static final int LONGEST_SPAN = 1000;
    private static final int MOST_SECONDS = 240;
    private static final int LAST_GROUP = 3;
    private static final int LAST_OF_BOUT = 5;
    private static final int LAST_OF_POOL = 3;
    private static final int BOTH_SIDES = 3;

    private final Bout[] bouts = new Bout[MOST_BOUTS];
    private final Pool[] pools = new Pool[MOST_POOLS];
    private final Phrase phrase = new Phrase();
    private final Bracket bracket = new Bracket();
    private final Lot lot = new Lot();
    private int fencerCount = 0;
    private int boutCount = 0;
    private int poolCount = 0;
    private Bout piste = null;
    private int lastReason = NONE;

    public Phrasehall() {
    }

    // ---- fencers, bouts

    public int fencer() throws IllegalStateException {
        if (fencerCount >= MOST_FENCERS) {
            throw new IllegalStateException("there are 12 fencers");
        }
        int number = fencerCount;
        fencerCount++;
        return number;
    }

    public int begin(int left, int right, int weapon, int to, int pool)
            throws IndexOutOfBoundsException, IllegalArgumentException, IllegalStateException {
        Pool of = poolOf(pool);
        if (!isFencer(left) || !isFencer(right) || (of == null && pool != NONE)) {
            throw new IndexOutOfBoundsException("no such fencer or pool");
        }
        if (left == right || !isWithin(weapon, FOIL, SABRE) || !isWithin(to, 1, MOST_TOUCHES)) {
            throw new IllegalArgumentException("fencers, weapon or touches do not make a bout");
        }
        if (of != null && !(of.has(left) && of.has(right))) {
            throw new IllegalArgumentException("the pool does not have both");
        }
        if (of != null && (of.isWithdrawn(left) || of.isWithdrawn(right))) {
            throw new IllegalStateException("one of them withdrew from the pool");
        }
        if (piste != null || boutCount >= MOST_BOUTS) {
            throw new IllegalStateException("a bout is on the piste, or there were 80");
        }
        return putOnPiste(new Bout(left, right, weapon, to, pool));
    }

    public int act(int side, int kind, int time) throws IllegalArgumentException, IllegalStateException {
        if (!isSide(side) || !isWithin(kind, ATTACK, MISS) || !isWithin(time, 0, LATEST_TIME)) {
            throw new IllegalArgumentException("side, kind or time is out of range");
        }
        checkRoomInPhrase(time);
        return phrase.addAction(side, kind, time);
    }

    public int hit(int side, int time, int span, int target) throws IllegalArgumentException, IllegalStateException {
        if (!isSide(side) || !isWithin(time, 0, LATEST_TIME)) {
            throw new IllegalArgumentException("side or time is out of range");
        }
        if (!isWithin(span, 0, LONGEST_SPAN) || !isWithin(target, ON, GROUND)) {
            throw new IllegalArgumentException("span or target is out of range");
        }
        checkRoomInPhrase(time);
        return phrase.addContact(side, time, span, target);
    }

    public int judge() throws IllegalStateException {
        Bout bout = boutOnPiste();
        int sides = judgeFor(bout.weapon, bout.isDoubleTooFar());
        bout.giveTouches(sides);
        phrase.empty();
        clearPisteIfOver(bout);
        return sides;
    }

    public int card(int side, int group) throws IllegalArgumentException, IllegalStateException {
        if (!isSide(side) || !isWithin(group, 1, LAST_GROUP)) {
            throw new IllegalArgumentException("side or group is out of range");
        }
        Bout bout = boutOnPiste();
        int colour = bout.giveCard(side, group);
        clearPisteIfOver(bout);
        return colour;
    }

    public int clock(int seconds) throws IllegalArgumentException, IllegalStateException {
        if (!isWithin(seconds, 1, MOST_SECONDS)) {
            throw new IllegalArgumentException("seconds is out of range");
        }
        Bout bout = boutOnPiste();
        for (int i = 0; i < seconds && !bout.isOver(); i++) {
            bout.passSecond(lot);
        }
        clearPisteIfOver(bout);
        return bout.secondsLeft();
    }

    public int end() throws IllegalStateException {
        Bout bout = boutOnPiste();
        bout.finish(bout.leader());
        clearPisteIfOver(bout);
        return bout.winner;
    }

    public void seed(int seed) throws IllegalArgumentException {
        if (seed < 0) {
            throw new IllegalArgumentException("seed is out of range");
        }
        lot.seed = seed;
    }

    // ---- pools, tableaux

    public int pool(int fencers) throws IllegalArgumentException, IllegalStateException {
        int strangers = fencers & -(1 << fencerCount);
        if (strangers != 0 || Integer.bitCount(fencers) < 2) {
            throw new IllegalArgumentException("fencers are not there, or fewer than 2");
        }
        if (poolCount >= MOST_POOLS) {
            throw new IllegalStateException("there are 6 pools");
        }
        int number = poolCount;
        pools[number] = new Pool(number, fencers);
        poolCount++;
        return number;
    }

    public int withdraw(int pool, int fencer) throws IndexOutOfBoundsException, IllegalStateException {
        Pool from = poolWith(pool, fencer);
        if (from.isWithdrawn(fencer) || isBusyFor(from, fencer)) {
            throw new IllegalStateException("the fencer withdrew, or is on the piste");
        }
        int dropped = 0;
        for (int i = 0; i < boutCount; i++) {
            Bout bout = boutAt(i);
            if (bout != null && bout.has(fencer) && from.counts(bout)) {
                from.enter(bout, -1);
                dropped++;
            }
        }
        from.markWithdrawn(fencer);
        return dropped;
    }

    public int tableau(int pool) throws IndexOutOfBoundsException, IllegalStateException {
        Pool of = poolOf(pool);
        if (of == null) {
            throw new IndexOutOfBoundsException("no such pool");
        }
        if (of.rankedCount() < 2) {
            throw new IllegalStateException("fewer than 2 have a rank");
        }
        bracket.makeFrom(of);
        return bracket.places;
    }

    public int wins(int round, int match, int side)
            throws IndexOutOfBoundsException, IllegalArgumentException, IllegalStateException {
        checkMatch(round, match);
        if (!isSide(side)) {
            throw new IllegalArgumentException("side is out of range");
        }
        if (!bracket.isOpen(round, match)) {
            throw new IllegalStateException("the match does not have both yet, or is won");
        }
        return bracket.settle(round, match, side);
    }

    // ---- what is asked

    public int lamp(int side) throws IllegalArgumentException {
        if (!isSide(side)) {
            throw new IllegalArgumentException("side is out of range");
        }
        return piste == null ? NONE : phrase.targetAt(phrase.registered(side, piste.weapon));
    }

    public int holder() {
        return phrase.holderAhead(phrase.count);
    }

    public int reason() {
        return lastReason;
    }

    public int ofBout(int bout, int what) throws IndexOutOfBoundsException, IllegalArgumentException {
        Bout asked = boutAt(bout);
        if (asked == null) {
            throw new IndexOutOfBoundsException("no such bout");
        }
        if (!isWithin(what, 0, LAST_OF_BOUT)) {
            throw new IllegalArgumentException("what is out of range");
        }
        return asked.told(what);
    }

    public int ofPool(int pool, int fencer, int what) throws IndexOutOfBoundsException, IllegalArgumentException {
        Pool asked = poolWith(pool, fencer);
        checkOfPool(what);
        return asked.kept(fencer, what);
    }

    public int ofPoolAnew(int pool, int fencer, int what) throws IndexOutOfBoundsException, IllegalArgumentException {
        Pool asked = poolWith(pool, fencer);
        checkOfPool(what);
        int sum = 0;
        for (int i = 0; i < boutCount; i++) {
            Bout bout = boutAt(i);
            if (bout != null && bout.has(fencer) && asked.counts(bout)) {
                sum += bout.share(bout.sideOf(fencer), what);
            }
        }
        return sum;
    }

    public int rank(int pool, int place) throws IndexOutOfBoundsException {
        Pool asked = poolOf(pool);
        if (asked == null || place < 0) {
            throw new IndexOutOfBoundsException("no such pool or place");
        }
        asked.orderRanked();
        return asked.rankedAt(place);
    }

    public int meets(int round, int match, int side) throws IndexOutOfBoundsException, IllegalArgumentException {
        checkMatch(round, match);
        if (!isWithin(side, 0, 2)) {
            throw new IllegalArgumentException("side is out of range");
        }
        return side == 2 ? bracket.winnerOf(round, match) : bracket.fencerIn(round, match, side);
    }

    // ---- what the calls share

    private static boolean isWithin(int value, int least, int most) {
        return value >= least && value <= most;
    }

    private static boolean isSide(int side) {
        return side == 0 || side == 1;
    }

    private boolean isFencer(int number) {
        return number >= 0 && number < fencerCount;
    }

    private Bout boutAt(int number) {
        return number >= 0 && number < boutCount && number < bouts.length ? bouts[number] : null;
    }

    private Pool poolOf(int number) {
        return number >= 0 && number < poolCount && number < pools.length ? pools[number] : null;
    }

    private Pool poolWith(int number, int fencer) {
        Pool found = poolOf(number);
        if (found == null || !found.has(fencer)) {
            throw new IndexOutOfBoundsException("no such pool, or it does not have that fencer");
        }
        return found;
    }

    private Bout boutOnPiste() {
        if (piste == null) {
            throw new IllegalStateException("no bout is on the piste");
        }
        return piste;
    }

    private void checkRoomInPhrase(int time) {
        if (piste == null || time < phrase.lastTime() || phrase.isFull()) {
            throw new IllegalStateException("no bout, time runs back, or the phrase is full");
        }
    }

    private void checkMatch(int round, int match) {
        if (!bracket.hasMatch(round, match)) {
            throw new IndexOutOfBoundsException("no such match");
        }
    }

    private static void checkOfPool(int what) {
        if (!isWithin(what, 0, LAST_OF_POOL)) {
            throw new IllegalArgumentException("what is out of range");
        }
    }

    private boolean isBusyFor(Pool from, int fencer) {
        return piste != null && piste.pool == from.number && piste.has(fencer);
    }

    private int putOnPiste(Bout bout) {
        int number = boutCount;
        if (number < bouts.length) {
            bouts[number] = bout;
            boutCount++;
            piste = bout;
        }
        return number;
    }

    private void clearPisteIfOver(Bout bout) {
        if (!bout.isOver()) {
            return;
        }
        piste = null;
        phrase.empty();
        Pool of = poolOf(bout.pool);
        if (of != null) {
            of.enter(bout, 1);
        }
    }

    // ---- judging: each answers the sides that get a touch, and keeps the reason

    private int because(int why, int sides) {
        lastReason = why;
        return sides;
    }

    private int judgeFor(int weapon, boolean doubleTooFar) {
        int left = phrase.registered(0, weapon);
        int right = phrase.registered(1, weapon);
        if (left == NONE && right == NONE) {
            return because(NO_LAMP, 0);
        }
        if (left == NONE || right == NONE) {
            int only = left == NONE ? right : left;
            return phrase.targetAt(only) == ON ? because(SINGLE, bitOf(left == NONE ? 1 : 0)) : because(OFF_TARGET, 0);
        }
        if (weapon == EPEE) {
            return because(DOUBLE, doubleTooFar ? 0 : BOTH_SIDES);
        }
        return judgeByRight(left, right);
    }

    private int judgeByRight(int left, int right) {
        int side = phrase.holderAhead(Math.max(left, right));
        if (side == NONE) {
            return because(TOGETHER, 0);
        }
        int own = side == 0 ? left : right;
        int others = side == 0 ? right : left;
        int ahead = phrase.timeAt(own) - phrase.timeAt(others);
        if (phrase.targetAt(others) == ON && ahead >= 150) {
            return because(IN_TIME, bitOf(1 - side));
        }
        return phrase.targetAt(own) == ON ? because(BY_RIGHT, bitOf(side)) : because(OFF_TARGET, 0);
    }

    private static int bitOf(int side) {
        return side == 0 ? 1 : 2;
    }

    /** The row of actions and contacts that waits to be judged. */
    private static final class Phrase {
        private static final int MOST_ENTRIES = 24;
        private static final int CONTACT = -1;

        private final int[] sides = new int[MOST_ENTRIES];
        private final int[] kinds = new int[MOST_ENTRIES];
        private final int[] times = new int[MOST_ENTRIES];
        private final int[] spans = new int[MOST_ENTRIES];
        private final int[] targets = new int[MOST_ENTRIES];
        private final RightOfWay rightOfWay = new RightOfWay();
        private int count = 0;

        void empty() {
            count = 0;
        }

        boolean isFull() {
            return count >= MOST_ENTRIES;
        }

        int lastTime() {
            return count == 0 ? 0 : timeAt(count - 1);
        }

        int addAction(int side, int kind, int time) {
            return append(side, kind, time, 0, NONE);
        }

        int addContact(int side, int time, int span, int target) {
            return append(side, CONTACT, time, span, target);
        }

        private int append(int side, int kind, int time, int span, int target) {
            if (count >= 0 && count < MOST_ENTRIES) {
                sides[count] = side;
                kinds[count] = kind;
                times[count] = time;
                spans[count] = span;
                targets[count] = target;
                count++;
            }
            return count;
        }

        private boolean isEntry(int index) {
            return index >= 0 && index < count && index < MOST_ENTRIES;
        }

        int timeAt(int index) {
            return isEntry(index) ? times[index] : 0;
        }

        /** NONE where there is no entry, so that a lamp that is out needs no test of its own. */
        int targetAt(int index) {
            return isEntry(index) ? targets[index] : NONE;
        }

        /** The place in the row of the contact that lights the lamp of a side, or NONE. */
        int registered(int side, int weapon) {
            int first = NONE;
            for (int i = 0; i < count; i++) {
                if (isEntry(i) && couldRegister(i, weapon)) {
                    first = first == NONE ? i : first;
                    if (sides[i] == side && times[i] - timeAt(first) <= lockout(weapon)) {
                        return i;
                    }
                }
            }
            return NONE;
        }

        private boolean couldRegister(int index, int weapon) {
            if (!isEntry(index) || kinds[index] != CONTACT || spans[index] < leastSpan(weapon)) {
                return false;
            }
            return targets[index] == ON || (weapon == FOIL && targets[index] == OFF);
        }

        private static int leastSpan(int weapon) {
            return weapon == FOIL ? 14 : weapon == EPEE ? 2 : 1;
        }

        private static int lockout(int weapon) {
            return weapon == FOIL ? 300 : weapon == EPEE ? 45 : 170;
        }

        /** Who has right of way behind the actions that stand ahead of a place in the row. */
        int holderAhead(int place) {
            rightOfWay.forget();
            for (int i = 0; i < place && i < count; i++) {
                if (isEntry(i) && kinds[i] != CONTACT) {
                    rightOfWay.take(sides[i], kinds[i], times[i]);
                }
            }
            return rightOfWay.side;
        }
    }

    /** Who has right of way, by what and since when, and who parried last. */
    private static final class RightOfWay {
        private static final int SAME_TIME = 40;
        private static final int ANSWER_TIME = 300;

        private int side = NONE;
        private int by = NONE;
        private int since = 0;
        private int parrier = NONE;
        private int parriedAt = 0;

        void forget() {
            side = NONE;
            parrier = NONE;
        }

        void take(int mover, int kind, int time) {
            int other = 1 - mover;
            switch (kind) {
                case ATTACK:
                    attack(mover, time);
                    break;
                case LINE:
                    if (side == NONE) {
                        give(mover, LINE, time);
                    }
                    break;
                case BEAT:
                    if (side == other && by == LINE) {
                        give(mover, ATTACK, time);
                    }
                    break;
                case PARRY:
                    parry(mover, time);
                    break;
                case RIPOSTE:
                    if (side == NONE && parrier == mover && time - parriedAt <= ANSWER_TIME) {
                        give(mover, RIPOSTE, time);
                    }
                    break;
                case REMISE:
                    if (side == NONE && parrier == other && time - parriedAt > ANSWER_TIME) {
                        give(mover, REMISE, time);
                    }
                    break;
                case MISS:
                    if (side == mover) {
                        side = NONE;
                    }
                    break;
                default:
                    break;
            }
        }

        private void give(int mover, int kind, int time) {
            side = mover;
            by = kind;
            since = time;
        }

        private void attack(int mover, int time) {
            if (side != 1 - mover) {
                give(mover, ATTACK, time);
            } else if (by == ATTACK && time - since <= SAME_TIME) {
                side = NONE;
            }
        }

        private void parry(int mover, int time) {
            if (side == 1 - mover && by != LINE) {
                side = NONE;
                parrier = mover;
                parriedAt = time;
            }
        }
    }

    /** One side of a bout: who stands there, their touches and what cards they had. */
    private static final class Corner {
        private final int fencer;
        private int touches = 0;
        private boolean carded = false;
        private boolean cardedInThird = false;

        Corner(int fencer) {
            this.fencer = fencer;
        }

        int colourFor(int group) {
            if (group == 1) {
                return carded ? RED : YELLOW;
            }
            return group == LAST_GROUP && cardedInThird ? BLACK : RED;
        }

        void note(int group) {
            carded = true;
            if (group == LAST_GROUP) {
                cardedInThird = true;
            }
        }
    }

    /** A bout, on the piste until it has a winner. */
    private static final class Bout {
        private static final int TIME = 180;
        private static final int MORE_TIME = 60;
        private static final int PASSIVE_TIME = 60;

        private final Corner first;
        private final Corner second;
        private final int weapon;
        private final int to;
        private final int pool;
        private int winner = NONE;
        private int drawn = NONE;
        private int seconds = 0;
        private int quietSeconds = 0;
        private int passivities = 0;

        Bout(int left, int right, int weapon, int to, int pool) {
            first = new Corner(left);
            second = new Corner(right);
            this.weapon = weapon;
            this.to = to;
            this.pool = pool;
        }

        private Corner corner(int side) {
            return side == 0 ? first : second;
        }

        boolean has(int fencer) {
            return first.fencer == fencer || second.fencer == fencer;
        }

        int sideOf(int fencer) {
            return first.fencer == fencer ? 0 : 1;
        }

        boolean isOver() {
            return winner != NONE;
        }

        private boolean isLike() {
            return first.touches == second.touches;
        }

        int leader() {
            if (isLike()) {
                return first.fencer < second.fencer ? 0 : 1;
            }
            return first.touches > second.touches ? 0 : 1;
        }

        void finish(int side) {
            winner = side;
        }

        boolean isDoubleTooFar() {
            return first.touches + 1 >= to && second.touches + 1 >= to;
        }

        /** Gives the touches of judging or of a card, which also break the quiet; sides as bits. */
        void giveTouches(int sides) {
            if (sides != 0) {
                quietSeconds = 0;
                addTouches(sides);
            }
        }

        private void addTouches(int sides) {
            if ((sides & 1) != 0) {
                first.touches++;
            }
            if ((sides & 2) != 0) {
                second.touches++;
            }
            boolean reached = first.touches >= to || second.touches >= to;
            if (reached || (drawn != NONE && !isLike())) {
                finish(leader());
            }
        }

        int giveCard(int side, int group) {
            int colour = corner(side).colourFor(group);
            corner(side).note(group);
            if (colour == RED) {
                giveTouches(bitOf(1 - side));
            } else if (colour == BLACK) {
                finish(1 - side);
            }
            return colour;
        }

        void passSecond(Lot lot) {
            seconds++;
            quietSeconds++;
            if (quietSeconds >= PASSIVE_TIME) {
                becomePassive();
            }
            if (!isOver()) {
                lookAtTime(lot);
            }
        }

        private void becomePassive() {
            quietSeconds = 0;
            passivities++;
            if (passivities == 2) {
                addTouches(BOTH_SIDES);
            } else if (passivities >= 3) {
                finish(leader());
            }
        }

        private void lookAtTime(Lot lot) {
            if (seconds < timeLimit()) {
                return;
            }
            if (drawn != NONE) {
                finish(drawn);
            } else if (isLike()) {
                drawn = lot.draw();
            } else {
                finish(leader());
            }
        }

        private int timeLimit() {
            return drawn == NONE ? TIME : TIME + MORE_TIME;
        }

        int secondsLeft() {
            return isOver() ? 0 : timeLimit() - seconds;
        }

        int told(int what) {
            switch (what) {
                case 0:
                    return first.touches;
                case 1:
                    return second.touches;
                case 2:
                    return winner;
                case 3:
                    return seconds;
                case 4:
                    return passivities;
                default:
                    return drawn;
            }
        }

        /** What the bout adds to the table of a pool for a side. */
        int share(int side, int what) {
            switch (what) {
                case 0:
                    return 1;
                case 1:
                    return winner == side ? 1 : 0;
                case 2:
                    return corner(side).touches;
                default:
                    return corner(1 - side).touches;
            }
        }
    }

    /** The seed, and the draw of a side by it. */
    private static final class Lot {
        private long seed = 0;

        int draw() {
            seed = (1103515245L * seed + 12345L) % 2147483648L;
            return (int) (seed / 65536L % 2L);
        }
    }

    /** A set of fencers with the table of their bouts, which leaves out who withdrew. */
    private static final class Pool {
        private static final int COLUMNS = LAST_OF_POOL + 1;
        private static final int BOUTS = 0, WINS = 1, GIVEN = 2, GOT = 3;

        private final int number;
        private final int members;
        private final int[] table = new int[MOST_FENCERS * COLUMNS];
        private final int[] ranking = new int[MOST_FENCERS];
        private int withdrawn = 0;

        Pool(int number, int members) {
            this.number = number;
            this.members = members;
        }

        private static boolean isIn(int fencers, int fencer) {
            return fencer >= 0 && fencer < MOST_FENCERS && (fencers & (1 << fencer)) != 0;
        }

        boolean has(int fencer) {
            return isIn(members, fencer);
        }

        boolean isWithdrawn(int fencer) {
            return isIn(withdrawn, fencer);
        }

        void markWithdrawn(int fencer) {
            if (has(fencer)) {
                withdrawn |= 1 << fencer;
            }
        }

        boolean counts(Bout bout) {
            return bout.pool == number && bout.isOver()
                    && !isWithdrawn(bout.first.fencer) && !isWithdrawn(bout.second.fencer);
        }

        /** Adds a bout to the table with the sign 1, or takes it out with the sign -1. */
        void enter(Bout bout, int sign) {
            for (int what = 0; what < COLUMNS; what++) {
                addTo(bout.first.fencer, what, sign * bout.share(0, what));
                addTo(bout.second.fencer, what, sign * bout.share(1, what));
            }
        }

        private void addTo(int fencer, int what, int amount) {
            int cell = fencer * COLUMNS + what;
            if (cell >= 0 && cell < table.length) {
                table[cell] += amount;
            }
        }

        int kept(int fencer, int what) {
            int cell = fencer * COLUMNS + what;
            return cell >= 0 && cell < table.length ? table[cell] : 0;
        }

        private boolean isRanked(int fencer) {
            return has(fencer) && !isWithdrawn(fencer);
        }

        int rankedCount() {
            return Integer.bitCount(members & ~withdrawn);
        }

        /** Puts who has a rank in order, for rankedAt to look at. */
        void orderRanked() {
            int ranked = 0;
            for (int fencer = 0; fencer < MOST_FENCERS; fencer++) {
                ranking[fencer] = NONE;
                if (isRanked(fencer)) {
                    insert(fencer, ranked);
                    ranked++;
                }
            }
        }

        private void insert(int fencer, int ranked) {
            int place = ranked;
            while (place > 0 && place < MOST_FENCERS && isAhead(fencer, ranking[place - 1])) {
                ranking[place] = ranking[place - 1];
                place--;
            }
            if (place >= 0 && place < MOST_FENCERS) {
                ranking[place] = fencer;
            }
        }

        int rankedAt(int place) {
            return place >= 0 && place < MOST_FENCERS ? ranking[place] : NONE;
        }

        private boolean isAhead(int one, int other) {
            // cross products compare the quotients just so; without bouts there are no wins
            int ownQuotient = kept(one, WINS) * Math.max(1, kept(other, BOUTS));
            int otherQuotient = kept(other, WINS) * Math.max(1, kept(one, BOUTS));
            if (ownQuotient != otherQuotient) {
                return ownQuotient > otherQuotient;
            }
            if (balance(one) != balance(other)) {
                return balance(one) > balance(other);
            }
            if (kept(one, GIVEN) != kept(other, GIVEN)) {
                return kept(one, GIVEN) > kept(other, GIVEN);
            }
            return one < other;
        }

        private int balance(int fencer) {
            return kept(fencer, GIVEN) - kept(fencer, GOT);
        }
    }

    /**
     * A tableau, held as a tree in a row: the winner of the match at node n stands at n, its two
     * fencers at 2 n and 2 n and 1; the places stand behind all matches, and the last winner at 1.
     */
    private static final class Bracket {
        private static final int MOST_PLACES = 16;
        private static final int LAST_ROUND = 3;

        private final int[] nodes = new int[2 * MOST_PLACES];
        private final int[] order = new int[MOST_PLACES];
        private int places = 0;

        void makeFrom(Pool pool) {
            pool.orderRanked();
            orderPlaces(leastPlaces(pool.rankedCount()));
            for (int node = 0; node < places; node++) {
                put(node, NONE);
            }
            for (int i = 0; i < places && i < MOST_PLACES; i++) {
                put(places + i, pool.rankedAt(order[i]));
            }
            for (int node = places / 2; node < places; node++) {
                passBye(node);
            }
        }

        private static int leastPlaces(int fencers) {
            int least = 2;
            while (least < fencers && least < MOST_PLACES) {
                least *= 2;
            }
            return least;
        }

        private void orderPlaces(int wanted) {
            places = 2;
            order[0] = 0;
            order[1] = 1;
            while (places < wanted && 2 * places <= MOST_PLACES) {
                // from behind, so that no rank is written over ahead of its turn
                for (int i = places - 1; i >= 0; i--) {
                    int rank = order[i];
                    order[2 * i] = rank;
                    order[2 * i + 1] = 2 * places - 1 - rank;
                }
                places *= 2;
            }
        }

        private void passBye(int node) {
            int one = at(2 * node);
            int other = at(2 * node + 1);
            if (one == NONE || other == NONE) {
                put(node, one == NONE ? other : one);
            }
        }

        private int at(int node) {
            return node >= 0 && node < nodes.length ? nodes[node] : NONE;
        }

        private void put(int node, int fencer) {
            if (node >= 0 && node < nodes.length) {
                nodes[node] = fencer;
            }
        }

        private int matchesIn(int round) {
            return round >= 0 && round <= LAST_ROUND ? places >> (round + 1) : 0;
        }

        boolean hasMatch(int round, int match) {
            return match >= 0 && match < matchesIn(round);
        }

        private int nodeOf(int round, int match) {
            return matchesIn(round) + match;
        }

        int winnerOf(int round, int match) {
            return at(nodeOf(round, match));
        }

        int fencerIn(int round, int match, int side) {
            return at(2 * nodeOf(round, match) + side);
        }

        boolean isOpen(int round, int match) {
            boolean hasBoth = fencerIn(round, match, 0) != NONE && fencerIn(round, match, 1) != NONE;
            return hasBoth && winnerOf(round, match) == NONE;
        }

        int settle(int round, int match, int side) {
            int fencer = fencerIn(round, match, side);
            put(nodeOf(round, match), fencer);
            return fencer;
        }
    }
}
