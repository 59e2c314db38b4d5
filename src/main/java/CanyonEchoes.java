import java.util.Arrays;

/** A canyon over which two echoes feud. */
public final class CanyonEchoes {
    private static final int STONES = 32;
    private static final int ECHOES = 2;
    private static final int MOST_WALLS = 10;
    private static final int MOST_SHOUTS = 40;
    private static final int MOST_UNDER_WAY = 8;
    private static final int MOST_SNOW = 5;
    private static final int MOST_SOAKED = 5;
    private static final int LOUDEST = 99;
    private static final int MOST_BEATS = 100;
    private static final int SILENCE_THAT_COSTS_A_WALL = 12;
    private static final int DIGEST_LOUD = 30;
    private static final int DIGEST_BEATS = 20;
    private static final int NONE = -1;

    private final Canyon now;

    // The room of every "what would be": filled from now, and made once, so that no call makes arrays.
    private final Canyon ahead;

    public CanyonEchoes() {
        now = new Canyon();
        ahead = new Canyon();
    }

    // ---- the canyon

    public int addWall(int stone, int echo, int soaks)
            throws IndexOutOfBoundsException, IllegalArgumentException, IllegalStateException {
        needStone(stone);
        needEcho(echo);
        if (soaks < 0 || soaks > MOST_SOAKED) {
            throw new IllegalArgumentException("soaks is not 0 to 5");
        }
        if (now.wallCount >= MOST_WALLS || now.wallAt[stone] != NONE) {
            throw new IllegalStateException("there are 10 walls, or one stands there");
        }
        return now.build(stone, echo, soaks);
    }

    public int hand(int wall) throws IndexOutOfBoundsException {
        needWall(wall);
        now.wallOwner[wall] = otherEcho(now.wallOwner[wall]);
        return now.wallOwner[wall];
    }

    public int setSnow(int stone, int snow) throws IndexOutOfBoundsException, IllegalArgumentException {
        needStone(stone);
        if (snow < 0 || snow > MOST_SNOW) {
            throw new IllegalArgumentException("snow is not 0 to 5");
        }
        int before = now.snow[stone];
        now.snow[stone] = snow;
        return before;
    }

    public int shout(int stone, boolean isRight, int loud)
            throws IndexOutOfBoundsException, IllegalArgumentException, IllegalStateException {
        needStone(stone);
        needLoud(loud);
        if (now.shoutCount >= MOST_SHOUTS || now.underWayCount >= MOST_UNDER_WAY) {
            throw new IllegalStateException("there were 40 shouts, or 8 are not gone");
        }
        if (now.shoutAt[stone] != NONE) {
            throw new IllegalStateException("a shout is on this stone");
        }
        return now.start(stone, isRight, loud);
    }

    public int pass(int beats) throws IllegalArgumentException {
        needBeats(beats);
        int before = now.coins[0] + now.coins[1];
        for (int i = 0; i < beats; i++) {
            now.goOn();
        }
        return now.coins[0] + now.coins[1] - before;
    }

    // ---- what there is

    public int beat() {
        return now.beatCount;
    }

    public int walls() {
        return now.wallCount;
    }

    public int shouts() {
        return now.shoutCount;
    }

    public int underWay() {
        return now.underWayCount;
    }

    public int overlaps() {
        return now.overlapCount;
    }

    public int snowOn(int stone) throws IndexOutOfBoundsException {
        needStone(stone);
        return now.snow[stone];
    }

    public int wallOn(int stone) throws IndexOutOfBoundsException {
        needStone(stone);
        return now.wallAt[stone];
    }

    public int loudOn(int stone) throws IndexOutOfBoundsException {
        needStone(stone);
        return now.loudAt(stone);
    }

    // ---- walls and echoes

    public int stoneOf(int wall) throws IndexOutOfBoundsException {
        needWall(wall);
        return now.wallStone[wall];
    }

    public int ownerOf(int wall) throws IndexOutOfBoundsException {
        needWall(wall);
        return now.wallOwner[wall];
    }

    public int thrownBack(int wall) throws IndexOutOfBoundsException {
        needWall(wall);
        return now.wallThrows[wall];
    }

    public int coinsOf(int echo) throws IndexOutOfBoundsException {
        needEcho(echo);
        return now.coins[echo];
    }

    public int wallsOf(int echo) throws IndexOutOfBoundsException {
        needEcho(echo);
        int owned = 0;
        for (int wall = 0; wall < now.wallCount; wall++) {
            if (now.wallOwner[wall] == echo) {
                owned++;
            }
        }
        return owned;
    }

    public int silentFor(int echo) throws IndexOutOfBoundsException {
        needEcho(echo);
        return now.silence[echo];
    }

    public int inherited() {
        return now.inheritedCount;
    }

    // ---- shouts

    public int loudnessOf(int shout) throws IndexOutOfBoundsException {
        needShout(shout);
        return now.loud[shout];
    }

    public int placeOf(int shout) throws IndexOutOfBoundsException {
        needShout(shout);
        return now.place[shout];
    }

    public boolean goesRight(int shout) throws IndexOutOfBoundsException {
        needShout(shout);
        return now.step[shout] > 0;
    }

    public int turnsOf(int shout) throws IndexOutOfBoundsException {
        needShout(shout);
        return now.turns[shout];
    }

    // ---- what would be

    public int nextWall(int stone, boolean isRight) throws IndexOutOfBoundsException {
        needStone(stone);
        int step = isRight ? 1 : -1;
        for (int at = stone + step; at >= 0 && at < STONES; at += step) {
            if (now.wallAt[at] != NONE) {
                return at;
            }
        }
        return NONE;
    }

    public int beatsUntilGone(int shout) throws IndexOutOfBoundsException {
        needShout(shout);
        ahead.copyFrom(now);
        int beats = 0;
        // A shout loses 1 or more in each beat, so LOUDEST beats are enough for any.
        while (beats < LOUDEST && ahead.loud[shout] > 0) {
            ahead.goOn();
            beats++;
        }
        return beats;
    }

    public int beatsUntilQuiet() {
        ahead.copyFrom(now);
        int beats = 0;
        while (beats < LOUDEST && ahead.underWayCount > 0) {
            ahead.goOn();
            beats++;
        }
        return beats;
    }

    public int coinsIn(int echo, int beats) throws IndexOutOfBoundsException, IllegalArgumentException {
        needEcho(echo);
        needBeats(beats);
        ahead.copyFrom(now);
        // Without a shout under way no coin is earned any more.
        for (int i = 0; i < beats && ahead.underWayCount > 0; i++) {
            ahead.goOn();
        }
        return ahead.coins[echo] - now.coins[echo];
    }

    public int loudestOn(int stone, int beats) throws IndexOutOfBoundsException, IllegalArgumentException {
        needStone(stone);
        needBeats(beats);
        ahead.copyFrom(now);
        int loudest = 0;
        for (int i = 0; i < beats && ahead.underWayCount > 0; i++) {
            ahead.goOn();
            loudest = Math.max(loudest, ahead.loudAt(stone));
        }
        return loudest;
    }

    public int loudnessWanted(int stone, boolean isRight, int there) throws IndexOutOfBoundsException {
        needStone(stone);
        needStone(there);
        ahead.copyFrom(now);
        ahead.startAlone(stone, isRight, LOUDEST);
        // Every loudness goes the same way and only ends sooner or later: what the loudest
        // one loses on the way to its first visit there, and 1 more, is what is wanted.
        for (int i = 0; i < LOUDEST && ahead.loud[0] > 0; i++) {
            ahead.move(0);
            if (ahead.place[0] == there) {
                return LOUDEST - ahead.loud[0] + 1;
            }
        }
        return NONE;
    }

    public int bestStone(int loud) throws IllegalArgumentException {
        needLoud(loud);
        ahead.copyFrom(now);
        int best = 0;
        int most = 0;
        for (int stone = 0; stone < STONES; stone++) {
            int turns = turnsAlone(stone, loud);
            if (turns > most) {
                most = turns;
                best = stone;
            }
        }
        return best;
    }

    public double meanLoudness() {
        int sum = 0;
        for (int shout = 0; shout < now.shoutCount; shout++) {
            sum += now.loud[shout];
        }
        return now.underWayCount == 0 ? 0.0 : (double) sum / (double) now.underWayCount;
    }

    public long digest() {
        long d = digestCounts(2309L);
        d = digestEchoes(d);
        d = digestWalls(d);
        d = digestShouts(d);
        return digestStones(d);
    }

    // ---- the parts of the digest

    private long digestCounts(long start) {
        long d = mix(start, beat());
        d = mix(d, walls());
        d = mix(d, shouts());
        d = mix(d, underWay());
        d = mix(d, overlaps());
        d = mix(d, inherited());
        d = mix(d, beatsUntilQuiet());
        return mix(d, bestStone(DIGEST_LOUD));
    }

    private long digestEchoes(long start) {
        long d = start;
        for (int echo = 0; echo < ECHOES; echo++) {
            d = mix(d, coinsOf(echo));
            d = mix(d, wallsOf(echo));
            d = mix(d, silentFor(echo));
            d = mix(d, coinsIn(echo, DIGEST_BEATS));
        }
        return d;
    }

    private long digestWalls(long start) {
        long d = start;
        for (int wall = 0; wall < now.wallCount; wall++) {
            d = mix(d, stoneOf(wall));
            d = mix(d, ownerOf(wall));
            d = mix(d, thrownBack(wall));
        }
        return d;
    }

    private long digestShouts(long start) {
        long d = start;
        for (int shout = 0; shout < now.shoutCount; shout++) {
            d = mix(d, loudnessOf(shout));
            d = mix(d, placeOf(shout));
            d = mix(d, goesRight(shout) ? 1 : 0);
            d = mix(d, turnsOf(shout));
        }
        return d;
    }

    private long digestStones(long start) {
        long d = start;
        for (int stone = 0; stone < STONES; stone++) {
            d = mix(d, snowOn(stone));
            d = mix(d, loudOn(stone));
            d = mix(d, nextWall(stone, true));
        }
        return d;
    }

    private static long mix(long d, int x) {
        return d * 31L + x;
    }

    // ---- helpers

    /** How often a lone shout to the right is thrown back; ahead holds the walls and the snow already. */
    private int turnsAlone(int stone, int loud) {
        ahead.startAlone(stone, true, loud);
        for (int i = 0; i < LOUDEST && ahead.loud[0] > 0; i++) {
            ahead.move(0);
        }
        return ahead.turns[0];
    }

    private static boolean isStone(int stone) {
        return stone >= 0 && stone < STONES;
    }

    private static int otherEcho(int echo) {
        return echo == 0 ? 1 : 0;
    }

    private static void needStone(int stone) {
        if (!isStone(stone)) {
            throw new IndexOutOfBoundsException("no such stone");
        }
    }

    private static void needEcho(int echo) {
        if (echo < 0 || echo >= ECHOES) {
            throw new IndexOutOfBoundsException("no such echo");
        }
    }

    private void needWall(int wall) {
        if (wall < 0 || wall >= now.wallCount) {
            throw new IndexOutOfBoundsException("no such wall");
        }
    }

    private void needShout(int shout) {
        if (shout < 0 || shout >= now.shoutCount) {
            throw new IndexOutOfBoundsException("no such shout");
        }
    }

    private static void needLoud(int loud) {
        if (loud < 1 || loud > LOUDEST) {
            throw new IllegalArgumentException("loud is not 1 to 99");
        }
    }

    private static void needBeats(int beats) {
        if (beats < 1 || beats > MOST_BEATS) {
            throw new IllegalArgumentException("beats is not 1 to 100");
        }
    }

    /** One state of the canyon, and what a beat makes of it. Its callers have tested every number. */
    private static final class Canyon {
        private int beatCount;
        private int wallCount;
        private int shoutCount;
        private int underWayCount;
        private int overlapCount;
        private int inheritedCount;

        // By stone; wallAt and shoutAt hold NONE where there is nothing.
        private final int[] snow = new int[STONES];
        private final int[] wallAt = new int[STONES];
        private final int[] shoutAt = new int[STONES];

        // By wall.
        private final int[] wallStone = new int[MOST_WALLS];
        private final int[] wallOwner = new int[MOST_WALLS];
        private final int[] wallSoaks = new int[MOST_WALLS];
        private final int[] wallThrows = new int[MOST_WALLS];

        // By echo.
        private final int[] coins = new int[ECHOES];
        private final int[] silence = new int[ECHOES];

        // By shout; step is 1 to the right and -1 to the left. A shout that is gone has
        // loud 0, place NONE and step 0, so that the answers about it need no case of their own.
        private final int[] loud = new int[MOST_SHOUTS];
        private final int[] place = new int[MOST_SHOUTS];
        private final int[] step = new int[MOST_SHOUTS];
        private final int[] turns = new int[MOST_SHOUTS];

        private Canyon() {
            Arrays.fill(wallAt, NONE);
            Arrays.fill(shoutAt, NONE);
        }

        private void copyFrom(Canyon other) {
            beatCount = other.beatCount;
            wallCount = other.wallCount;
            shoutCount = other.shoutCount;
            underWayCount = other.underWayCount;
            overlapCount = other.overlapCount;
            inheritedCount = other.inheritedCount;
            System.arraycopy(other.snow, 0, snow, 0, STONES);
            System.arraycopy(other.wallAt, 0, wallAt, 0, STONES);
            System.arraycopy(other.shoutAt, 0, shoutAt, 0, STONES);
            System.arraycopy(other.wallStone, 0, wallStone, 0, MOST_WALLS);
            System.arraycopy(other.wallOwner, 0, wallOwner, 0, MOST_WALLS);
            System.arraycopy(other.wallSoaks, 0, wallSoaks, 0, MOST_WALLS);
            System.arraycopy(other.wallThrows, 0, wallThrows, 0, MOST_WALLS);
            System.arraycopy(other.coins, 0, coins, 0, ECHOES);
            System.arraycopy(other.silence, 0, silence, 0, ECHOES);
            System.arraycopy(other.loud, 0, loud, 0, MOST_SHOUTS);
            System.arraycopy(other.place, 0, place, 0, MOST_SHOUTS);
            System.arraycopy(other.step, 0, step, 0, MOST_SHOUTS);
            System.arraycopy(other.turns, 0, turns, 0, MOST_SHOUTS);
        }

        private int build(int stone, int echo, int soaks) {
            int wall = wallCount;
            wallStone[wall] = stone;
            wallOwner[wall] = echo;
            wallSoaks[wall] = soaks;
            wallThrows[wall] = 0;
            wallAt[stone] = wall;
            wallCount++;
            return wall;
        }

        private int start(int stone, boolean isRight, int howLoud) {
            int shout = shoutCount;
            loud[shout] = howLoud;
            place[shout] = stone;
            step[shout] = isRight ? 1 : -1;
            turns[shout] = 0;
            shoutAt[stone] = shout;
            shoutCount++;
            underWayCount++;
            return shout;
        }

        /** Forgets all shouts and starts one, as number 0. */
        private void startAlone(int stone, boolean isRight, int howLoud) {
            shoutCount = 0;
            underWayCount = 0;
            Arrays.fill(shoutAt, NONE);
            start(stone, isRight, howLoud);
        }

        private int loudAt(int stone) {
            int shout = shoutAt[stone];
            return shout == NONE ? 0 : loud[shout];
        }

        /** One beat: its four steps, in their order. */
        private void goOn() {
            int coinsOfFirst = coins[0];
            int coinsOfSecond = coins[1];
            for (int shout = 0; shout < shoutCount; shout++) {
                if (loud[shout] > 0) {
                    move(shout);
                }
            }
            meet();
            listen(0, coins[0] > coinsOfFirst);
            listen(1, coins[1] > coinsOfSecond);
            beatCount++;
        }

        /** Step 1 for a shout that is not gone; all that a beat does to one that is alone. */
        private void move(int shout) {
            int to = place[shout] + step[shout];
            if (!isStone(to)) {
                hush(shout);
                return;
            }
            place[shout] = to;
            loud[shout] -= 1 + snow[to];
            int wall = wallAt[to];
            if (loud[shout] > 0 && wall != NONE) {
                turnAt(wall, shout);
            }
            if (loud[shout] <= 0) {
                hush(shout);
            }
        }

        private void turnAt(int wall, int shout) {
            coins[wallOwner[wall]]++;
            wallThrows[wall]++;
            turns[shout]++;
            loud[shout] -= wallSoaks[wall];
            step[shout] = -step[shout];
        }

        private void hush(int shout) {
            loud[shout] = 0;
            place[shout] = NONE;
            step[shout] = 0;
            underWayCount--;
        }

        /** Step 2: on each stone the loudest shout goes on. */
        private void meet() {
            Arrays.fill(shoutAt, NONE);
            for (int shout = 0; shout < shoutCount; shout++) {
                if (loud[shout] > 0) {
                    settle(shout);
                }
            }
        }

        /** Shouts settle by numbers: of two that are as loud, the one that is there already stays. */
        private void settle(int shout) {
            int stone = place[shout];
            int other = shoutAt[stone];
            if (other == NONE) {
                shoutAt[stone] = shout;
                return;
            }
            overlapCount++;
            if (loud[shout] > loud[other]) {
                hush(other);
                shoutAt[stone] = shout;
            } else {
                hush(shout);
            }
        }

        /** Step 3 for one echo. */
        private void listen(int echo, boolean isPaid) {
            silence[echo] = isPaid ? 0 : silence[echo] + 1;
            if (silence[echo] == SILENCE_THAT_COSTS_A_WALL) {
                silence[echo] = 0;
                loseWall(echo);
            }
        }

        private void loseWall(int echo) {
            for (int wall = 0; wall < wallCount; wall++) {
                if (wallOwner[wall] == echo) {
                    wallOwner[wall] = otherEcho(echo);
                    inheritedCount++;
                    return;
                }
            }
        }
    }
}
