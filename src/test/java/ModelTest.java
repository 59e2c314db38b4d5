import java.util.ArrayList;
import java.util.Arrays;
import java.util.List;

/** Long runs of calls, the same ones each time, against a second program written from the document by other means. */
public final class ModelTest {
    private static final int RUNS = 250;

    private static long seed;
    private static int wrong = 0;

    private static int below(int bound) {
        seed = seed * 6364136223846793005L + 1442695040888963407L;
        return (int) ((seed >>> 33) % bound);
    }

    /** Mostly a number of the document, now and then one at or beyond its edges. */
    private static int about(int low, int high) {
        switch (below(24)) {
            case 0:
                return low - 1;
            case 1:
                return high + 1;
            case 2:
                return low;
            case 3:
                return high;
            case 4:
                return below(8) > 0 ? low : below(2) == 0 ? Integer.MIN_VALUE : Integer.MAX_VALUE;
            default:
                return low + below(high - low + 1);
        }
    }

    /** An answer as a text, or the exact class of what is thrown. */
    private interface Call {
        Object run();
    }

    private static String answer(Call call) {
        try {
            return String.valueOf(call.run());
        } catch (RuntimeException e) {
            return e.getClass().getName();
        }
    }

    private static void same(int run, int at, String what, Call got, Call want) {
        String g = answer(got);
        String w = answer(want);
        if (!g.equals(w)) {
            wrong++;
            if (wrong <= 20) {
                System.out.println("run " + run + ", call " + at + ": " + what + " answered " + g + ", due is " + w);
            }
        }
    }

    public static void main(String[] args) {
        for (int run = 0; run < RUNS; run++) {
            seed = run * 7919L + 17;
            oneRun(run);
        }
        System.out.println(wrong == 0 ? "the program and the model agree" : wrong + " answers differ");
        if (wrong != 0) {
            System.exit(1);
        }
    }

    private static void oneRun(int run) {
        CanyonEchoes x = new CanyonEchoes();
        Model m = new Model();
        // Short passes keep a canyon loud, long ones make silence; half of the runs have much snow.
        int longest = run % 3 == 0 ? 3 : run % 3 == 1 ? 20 : 100;
        int most = run % 2 == 0 ? 1 : 5;
        // With the calls of all() a run stays below the 512 calls that the document speaks of.
        for (int at = 0; at < 170; at++) {
            int kind = below(30);
            if (kind < 4) {
                wall(run, at, x, m);
            } else if (kind < 6) {
                int stone = about(0, 31);
                int snow = about(0, most);
                same(run, at, "setSnow(" + stone + ", " + snow + ")", () -> x.setSnow(stone, snow),
                        () -> m.setSnow(stone, snow));
            } else if (kind < 11) {
                int stone = about(0, 31);
                boolean right = below(2) == 0;
                int loud = below(3) == 0 ? about(1, 9) : about(1, 99);
                same(run, at, "shout(" + stone + ", " + right + ", " + loud + ")", () -> x.shout(stone, right, loud),
                        () -> m.shout(stone, right, loud));
            } else if (kind < 15) {
                int beats = below(8) == 0 ? about(1, 100) : 1 + below(longest);
                same(run, at, "pass(" + beats + ")", () -> x.pass(beats), () -> m.pass(beats));
            } else if (kind < 16) {
                int wall = about(0, Math.max(0, m.walls.size() - 1));
                same(run, at, "hand(" + wall + ")", () -> x.hand(wall), () -> m.hand(wall));
            } else {
                ahead(run, at, x, m);
            }
        }
        all(run, 170, x, m);
    }

    private static void wall(int run, int at, CanyonEchoes x, Model m) {
        int stone = about(0, 31);
        int echo = about(0, 1);
        int soaks = about(0, 5);
        same(run, at, "addWall(" + stone + ", " + echo + ", " + soaks + ")", () -> x.addWall(stone, echo, soaks),
                () -> m.addWall(stone, echo, soaks));
    }

    private static void ahead(int run, int at, CanyonEchoes x, Model m) {
        int stone = about(0, 31);
        int there = about(0, 31);
        int beats = about(1, 100);
        int echo = about(0, 1);
        int loud = about(1, 99);
        int shout = about(0, Math.max(0, m.shouts.size() - 1));
        boolean right = below(2) == 0;
        switch (below(9)) {
            case 0:
                same(run, at, "nextWall(" + stone + ", " + right + ")", () -> x.nextWall(stone, right),
                        () -> m.nextWall(stone, right));
                break;
            case 1:
                same(run, at, "beatsUntilGone(" + shout + ")", () -> x.beatsUntilGone(shout),
                        () -> m.beatsUntilGone(shout));
                break;
            case 2:
                same(run, at, "beatsUntilQuiet()", x::beatsUntilQuiet, m::beatsUntilQuiet);
                break;
            case 3:
                same(run, at, "coinsIn(" + echo + ", " + beats + ")", () -> x.coinsIn(echo, beats),
                        () -> m.coinsIn(echo, beats));
                break;
            case 4:
                same(run, at, "loudestOn(" + stone + ", " + beats + ")", () -> x.loudestOn(stone, beats),
                        () -> m.loudestOn(stone, beats));
                break;
            case 5:
                same(run, at, "loudnessWanted(" + stone + ", " + right + ", " + there + ")",
                        () -> x.loudnessWanted(stone, right, there), () -> m.loudnessWanted(stone, right, there));
                break;
            case 6:
                same(run, at, "bestStone(" + loud + ")", () -> x.bestStone(loud), () -> m.bestStone(loud));
                break;
            case 7:
                same(run, at, "meanLoudness()", x::meanLoudness, m::meanLoudness);
                break;
            default:
                same(run, at, "digest()", x::digest, m::digest);
        }
    }

    private static void all(int run, int at, CanyonEchoes x, Model m) {
        same(run, at, "beat()", x::beat, () -> m.beat);
        same(run, at, "walls()", x::walls, () -> m.walls.size());
        same(run, at, "shouts()", x::shouts, () -> m.shouts.size());
        same(run, at, "underWay()", x::underWay, m::underWay);
        same(run, at, "overlaps()", x::overlaps, () -> m.overlaps);
        same(run, at, "inherited()", x::inherited, () -> m.inherited);
        for (int i = -1; i <= 32; i++) {
            int n = i;
            same(run, at, "snowOn(" + n + ")", () -> x.snowOn(n), () -> m.snow[m.stone(n)]);
            same(run, at, "wallOn(" + n + ")", () -> x.wallOn(n), () -> m.wallOn(n));
            same(run, at, "loudOn(" + n + ")", () -> x.loudOn(n), () -> m.loudOn(n));
        }
        for (int i = -1; i <= m.walls.size(); i++) {
            int n = i;
            same(run, at, "stoneOf(" + n + ")", () -> x.stoneOf(n), () -> m.wall(n)[0]);
            same(run, at, "ownerOf(" + n + ")", () -> x.ownerOf(n), () -> m.wall(n)[1]);
            same(run, at, "thrownBack(" + n + ")", () -> x.thrownBack(n), () -> m.wall(n)[3]);
        }
        for (int i = -1; i <= 2; i++) {
            int n = i;
            same(run, at, "coinsOf(" + n + ")", () -> x.coinsOf(n), () -> m.coins[m.echo(n)]);
            same(run, at, "wallsOf(" + n + ")", () -> x.wallsOf(n), () -> m.wallsOf(n));
            same(run, at, "silentFor(" + n + ")", () -> x.silentFor(n), () -> m.silent[m.echo(n)]);
        }
        for (int i = -1; i <= m.shouts.size(); i++) {
            int n = i;
            same(run, at, "loudnessOf(" + n + ")", () -> x.loudnessOf(n), () -> m.theShout(n).loud);
            same(run, at, "placeOf(" + n + ")", () -> x.placeOf(n), () -> m.theShout(n).shownPlace());
            same(run, at, "goesRight(" + n + ")", () -> x.goesRight(n), () -> m.theShout(n).shownRight());
            same(run, at, "turnsOf(" + n + ")", () -> x.turnsOf(n), () -> m.theShout(n).turns);
        }
        same(run, at, "digest()", x::digest, m::digest);
    }

    private static final class Shout {
        int place;
        boolean right;
        int loud;
        int turns;

        Shout(int place, boolean right, int loud, int turns) {
            this.place = place;
            this.right = right;
            this.loud = loud;
            this.turns = turns;
        }

        int shownPlace() {
            return loud == 0 ? -1 : place;
        }

        boolean shownRight() {
            return loud > 0 && right;
        }
    }

    /** The document, word by word; a look ahead is a copy that is let go on. */
    private static final class Model {
        int beat;
        int overlaps;
        int inherited;
        int[] snow = new int[32];
        int[] coins = new int[2];
        int[] silent = new int[2];
        // Each wall: its stone, its owner, what it soaks up, how many shouts it threw back.
        List<int[]> walls = new ArrayList<>();
        List<Shout> shouts = new ArrayList<>();

        Model copy() {
            Model m = new Model();
            m.beat = beat;
            m.overlaps = overlaps;
            m.inherited = inherited;
            m.snow = snow.clone();
            m.coins = coins.clone();
            m.silent = silent.clone();
            for (int[] wall : walls) {
                m.walls.add(wall.clone());
            }
            for (Shout s : shouts) {
                m.shouts.add(new Shout(s.place, s.right, s.loud, s.turns));
            }
            return m;
        }

        static void index(boolean isThere) {
            if (!isThere) {
                throw new IndexOutOfBoundsException();
            }
        }

        static void argument(int x, int low, int high) {
            if (x < low || x > high) {
                throw new IllegalArgumentException();
            }
        }

        static void state(boolean isFine) {
            if (!isFine) {
                throw new IllegalStateException();
            }
        }

        int stone(int n) {
            index(n >= 0 && n < 32);
            return n;
        }

        int echo(int n) {
            index(n == 0 || n == 1);
            return n;
        }

        int[] wall(int n) {
            index(n >= 0 && n < walls.size());
            return walls.get(n);
        }

        Shout theShout(int n) {
            index(n >= 0 && n < shouts.size());
            return shouts.get(n);
        }

        int addWall(int stone, int echo, int soaks) {
            stone(stone);
            echo(echo);
            argument(soaks, 0, 5);
            state(walls.size() < 10 && wallOn(stone) == -1);
            walls.add(new int[] {stone, echo, soaks, 0});
            return walls.size() - 1;
        }

        int hand(int n) {
            wall(n)[1] = 1 - wall(n)[1];
            return wall(n)[1];
        }

        int setSnow(int stone, int x) {
            stone(stone);
            argument(x, 0, 5);
            int before = snow[stone];
            snow[stone] = x;
            return before;
        }

        int shout(int stone, boolean right, int loud) {
            stone(stone);
            argument(loud, 1, 99);
            state(shouts.size() < 40 && underWay() < 8 && loudOn(stone) == 0);
            shouts.add(new Shout(stone, right, loud, 0));
            return shouts.size() - 1;
        }

        int pass(int beats) {
            argument(beats, 1, 100);
            int sum = 0;
            for (int i = 0; i < beats; i++) {
                sum += oneBeat();
            }
            return sum;
        }

        int oneBeat() {
            boolean[] paid = new boolean[2];
            int sum = 0;
            for (Shout s : shouts) {
                if (s.loud == 0) {
                    continue;
                }
                s.place = s.right ? s.place + 1 : s.place - 1;
                if (s.place == -1 || s.place == 32) {
                    s.loud = 0;
                    continue;
                }
                s.loud = s.loud - 1 - snow[s.place];
                int wall = wallOn(s.place);
                if (s.loud >= 1 && wall != -1) {
                    int[] w = walls.get(wall);
                    coins[w[1]]++;
                    paid[w[1]] = true;
                    sum++;
                    w[3]++;
                    s.turns++;
                    s.loud -= w[2];
                    s.right = !s.right;
                }
                s.loud = Math.max(0, s.loud);
            }
            for (int stone = 0; stone < 32; stone++) {
                meetOn(stone);
            }
            for (int echo = 0; echo < 2; echo++) {
                silent[echo] = paid[echo] ? 0 : silent[echo] + 1;
                if (silent[echo] == 12) {
                    silent[echo] = 0;
                    for (int[] w : walls) {
                        if (w[1] == echo) {
                            w[1] = 1 - echo;
                            inherited++;
                            break;
                        }
                    }
                }
            }
            beat++;
            return sum;
        }

        void meetOn(int stone) {
            Shout winner = null;
            for (Shout s : shouts) {
                if (s.loud > 0 && s.place == stone && (winner == null || s.loud > winner.loud)) {
                    winner = s;
                }
            }
            for (Shout s : shouts) {
                if (s.loud > 0 && s.place == stone && s != winner) {
                    s.loud = 0;
                    overlaps++;
                }
            }
        }

        int underWay() {
            int n = 0;
            for (Shout s : shouts) {
                n += s.loud > 0 ? 1 : 0;
            }
            return n;
        }

        int wallOn(int stone) {
            stone(stone);
            for (int i = 0; i < walls.size(); i++) {
                if (walls.get(i)[0] == stone) {
                    return i;
                }
            }
            return -1;
        }

        int loudOn(int stone) {
            stone(stone);
            for (Shout s : shouts) {
                if (s.loud > 0 && s.place == stone) {
                    return s.loud;
                }
            }
            return 0;
        }

        int wallsOf(int echo) {
            echo(echo);
            int n = 0;
            for (int[] w : walls) {
                n += w[1] == echo ? 1 : 0;
            }
            return n;
        }

        int nextWall(int stone, boolean right) {
            stone(stone);
            int best = -1;
            for (int[] w : walls) {
                if (right && w[0] > stone && (best == -1 || w[0] < best)) {
                    best = w[0];
                }
                if (!right && w[0] < stone && w[0] > best) {
                    best = w[0];
                }
            }
            return best;
        }

        int beatsUntilGone(int n) {
            theShout(n);
            Model m = copy();
            while (m.theShout(n).loud > 0) {
                m.oneBeat();
            }
            return m.beat - beat;
        }

        int beatsUntilQuiet() {
            Model m = copy();
            while (m.underWay() > 0) {
                m.oneBeat();
            }
            return m.beat - beat;
        }

        int coinsIn(int echo, int beats) {
            echo(echo);
            argument(beats, 1, 100);
            Model m = copy();
            m.pass(beats);
            return m.coins[echo] - coins[echo];
        }

        int loudestOn(int stone, int beats) {
            stone(stone);
            argument(beats, 1, 100);
            Model m = copy();
            int[] heard = new int[beats];
            for (int i = 0; i < beats; i++) {
                m.oneBeat();
                heard[i] = m.loudOn(stone);
            }
            Arrays.sort(heard);
            return heard[beats - 1];
        }

        Model alone() {
            Model m = copy();
            m.shouts.clear();
            return m;
        }

        int loudnessWanted(int stone, boolean right, int there) {
            stone(stone);
            stone(there);
            for (int loud = 1; loud <= 99; loud++) {
                Model m = alone();
                m.shout(stone, right, loud);
                while (m.underWay() > 0) {
                    m.oneBeat();
                    if (m.loudOn(there) >= 1) {
                        return loud;
                    }
                }
            }
            return -1;
        }

        int bestStone(int loud) {
            argument(loud, 1, 99);
            int best = 0;
            int most = -1;
            for (int stone = 0; stone < 32; stone++) {
                Model m = alone();
                m.shout(stone, true, loud);
                m.pass(100);
                if (m.theShout(0).turns > most) {
                    most = m.theShout(0).turns;
                    best = stone;
                }
            }
            return best;
        }

        double meanLoudness() {
            double sum = 0;
            for (Shout s : shouts) {
                sum += s.loud;
            }
            return underWay() == 0 ? 0 : sum / underWay();
        }

        long digest() {
            List<Integer> xs = new ArrayList<>(List.of(beat, walls.size(), shouts.size(), underWay(), overlaps,
                    inherited, beatsUntilQuiet(), bestStone(30)));
            for (int i = 0; i < 2; i++) {
                xs.addAll(List.of(coins[i], wallsOf(i), silent[i], coinsIn(i, 20)));
            }
            for (int[] w : walls) {
                xs.addAll(List.of(w[0], w[1], w[3]));
            }
            for (Shout s : shouts) {
                xs.addAll(List.of(s.loud, s.shownPlace(), s.shownRight() ? 1 : 0, s.turns));
            }
            for (int i = 0; i < 32; i++) {
                xs.addAll(List.of(snow[i], loudOn(i), nextWall(i, true)));
            }
            long d = 2309;
            for (int n : xs) {
                d = d * 31 + n;
            }
            return d;
        }
    }
}
