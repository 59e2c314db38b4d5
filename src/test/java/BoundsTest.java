import java.math.BigInteger;

/**
 * The boundary cases of each call: the bounds of its numbers, what it answers without any, empty and full, what it
 * refuses in which order, and that a refused call, and one that only looks, has changed nothing.
 */
public final class BoundsTest extends Checks {
    private static final int[] NO_STONES = {-1, 32, LOW, HIGH};
    private static final int[] NO_ECHOES = {-1, 2, LOW, HIGH};
    private static final int[] NO_BEATS = {0, -1, 101, LOW, HIGH};
    private static final int[] NOT_0_TO_5 = {-1, 6, LOW, HIGH};
    private static final int[] NOT_1_TO_99 = {0, -1, 100, LOW, HIGH};

    public static void main(String[] args) {
        Recipe[] recipes = {CanyonEchoes::new, BoundsTest::lively, BoundsTest::full, BoundsTest::spent};
        String[] names = {"a new canyon", "a lively canyon", "a full canyon", "a canyon whose shouts are all spent"};
        for (int i = 0; i < recipes.length; i++) {
            about = names[i];
            refusedNumbers(recipes[i]);
            refusedOrders(recipes[i]);
            refusedWalls(recipes[i]);
            refusedShouts(recipes[i]);
            looksChangeNothing(recipes[i]);
        }
        refusedStates();
        addWallByItsBounds();
        handByItsBounds();
        setSnowByItsBounds();
        shoutByItsBounds();
        freeStones();
        passByItsBounds();
        passIsAsManyBeats();
        countsEmptyAndFull();
        stonesByTheirBounds();
        wallsByTheirBounds();
        shoutsByTheirBounds();
        nextWallByItsBounds();
        beatsUntilGoneByItsBounds();
        beatsUntilQuietByItsBounds();
        coinsInByItsBounds();
        loudestOnByItsBounds();
        loudnessWantedByItsBounds();
        loudnessWantedOf99();
        loudnessWantedOnAWall();
        bestStoneByItsBounds();
        aloneInAFullCanyon();
        meanLoudnessByItsBounds();
        digestOfANewOne();
        digestWrapsAround();
        digestLooks20BeatsAhead();
        finish("the bounds hold");
    }

    // ---- the canyons

    /** Shouts under way and gone, walls of both echoes, snow, and room for more of each. */
    private static CanyonEchoes lively() {
        CanyonEchoes x = new CanyonEchoes();
        x.addWall(5, 0, 1);
        x.addWall(12, 1, 3);
        x.addWall(9, 0, 0);
        x.setSnow(7, 2);
        x.setSnow(31, 5);
        x.shout(31, true, 9);
        x.shout(6, true, 60);
        x.shout(10, true, 44);
        x.pass(10);
        x.shout(30, false, 80);
        return x;
    }

    /** 10 walls, 40 shouts of which 8 are under way, and one on the stone 1, where there is no wall. */
    private static CanyonEchoes full() {
        CanyonEchoes x = new CanyonEchoes();
        for (int i = 0; i < 10; i++) {
            x.addWall(3 * i, i % 2, i % 6);
        }
        for (int i = 0; i < 32; i++) {
            x.shout(4 * (i % 8), true, 1);
            if (i % 8 == 7) {
                x.pass(1);
            }
        }
        for (int i = 0; i < 8; i++) {
            x.shout(4 * i + 1, i % 2 == 0, 99 - i);
        }
        return x;
    }

    /** 40 shouts that are all gone, 9 walls, silence of 5 beats. */
    private static CanyonEchoes spent() {
        CanyonEchoes x = new CanyonEchoes();
        for (int i = 0; i < 9; i++) {
            x.addWall(30 - i, 1 - i % 2, 5);
        }
        for (int i = 0; i < 40; i++) {
            x.shout(i % 8, false, 1);
            if (i % 8 == 7) {
                x.pass(1);
            }
        }
        return x;
    }

    // ---- what every canyon refuses, and what changes none

    private static void refusedNumbers(Recipe recipe) {
        for (int bad : NO_STONES) {
            refusedIn(recipe, "addWall on stone " + bad, INDEX, x -> x.addWall(bad, 0, 0));
            refusedIn(recipe, "setSnow on stone " + bad, INDEX, x -> x.setSnow(bad, 1));
            refusedIn(recipe, "shout from stone " + bad, INDEX, x -> x.shout(bad, true, 9));
            refusedIn(recipe, "snowOn " + bad, INDEX, x -> x.snowOn(bad));
            refusedIn(recipe, "wallOn " + bad, INDEX, x -> x.wallOn(bad));
            refusedIn(recipe, "loudOn " + bad, INDEX, x -> x.loudOn(bad));
            refusedIn(recipe, "nextWall right of " + bad, INDEX, x -> x.nextWall(bad, true));
            refusedIn(recipe, "nextWall left of " + bad, INDEX, x -> x.nextWall(bad, false));
            refusedIn(recipe, "loudestOn " + bad, INDEX, x -> x.loudestOn(bad, 5));
            refusedIn(recipe, "loudnessWanted from " + bad, INDEX, x -> x.loudnessWanted(bad, true, 4));
            refusedIn(recipe, "loudnessWanted at " + bad, INDEX, x -> x.loudnessWanted(4, false, bad));
            refusedIn(recipe, "loudnessWanted from and at " + bad, INDEX, x -> x.loudnessWanted(bad, true, bad));
        }
        for (int bad : NO_ECHOES) {
            refusedIn(recipe, "addWall of echo " + bad, INDEX, x -> x.addWall(1, bad, 0));
            refusedIn(recipe, "coinsOf " + bad, INDEX, x -> x.coinsOf(bad));
            refusedIn(recipe, "wallsOf " + bad, INDEX, x -> x.wallsOf(bad));
            refusedIn(recipe, "silentFor " + bad, INDEX, x -> x.silentFor(bad));
            refusedIn(recipe, "coinsIn of echo " + bad, INDEX, x -> x.coinsIn(bad, 5));
        }
        for (int bad : NO_BEATS) {
            refusedIn(recipe, "pass of " + bad, ARGUMENT, x -> x.pass(bad));
            refusedIn(recipe, "coinsIn in " + bad, ARGUMENT, x -> x.coinsIn(1, bad));
            refusedIn(recipe, "loudestOn in " + bad, ARGUMENT, x -> x.loudestOn(31, bad));
        }
        for (int bad : NOT_0_TO_5) {
            refusedIn(recipe, "addWall that soaks " + bad, ARGUMENT, x -> x.addWall(1, 0, bad));
            refusedIn(recipe, "setSnow of " + bad, ARGUMENT, x -> x.setSnow(1, bad));
        }
        for (int bad : NOT_1_TO_99) {
            refusedIn(recipe, "shout of " + bad, ARGUMENT, x -> x.shout(2, true, bad));
            refusedIn(recipe, "bestStone of " + bad, ARGUMENT, x -> x.bestStone(bad));
        }
    }

    /** Where several exceptions apply, the one that is named first. */
    private static void refusedOrders(Recipe recipe) {
        for (int bad : new int[] {-1, 32}) {
            refusedIn(recipe, "addWall on no stone, soaks 6", INDEX, x -> x.addWall(bad, 0, 6));
            refusedIn(recipe, "addWall on no stone, of no echo", INDEX, x -> x.addWall(bad, 2, 6));
            refusedIn(recipe, "setSnow of 6 on no stone", INDEX, x -> x.setSnow(bad, 6));
            refusedIn(recipe, "setSnow of -1 on no stone", INDEX, x -> x.setSnow(bad, -1));
            refusedIn(recipe, "shout of 0 from no stone", INDEX, x -> x.shout(bad, true, 0));
            refusedIn(recipe, "shout of 100 from no stone", INDEX, x -> x.shout(bad, false, 100));
            refusedIn(recipe, "loudestOn no stone in 0", INDEX, x -> x.loudestOn(bad, 0));
            refusedIn(recipe, "loudestOn no stone in 101", INDEX, x -> x.loudestOn(bad, 101));
        }
        for (int bad : new int[] {-1, 2}) {
            refusedIn(recipe, "addWall of no echo, soaks -1", INDEX, x -> x.addWall(0, bad, -1));
            refusedIn(recipe, "coinsIn of no echo in 0", INDEX, x -> x.coinsIn(bad, 0));
            refusedIn(recipe, "coinsIn of no echo in 101", INDEX, x -> x.coinsIn(bad, 101));
        }
    }

    private static void refusedWalls(Recipe recipe) {
        int walls = recipe.make().walls();
        for (int bad : new int[] {-1, walls, walls + 1, 10, LOW, HIGH}) {
            refusedIn(recipe, "hand " + bad, INDEX, x -> x.hand(bad));
            refusedIn(recipe, "stoneOf " + bad, INDEX, x -> x.stoneOf(bad));
            refusedIn(recipe, "ownerOf " + bad, INDEX, x -> x.ownerOf(bad));
            refusedIn(recipe, "thrownBack " + bad, INDEX, x -> x.thrownBack(bad));
        }
    }

    private static void refusedShouts(Recipe recipe) {
        int shouts = recipe.make().shouts();
        for (int bad : new int[] {-1, shouts, shouts + 1, 40, LOW, HIGH}) {
            refusedIn(recipe, "loudnessOf " + bad, INDEX, x -> x.loudnessOf(bad));
            refusedIn(recipe, "placeOf " + bad, INDEX, x -> x.placeOf(bad));
            refusedIn(recipe, "goesRight " + bad, INDEX, x -> x.goesRight(bad));
            refusedIn(recipe, "turnsOf " + bad, INDEX, x -> x.turnsOf(bad));
            refusedIn(recipe, "beatsUntilGone " + bad, INDEX, x -> x.beatsUntilGone(bad));
        }
    }

    private static void looksChangeNothing(Recipe recipe) {
        int shouts = recipe.make().shouts();
        for (int i = 0; i < shouts; i++) {
            int shout = i;
            changesNothingIn(recipe, "beatsUntilGone " + shout, x -> x.beatsUntilGone(shout));
        }
        changesNothingIn(recipe, "beatsUntilQuiet", CanyonEchoes::beatsUntilQuiet);
        for (int beats : new int[] {1, 12, 100}) {
            changesNothingIn(recipe, "coinsIn of echo 0 in " + beats, x -> x.coinsIn(0, beats));
            changesNothingIn(recipe, "coinsIn of echo 1 in " + beats, x -> x.coinsIn(1, beats));
            changesNothingIn(recipe, "loudestOn in " + beats, x -> x.loudestOn(12, beats));
        }
        for (int stone : new int[] {0, 4, 31}) {
            changesNothingIn(recipe, "loudnessWanted right of " + stone, x -> x.loudnessWanted(stone, true, 9));
            changesNothingIn(recipe, "loudnessWanted left of " + stone, x -> x.loudnessWanted(stone, false, 9));
        }
        for (int loud : new int[] {1, 30, 99}) {
            changesNothingIn(recipe, "bestStone of " + loud, x -> x.bestStone(loud));
        }
        changesNothingIn(recipe, "meanLoudness", CanyonEchoes::meanLoudness);
        changesNothingIn(recipe, "digest", CanyonEchoes::digest);
    }

    /** What depends on how much there is: each reason of an IllegalStateException alone, then with others. */
    private static void refusedStates() {
        about = "IllegalStateException";
        Recipe lively = BoundsTest::lively;
        Recipe full = BoundsTest::full;
        Recipe spent = BoundsTest::spent;
        refusedIn(lively, "addWall where one stands, of 3", STATE, x -> x.addWall(5, 1, 0));
        refusedIn(spent, "addWall where one stands, of 9", STATE, x -> x.addWall(30, 1, 0));
        refusedIn(full, "addWall on a free stone behind 10", STATE, x -> x.addWall(1, 0, 0));
        refusedIn(full, "addWall where one stands behind 10", STATE, x -> x.addWall(27, 0, 0));
        refusedIn(full, "addWall where one stands, soaks 6", ARGUMENT, x -> x.addWall(27, 0, 6));
        refusedIn(full, "addWall behind 10, soaks -1", ARGUMENT, x -> x.addWall(1, 0, -1));
        refusedIn(full, "addWall behind 10, of echo 2", INDEX, x -> x.addWall(1, 2, 0));
        refusedIn(full, "addWall behind 10, on stone 32", INDEX, x -> x.addWall(32, 0, 0));
        refusedIn(lively, "shout where one is", STATE, x -> x.shout(30, true, 9));
        refusedIn(lively, "shout of 0 where one is", ARGUMENT, x -> x.shout(30, true, 0));
        refusedIn(spent, "shout behind 40", STATE, x -> x.shout(1, true, 9));
        refusedIn(spent, "shout of 100 behind 40", ARGUMENT, x -> x.shout(1, true, 100));
        refusedIn(spent, "shout behind 40 from stone 32", INDEX, x -> x.shout(32, true, 9));
        refusedIn(full, "shout behind 40, 8 under way", STATE, x -> x.shout(2, true, 9));
        refusedIn(full, "shout behind 40, 8 under way, one there", STATE, x -> x.shout(1, true, 9));
        Recipe eight = () -> {
            CanyonEchoes x = new CanyonEchoes();
            for (int i = 0; i < 8; i++) {
                x.shout(i, true, 9);
            }
            return x;
        };
        refusedIn(eight, "shout with 8 under way", STATE, x -> x.shout(20, true, 9));
        refusedIn(eight, "shout with 8 under way, one there", STATE, x -> x.shout(7, true, 9));
        refusedIn(eight, "shout of 0 with 8 under way", ARGUMENT, x -> x.shout(20, true, 0));
        refusedIn(eight, "shout with 8 under way from stone -1", INDEX, x -> x.shout(-1, true, 9));
    }

    // ---- the canyon

    private static void addWallByItsBounds() {
        about = "addWall";
        CanyonEchoes x = new CanyonEchoes();
        due("on 0, of echo 0, soaks 0", x.addWall(0, 0, 0), 0);
        due("on 1, of echo 1, soaks 1", x.addWall(1, 1, 1), 1);
        due("on 30, of echo 0, soaks 4", x.addWall(30, 0, 4), 2);
        due("on 31, of echo 1, soaks 5", x.addWall(31, 1, 5), 3);
        x.shout(2, false, 50);
        x.shout(29, true, 50);
        x.pass(1);
        due("soaks 1", x.loudnessOf(0), 48);
        due("soaks 4", x.loudnessOf(1), 45);
        due("coins of echo 0", x.coinsOf(0), 1);
        due("coins of echo 1", x.coinsOf(1), 1);
        due("a wall where a shout is", x.addWall(16, 0, 5), 4);
        due("one where a shout was", x.addWall(2, 0, 5), 5);
    }

    private static void handByItsBounds() {
        about = "hand";
        CanyonEchoes x = new CanyonEchoes();
        refused(x, "the first without walls", INDEX, () -> x.hand(0));
        for (int i = 0; i < 10; i++) {
            x.addWall(i, 0, 0);
            int next = i + 1;
            due("the last of " + next, x.hand(i), 1);
            refused(x, "the next of " + next, INDEX, () -> x.hand(next));
        }
        due("wallsOf 0", x.wallsOf(0), 0);
        due("wallsOf 1", x.wallsOf(1), 10);
        due("the first again", x.hand(0), 0);
        due("ownerOf 0", x.ownerOf(0), 0);
        due("ownerOf 1", x.ownerOf(1), 1);
        due("inherited", x.inherited(), 0);
        due("beat", x.beat(), 0);
    }

    private static void setSnowByItsBounds() {
        about = "setSnow";
        CanyonEchoes x = new CanyonEchoes();
        for (int stone : new int[] {0, 1, 30, 31}) {
            due("of 5 on " + stone, x.setSnow(stone, 5), 0);
            due("of 5 again", x.setSnow(stone, 5), 5);
            due("of 4", x.setSnow(stone, 4), 5);
            due("of 0", x.setSnow(stone, 0), 4);
            due("of 1", x.setSnow(stone, 1), 0);
            due("snowOn", x.snowOn(stone), 1);
        }
        due("snowOn 2", x.snowOn(2), 0);
        due("snowOn 29", x.snowOn(29), 0);
    }

    private static void shoutByItsBounds() {
        about = "shout";
        CanyonEchoes x = new CanyonEchoes();
        x.addWall(0, 0, 5);
        due("on a wall, too", x.shout(0, true, 1), 0);
        due("loudOn the wall", x.loudOn(0), 1);
        due("no coin", x.coinsOf(0), 0);
        due("not thrown back", x.goesRight(0), true);
        refused(x, "a second one on the wall", STATE, () -> x.shout(0, true, 1));
        due("from the last stone", x.shout(31, false, 99), 1);
        due("beside it", x.shout(30, true, 98), 2);
        due("beside the first", x.shout(1, false, 2), 3);
        due("the wall's coin of the one from beside it", x.pass(1), 1);
    }

    private static void freeStones() {
        about = "shout, where one was that is gone";
        CanyonEchoes x = new CanyonEchoes();
        x.addWall(20, 0, 5);
        x.shout(31, true, 9);
        x.shout(10, true, 1);
        x.shout(19, true, 4);
        x.shout(4, true, 9);
        x.shout(6, false, 8);
        x.pass(1);
        due("from where one left", x.shout(31, true, 9), 5);
        due("where one came to 0", x.shout(11, true, 9), 6);
        due("from where it came", x.shout(10, true, 9), 7);
        due("where the wall ended one", x.shout(20, true, 9), 8);
        refused(x, "where one went on from a meeting", STATE, () -> x.shout(5, true, 9));
        due("from where the other one of it came", x.shout(6, true, 9), 9);
    }

    private static void passByItsBounds() {
        about = "pass";
        CanyonEchoes x = new CanyonEchoes();
        due("1", x.pass(1), 0);
        due("2", x.pass(2), 0);
        due("99", x.pass(99), 0);
        due("100", x.pass(100), 0);
        due("beat", x.beat(), 202);
        CanyonEchoes y = new CanyonEchoes();
        for (int i = 0; i < 5; i++) {
            y.addWall(2 * i, i % 2, 0);
            y.addWall(2 * i + 1, i % 2, 0);
        }
        for (int i = 0; i < 5; i++) {
            y.shout(2 * i, true, 99);
        }
        // Each goes to and fro between two walls: a coin in each beat but the last, in which it comes to 0.
        due("coins of all in 98", y.pass(98), 490);
        due("underWay", y.underWay(), 5);
        due("coins in the last", y.pass(1), 0);
        due("underWay", y.underWay(), 0);
        due("coinsOf 0", y.coinsOf(0), 3 * 98);
        due("coinsOf 1", y.coinsOf(1), 2 * 98);
    }

    private static void passIsAsManyBeats() {
        about = "pass, of many beats and of one as often";
        for (Recipe recipe : new Recipe[] {BoundsTest::lively, BoundsTest::full, BoundsTest::spent}) {
            for (int beats : new int[] {2, 11, 12, 13, 99, 100}) {
                CanyonEchoes x = recipe.make();
                CanyonEchoes y = recipe.make();
                int coins = 0;
                for (int i = 0; i < beats; i++) {
                    coins += y.pass(1);
                }
                due("coins of " + beats, x.pass(beats), coins);
                due("digest behind " + beats, x.digest(), y.digest());
            }
        }
    }

    // ---- what there is

    private static void countsEmptyAndFull() {
        about = "what there is, empty and full";
        CanyonEchoes x = new CanyonEchoes();
        due("walls of a new one", x.walls(), 0);
        due("shouts of a new one", x.shouts(), 0);
        due("underWay of a new one", x.underWay(), 0);
        due("overlaps of a new one", x.overlaps(), 0);
        due("inherited of a new one", x.inherited(), 0);
        CanyonEchoes y = full();
        due("walls of a full one", y.walls(), 10);
        due("shouts of a full one", y.shouts(), 40);
        due("underWay of a full one", y.underWay(), 8);
        due("wallsOf 0 of a full one", y.wallsOf(0), 5);
        due("wallsOf 1 of a full one", y.wallsOf(1), 5);
        CanyonEchoes z = spent();
        due("shouts of a spent one", z.shouts(), 40);
        due("underWay of a spent one", z.underWay(), 0);
        CanyonEchoes w = new CanyonEchoes();
        for (int i = 0; i < 8; i++) {
            w.shout(2 * i, i % 2 == 0, 50);
        }
        w.pass(1);
        due("overlaps of 8 that meet by twos", w.overlaps(), 4);
        due("underWay of them", w.underWay(), 4);
    }

    private static void stonesByTheirBounds() {
        about = "snowOn, wallOn, loudOn";
        CanyonEchoes x = new CanyonEchoes();
        for (int stone : new int[] {0, 31}) {
            due("snowOn without any, " + stone, x.snowOn(stone), 0);
            due("wallOn without one, " + stone, x.wallOn(stone), -1);
            due("loudOn without one, " + stone, x.loudOn(stone), 0);
        }
        x.setSnow(0, 5);
        x.addWall(31, 0, 0);
        x.addWall(0, 0, 0);
        x.shout(31, false, 99);
        x.shout(0, true, 1);
        due("snowOn 0", x.snowOn(0), 5);
        due("snowOn 31", x.snowOn(31), 0);
        due("wallOn 31, the first", x.wallOn(31), 0);
        due("wallOn 0, the second", x.wallOn(0), 1);
        due("wallOn 30", x.wallOn(30), -1);
        due("loudOn 31, the loudest", x.loudOn(31), 99);
        due("loudOn 0, the quietest", x.loudOn(0), 1);
        x.pass(1);
        due("loudOn 31 behind a beat", x.loudOn(31), 0);
        due("loudOn 1, where one came to 0", x.loudOn(1), 0);
        due("loudOn 30", x.loudOn(30), 98);
    }

    // ---- walls, echoes and shouts

    private static void wallsByTheirBounds() {
        about = "stoneOf, ownerOf, thrownBack";
        CanyonEchoes x = new CanyonEchoes();
        x.addWall(0, 1, 0);
        x.addWall(31, 0, 0);
        for (int i = 0; i < 8; i++) {
            x.addWall(10 + i, 0, 0);
        }
        due("stoneOf the first", x.stoneOf(0), 0);
        due("stoneOf the second", x.stoneOf(1), 31);
        due("stoneOf the last", x.stoneOf(9), 17);
        due("ownerOf the first", x.ownerOf(0), 1);
        due("ownerOf the last", x.ownerOf(9), 0);
        due("thrownBack of the first", x.thrownBack(0), 0);
        due("thrownBack of the last", x.thrownBack(9), 0);
        x.shout(18, false, 3);
        x.shout(1, false, 2);
        x.pass(2);
        due("thrownBack of the first", x.thrownBack(0), 1);
        due("thrownBack of the last", x.thrownBack(9), 1);
        due("thrownBack of the one before it", x.thrownBack(8), 0);
    }

    private static void shoutsByTheirBounds() {
        about = "loudnessOf, placeOf, goesRight, turnsOf";
        CanyonEchoes x = full();
        for (int shout : new int[] {0, 31}) {
            due("loudnessOf one that is gone, " + shout, x.loudnessOf(shout), 0);
            due("placeOf one that is gone", x.placeOf(shout), -1);
            due("goesRight of one that is gone", x.goesRight(shout), false);
            due("turnsOf one that was never thrown back", x.turnsOf(shout), 0);
        }
        due("loudnessOf the 33rd", x.loudnessOf(32), 99);
        due("placeOf the 33rd", x.placeOf(32), 1);
        due("goesRight of the 33rd", x.goesRight(32), true);
        due("loudnessOf the 40th", x.loudnessOf(39), 92);
        due("placeOf the 40th", x.placeOf(39), 29);
        due("goesRight of the 40th", x.goesRight(39), false);
        due("turnsOf the 40th", x.turnsOf(39), 0);
        x.pass(2);
        // Both come to the wall 9 on 27, from 25 and from 29, and the 39th is the louder one.
        due("turnsOf the 39th, thrown back once", x.turnsOf(38), 1);
        due("goesRight of the 39th, thrown back once", x.goesRight(38), false);
        due("placeOf the 39th", x.placeOf(38), 27);
        due("turnsOf the 40th, thrown back and outdone", x.turnsOf(39), 1);
        due("placeOf the 40th, thrown back and outdone", x.placeOf(39), -1);
        CanyonEchoes y = new CanyonEchoes();
        y.addWall(1, 0, 5);
        y.shout(0, true, 2);
        y.shout(2, true, 9);
        y.shout(4, false, 8);
        y.pass(1);
        due("turnsOf one that its only throw ended", y.turnsOf(0), 1);
        due("loudnessOf one that was outdone", y.loudnessOf(2), 0);
        due("placeOf one that was outdone", y.placeOf(2), -1);
        due("goesRight of one that was outdone", y.goesRight(2), false);
    }

    // ---- what would be

    private static void nextWallByItsBounds() {
        about = "nextWall";
        CanyonEchoes x = new CanyonEchoes();
        for (int stone = 0; stone < 32; stone++) {
            due("right of " + stone + " without walls", x.nextWall(stone, true), -1);
            due("left of " + stone + " without walls", x.nextWall(stone, false), -1);
        }
        x.addWall(16, 0, 0);
        due("not on itself, to the right", x.nextWall(16, true), -1);
        due("not on itself, to the left", x.nextWall(16, false), -1);
        due("right of the stone before it", x.nextWall(15, true), 16);
        due("left of the stone before it", x.nextWall(15, false), -1);
        due("left of the stone behind it", x.nextWall(17, false), 16);
        due("right of the stone behind it", x.nextWall(17, true), -1);
        x.addWall(0, 0, 0);
        x.addWall(31, 1, 0);
        due("to the first", x.nextWall(1, false), 0);
        due("to the first from the next wall", x.nextWall(16, false), 0);
        due("to the last", x.nextWall(30, true), 31);
        due("to the last from the next wall", x.nextWall(16, true), 31);
        due("left of the first", x.nextWall(0, false), -1);
        due("right of the first", x.nextWall(0, true), 16);
        due("right of the last", x.nextWall(31, true), -1);
        due("left of the last", x.nextWall(31, false), 16);
    }

    private static void beatsUntilGoneByItsBounds() {
        about = "beatsUntilGone";
        CanyonEchoes x = new CanyonEchoes();
        x.addWall(0, 0, 0);
        x.addWall(31, 1, 0);
        x.shout(5, true, 99);
        x.shout(0, false, 99);
        x.shout(10, true, 1);
        x.shout(12, true, 2);
        foreseen(x, "the longest", 99, () -> x.beatsUntilGone(0));
        foreseen(x, "leaves at once", 1, () -> x.beatsUntilGone(1));
        foreseen(x, "of 1", 1, () -> x.beatsUntilGone(2));
        foreseen(x, "of 2", 2, () -> x.beatsUntilGone(3));
        x.pass(98);
        foreseen(x, "a beat before", 1, () -> x.beatsUntilGone(0));
        foreseen(x, "gone", 0, () -> x.beatsUntilGone(1));
        x.pass(1);
        foreseen(x, "now", 0, () -> x.beatsUntilGone(0));
        refused(x, "the next", INDEX, () -> x.beatsUntilGone(4));
        CanyonEchoes y = new CanyonEchoes();
        y.shout(9, true, 20);
        y.shout(13, false, 20);
        foreseen(y, "outdone on 11", 2, () -> y.beatsUntilGone(1));
        foreseen(y, "the other goes on", 20, () -> y.beatsUntilGone(0));
    }

    private static void beatsUntilQuietByItsBounds() {
        about = "beatsUntilQuiet";
        CanyonEchoes x = new CanyonEchoes();
        foreseen(x, "without shouts", 0, x::beatsUntilQuiet);
        x.shout(31, true, 99);
        foreseen(x, "of one that leaves at once", 1, x::beatsUntilQuiet);
        x.addWall(0, 0, 0);
        x.addWall(30, 1, 0);
        x.shout(4, true, 99);
        foreseen(x, "the longest", 99, x::beatsUntilQuiet);
        x.pass(1);
        foreseen(x, "a beat later", 98, x::beatsUntilQuiet);
        x.pass(98);
        foreseen(x, "all are gone", 0, x::beatsUntilQuiet);
        CanyonEchoes y = spent();
        foreseen(y, "40 that are all gone", 0, y::beatsUntilQuiet);
    }

    private static void coinsInByItsBounds() {
        about = "coinsIn";
        CanyonEchoes x = new CanyonEchoes();
        foreseen(x, "without walls and shouts", 0, () -> x.coinsIn(0, 1));
        foreseen(x, "without walls and shouts, in 100", 0, () -> x.coinsIn(1, 100));
        x.addWall(10, 0, 0);
        x.addWall(11, 1, 0);
        x.shout(10, true, 99);
        // A coin in each beat but the last, by turns: in the beats 1, 3 to 97 for echo 1, in 2, 4 to 98 for echo 0.
        foreseen(x, "echo 1 in 1", 1, () -> x.coinsIn(1, 1));
        foreseen(x, "echo 0 in 1", 0, () -> x.coinsIn(0, 1));
        foreseen(x, "echo 0 in 2", 1, () -> x.coinsIn(0, 2));
        foreseen(x, "echo 1 in 97", 49, () -> x.coinsIn(1, 97));
        foreseen(x, "echo 0 in 97", 48, () -> x.coinsIn(0, 97));
        foreseen(x, "echo 0 in 98", 49, () -> x.coinsIn(0, 98));
        foreseen(x, "echo 0 in 99", 49, () -> x.coinsIn(0, 99));
        foreseen(x, "echo 1 in 100", 49, () -> x.coinsIn(1, 100));
        for (Recipe recipe : new Recipe[] {BoundsTest::lively, BoundsTest::full}) {
            for (int beats : new int[] {1, 11, 12, 13, 100}) {
                CanyonEchoes y = recipe.make();
                int first = y.coinsIn(0, beats) + y.coinsOf(0);
                int second = y.coinsIn(1, beats) + y.coinsOf(1);
                y.pass(beats);
                due("coinsOf 0 behind " + beats + ", foreseen", first, y.coinsOf(0));
                due("coinsOf 1 behind " + beats + ", foreseen", second, y.coinsOf(1));
            }
        }
    }

    private static void loudestOnByItsBounds() {
        about = "loudestOn";
        CanyonEchoes x = new CanyonEchoes();
        foreseen(x, "without shouts, the first", 0, () -> x.loudestOn(0, 100));
        foreseen(x, "without shouts, the last", 0, () -> x.loudestOn(31, 1));
        x.shout(0, true, 99);
        foreseen(x, "not now", 0, () -> x.loudestOn(0, 1));
        foreseen(x, "the next behind 1", 98, () -> x.loudestOn(1, 1));
        foreseen(x, "the one behind it in 1", 0, () -> x.loudestOn(2, 1));
        foreseen(x, "the last in 30", 0, () -> x.loudestOn(31, 30));
        foreseen(x, "the last in 31", 68, () -> x.loudestOn(31, 31));
        foreseen(x, "the last in 100", 68, () -> x.loudestOn(31, 100));
        CanyonEchoes y = new CanyonEchoes();
        y.shout(20, false, 20);
        foreseen(y, "1 there", 1, () -> y.loudestOn(1, 100));
        foreseen(y, "gone there", 0, () -> y.loudestOn(0, 100));
        CanyonEchoes z = new CanyonEchoes();
        z.addWall(0, 0, 0);
        z.addWall(31, 0, 0);
        z.shout(2, true, 99);
        // To 31 in the beat 29, to 0 in the beat 60, to 31 in the beat 91 with 8, and gone on 23 in the beat 99.
        foreseen(z, "the first in 59", 0, () -> z.loudestOn(0, 59));
        foreseen(z, "the first in 60", 39, () -> z.loudestOn(0, 60));
        foreseen(z, "the louder of two times", 70, () -> z.loudestOn(31, 100));
        z.pass(90);
        foreseen(z, "not behind the last beat", 0, () -> z.loudestOn(23, 100));
        foreseen(z, "the last one that is heard", 1, () -> z.loudestOn(24, 100));
    }

    private static void loudnessWantedByItsBounds() {
        about = "loudnessWanted";
        CanyonEchoes x = new CanyonEchoes();
        foreseen(x, "1 is never enough: the next stone", 2, () -> x.loudnessWanted(0, true, 1));
        foreseen(x, "the next stone to the left", 2, () -> x.loudnessWanted(31, false, 30));
        foreseen(x, "from end to end", 32, () -> x.loudnessWanted(0, true, 31));
        foreseen(x, "from end to end to the left", 32, () -> x.loudnessWanted(31, false, 0));
        foreseen(x, "beyond the last stone", -1, () -> x.loudnessWanted(31, true, 0));
        foreseen(x, "beyond the first stone", -1, () -> x.loudnessWanted(0, false, 31));
        foreseen(x, "the same stone, without walls", -1, () -> x.loudnessWanted(10, true, 10));
        foreseen(x, "the same stone, the last", -1, () -> x.loudnessWanted(31, true, 31));
        foreseen(x, "the same stone, the first", -1, () -> x.loudnessWanted(0, false, 0));
        x.addWall(11, 0, 0);
        foreseen(x, "the same stone, behind a wall beside it", 3, () -> x.loudnessWanted(10, true, 10));
        foreseen(x, "the same stone, the other way", -1, () -> x.loudnessWanted(10, false, 10));
        foreseen(x, "from the wall, on which it is not thrown back", 2, () -> x.loudnessWanted(11, true, 12));
        foreseen(x, "the wall from the wall", -1, () -> x.loudnessWanted(11, true, 11));
    }

    private static void loudnessWantedOf99() {
        about = "loudnessWanted, 99 and more";
        CanyonEchoes x = new CanyonEchoes();
        // From 0 to 31 it is quieter by 31 and by the snow: 13 stones of 5 make 96, 2 more make 98.
        for (int i = 1; i <= 13; i++) {
            x.setSnow(i, 5);
        }
        x.setSnow(31, 1);
        foreseen(x, "98", 98, () -> x.loudnessWanted(0, true, 31));
        x.setSnow(31, 2);
        foreseen(x, "99", 99, () -> x.loudnessWanted(0, true, 31));
        x.setSnow(31, 3);
        foreseen(x, "99 does not do", -1, () -> x.loudnessWanted(0, true, 31));
        x.setSnow(0, 5);
        x.setSnow(31, 2);
        foreseen(x, "snow from where it is shouted does nothing", 99, () -> x.loudnessWanted(0, true, 31));
        CanyonEchoes y = new CanyonEchoes();
        y.addWall(0, 0, 5);
        y.addWall(31, 0, 5);
        // 31 stones and 5 at the one wall, as much at the other; the snow on the way counts twice.
        foreseen(y, "back to where it was shouted, and soaked up there", 73, () -> y.loudnessWanted(0, true, 0));
        y.setSnow(10, 5);
        y.setSnow(11, 5);
        y.setSnow(12, 3);
        foreseen(y, "99 on the way back", 99, () -> y.loudnessWanted(0, true, 0));
        y.setSnow(0, 1);
        foreseen(y, "99 does not do on the way back", -1, () -> y.loudnessWanted(0, true, 0));
    }

    private static void loudnessWantedOnAWall() {
        about = "loudnessWanted, on a wall";
        for (int soaks = 0; soaks <= 5; soaks++) {
            CanyonEchoes x = new CanyonEchoes();
            x.addWall(8, 0, soaks);
            int wanted = 4 + soaks;
            foreseen(x, "1 behind the soaking of " + soaks, wanted, () -> x.loudnessWanted(5, true, 8));
            x.shout(5, true, wanted - 1);
            x.pass(3);
            due("with 1 less it is not heard there", x.loudOn(8), 0);
            x.shout(5, true, wanted);
            x.pass(3);
            due("with as much it is 1 there", x.loudOn(8), 1);
        }
    }

    private static void bestStoneByItsBounds() {
        about = "bestStone";
        CanyonEchoes x = new CanyonEchoes();
        foreseen(x, "1 without walls", 0, () -> x.bestStone(1));
        foreseen(x, "99 without walls", 0, () -> x.bestStone(99));
        x.addWall(31, 0, 0);
        foreseen(x, "1 comes to no wall", 0, () -> x.bestStone(1));
        foreseen(x, "2 comes to the next stone", 30, () -> x.bestStone(2));
        foreseen(x, "3", 29, () -> x.bestStone(3));
        foreseen(x, "32 comes to the wall from the first stone", 0, () -> x.bestStone(32));
        foreseen(x, "31 does not", 1, () -> x.bestStone(31));
        foreseen(x, "of all the smallest", 0, () -> x.bestStone(99));
        x.addWall(30, 1, 0);
        foreseen(x, "between the last two, not before them", 30, () -> x.bestStone(3));
        CanyonEchoes y = new CanyonEchoes();
        y.addWall(0, 0, 0);
        foreseen(y, "a wall on the first stone that none comes to", 0, () -> y.bestStone(99));
        y.addWall(1, 0, 5);
        foreseen(y, "from the first stone", 0, () -> y.bestStone(2));
        due("turns count though the wall ends it", y.bestStone(99), 0);
    }

    /** "If no other one was under way": with 8 under way, 40 shouted and one on each stone that is asked about. */
    private static void aloneInAFullCanyon() {
        about = "if no other one was under way";
        CanyonEchoes x = full();
        CanyonEchoes y = new CanyonEchoes();
        for (int i = 0; i < 10; i++) {
            y.addWall(3 * i, i % 2, i % 6);
        }
        for (int stone = 0; stone < 32; stone++) {
            for (int there = stone % 3; there < 32; there += 3) {
                due("loudnessWanted to the right", x.loudnessWanted(stone, true, there),
                        y.loudnessWanted(stone, true, there));
            }
        }
        for (int loud = 1; loud <= 99; loud++) {
            due("bestStone of " + loud, x.bestStone(loud), y.bestStone(loud));
        }
    }

    private static void meanLoudnessByItsBounds() {
        about = "meanLoudness";
        CanyonEchoes x = new CanyonEchoes();
        due("without any", x.meanLoudness(), 0.0);
        x.shout(4, true, 1);
        due("of one of 1", x.meanLoudness(), 1.0);
        x.shout(6, true, 2);
        due("of two, between two whole numbers", x.meanLoudness(), 1.5);
        x.shout(8, true, 2);
        due("of three", x.meanLoudness(), 5.0 / 3.0);
        x.pass(1);
        due("without the one that is gone", x.meanLoudness(), 1.0);
        x.pass(1);
        due("all are gone", x.meanLoudness(), 0.0);
        CanyonEchoes y = new CanyonEchoes();
        for (int i = 0; i < 8; i++) {
            y.shout(i, true, 99);
        }
        due("of 8 of 99", y.meanLoudness(), 99.0);
        due("of a full one", full().meanLoudness(), 95.5);
        due("of a spent one", spent().meanLoudness(), 0.0);
    }

    // ---- the digest

    private static void digestOfANewOne() {
        about = "digest";
        // 8 numbers, 4 for each echo, all of them 0; then for each stone 0, 0 and -1.
        BigInteger d = BigInteger.valueOf(2309);
        for (int i = 0; i < 16; i++) {
            d = mixed(d, 0);
        }
        for (int i = 0; i < 32; i++) {
            d = mixed(mixed(mixed(d, 0), 0), -1);
        }
        due("of a new one", new CanyonEchoes().digest(), d.longValue());
    }

    /** The checksum in numbers without a bound; only its lowest 64 bits are looked at, as in a wrap-around. */
    private static void digestWrapsAround() {
        about = "digest, which wraps around as a 64-bit integer";
        for (Recipe recipe : new Recipe[] {CanyonEchoes::new, BoundsTest::lively, BoundsTest::full, BoundsTest::spent}) {
            due("digest", recipe.make().digest(), unboundedDigest(recipe.make()).longValue());
        }
        due("below 64 bits it would be another one",
                unboundedDigest(full()).bitLength() > 64, true);
    }

    private static BigInteger mixed(BigInteger d, int... numbers) {
        BigInteger mixed = d;
        for (int x : numbers) {
            mixed = mixed.multiply(BigInteger.valueOf(31)).add(BigInteger.valueOf(x));
        }
        return mixed;
    }

    private static BigInteger unboundedDigest(CanyonEchoes x) {
        int walls = x.walls();
        int shouts = x.shouts();
        BigInteger d = mixed(BigInteger.valueOf(2309), x.beat(), walls, shouts, x.underWay(), x.overlaps(),
                x.inherited(), x.beatsUntilQuiet(), x.bestStone(30));
        for (int i = 0; i < 2; i++) {
            d = mixed(d, x.coinsOf(i), x.wallsOf(i), x.silentFor(i), x.coinsIn(i, 20));
        }
        for (int i = 0; i < walls; i++) {
            d = mixed(d, x.stoneOf(i), x.ownerOf(i), x.thrownBack(i));
        }
        for (int i = 0; i < shouts; i++) {
            d = mixed(d, x.loudnessOf(i), x.placeOf(i), x.goesRight(i) ? 1 : 0, x.turnsOf(i));
        }
        for (int i = 0; i < 32; i++) {
            d = mixed(d, x.snowOn(i), x.loudOn(i), x.nextWall(i, true));
        }
        return d;
    }

    private static void digestLooks20BeatsAhead() {
        about = "digest, coinsIn of 20 beats";
        for (int beats = 19; beats <= 21; beats++) {
            CanyonEchoes x = new CanyonEchoes();
            x.addWall(beats, 1, 0);
            x.shout(0, true, 50);
            // Echo 1 loses its wall in the beat 12, so the coin will be echo 0's.
            due("a coin in the beat " + beats, x.coinsIn(0, 20), beats == 21 ? 0 : 1);
            due("none for the one that loses the wall", x.coinsIn(1, 20), 0);
            due("digest", x.digest(), unboundedDigest(x).longValue());
        }
    }
}
