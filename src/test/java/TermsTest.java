/** The boundary cases that "Terms" names: each sentence has a test of its own, on the bound and on both sides of it. */
public final class TermsTest extends Checks {
    public static void main(String[] args) {
        lastCall();
        stonesInARow();
        snowFrom0To5();
        echoesAtFirst();
        tenWalls();
        oneWallOnAStone();
        wallsAreNumbered();
        soakedFrom0To5();
        fortyShouts();
        fortyShoutsOfWhichNoneIsUnderWay();
        loudnessFrom1To99();
        eightUnderWay();
        goneByTheBeat();
        goneBySnow();
        goneBySoaking();
        goneBeyondTheLastStone();
        goneBeyondTheFirstStone();
        wallsOnTheEnds();
        snowOfTheStoneToWhichItComes();
        loudEnoughForAWall();
        otherWayFromThenOn();
        oneAloneGoesOn();
        loudestOfTwo();
        smallestNumberOfSeveral();
        meetingsOfThoseThatAreGone();
        meetingsOnAWall();
        meetingsByTheEnds();
        silenceOf12WithAWall();
        silenceOf12WithoutAWall();
        silenceOf12OfBoth();
        silenceAgainAndAgain();
        silenceBrokenInTime();
        silenceBrokenTooLate();
        smallestNumberIsLost();
        lastWallIsLost();
        coinInTheBeatOfTheLoss();
        beatByBeat();
        finish("the terms hold");
    }

    private static void lastCall() {
        about = "an object is used for at most 512 calls";
        CanyonEchoes x = new CanyonEchoes();
        x.addWall(5, 0, 5);
        for (int i = 0; i < 510; i++) {
            x.pass(100);
        }
        due("the 512th call, inherited", x.inherited(), 2 * (51000 / 12));
        CanyonEchoes y = new CanyonEchoes();
        for (int i = 0; i < 511; i++) {
            y.pass(100);
        }
        due("the 512th call, beat", y.beat(), 51100);
    }

    private static void stonesInARow() {
        about = "32 stones in a row, numbered from 0, from left to right";
        CanyonEchoes x = new CanyonEchoes();
        x.shout(0, true, 99);
        x.pass(30);
        due("from the first, place behind 30 beats", x.placeOf(0), 30);
        x.pass(1);
        due("place behind 31 beats", x.placeOf(0), 31);
        due("loudness behind 31 beats", x.loudnessOf(0), 68);
        x.pass(1);
        due("place behind 32 beats", x.placeOf(0), -1);

        CanyonEchoes y = new CanyonEchoes();
        y.shout(31, false, 99);
        y.pass(31);
        due("from the last, place behind 31 beats", y.placeOf(0), 0);
        due("loudness behind 31 beats", y.loudnessOf(0), 68);
        y.pass(1);
        due("place behind 32 beats", y.placeOf(0), -1);
    }

    private static void snowFrom0To5() {
        about = "snow is 0 to 5 (0, at first)";
        for (int snow = 0; snow <= 5; snow++) {
            CanyonEchoes x = new CanyonEchoes();
            due("setSnow of " + snow + " on new stone", x.setSnow(10, snow), 0);
            due("snowOn", x.snowOn(10), snow);
            x.shout(9, true, 50);
            x.shout(19, true, 50);
            x.pass(1);
            due("loudness in snow " + snow, x.loudnessOf(0), 49 - snow);
            due("loudness elsewhere", x.loudnessOf(1), 49);
        }
        for (int bad : new int[] {-1, 6}) {
            CanyonEchoes x = new CanyonEchoes();
            refused(x, "snow of " + bad, ARGUMENT, () -> x.setSnow(10, bad));
            due("snowOn behind a refusal", x.snowOn(10), 0);
        }
    }

    private static void echoesAtFirst() {
        about = "two echoes, 0 and 1, with 0 coins and silent for 0 beats at first";
        CanyonEchoes x = new CanyonEchoes();
        for (int echo = 0; echo < 2; echo++) {
            due("coinsOf " + echo, x.coinsOf(echo), 0);
            due("silentFor " + echo, x.silentFor(echo), 0);
            due("wallsOf " + echo, x.wallsOf(echo), 0);
            due("a wall of echo " + echo, x.addWall(echo, echo, 0), echo);
            due("its owner", x.ownerOf(echo), echo);
        }
        for (int bad : new int[] {-1, 2}) {
            refused(x, "a wall of echo " + bad, INDEX, () -> x.addWall(9, bad, 0));
        }
    }

    private static void tenWalls() {
        about = "at most 10 walls";
        CanyonEchoes x = new CanyonEchoes();
        for (int i = 0; i < 9; i++) {
            x.addWall(3 * i, 0, 0);
        }
        due("walls", x.walls(), 9);
        due("the tenth wall", x.addWall(31, 1, 5), 9);
        due("walls", x.walls(), 10);
        refused(x, "the eleventh wall", STATE, () -> x.addWall(30, 0, 0));
        due("no wall on its stone", x.wallOn(30), -1);
        due("walls", x.walls(), 10);
        x.pass(100);
        refused(x, "the eleventh wall, later", STATE, () -> x.addWall(30, 0, 0));
    }

    private static void oneWallOnAStone() {
        about = "at most one wall on each stone";
        CanyonEchoes x = new CanyonEchoes();
        int[] stones = {0, 15, 16, 31};
        for (int i = 0; i < stones.length; i++) {
            int stone = stones[i];
            due("a wall on " + stone, x.addWall(stone, 0, 1), i);
            refused(x, "a second one on " + stone, STATE, () -> x.addWall(stone, 1, 2));
            due("wallOn " + stone, x.wallOn(stone), i);
            due("its owner", x.ownerOf(i), 0);
        }
        due("one beside another", x.addWall(14, 0, 0), 4);
        due("one beside another", x.addWall(1, 0, 0), 5);
        x.hand(0);
        refused(x, "a second one where one was handed over", STATE, () -> x.addWall(0, 0, 0));
    }

    private static void wallsAreNumbered() {
        about = "walls are numbered from 0";
        CanyonEchoes x = new CanyonEchoes();
        for (int i = 0; i < 10; i++) {
            int stone = 31 - 3 * i;
            due("wall on " + stone, x.addWall(stone, 0, 0), i);
            due("wallOn " + stone, x.wallOn(stone), i);
            due("stoneOf " + i, x.stoneOf(i), stone);
            if (i == 4) {
                refused(x, "a wall that is refused", ARGUMENT, () -> x.addWall(0, 0, 6));
            }
        }
    }

    private static void soakedFrom0To5() {
        about = "a wall soaks up 0 to 5";
        for (int soaks = 0; soaks <= 5; soaks++) {
            CanyonEchoes x = new CanyonEchoes();
            due("a wall that soaks " + soaks, x.addWall(10, 0, soaks), 0);
            x.shout(9, true, 50);
            x.pass(1);
            due("loudness behind a wall that soaks " + soaks, x.loudnessOf(0), 49 - soaks);
        }
        for (int bad : new int[] {-1, 6}) {
            CanyonEchoes x = new CanyonEchoes();
            refused(x, "a wall that soaks " + bad, ARGUMENT, () -> x.addWall(10, 0, bad));
            due("walls behind a refusal", x.walls(), 0);
        }
    }

    private static void fortyShouts() {
        about = "40 shouts at the most in all, numbered from 0";
        CanyonEchoes x = new CanyonEchoes();
        for (int i = 0; i < 38; i++) {
            due("shout", x.shout(31, true, 99), i);
            x.pass(1);
        }
        due("the 39th", x.shout(5, true, 99), 38);
        due("the 40th", x.shout(7, true, 99), 39);
        due("shouts", x.shouts(), 40);
        due("underWay", x.underWay(), 2);
        refused(x, "the 41st", STATE, () -> x.shout(20, true, 99));
        due("shouts", x.shouts(), 40);
        due("loudOn its stone", x.loudOn(20), 0);
    }

    private static void fortyShoutsOfWhichNoneIsUnderWay() {
        about = "40 shouts at the most in all, gone or not";
        CanyonEchoes x = new CanyonEchoes();
        for (int i = 0; i < 40; i++) {
            x.shout(0, false, 1);
            x.pass(1);
        }
        due("underWay", x.underWay(), 0);
        refused(x, "the 41st", STATE, () -> x.shout(20, true, 99));
        x.pass(100);
        refused(x, "the 41st, later", STATE, () -> x.shout(20, true, 99));
    }

    private static void loudnessFrom1To99() {
        about = "a shout has a loudness, 1 to 99";
        CanyonEchoes x = new CanyonEchoes();
        for (int bad : new int[] {-1, 0, 100}) {
            refused(x, "a shout of " + bad, ARGUMENT, () -> x.shout(3, true, bad));
            due("loudOn behind a refusal", x.loudOn(3), 0);
        }
        int[] fine = {1, 2, 98, 99};
        for (int i = 0; i < fine.length; i++) {
            due("a shout of " + fine[i], x.shout(3 * i, true, fine[i]), i);
            due("loudnessOf", x.loudnessOf(i), fine[i]);
            due("loudOn", x.loudOn(3 * i), fine[i]);
        }
        due("underWay", x.underWay(), 4);
    }

    private static void eightUnderWay() {
        about = "at most 8 shouts are not gone";
        CanyonEchoes x = new CanyonEchoes();
        for (int i = 0; i < 7; i++) {
            x.shout(4 * i, false, 50);
        }
        due("underWay", x.underWay(), 7);
        due("the eighth", x.shout(29, false, 50), 7);
        due("underWay", x.underWay(), 8);
        refused(x, "the ninth", STATE, () -> x.shout(30, false, 50));
        due("shouts behind a refusal", x.shouts(), 8);
        // The first one has left the canyon behind this beat, and no other one.
        x.pass(1);
        due("underWay", x.underWay(), 7);
        due("one for the one that is gone", x.shout(30, false, 50), 8);
        refused(x, "one more", STATE, () -> x.shout(1, false, 50));
        due("underWay", x.underWay(), 8);
    }

    /** The shout answers as one that is gone. */
    private static void isGone(CanyonEchoes x, int shout) {
        due("loudnessOf one that is gone", x.loudnessOf(shout), 0);
        due("placeOf one that is gone", x.placeOf(shout), -1);
        due("goesRight of one that is gone", x.goesRight(shout), false);
        due("beatsUntilGone of one that is gone", x.beatsUntilGone(shout), 0);
    }

    private static void goneByTheBeat() {
        about = "a shout whose loudness is 0 is gone";
        CanyonEchoes x = new CanyonEchoes();
        x.shout(10, true, 1);
        x.shout(20, true, 2);
        x.pass(1);
        isGone(x, 0);
        due("loudOn where it would be", x.loudOn(11), 0);
        due("loudness of the one that was louder by 1", x.loudnessOf(1), 1);
        due("its place", x.placeOf(1), 21);
        due("underWay", x.underWay(), 1);
        due("its stone is free", x.shout(11, true, 9), 2);
        refused(x, "a shout where the other one is", STATE, () -> x.shout(21, true, 9));
        x.pass(1);
        isGone(x, 1);
    }

    private static void goneBySnow() {
        about = "a shout whose loudness is 0 or less is gone, by snow";
        for (int loud = 5; loud <= 7; loud++) {
            CanyonEchoes x = new CanyonEchoes();
            x.setSnow(10, 5);
            x.shout(9, true, loud);
            x.pass(1);
            due("underWay of one of " + loud, x.underWay(), loud == 7 ? 1 : 0);
            due("loudOn", x.loudOn(10), loud == 7 ? 1 : 0);
            due("loudnessOf", x.loudnessOf(0), loud == 7 ? 1 : 0);
            due("placeOf", x.placeOf(0), loud == 7 ? 10 : -1);
            due("goesRight", x.goesRight(0), loud == 7);
        }
    }

    private static void goneBySoaking() {
        about = "a shout whose loudness is 0 or less is gone, by a wall";
        // 3 behind the beat, and then 1 more, as much, or 1 less than what is there.
        for (int soaks = 2; soaks <= 4; soaks++) {
            CanyonEchoes x = new CanyonEchoes();
            x.addWall(10, 1, soaks);
            x.shout(11, false, 4);
            due("coins", x.pass(1), 1);
            due("turnsOf where it soaks " + soaks, x.turnsOf(0), 1);
            due("loudnessOf", x.loudnessOf(0), soaks == 2 ? 1 : 0);
            due("placeOf", x.placeOf(0), soaks == 2 ? 10 : -1);
            due("goesRight", x.goesRight(0), soaks == 2);
            due("underWay", x.underWay(), soaks == 2 ? 1 : 0);
            due("loudOn", x.loudOn(10), soaks == 2 ? 1 : 0);
        }
    }

    private static void goneBeyondTheLastStone() {
        about = "beyond the last stone a shout is gone";
        CanyonEchoes x = new CanyonEchoes();
        x.shout(30, true, 99);
        x.pass(1);
        due("on the last stone, place", x.placeOf(0), 31);
        due("on the last stone, loudness", x.loudnessOf(0), 98);
        due("on the last stone, way", x.goesRight(0), true);
        x.pass(1);
        isGone(x, 0);
        due("loudOn the last stone", x.loudOn(31), 0);
        due("loudOn the first stone", x.loudOn(0), 0);
        due("underWay", x.underWay(), 0);
        CanyonEchoes y = new CanyonEchoes();
        y.shout(31, false, 99);
        y.pass(1);
        due("from the last stone to the left", y.placeOf(0), 30);
    }

    private static void goneBeyondTheFirstStone() {
        about = "beyond the first stone a shout is gone";
        CanyonEchoes x = new CanyonEchoes();
        x.shout(1, false, 99);
        x.pass(1);
        due("on the first stone, place", x.placeOf(0), 0);
        due("on the first stone, loudness", x.loudnessOf(0), 98);
        x.pass(1);
        isGone(x, 0);
        due("loudOn the first stone", x.loudOn(0), 0);
        due("loudOn the last stone", x.loudOn(31), 0);
        due("underWay", x.underWay(), 0);
        CanyonEchoes y = new CanyonEchoes();
        y.shout(0, true, 99);
        y.pass(1);
        due("from the first stone to the right", y.placeOf(0), 1);
    }

    private static void wallsOnTheEnds() {
        about = "walls on the first and the last stone";
        CanyonEchoes x = new CanyonEchoes();
        x.addWall(0, 0, 0);
        x.addWall(31, 1, 0);
        x.shout(0, false, 50);
        x.shout(31, true, 50);
        x.shout(1, false, 40);
        x.shout(30, true, 40);
        due("coins of those that come to them, not of those that leave", x.pass(1), 2);
        isGone(x, 0);
        isGone(x, 1);
        due("on the first, to the right", x.goesRight(2), true);
        due("on the last, to the left", x.goesRight(3), false);
        due("place on the first", x.placeOf(2), 0);
        due("place on the last", x.placeOf(3), 31);
        due("turns of one that left", x.turnsOf(0), 0);
    }

    private static void snowOfTheStoneToWhichItComes() {
        about = "quieter by the snow of the stone to which it comes";
        CanyonEchoes x = new CanyonEchoes();
        x.setSnow(10, 5);
        x.setSnow(11, 1);
        x.shout(10, true, 50);
        x.pass(1);
        due("not by the snow from which it comes", x.loudnessOf(0), 48);
        x.setSnow(11, 5);
        x.setSnow(12, 0);
        x.pass(1);
        due("by the snow as it is now", x.loudnessOf(0), 47);
    }

    private static void loudEnoughForAWall() {
        about = "if it is 1 or louder, and a wall stands there";
        for (int loud = 2; loud <= 4; loud++) {
            CanyonEchoes x = new CanyonEchoes();
            x.setSnow(10, 2);
            x.addWall(10, 1, 0);
            x.shout(9, true, loud);
            int paid = loud == 4 ? 1 : 0;
            due("pass of one of " + loud, x.pass(1), paid);
            due("coinsOf the owner", x.coinsOf(1), paid);
            due("coinsOf the other", x.coinsOf(0), 0);
            due("turnsOf", x.turnsOf(0), paid);
            due("thrownBack", x.thrownBack(0), paid);
            due("silentFor", x.silentFor(1), 1 - paid);
            due("underWay", x.underWay(), paid);
        }
    }

    private static void otherWayFromThenOn() {
        about = "it goes the other way from then on";
        CanyonEchoes x = new CanyonEchoes();
        x.addWall(10, 0, 0);
        x.addWall(11, 0, 0);
        x.shout(10, true, 5);
        due("coins in 4 beats between two walls", x.pass(4), 4);
        due("place", x.placeOf(0), 10);
        due("way", x.goesRight(0), true);
        due("turns", x.turnsOf(0), 4);
        due("no coin as it comes to 0", x.pass(1), 0);
        isGone(x, 0);
    }

    private static void oneAloneGoesOn() {
        about = "on each stone on which more than one shout is";
        CanyonEchoes x = new CanyonEchoes();
        x.shout(9, true, 20);
        x.shout(12, false, 20);
        x.pass(1);
        due("on two stones, overlaps", x.overlaps(), 0);
        due("on two stones, underWay", x.underWay(), 2);
        x.pass(1);
        due("past each other, overlaps", x.overlaps(), 0);
        due("past each other, underWay", x.underWay(), 2);
        due("place of the one", x.placeOf(0), 11);
        due("place of the other", x.placeOf(1), 10);
    }

    private static void loudestOfTwo() {
        about = "the loudest one goes on, the others are gone, each is an overlap";
        for (int second = 19; second <= 21; second++) {
            CanyonEchoes x = new CanyonEchoes();
            x.shout(9, true, 20);
            x.shout(11, false, second);
            x.pass(1);
            int winner = second == 21 ? 1 : 0;
            due("loudness of the one, the other of " + second, x.loudnessOf(winner), Math.max(20, second) - 1);
            isGone(x, 1 - winner);
            due("loudOn", x.loudOn(10), Math.max(20, second) - 1);
            due("overlaps", x.overlaps(), 1);
            due("underWay", x.underWay(), 1);
            due("shouts", x.shouts(), 2);
            x.pass(1);
            due("it goes on", x.placeOf(winner), winner == 0 ? 11 : 9);
            due("overlaps", x.overlaps(), 1);
        }
    }

    private static void smallestNumberOfSeveral() {
        about = "of several the one with the smallest number";
        CanyonEchoes x = new CanyonEchoes();
        x.shout(11, false, 20);
        x.shout(9, true, 20);
        x.shout(19, true, 20);
        x.shout(21, false, 20);
        x.pass(1);
        due("from the right goes on", x.loudnessOf(0), 19);
        isGone(x, 1);
        due("from the left goes on", x.loudnessOf(2), 19);
        isGone(x, 3);
        due("overlaps", x.overlaps(), 2);
    }

    private static void meetingsOfThoseThatAreGone() {
        about = "on which more than one shout is that is not gone";
        CanyonEchoes x = new CanyonEchoes();
        x.shout(9, true, 1);
        x.shout(11, false, 2);
        x.shout(19, true, 1);
        x.shout(21, false, 1);
        x.shout(14, true, 2);
        x.shout(16, false, 2);
        x.pass(1);
        isGone(x, 0);
        due("one of 1 goes on, alone", x.loudnessOf(1), 1);
        isGone(x, 2);
        isGone(x, 3);
        due("of two of 1 the first goes on", x.loudnessOf(4), 1);
        due("overlaps, of the two of 1 alone", x.overlaps(), 1);
    }

    private static void meetingsOnAWall() {
        about = "shouts that meet on a wall";
        CanyonEchoes x = new CanyonEchoes();
        x.addWall(10, 0, 5);
        x.shout(9, true, 7);
        x.shout(11, false, 6);
        due("both earn a coin", x.pass(1), 2);
        due("one is 1 behind the soaking", x.loudnessOf(0), 1);
        isGone(x, 1);
        due("no overlap with one that the wall ended", x.overlaps(), 0);
        due("thrownBack", x.thrownBack(0), 2);
        CanyonEchoes y = new CanyonEchoes();
        y.addWall(10, 0, 5);
        y.shout(9, true, 7);
        y.shout(11, false, 7);
        due("both earn a coin", y.pass(1), 2);
        due("overlap of those that the wall did not end", y.overlaps(), 1);
        due("it goes to the left", y.goesRight(0), false);
        due("turns of the one that is gone", y.turnsOf(1), 1);
    }

    private static void meetingsByTheEnds() {
        about = "shouts that meet beside the ends";
        CanyonEchoes x = new CanyonEchoes();
        x.shout(0, true, 9);
        x.shout(2, false, 9);
        x.shout(29, true, 9);
        x.shout(31, false, 10);
        x.pass(1);
        due("overlaps", x.overlaps(), 2);
        due("loudOn 1", x.loudOn(1), 8);
        due("loudOn 30", x.loudOn(30), 9);
        CanyonEchoes y = new CanyonEchoes();
        y.shout(31, true, 9);
        y.shout(0, false, 9);
        y.pass(1);
        due("those that leave meet none", y.overlaps(), 0);
    }

    private static void silenceOf12WithAWall() {
        about = "silent for 12 beats, with a wall";
        CanyonEchoes x = new CanyonEchoes();
        x.pass(5);
        x.addWall(10, 1, 0);
        x.pass(6);
        due("silentFor 0 behind 11", x.silentFor(0), 11);
        due("silentFor 1 behind 11", x.silentFor(1), 11);
        due("ownerOf behind 11", x.ownerOf(0), 1);
        due("inherited behind 11", x.inherited(), 0);
        x.pass(1);
        due("silentFor 0 behind 12", x.silentFor(0), 0);
        due("silentFor 1 behind 12", x.silentFor(1), 0);
        due("ownerOf behind 12", x.ownerOf(0), 0);
        due("wallsOf 0 behind 12", x.wallsOf(0), 1);
        due("wallsOf 1 behind 12", x.wallsOf(1), 0);
        due("inherited behind 12", x.inherited(), 1);
        x.pass(1);
        due("silentFor 0 behind 13", x.silentFor(0), 1);
        due("silentFor 1 behind 13", x.silentFor(1), 1);
        due("inherited behind 13", x.inherited(), 1);
    }

    private static void silenceOf12WithoutAWall() {
        about = "silent for 12 beats, without a wall";
        CanyonEchoes x = new CanyonEchoes();
        for (int beat = 1; beat <= 37; beat++) {
            x.pass(1);
            due("silentFor 0 at " + beat, x.silentFor(0), beat % 12);
            due("silentFor 1 at " + beat, x.silentFor(1), beat % 12);
        }
        due("inherited", x.inherited(), 0);
        x.addWall(10, 0, 0);
        x.pass(10);
        due("a wall is not lost for the silence before the last 12", x.inherited(), 0);
        due("silentFor", x.silentFor(0), 11);
    }

    private static void silenceOf12OfBoth() {
        about = "silent for 12 beats, each echo by numbers";
        CanyonEchoes x = new CanyonEchoes();
        x.addWall(10, 1, 0);
        x.addWall(11, 0, 0);
        x.pass(12);
        due("echo 0 lost its wall", x.ownerOf(1), 1);
        due("then echo 1 its smallest", x.ownerOf(0), 0);
        due("inherited", x.inherited(), 2);
        CanyonEchoes y = new CanyonEchoes();
        y.addWall(10, 0, 0);
        y.addWall(11, 1, 0);
        y.pass(12);
        due("echo 0 lost its wall, and gets it back", y.ownerOf(0), 0);
        due("echo 1 keeps the greater one", y.ownerOf(1), 1);
        due("inherited", y.inherited(), 2);
    }

    private static void silenceAgainAndAgain() {
        about = "silent for 12 beats, again and again";
        CanyonEchoes x = new CanyonEchoes();
        x.addWall(10, 1, 0);
        x.addWall(20, 1, 0);
        x.pass(23);
        due("inherited behind 23", x.inherited(), 1);
        due("wallsOf 0 behind 23", x.wallsOf(0), 1);
        x.pass(1);
        // Echo 0 gives the wall 0 back, and echo 1 loses it again.
        due("inherited behind 24", x.inherited(), 3);
        due("ownerOf 0", x.ownerOf(0), 0);
        due("ownerOf 1", x.ownerOf(1), 1);
    }

    private static void silenceBrokenInTime() {
        about = "silent for 0 beats if it got a coin in this beat";
        for (int wait = 10; wait <= 11; wait++) {
            CanyonEchoes x = new CanyonEchoes();
            x.addWall(10, 1, 0);
            x.pass(wait);
            x.shout(9, true, 2);
            due("a coin in the beat " + (wait + 1), x.pass(1), 1);
            due("silentFor 1", x.silentFor(1), 0);
            due("silentFor 0", x.silentFor(0), (wait + 1) % 12);
            due("ownerOf", x.ownerOf(0), 1);
            x.pass(11);
            due("inherited 11 beats later", x.inherited(), 0);
            due("silentFor 1, 11 beats later", x.silentFor(1), 11);
            x.pass(1);
            due("inherited 12 beats later", x.inherited(), 1);
        }
    }

    private static void silenceBrokenTooLate() {
        about = "a coin in the thirteenth beat saves no wall";
        CanyonEchoes x = new CanyonEchoes();
        x.addWall(10, 1, 0);
        x.pass(11);
        x.shout(8, true, 3);
        due("none in the twelfth", x.pass(1), 0);
        due("inherited", x.inherited(), 1);
        due("one in the thirteenth", x.pass(1), 1);
        due("for the echo that has the wall then", x.coinsOf(0), 1);
        due("silentFor 0", x.silentFor(0), 0);
        due("silentFor 1", x.silentFor(1), 1);
    }

    private static void smallestNumberIsLost() {
        about = "the wall with the smallest number is the other echo's from then on";
        CanyonEchoes x = new CanyonEchoes();
        x.addWall(25, 0, 0);
        x.addWall(20, 1, 0);
        x.addWall(5, 1, 0);
        x.addWall(10, 1, 0);
        x.pass(11);
        x.shout(24, true, 2);
        x.pass(1);
        due("the smallest number, not the smallest stone", x.ownerOf(1), 0);
        due("ownerOf 2", x.ownerOf(2), 1);
        due("ownerOf 3", x.ownerOf(3), 1);
        due("ownerOf 0", x.ownerOf(0), 0);
        due("inherited", x.inherited(), 1);
        x.pass(1);
        due("from then on", x.ownerOf(1), 0);
    }

    private static void lastWallIsLost() {
        about = "the wall with the greatest number is lost if it is the only one";
        CanyonEchoes x = new CanyonEchoes();
        for (int i = 0; i < 9; i++) {
            x.addWall(i, 0, 0);
        }
        x.addWall(31, 1, 0);
        x.pass(11);
        x.shout(9, false, 2);
        due("a coin for echo 0 in the beat 12", x.pass(1), 1);
        due("ownerOf 9", x.ownerOf(9), 0);
        due("wallsOf 0", x.wallsOf(0), 10);
        due("wallsOf 1", x.wallsOf(1), 0);
        due("inherited", x.inherited(), 1);
    }

    private static void coinInTheBeatOfTheLoss() {
        about = "the coin of a beat is the owner's before the loss of that beat";
        CanyonEchoes x = new CanyonEchoes();
        x.addWall(10, 1, 0);
        x.addWall(20, 0, 0);
        x.pass(11);
        x.shout(9, true, 2);
        due("pass", x.pass(1), 1);
        due("the coin is echo 1's", x.coinsOf(1), 1);
        due("the wall of the silent echo 0 is lost", x.ownerOf(1), 1);
        due("the silence of the one that gets it", x.silentFor(1), 0);
        due("silentFor 0", x.silentFor(0), 0);
    }

    private static void beatByBeat() {
        about = "the beat is 1 greater";
        CanyonEchoes x = new CanyonEchoes();
        due("beat of a new one", x.beat(), 0);
        for (int i = 1; i <= 14; i++) {
            x.pass(1);
            due("beat", x.beat(), i);
        }
    }
}
