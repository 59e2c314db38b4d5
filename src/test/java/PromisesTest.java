/**
 * At least one test for each promise of the document, with answers worked out by hand. What a call changes is
 * seen by the digest: the document promises nothing for more than 512 calls of an object, so it must be one call.
 */
public final class PromisesTest extends Checks {
    /** The promise that is being tested. */
    private static void promise(int number) {
        about = "promise " + number;
    }

    public static void main(String[] args) {
        promise1();
        promise2();
        promise3();
        promise4();
        promise5();
        promise6Moves();
        promise6Walls();
        promise6Meetings();
        promise6Silence();
        promise6Wrong();
        promises7To11();
        promises12To14();
        promises15To17();
        promises18To21();
        promises22To25();
        promise26();
        promise27();
        promise28();
        promise29();
        promise30();
        promise31();
        promise32();
        promise33();
        promise34();
        finish("all promises hold");
    }

    private static void promise1() {
        promise(1);
        CanyonEchoes x = new CanyonEchoes();
        due("beat", x.beat(), 0);
        due("walls", x.walls(), 0);
        due("shouts", x.shouts(), 0);
        due("underWay", x.underWay(), 0);
        due("overlaps", x.overlaps(), 0);
        due("inherited", x.inherited(), 0);
        for (int i = 0; i < 32; i++) {
            due("snowOn " + i, x.snowOn(i), 0);
            due("wallOn " + i, x.wallOn(i), -1);
            due("loudOn " + i, x.loudOn(i), 0);
        }
        for (int i = 0; i < 2; i++) {
            due("coinsOf " + i, x.coinsOf(i), 0);
            due("wallsOf " + i, x.wallsOf(i), 0);
            due("silentFor " + i, x.silentFor(i), 0);
        }
        CanyonEchoes other = new CanyonEchoes();
        x.addWall(4, 1, 1);
        x.setSnow(2, 3);
        x.shout(3, true, 50);
        x.pass(1);
        due("two canyons share no beat", other.beat(), 0);
        due("two canyons share no wall", other.wallOn(4), -1);
        due("two canyons share no snow", other.snowOn(2), 0);
        due("two canyons share no coins", other.coinsOf(1), 0);
        due("two canyons share no shout", other.shouts(), 0);
    }

    private static void promise2() {
        promise(2);
        CanyonEchoes x = new CanyonEchoes();
        due("first wall", x.addWall(0, 0, 0), 0);
        due("second wall", x.addWall(31, 1, 5), 1);
        due("stone of the second", x.stoneOf(1), 31);
        due("owner of the second", x.ownerOf(1), 1);
        due("wall on 31", x.wallOn(31), 1);
        due("walls", x.walls(), 2);
        for (int bad : new int[] {-1, 32, LOW, HIGH}) {
            refused(x, "addWall on stone " + bad, INDEX, () -> x.addWall(bad, 0, 0));
            refused(x, "addWall on stone, soaks " + bad, INDEX, () -> x.addWall(bad, 0, 6));
        }
        for (int bad : new int[] {-1, 2, LOW, HIGH}) {
            refused(x, "addWall of echo " + bad, INDEX, () -> x.addWall(5, bad, 0));
            refused(x, "addWall of echo, soaks " + bad, INDEX, () -> x.addWall(0, bad, -1));
        }
        for (int bad : new int[] {-1, 6, LOW, HIGH}) {
            refused(x, "addWall that soaks " + bad, ARGUMENT, () -> x.addWall(5, 0, bad));
            refused(x, "addWall where one stands, that soaks " + bad, ARGUMENT, () -> x.addWall(0, 0, bad));
        }
        refused(x, "addWall where one stands", STATE, () -> x.addWall(0, 1, 3));
        for (int i = 2; i < 10; i++) {
            due("wall " + i, x.addWall(i, i % 2, i % 6), i);
        }
        refused(x, "an eleventh wall", STATE, () -> x.addWall(20, 0, 0));
        refused(x, "an eleventh wall beyond the stones", INDEX, () -> x.addWall(32, 0, 0));
        refused(x, "an eleventh wall of no echo", INDEX, () -> x.addWall(20, 2, 0));
        refused(x, "an eleventh wall that soaks 6", ARGUMENT, () -> x.addWall(20, 0, 6));

        CanyonEchoes y = new CanyonEchoes();
        y.shout(6, true, 9);
        due("a wall where a shout is", y.addWall(6, 0, 5), 0);
        due("the shout stays as loud", y.loudnessOf(0), 9);
        due("pass", y.pass(1), 0);
        due("the shout goes on from the new wall", y.placeOf(0), 7);
    }

    private static void promise3() {
        promise(3);
        CanyonEchoes x = new CanyonEchoes();
        refused(x, "hand without walls", INDEX, () -> x.hand(0));
        x.addWall(3, 0, 0);
        x.addWall(4, 1, 0);
        due("hand 0", x.hand(0), 1);
        due("owner of 0", x.ownerOf(0), 1);
        due("owner of 1", x.ownerOf(1), 1);
        due("wallsOf 0", x.wallsOf(0), 0);
        due("hand 1", x.hand(1), 0);
        due("hand 0 again", x.hand(0), 0);
        due("nothing was inherited", x.inherited(), 0);
        for (int bad : new int[] {-1, 2, 10, LOW, HIGH}) {
            refused(x, "hand " + bad, INDEX, () -> x.hand(bad));
        }
        CanyonEchoes y = new CanyonEchoes();
        y.addWall(3, 0, 0);
        y.pass(5);
        y.hand(0);
        due("handing breaks no silence", y.silentFor(1), 5);
        y.shout(2, true, 9);
        y.pass(1);
        due("the new owner gets the coin", y.coinsOf(1), 1);
        due("the old owner gets none", y.coinsOf(0), 0);
    }

    private static void promise4() {
        promise(4);
        CanyonEchoes x = new CanyonEchoes();
        due("first snow", x.setSnow(0, 5), 0);
        due("next snow", x.setSnow(0, 2), 5);
        due("no snow", x.setSnow(0, 0), 2);
        due("snow on the last", x.setSnow(31, 1), 0);
        due("snow before", x.setSnow(31, 1), 1);
        due("snowOn 31", x.snowOn(31), 1);
        due("snowOn 30", x.snowOn(30), 0);
        for (int bad : new int[] {-1, 32, LOW, HIGH}) {
            refused(x, "setSnow on " + bad, INDEX, () -> x.setSnow(bad, 0));
            refused(x, "setSnow of 6 on " + bad, INDEX, () -> x.setSnow(bad, 6));
        }
        for (int bad : new int[] {-1, 6, LOW, HIGH}) {
            refused(x, "setSnow of " + bad, ARGUMENT, () -> x.setSnow(31, bad));
        }
    }

    private static void promise5() {
        promise(5);
        CanyonEchoes x = new CanyonEchoes();
        x.addWall(7, 0, 5);
        due("first shout", x.shout(7, true, 1), 0);
        due("second shout", x.shout(0, false, 99), 1);
        due("its loudness", x.loudnessOf(1), 99);
        due("its place", x.placeOf(1), 0);
        due("its way", x.goesRight(1), false);
        due("the way of the first", x.goesRight(0), true);
        due("its turns", x.turnsOf(1), 0);
        due("a shout on a wall is not thrown back", x.thrownBack(0), 0);
        due("a shout on a wall earns nothing", x.coinsOf(0), 0);
        for (int bad : new int[] {-1, 32, LOW, HIGH}) {
            refused(x, "shout from " + bad, INDEX, () -> x.shout(bad, true, 5));
            refused(x, "shout of 100 from " + bad, INDEX, () -> x.shout(bad, false, 100));
        }
        for (int bad : new int[] {0, -1, 100, LOW, HIGH}) {
            refused(x, "shout of " + bad, ARGUMENT, () -> x.shout(5, true, bad));
            refused(x, "shout where one is, of " + bad, ARGUMENT, () -> x.shout(7, true, bad));
        }
        refused(x, "shout where one is", STATE, () -> x.shout(7, false, 9));
        for (int i = 2; i < 8; i++) {
            due("shout " + i, x.shout(8 + i, true, 50), i);
        }
        refused(x, "a ninth under way", STATE, () -> x.shout(30, true, 9));
        refused(x, "a ninth under way, of 0", ARGUMENT, () -> x.shout(30, true, 0));
        refused(x, "a ninth under way, beyond", INDEX, () -> x.shout(32, true, 9));
        x.pass(1);
        due("two are gone", x.underWay(), 6);
        due("a stone that a shout has left is free", x.shout(7, true, 9), 8);
        due("so is another", x.shout(0, false, 9), 9);
        refused(x, "a ninth under way again", STATE, () -> x.shout(30, true, 9));

        CanyonEchoes y = new CanyonEchoes();
        for (int i = 0; i < 40; i++) {
            due("shout " + i, y.shout(i % 8, false, 1), i);
            if (i % 8 == 7) {
                y.pass(1);
            }
        }
        due("none is under way", y.underWay(), 0);
        refused(y, "a shout behind 40", STATE, () -> y.shout(3, true, 9));
        refused(y, "a shout behind 40, of 100", ARGUMENT, () -> y.shout(3, true, 100));
        refused(y, "a shout behind 40, beyond", INDEX, () -> y.shout(-1, true, 9));
    }

    private static void promise6Moves() {
        promise(6);
        CanyonEchoes x = new CanyonEchoes();
        x.setSnow(4, 3);
        x.setSnow(3, 5);
        x.shout(3, true, 10);
        x.shout(20, false, 3);
        due("pass 1", x.pass(1), 0);
        due("quieter by 1 and the snow to which it comes", x.loudnessOf(0), 6);
        due("one to the right", x.placeOf(0), 4);
        due("quieter by 1", x.loudnessOf(1), 2);
        due("one to the left", x.placeOf(1), 19);
        due("pass 2", x.pass(2), 0);
        due("three beats went by", x.beat(), 3);
        due("gone at 0", x.loudnessOf(1), 0);
        due("gone has no place", x.placeOf(1), -1);
        due("on", x.placeOf(0), 6);
        due("louder than 0", x.loudnessOf(0), 4);

        CanyonEchoes y = new CanyonEchoes();
        y.setSnow(10, 5);
        y.shout(31, true, 99);
        y.shout(0, false, 99);
        y.shout(30, true, 99);
        y.shout(9, true, 3);
        y.pass(1);
        due("beyond the last stone it is gone", y.loudnessOf(0), 0);
        due("beyond the first stone it is gone", y.loudnessOf(1), 0);
        due("no place beyond the last", y.placeOf(0), -1);
        due("no place beyond the first", y.placeOf(1), -1);
        due("on the last stone it goes on", y.loudnessOf(2), 98);
        due("below 0 is 0", y.loudnessOf(3), 0);
        due("loudOn below 0 is 0", y.loudOn(10), 0);
        due("one is under way", y.underWay(), 1);
    }

    private static void promise6Walls() {
        CanyonEchoes x = new CanyonEchoes();
        x.addWall(5, 1, 2);
        x.addWall(2, 0, 0);
        x.shout(3, true, 10);
        due("no coin before the wall", x.pass(1), 0);
        due("a coin at the wall", x.pass(1), 1);
        due("for the owner", x.coinsOf(1), 1);
        due("not for the other", x.coinsOf(0), 0);
        due("soaked up", x.loudnessOf(0), 6);
        due("on the wall", x.placeOf(0), 5);
        due("the other way", x.goesRight(0), false);
        due("pass 3", x.pass(3), 1);
        due("back again", x.goesRight(0), true);
        due("at the wall to the left", x.placeOf(0), 2);
        due("with what is left", x.loudnessOf(0), 3);
        due("pass 3", x.pass(3), 0);
        due("gone on the wall before it is thrown back", x.turnsOf(0), 2);

        CanyonEchoes y = new CanyonEchoes();
        y.addWall(5, 1, 5);
        y.shout(4, true, 2);
        due("1 is enough for a coin", y.pass(1), 1);
        due("and soaked up", y.loudnessOf(0), 0);
        due("gone", y.underWay(), 0);
        due("it was thrown back", y.turnsOf(0), 1);
        due("by the wall", y.thrownBack(0), 1);
        due("its way is gone", y.goesRight(0), false);
        y.shout(6, false, 1);
        due("0 is not enough", y.pass(1), 0);
        due("not thrown back", y.turnsOf(1), 0);
        y.shout(6, false, 7);
        due("7 is soaked up to 1", y.pass(1), 1);
        due("1 goes on", y.loudnessOf(2), 1);
        y.setSnow(5, 2);
        y.shout(4, true, 3);
        due("snow comes before the wall", y.pass(1), 0);

        CanyonEchoes z = new CanyonEchoes();
        z.addWall(0, 0, 0);
        z.addWall(31, 1, 0);
        z.shout(1, false, 99);
        z.shout(30, true, 99);
        due("walls on the ends throw back", z.pass(1), 2);
        due("to the right", z.goesRight(0), true);
        due("to the left", z.goesRight(1), false);
        z.pass(1);
        due("from the first", z.placeOf(0), 1);
        due("from the last", z.placeOf(1), 30);
    }

    private static void promise6Meetings() {
        CanyonEchoes x = new CanyonEchoes();
        x.shout(4, true, 30);
        x.shout(6, false, 30);
        x.shout(14, true, 30);
        x.shout(16, false, 31);
        x.shout(24, true, 31);
        x.shout(26, false, 30);
        x.pass(1);
        due("as loud: the smaller number goes on", x.loudnessOf(0), 29);
        due("as loud: the greater is gone", x.loudnessOf(1), 0);
        due("the louder goes on", x.loudnessOf(3), 30);
        due("the quieter is gone", x.loudnessOf(2), 0);
        due("the louder with the smaller number goes on", x.loudnessOf(4), 30);
        due("the quieter with the greater number is gone", x.loudnessOf(5), 0);
        due("loudOn", x.loudOn(15), 30);
        due("overlaps", x.overlaps(), 3);
        due("underWay", x.underWay(), 3);
        due("it goes on its way", x.goesRight(3), false);
        due("gone has no way", x.goesRight(2), false);
        x.pass(1);
        due("on its way", x.placeOf(3), 14);

        CanyonEchoes y = new CanyonEchoes();
        y.shout(4, true, 30);
        y.shout(5, false, 20);
        y.pass(1);
        due("shouts go past each other", y.overlaps(), 0);
        due("both are under way", y.underWay(), 2);

        CanyonEchoes z = new CanyonEchoes();
        z.addWall(5, 0, 5);
        z.shout(4, true, 3);
        z.shout(6, false, 20);
        due("both are thrown back before they meet", z.pass(1), 2);
        due("one that is soaked up does not meet", z.overlaps(), 0);
        due("the other goes on", z.loudnessOf(1), 14);
        due("to the right", z.goesRight(1), true);
        z.pass(3);
        z.shout(4, true, 20);
        z.shout(6, false, 21);
        due("both earn a coin, and meet", z.pass(1), 2);
        due("an overlap on a wall", z.overlaps(), 1);
        due("the louder goes on from the wall", z.loudnessOf(3), 15);
        due("the wall threw back both times both", z.thrownBack(0), 4);
        due("the turn of the one that is gone counts", z.turnsOf(2), 1);

        CanyonEchoes v = new CanyonEchoes();
        v.shout(4, true, 2);
        v.shout(6, false, 2);
        v.pass(1);
        due("two of 1 meet", v.overlaps(), 1);
        due("loudOn of 1", v.loudOn(5), 1);
        refused(v, "shout where one of 1 is", STATE, () -> v.shout(5, true, 9));

        CanyonEchoes w = new CanyonEchoes();
        w.setSnow(5, 4);
        w.shout(4, true, 5);
        w.shout(6, false, 5);
        w.pass(1);
        due("two that are gone do not meet", w.overlaps(), 0);
    }

    private static void promise6Silence() {
        CanyonEchoes x = new CanyonEchoes();
        x.addWall(3, 1, 0);
        x.addWall(4, 0, 0);
        x.addWall(5, 0, 0);
        x.addWall(8, 1, 0);
        x.shout(7, true, 2);
        x.pass(11);
        due("silent for 11", x.silentFor(0), 11);
        due("a coin ends the silence", x.silentFor(1), 10);
        due("nothing is lost yet", x.inherited(), 0);
        x.pass(1);
        due("the smallest wall of the silent one is lost", x.ownerOf(1), 1);
        due("no other", x.ownerOf(2), 0);
        due("silent for 0", x.silentFor(0), 0);
        due("silent for 11", x.silentFor(1), 11);
        due("one is inherited", x.inherited(), 1);
        x.pass(1);
        due("the other loses its smallest", x.ownerOf(0), 0);
        due("not the one that it got", x.ownerOf(1), 1);
        due("silent for 0 too", x.silentFor(1), 0);
        due("silent for 1", x.silentFor(0), 1);
        due("two are inherited", x.inherited(), 2);

        CanyonEchoes y = new CanyonEchoes();
        y.addWall(3, 0, 0);
        y.pass(12);
        due("echoes by numbers: lost and lost again in one beat", y.inherited(), 2);
        due("it is back", y.ownerOf(0), 0);
        CanyonEchoes z = new CanyonEchoes();
        z.addWall(3, 1, 0);
        z.pass(12);
        due("echo 0 had none to lose", z.inherited(), 1);
        due("echo 1 lost it", z.ownerOf(0), 0);
        due("silent for 0 without a wall", z.silentFor(0), 0);
        z.pass(11);
        due("silent again", z.silentFor(0), 11);
        z.shout(2, true, 9);
        due("a coin in the twelfth beat", z.pass(1), 1);
        due("saves the wall, echo 1 has none", z.inherited(), 1);
        due("owner", z.ownerOf(0), 0);

        CanyonEchoes w = new CanyonEchoes();
        w.pass(12);
        due("without walls nothing is lost", w.inherited(), 0);
        due("silent for 0 without walls", w.silentFor(0), 0);
        due("silent for 0 without walls", w.silentFor(1), 0);

        CanyonEchoes v = new CanyonEchoes();
        v.addWall(10, 0, 0);
        v.addWall(20, 0, 0);
        v.pass(11);
        v.shout(9, true, 9);
        v.hand(0);
        due("the coin goes to the owner in that beat", v.pass(1), 1);
        due("then echo 0 loses its smallest", v.ownerOf(1), 1);
        due("echo 1 has earned", v.silentFor(1), 0);
        due("coins of echo 1", v.coinsOf(1), 1);
    }

    private static void promise6Wrong() {
        CanyonEchoes x = new CanyonEchoes();
        x.addWall(3, 0, 0);
        x.shout(2, true, 9);
        for (int bad : new int[] {0, -1, 101, LOW, HIGH}) {
            refused(x, "pass " + bad, ARGUMENT, () -> x.pass(bad));
        }
        x.addWall(1, 1, 0);
        due("coins of both echoes", x.pass(100), 4);
        due("of the first", x.coinsOf(0), 2);
        due("of the second", x.coinsOf(1), 2);
        due("100 beats", x.beat(), 100);
        x.shout(2, true, 2);
        due("coins of these beats alone", x.pass(3), 1);
    }

    private static void promises7To11() {
        promise(7);
        CanyonEchoes x = new CanyonEchoes();
        x.pass(1);
        due("beat", x.beat(), 1);
        x.pass(100);
        due("beat", x.beat(), 101);
        promise(8);
        x.addWall(1, 0, 0);
        x.addWall(2, 0, 0);
        x.hand(1);
        due("walls", x.walls(), 2);
        promise(9);
        x.shout(10, true, 9);
        x.shout(12, false, 9);
        due("shouts", x.shouts(), 2);
        promise(10);
        due("underWay", x.underWay(), 2);
        promise(11);
        due("overlaps", x.overlaps(), 0);
        x.pass(1);
        due("overlaps", x.overlaps(), 1);
        promise(9);
        due("shouts that are gone count", x.shouts(), 2);
        promise(10);
        due("underWay", x.underWay(), 1);
        x.pass(8);
        due("underWay", x.underWay(), 0);
        promise(11);
        due("overlaps stay", x.overlaps(), 1);
    }

    private static void promises12To14() {
        CanyonEchoes x = new CanyonEchoes();
        x.setSnow(9, 4);
        x.addWall(9, 0, 1);
        x.addWall(8, 0, 1);
        x.shout(9, true, 42);
        for (int i = 0; i < 32; i++) {
            promise(12);
            due("snowOn " + i, x.snowOn(i), i == 9 ? 4 : 0);
            promise(13);
            due("wallOn " + i, x.wallOn(i), i == 9 ? 0 : i == 8 ? 1 : -1);
            promise(14);
            due("loudOn " + i, x.loudOn(i), i == 9 ? 42 : 0);
        }
        x.pass(1);
        due("loudOn 9 behind it", x.loudOn(9), 0);
        due("loudOn 10", x.loudOn(10), 41);
        for (int bad : new int[] {-1, 32, LOW, HIGH}) {
            promise(12);
            refused(x, "snowOn " + bad, INDEX, () -> x.snowOn(bad));
            promise(13);
            refused(x, "wallOn " + bad, INDEX, () -> x.wallOn(bad));
            promise(14);
            refused(x, "loudOn " + bad, INDEX, () -> x.loudOn(bad));
        }
    }

    private static void promises15To17() {
        CanyonEchoes x = new CanyonEchoes();
        x.addWall(20, 1, 0);
        x.addWall(22, 0, 0);
        x.shout(21, true, 4);
        x.pass(10);
        promise(15);
        due("stoneOf 0", x.stoneOf(0), 20);
        due("stoneOf 1", x.stoneOf(1), 22);
        promise(16);
        due("ownerOf 0", x.ownerOf(0), 1);
        due("ownerOf 1", x.ownerOf(1), 0);
        promise(17);
        due("thrownBack 0", x.thrownBack(0), 1);
        due("thrownBack 1", x.thrownBack(1), 1);
        x.shout(21, true, 7);
        x.pass(10);
        due("one thrown back twice counts twice", x.thrownBack(1), 3);
        for (int bad : new int[] {-1, 2, LOW, HIGH}) {
            promise(15);
            refused(x, "stoneOf " + bad, INDEX, () -> x.stoneOf(bad));
            promise(16);
            refused(x, "ownerOf " + bad, INDEX, () -> x.ownerOf(bad));
            promise(17);
            refused(x, "thrownBack " + bad, INDEX, () -> x.thrownBack(bad));
        }
    }

    private static void promises18To21() {
        CanyonEchoes x = new CanyonEchoes();
        x.addWall(20, 1, 0);
        x.addWall(22, 0, 0);
        x.addWall(24, 1, 0);
        x.shout(21, true, 6);
        x.pass(4);
        promise(18);
        due("coinsOf 0", x.coinsOf(0), 1);
        due("coinsOf 1", x.coinsOf(1), 1);
        promise(19);
        due("wallsOf 0", x.wallsOf(0), 1);
        due("wallsOf 1", x.wallsOf(1), 2);
        promise(20);
        due("silentFor 0", x.silentFor(0), 3);
        due("silentFor 1", x.silentFor(1), 1);
        promise(21);
        due("inherited", x.inherited(), 0);
        x.pass(12);
        due("inherited by both, a wall back and forth", x.inherited(), 1);
        promise(18);
        due("coinsOf 0 behind a second throw", x.coinsOf(0), 2);
        promise(20);
        due("silentFor 0", x.silentFor(0), 11);
        due("silentFor 1", x.silentFor(1), 1);
        promise(19);
        due("wallsOf 0", x.wallsOf(0), 2);
        due("wallsOf 1", x.wallsOf(1), 1);
        for (int bad : new int[] {-1, 2, LOW, HIGH}) {
            promise(18);
            refused(x, "coinsOf " + bad, INDEX, () -> x.coinsOf(bad));
            promise(19);
            refused(x, "wallsOf " + bad, INDEX, () -> x.wallsOf(bad));
            promise(20);
            refused(x, "silentFor " + bad, INDEX, () -> x.silentFor(bad));
        }
    }

    private static void promises22To25() {
        CanyonEchoes x = new CanyonEchoes();
        x.addWall(12, 0, 3);
        x.shout(10, true, 20);
        x.shout(2, false, 20);
        promise(22);
        due("loudnessOf 0", x.loudnessOf(0), 20);
        promise(24);
        due("goesRight 0", x.goesRight(0), true);
        due("goesRight 1", x.goesRight(1), false);
        x.pass(3);
        promise(22);
        due("loudnessOf 0", x.loudnessOf(0), 14);
        due("loudnessOf 1, gone", x.loudnessOf(1), 0);
        promise(23);
        due("placeOf 0", x.placeOf(0), 11);
        due("placeOf 1, gone", x.placeOf(1), -1);
        promise(24);
        due("goesRight 0", x.goesRight(0), false);
        promise(25);
        due("turnsOf 0", x.turnsOf(0), 1);
        due("turnsOf 1", x.turnsOf(1), 0);
        x.pass(20);
        due("turnsOf 0 stay when it is gone", x.turnsOf(0), 1);
        x.shout(31, true, 5);
        x.pass(1);
        promise(24);
        due("goesRight of one that is gone", x.goesRight(2), false);
        for (int bad : new int[] {-1, 3, 40, LOW, HIGH}) {
            promise(22);
            refused(x, "loudnessOf " + bad, INDEX, () -> x.loudnessOf(bad));
            promise(23);
            refused(x, "placeOf " + bad, INDEX, () -> x.placeOf(bad));
            promise(24);
            refused(x, "goesRight " + bad, INDEX, () -> x.goesRight(bad));
            promise(25);
            refused(x, "turnsOf " + bad, INDEX, () -> x.turnsOf(bad));
        }
    }

    private static void promise26() {
        promise(26);
        CanyonEchoes x = new CanyonEchoes();
        due("without walls", x.nextWall(5, true), -1);
        x.addWall(31, 0, 0);
        x.addWall(0, 0, 0);
        x.addWall(10, 0, 0);
        x.addWall(14, 0, 0);
        due("to the right", x.nextWall(5, true), 10);
        due("to the left", x.nextWall(5, false), 0);
        due("not on itself", x.nextWall(10, true), 14);
        due("not on itself to the left", x.nextWall(10, false), 0);
        due("to the end", x.nextWall(14, true), 31);
        due("from the last", x.nextWall(31, true), -1);
        due("from the last to the left", x.nextWall(31, false), 14);
        due("from the first", x.nextWall(0, false), -1);
        for (int bad : new int[] {-1, 32, LOW, HIGH}) {
            refused(x, "nextWall " + bad, INDEX, () -> x.nextWall(bad, true));
            refused(x, "nextWall to the left " + bad, INDEX, () -> x.nextWall(bad, false));
        }
    }

    private static void promise27() {
        promise(27);
        CanyonEchoes x = new CanyonEchoes();
        refused(x, "beatsUntilGone without shouts", INDEX, () -> x.beatsUntilGone(0));
        x.shout(10, true, 5);
        x.shout(30, true, 50);
        x.shout(16, false, 40);
        foreseen(x, "met", 3, () -> x.beatsUntilGone(0));
        foreseen(x, "leaves", 2, () -> x.beatsUntilGone(1));
        foreseen(x, "leaves to the left", 17, () -> x.beatsUntilGone(2));
        x.setSnow(11, 3);
        foreseen(x, "snow", 2, () -> x.beatsUntilGone(0));
        x.pass(2);
        foreseen(x, "gone", 0, () -> x.beatsUntilGone(0));
        for (int bad : new int[] {-1, 3, LOW, HIGH}) {
            refused(x, "beatsUntilGone " + bad, INDEX, () -> x.beatsUntilGone(bad));
        }
        CanyonEchoes y = new CanyonEchoes();
        y.addWall(0, 0, 0);
        y.addWall(31, 1, 0);
        y.shout(0, true, 99);
        foreseen(y, "the longest", 99, () -> y.beatsUntilGone(0));
        y.addWall(20, 1, 5);
        foreseen(y, "soaked up in the beats 20 and 60", 89, () -> y.beatsUntilGone(0));
    }

    private static void promise28() {
        promise(28);
        CanyonEchoes x = new CanyonEchoes();
        foreseen(x, "none", 0, x::beatsUntilQuiet);
        x.shout(10, true, 5);
        foreseen(x, "one", 5, x::beatsUntilQuiet);
        x.shout(20, false, 9);
        foreseen(x, "the longest of two, which meet on 15 as the first is gone", 9, x::beatsUntilQuiet);
        x.shout(31, true, 99);
        foreseen(x, "of three", 9, x::beatsUntilQuiet);
        x.pass(9);
        foreseen(x, "all are gone", 0, x::beatsUntilQuiet);
        x.addWall(0, 0, 0);
        x.addWall(31, 0, 0);
        x.shout(15, true, 99);
        foreseen(x, "the longest", 99, x::beatsUntilQuiet);
    }

    private static void promise29() {
        promise(29);
        CanyonEchoes x = new CanyonEchoes();
        x.addWall(10, 0, 0);
        x.addWall(13, 1, 2);
        foreseen(x, "none under way", 0, () -> x.coinsIn(0, 100));
        x.shout(12, true, 20);
        // At 13 in beat 1 (17 left), at 10 in 4 (14), at 13 in 7 (9), at 10 in 10 (6), at 13 in 13 (1).
        foreseen(x, "echo 1 in 1", 1, () -> x.coinsIn(1, 1));
        foreseen(x, "echo 0 in 1", 0, () -> x.coinsIn(0, 1));
        foreseen(x, "echo 0 in 4", 1, () -> x.coinsIn(0, 4));
        foreseen(x, "echo 1 in 12", 2, () -> x.coinsIn(1, 12));
        foreseen(x, "echo 1 in 13", 3, () -> x.coinsIn(1, 13));
        foreseen(x, "echo 1 in 100", 3, () -> x.coinsIn(1, 100));
        foreseen(x, "echo 0 in 100", 2, () -> x.coinsIn(0, 100));
        x.pass(4);
        foreseen(x, "those to come alone", 1, () -> x.coinsIn(0, 100));
        for (int bad : new int[] {-1, 2, LOW, HIGH}) {
            refused(x, "coinsIn of echo " + bad, INDEX, () -> x.coinsIn(bad, 5));
            refused(x, "coinsIn of echo, in 0, " + bad, INDEX, () -> x.coinsIn(bad, 0));
        }
        for (int bad : new int[] {0, -1, 101, LOW, HIGH}) {
            refused(x, "coinsIn in " + bad, ARGUMENT, () -> x.coinsIn(0, bad));
        }
        CanyonEchoes y = new CanyonEchoes();
        y.addWall(2, 1, 0);
        y.addWall(4, 1, 0);
        y.addWall(20, 0, 0);
        y.shout(3, true, 2);
        y.pass(1);
        y.shout(6, true, 50);
        // Echo 0 loses its wall in beat 12, before the shout comes to it in beat 15.
        foreseen(y, "a wall that will be lost earns for the other", 1, () -> y.coinsIn(1, 20));
        foreseen(y, "and nothing for the one that loses it", 0, () -> y.coinsIn(0, 20));
    }

    private static void promise30() {
        promise(30);
        CanyonEchoes x = new CanyonEchoes();
        x.addWall(10, 0, 4);
        foreseen(x, "none under way", 0, () -> x.loudestOn(5, 100));
        x.shout(5, true, 30);
        x.shout(8, false, 20);
        foreseen(x, "not as it is now", 17, () -> x.loudestOn(5, 3));
        foreseen(x, "not yet", 0, () -> x.loudestOn(5, 2));
        foreseen(x, "what comes back is quieter", 17, () -> x.loudestOn(5, 100));
        foreseen(x, "behind the wall's soaking", 21, () -> x.loudestOn(10, 5));
        foreseen(x, "not beyond the wall", 0, () -> x.loudestOn(11, 100));
        foreseen(x, "on the first", 12, () -> x.loudestOn(0, 100));
        foreseen(x, "the first one behind a beat", 29, () -> x.loudestOn(6, 1));
        foreseen(x, "the louder of two, as the quieter comes first", 28, () -> x.loudestOn(7, 2));
        for (int bad : new int[] {-1, 32, LOW, HIGH}) {
            refused(x, "loudestOn " + bad, INDEX, () -> x.loudestOn(bad, 5));
            refused(x, "loudestOn, in 0, " + bad, INDEX, () -> x.loudestOn(bad, 0));
        }
        for (int bad : new int[] {0, -1, 101, LOW, HIGH}) {
            refused(x, "loudestOn in " + bad, ARGUMENT, () -> x.loudestOn(0, bad));
        }
        CanyonEchoes z = new CanyonEchoes();
        z.shout(4, true, 9);
        foreseen(z, "one alone", 6, () -> z.loudestOn(7, 50));
        CanyonEchoes y = new CanyonEchoes();
        y.shout(4, true, 9);
        y.shout(6, false, 20);
        foreseen(y, "one that is outdone on its way is not heard behind", 0, () -> y.loudestOn(6, 50));
    }

    private static void promise31() {
        promise(31);
        CanyonEchoes x = new CanyonEchoes();
        foreseen(x, "straight on", 4, () -> x.loudnessWanted(5, true, 8));
        foreseen(x, "next", 2, () -> x.loudnessWanted(5, true, 6));
        foreseen(x, "the wrong way", -1, () -> x.loudnessWanted(5, false, 8));
        foreseen(x, "not at once", -1, () -> x.loudnessWanted(5, true, 5));
        foreseen(x, "all along", 32, () -> x.loudnessWanted(31, false, 0));
        x.setSnow(8, 5);
        foreseen(x, "snow there", 9, () -> x.loudnessWanted(5, true, 8));
        x.addWall(8, 0, 3);
        foreseen(x, "1 or louder behind the wall's soaking", 12, () -> x.loudnessWanted(5, true, 8));
        foreseen(x, "back to where it was shouted", 15, () -> x.loudnessWanted(5, true, 5));
        foreseen(x, "thrown back, beyond", 17, () -> x.loudnessWanted(5, true, 3));
        foreseen(x, "not beyond the wall", -1, () -> x.loudnessWanted(5, true, 9));
        foreseen(x, "from the wall", 2, () -> x.loudnessWanted(8, true, 9));
        foreseen(x, "snow from where it is shouted is nothing", 2, () -> x.loudnessWanted(8, false, 7));
        x.shout(5, true, 99);
        x.shout(7, false, 99);
        foreseen(x, "others under way are nothing", 9 + 3, () -> x.loudnessWanted(5, true, 8));
        for (int bad : new int[] {-1, 32, LOW, HIGH}) {
            refused(x, "loudnessWanted from " + bad, INDEX, () -> x.loudnessWanted(bad, true, 5));
            refused(x, "loudnessWanted there " + bad, INDEX, () -> x.loudnessWanted(5, false, bad));
        }
        CanyonEchoes z = new CanyonEchoes();
        due("before a change", z.loudnessWanted(5, true, 8), 4);
        z.setSnow(6, 2);
        due("right behind a change", z.loudnessWanted(5, true, 8), 6);
        CanyonEchoes y = new CanyonEchoes();
        for (int i = 1; i <= 13; i++) {
            y.setSnow(i, 5);
        }
        y.setSnow(20, 2);
        foreseen(y, "99 does", 99, () -> y.loudnessWanted(0, true, 31));
        y.setSnow(21, 1);
        foreseen(y, "99 does not do", -1, () -> y.loudnessWanted(0, true, 31));
    }

    private static void promise32() {
        promise(32);
        CanyonEchoes x = new CanyonEchoes();
        foreseen(x, "without walls", 0, () -> x.bestStone(99));
        x.addWall(0, 0, 0);
        foreseen(x, "a wall that none comes to", 0, () -> x.bestStone(99));
        x.addWall(9, 1, 1);
        foreseen(x, "too quiet", 0, () -> x.bestStone(1));
        foreseen(x, "one beat", 8, () -> x.bestStone(2));
        foreseen(x, "of several the smallest", 7, () -> x.bestStone(3));
        // From 0 at 9 with 11 left, soaked up to 10, at 0 with 1: two turns, as from 1 with 2 left, and so on.
        foreseen(x, "two turns from the smallest", 0, () -> x.bestStone(20));
        x.addWall(20, 0, 2);
        x.addWall(22, 1, 2);
        // From 20: 22 at 2 (loses 4), 20 at 4 (8), 22 (12), 20 (16); from 21 a beat less; from 19 at 20 once.
        foreseen(x, "between two walls", 20, () -> x.bestStone(15));
        foreseen(x, "one beat nearer", 21, () -> x.bestStone(18));
        x.shout(20, true, 99);
        x.shout(21, false, 99);
        foreseen(x, "others under way are nothing", 20, () -> x.bestStone(15));
        foreseen(x, "five turns from 20 and from 21", 20, () -> x.bestStone(20));
        x.setSnow(21, 5);
        foreseen(x, "with snow two from 20 and three from 21", 21, () -> x.bestStone(20));
        CanyonEchoes y = new CanyonEchoes();
        due("before a change", y.bestStone(2), 0);
        y.addWall(9, 1, 1);
        due("right behind a change", y.bestStone(2), 8);
        for (int bad : new int[] {0, -1, 100, LOW, HIGH}) {
            refused(x, "bestStone " + bad, ARGUMENT, () -> x.bestStone(bad));
        }
    }

    private static void promise33() {
        promise(33);
        CanyonEchoes x = new CanyonEchoes();
        due("without any", x.meanLoudness(), 0.0);
        x.shout(3, true, 10);
        due("of one", x.meanLoudness(), 10.0);
        x.shout(31, true, 99);
        x.shout(10, false, 15);
        x.shout(20, false, 15);
        due("of four", x.meanLoudness(), 34.75);
        x.pass(1);
        due("one that is gone does not count", x.meanLoudness(), 37.0 / 3.0);
        x.pass(20);
        due("of none any more", x.meanLoudness(), 0.0);
        CanyonEchoes y = new CanyonEchoes();
        for (int i = 0; i < 40; i++) {
            y.shout(i % 8, i < 39, 1 + i);
            if (i % 8 == 7 && i < 39) {
                y.pass(100);
            }
        }
        due("of the last 8 of 40", y.meanLoudness(), 36.5);
    }

    private static void promise34() {
        promise(34);
        CanyonEchoes fresh = new CanyonEchoes();
        foreseen(fresh, "a new one", digestOf(fresh), fresh::digest);
        for (int beats : new int[] {1, 2, 5, 13, 30, 60}) {
            CanyonEchoes x = new CanyonEchoes();
            x.addWall(5, 0, 1);
            x.addWall(9, 1, 0);
            x.addWall(7, 1, 2);
            x.setSnow(12, 3);
            x.shout(6, true, 60);
            x.shout(8, true, 44);
            x.shout(20, false, 30);
            x.shout(22, true, 30);
            x.pass(beats);
            foreseen(x, "at " + beats, digestOf(x), x::digest);
        }
        CanyonEchoes far = new CanyonEchoes();
        for (int i = 1; i <= 5; i++) {
            far.setSnow(i, 5);
        }
        far.addWall(6, 0, 0);
        far.setSnow(6, 4);
        foreseen(far, "from 1 it takes 30", 1, () -> far.bestStone(30));
        foreseen(far, "the best stone of 30 counts, not of 29", digestOf(far), far::digest);
        far.setSnow(6, 5);
        foreseen(far, "from 1 it takes 31", 2, () -> far.bestStone(30));
        foreseen(far, "the best stone of 30 counts, not of 31", digestOf(far), far::digest);
        CanyonEchoes same = new CanyonEchoes();
        due("another new one", same.digest(), new CanyonEchoes().digest());
        same.setSnow(31, 1);
        foreseen(same, "the last stone counts", new CanyonEchoes().digest() + 31L * 31L, same::digest);
    }

    private static long digestOf(CanyonEchoes x) {
        long[] d = {2309L};
        add(d, x.beat(), x.walls(), x.shouts(), x.underWay(), x.overlaps(), x.inherited());
        add(d, x.beatsUntilQuiet(), x.bestStone(30));
        for (int i = 0; i < 2; i++) {
            add(d, x.coinsOf(i), x.wallsOf(i), x.silentFor(i), x.coinsIn(i, 20));
        }
        for (int i = 0; i < x.walls(); i++) {
            add(d, x.stoneOf(i), x.ownerOf(i), x.thrownBack(i));
        }
        for (int i = 0; i < x.shouts(); i++) {
            add(d, x.loudnessOf(i), x.placeOf(i), x.goesRight(i) ? 1 : 0, x.turnsOf(i));
        }
        for (int i = 0; i < 32; i++) {
            add(d, x.snowOn(i), x.loudOn(i), x.nextWall(i, true));
        }
        return d[0];
    }

    private static void add(long[] d, int... numbers) {
        for (int x : numbers) {
            d[0] = d[0] * 31 + x;
        }
    }
}
