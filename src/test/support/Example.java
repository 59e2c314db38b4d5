public final class Example {
    public static void main(String[] args) {
        CanyonEchoes canyon = new CanyonEchoes();
        int wall = canyon.addWall(9, 0, 1);                       // stone 9, echo 0, soaks up 1
        int shout = canyon.shout(6, true, 20);                    // from stone 6 to the right, 20 loud
        System.out.println(canyon.beatsUntilGone(shout));         // 13
        System.out.println(canyon.loudnessWanted(6, true, 9));    // 5
        System.out.println(canyon.pass(3));                       // 1
        System.out.println(canyon.loudnessOf(shout));             // 16
        System.out.println(canyon.goesRight(shout));              // false
        System.out.println(canyon.coinsOf(canyon.ownerOf(wall))); // 1
        try {
            canyon.addWall(9, 1, 0);
        } catch (IllegalStateException e) {
            System.out.println("a wall stands there");            // a wall stands there
        }
        System.out.println(canyon.walls());                       // 1
    }
}
