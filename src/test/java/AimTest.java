/** Promises 20 to 22: aims, how far they are, and the best mechanism. */
public final class AimTest {
    private static final int UP = CamWright.UP;
    private static final int DOWN = CamWright.DOWN;

    public static void main(String[] args) {
        aim();
        aimRefuses();
        far();
        farFromThreePlaces();
        farBehindTrace();
        farWhereStuck();
        farWhereNear();
        farRefuses();
        best();
        bestBehindTrace();
        bestOfSeveralAlike();
        bestOfBranchesAlike();
        bestWhereStuck();
        Check.finish("AimTest");
    }

    private static void aim() {
        CamWright x = Make.withMechanism(60, 20, 50, 40);
        // B is at (20000, 0) and so on, and of all steps the nearest to (0, 0) by 20000
        Check.due("three aims at (0, 0)", x.far(0, UP), 60000);
        x.aim(0, 20, 0);
        Check.due("the aim 0", x.far(0, UP), 40000);
        x.aim(1, 0, -20);
        Check.due("the aim 1", x.far(0, UP), 20000);
        x.aim(2, -500, 500);
        Check.due("the aim 2", x.far(0, UP), 1000000 - 28280);
        x.aim(2, 500, -500);
        Check.due("the aim 2 told again", x.far(0, UP), 1000000 - 28280);
        x.aim(2, -20, 1);
        Check.due("the aim 2 near", x.far(0, UP), 1000);
    }

    private static void aimRefuses() {
        CamWright x = Make.withMechanism(60, 20, 50, 40);
        Check.noIndex("aim -1", () -> Make.aimed(x, -1, 0, 0));
        Check.noIndex("aim 3", () -> Make.aimed(x, 3, 501, 501));
        Check.noArgument("x -501", () -> Make.aimed(x, 0, -501, 0));
        Check.noArgument("x 501", () -> Make.aimed(x, 0, 501, 20));
        Check.noArgument("y -501", () -> Make.aimed(x, 0, 20, -501));
        Check.noArgument("y 501", () -> Make.aimed(x, 2, 20, 501));
        Check.due("nothing was told", x.far(0, UP), 60000);
    }

    private static void far() {
        CamWright x = Make.withMechanism(40, 10, 30, 30);
        x.trace(0, 1000, 0);
        // at the step 12 the joint is at (15000, 16583) and (15000, -16583)
        Make.allAims(x, 0, 16);
        Check.due("up", x.far(0, UP), 3 * leastApart(x, UP, 0, 16000));
        Check.due("down", x.far(0, DOWN), 3 * leastApart(x, DOWN, 0, 16000));
    }

    private static void farFromThreePlaces() {
        for (int branch = UP; branch <= DOWN; branch++) {
            CamWright x = Make.withMechanism(40, 10, 30, 30);
            x.trace(0, 1000, 0);
            x.aim(0, 15, 17);
            x.aim(1, -3, -200);
            x.aim(2, 400, 1);
            long due = leastApart(x, branch, 15000, 17000)
                + leastApart(x, branch, -3000, -200000) + leastApart(x, branch, 400000, 1000);
            Check.due("three aims, branch " + branch, x.far(0, branch), due);
        }
    }

    private static long leastApart(CamWright x, int branch, long aimX, long aimY) {
        long least = Long.MAX_VALUE;
        for (int step = 0; step < 24; step++) {
            if (x.stuck(0, step) == 0) {
                long dx = Math.abs(x.at(0, step, branch, 2) - aimX);
                long dy = Math.abs(x.at(0, step, branch, 3) - aimY);
                least = Math.min(least, dx + dy);
            }
        }
        return least;
    }

    private static void farBehindTrace() {
        CamWright x = Make.withMechanism(40, 10, 30, 30);
        // the joint is at (15000, 16583) at the step 12
        Make.allAims(x, 15, 16);
        long ofCrankEnd = leastApart(x, UP, 15000, 16000);
        Check.due("the point is B", x.far(0, UP), 3 * ofCrankEnd);
        x.trace(0, 1000, 0);
        long ofJoint = leastApart(x, UP, 15000, 16000);
        Check.due("the joint is nearer", ofJoint < ofCrankEnd, true);
        Check.due("the point is the joint", x.far(0, UP), 3 * ofJoint);
        x.trace(0, 0, 0);
        Check.due("the point is B again", x.far(0, UP), 3 * ofCrankEnd);
    }

    private static void farWhereStuck() {
        CamWright never = Make.withMechanism(100, 1, 2, 3);
        Check.due("stuck at all steps, up", never.far(0, UP), CamWright.NONE);
        Check.due("stuck at all steps, down", never.far(0, DOWN), CamWright.NONE);
        // stuck at the step 12 alone, where B would be at (-100000, 0); at 11 it is (-96600, 25900)
        CamWright once = Make.withMechanism(120, 100, 109, 110);
        Make.allAims(once, -100, 0);
        Check.due("the stuck step does not count", once.far(0, UP), 3 * (3400 + 25900));
    }

    /** Where it is stuck by NEAR, at the step 0, B would be at the aims; at 1 it is (6762, 1813). */
    private static void farWhereNear() {
        CamWright x = Make.withMechanism(7, 7, 5, 5);
        Make.allAims(x, 7, 0);
        Check.due("near does not count, up", x.far(0, UP), 3 * (238 + 1813));
        Check.due("near does not count, down", x.far(0, DOWN), 3 * (238 + 1813));
    }

    private static void farRefuses() {
        CamWright x = Make.withMechanism(100, 1, 2, 3);
        Check.noIndex("mechanism 1", () -> x.far(1, 2));
        Check.noIndex("mechanism -1", () -> x.far(-1, 0));
        Check.noArgument("branch -1", () -> x.far(0, -1));
        Check.noArgument("branch 2", () -> x.far(0, 2));
    }

    private static void best() {
        CamWright x = new CamWright();
        Check.due("without mechanisms", x.best(), CamWright.NONE);
        Make.mechanism(x, 60, 20, 50, 40);
        Make.mechanism(x, 60, 10, 50, 40);
        Make.mechanism(x, 60, 15, 50, 40);
        Check.due("the nearest to (0, 0)", x.best(), 2);
        Make.allAims(x, 15, 0);
        Check.due("the nearest to (15, 0)", x.best(), 4);
        x.trace(0, 1000, 0);
        int joint = x.at(0, 0, DOWN, 1);
        Make.allAims(x, x.at(0, 0, DOWN, 0) / 1000, joint / 1000);
        Check.due("the nearest to the joint down", x.best(), 1);
        Make.allAims(x, x.at(0, 0, DOWN, 0) / 1000, -joint / 1000);
        Check.due("the nearest to the joint up", x.best(), 0);
    }

    private static void bestBehindTrace() {
        CamWright x = new CamWright();
        Make.mechanism(x, 60, 20, 50, 40);
        Make.mechanism(x, 60, 19, 50, 40);
        Make.allAims(x, x.at(0, 0, DOWN, 0) / 1000, x.at(0, 0, DOWN, 1) / 1000);
        Check.due("both points are B", x.best(), 0);
        x.trace(0, 1000, 0);
        Check.due("the joint of the first, down", x.best(), 1);
        x.trace(0, 0, 0);
        Check.due("both points are B again", x.best(), 0);
    }

    /** With aims at y 0, turning v over answers on one branch what was answered on the other. */
    private static void bestOfBranchesAlike() {
        CamWright x = new CamWright();
        Make.mechanism(x, 60, 20, 50, 40);
        Make.mechanism(x, 60, 20, 50, 40);
        x.aim(0, 40, 0);
        x.aim(1, -5, 0);
        x.aim(2, 17, 0);
        for (int v = -300; v <= 300; v += 600) {
            x.trace(0, 500, v);
            x.trace(1, 500, -v);
            Check.due("down of the first, up of the last", x.far(0, DOWN), x.far(1, UP));
            Check.due("up of the first, down of the last", x.far(0, UP), x.far(1, DOWN));
            boolean isUpNearer = x.far(0, UP) < x.far(0, DOWN);
            Check.due("up is nearer with v below 0", isUpNearer, v < 0);
            Check.due("the lower mechanism, v " + v, x.best(), isUpNearer ? UP : DOWN);
        }
    }

    private static void bestOfSeveralAlike() {
        CamWright x = new CamWright();
        for (int i = 0; i < 8; i++) {
            Make.mechanism(x, 60, i < 3 ? 20 : 10, 50, 40);
        }
        Check.due("the lower one, then up", x.best(), 6);
    }

    private static void bestWhereStuck() {
        CamWright x = Make.withMechanism(100, 1, 2, 3);
        Check.due("stuck at all steps", x.best(), CamWright.NONE);
        Make.mechanism(x, 200, 190, 150, 150);
        Check.due("the one that is not", x.best(), 2);
    }
}
