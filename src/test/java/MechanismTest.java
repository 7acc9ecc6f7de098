/** Promises 11 to 19: mechanisms. */
public final class MechanismTest {
    private static final int UP = CamWright.UP;
    private static final int DOWN = CamWright.DOWN;
    private static final int[][] DIRECTIONS = {
        {1000, 0}, {966, 259}, {866, 500}, {707, 707}, {500, 866}, {259, 966}};

    public static void main(String[] args) {
        build();
        buildTakesLengthsAsTheyAre();
        trace();
        traceRefuses();
        stuck();
        stuckAtBounds();
        firstStuck();
        should();
        atCrankEnds();
        atJoints();
        atJointsIsRounded();
        atPoints();
        atPointsIsRounded();
        atRefuses();
        goes();
        goesRefuses();
        area();
        areaIsRounded();
        sign();
        Check.finish("MechanismTest");
    }

    private static void build() {
        CamWright x = new CamWright();
        String[] roles = {"ground", "coupler", "rocker", "crank"};
        for (String role : roles) {
            Check.noState("a role is missing", () -> x.build());
            Make.link(x, role, 50);
        }
        for (int i = 0; i < 8; i++) {
            Check.due("mechanism " + i, x.build(), i);
        }
        Check.noState("a ninth mechanism", () -> x.build());
        Check.noIndex("firstStuck(8)", () -> x.firstStuck(8));
        for (int missing = 0; missing < roles.length; missing++) {
            CamWright y = new CamWright();
            for (int i = 0; i < roles.length; i++) {
                Make.link(y, i == missing ? "other" : roles[i], 50);
            }
            Check.noState("without " + roles[missing], () -> y.build());
            Check.noIndex("nothing was made", () -> y.stuck(0, 0));
        }
    }

    private static void buildTakesLengthsAsTheyAre() {
        CamWright x = Make.withMechanism(40, 10, 30, 31);
        Make.mechanism(x, 100, 1, 2, 3);
        Check.due("the first is as it was", x.firstStuck(0), CamWright.NONE);
        Check.due("the second has the new lengths", x.firstStuck(1), 0);
        text("the first is as it was", x, 0, "g40c10p30r31");
        text("the second has the new lengths", x, 1, "g100c1p2r3");
    }

    private static void trace() {
        CamWright x = Make.withMechanism(40, 10, 30, 30);
        Make.mechanism(x, 40, 10, 30, 30);
        x.trace(0, 1000, 0);
        Check.due("u 1000 is the joint, x", x.at(0, 5, UP, 2), x.at(0, 5, UP, 0));
        Check.due("u 1000 is the joint, y", x.at(0, 5, UP, 3), x.at(0, 5, UP, 1));
        Check.due("of another mechanism it is B", x.at(1, 12, UP, 2), -10000);
        x.trace(0, -1000, -1000);
        x.trace(0, 2000, 1000);
        x.trace(0, 0, 0);
        Check.due("back at B", x.at(0, 12, UP, 2), -10000);
        Check.due("the joint stays", x.at(0, 12, UP, 0), 15000);
    }

    private static void traceRefuses() {
        CamWright x = Make.withMechanism(40, 10, 30, 30);
        x.trace(0, 500, 100);
        int pointX = x.at(0, 3, DOWN, 2);
        int pointY = x.at(0, 3, DOWN, 3);
        Check.noIndex("trace(1, 0, 0)", () -> Make.traced(x, 1, 0, 0));
        Check.noIndex("trace(-1, 3000, 0)", () -> Make.traced(x, -1, 3000, 0));
        Check.noArgument("u -1001", () -> Make.traced(x, 0, -1001, 0));
        Check.noArgument("u 2001", () -> Make.traced(x, 0, 2001, 0));
        Check.noArgument("v -1001", () -> Make.traced(x, 0, 0, -1001));
        Check.noArgument("v 1001", () -> Make.traced(x, 0, 0, 1001));
        Check.due("the point stays, x", x.at(0, 3, DOWN, 2), pointX);
        Check.due("the point stays, y", x.at(0, 3, DOWN, 3), pointY);
    }

    private static void stuck() {
        CamWright far = Make.withMechanism(100, 60, 40, 50);
        Check.due("distance 40 of 90", far.stuck(0, 0), 0);
        Check.due("distance 160 of 90", far.stuck(0, 12), CamWright.FAR);
        CamWright near = Make.withMechanism(100, 60, 40, 200);
        Check.due("distance 40 below 160", near.stuck(0, 0), CamWright.NEAR);
        Check.due("distance 160 is not below 160", near.stuck(0, 12), 0);
        CamWright none = Make.withMechanism(7, 7, 5, 5);
        Check.due("distance 0", none.stuck(0, 0), CamWright.NEAR);
        Check.due("behind it", none.stuck(0, 1), 0);
        Check.noIndex("step -1", () -> far.stuck(0, -1));
        Check.noIndex("step 24", () -> far.stuck(0, 24));
        Check.noIndex("mechanism 1", () -> far.stuck(1, 0));
        Check.noIndex("mechanism -1", () -> far.stuck(-1, 0));
    }

    private static void stuckAtBounds() {
        // at the step 12 the distance is G + C, at the step 0 their difference
        CamWright stretched = Make.withMechanism(50, 30, 20, 60);
        Check.due("80 is not above 80", stretched.stuck(0, 12), 0);
        CamWright beyond = Make.withMechanism(50, 31, 20, 60);
        Check.due("81 is above 80", beyond.stuck(0, 12), CamWright.FAR);
        CamWright barely = Make.withMechanism(19, 53, 17, 18);
        Check.due("35.002 is above 35", barely.stuck(0, 1), CamWright.FAR);
        CamWright almost = Make.withMechanism(32, 48, 20, 39);
        Check.due("18.999 is below 19", almost.stuck(0, 1), CamWright.NEAR);
        CamWright folded = Make.withMechanism(50, 10, 20, 60);
        Check.due("40 is not below 40", folded.stuck(0, 0), 0);
        CamWright inside = Make.withMechanism(50, 11, 20, 60);
        Check.due("39 is below 40", inside.stuck(0, 0), CamWright.NEAR);
        CamWright other = Make.withMechanism(50, 11, 60, 20);
        Check.due("39 is below 40, the coupler longer", other.stuck(0, 0), CamWright.NEAR);
    }

    private static void firstStuck() {
        Check.due("goes round", Make.withMechanism(60, 20, 50, 40).firstStuck(0), CamWright.NONE);
        Check.due("at the step 0", Make.withMechanism(7, 7, 5, 5).firstStuck(0), 0);
        Check.due("at the step 5", Make.withMechanism(100, 60, 40, 50).firstStuck(0), 5);
        CamWright late = stuckAtTwelve();
        Check.due("at the step 12 alone", late.firstStuck(0), 12);
        Check.noIndex("firstStuck(1)", () -> late.firstStuck(1));
        Check.noIndex("firstStuck(-1)", () -> late.firstStuck(-1));
    }

    /** Its distances are 218143 at the steps 11 and 13, and 220000 at 12; its reach is 219000. */
    private static CamWright stuckAtTwelve() {
        return Make.withMechanism(120, 100, 109, 110);
    }

    private static void should() {
        should("crank shortest", 60, 20, 50, 40, true);
        should("ground shortest", 20, 60, 50, 40, true);
        should("coupler shortest", 60, 50, 20, 40, false);
        should("rocker shortest", 60, 50, 40, 20, false);
        should("sums alike", 50, 20, 70, 40, true);
        should("one too much", 50, 20, 71, 40, false);
        should("all alike", 9, 9, 9, 9, true);
        should("crank and coupler shortest", 60, 20, 20, 60, true);
        should("ground and rocker shortest", 20, 60, 60, 20, true);
        should("the longest is the ground", 91, 20, 50, 60, false);
        should("the longest is the crank", 20, 90, 50, 60, true);
        should("the longest is the crank, one too much", 20, 91, 50, 60, false);
        should("the longest is the ground, sums alike", 90, 20, 50, 60, true);
        should("the longest is the rocker", 50, 20, 60, 91, false);
        should("the longest is the rocker, sums alike", 50, 20, 60, 90, true);
        should("coupler shortest, sums alike", 50, 60, 20, 90, false);
        should("crank and rocker shortest", 60, 20, 50, 20, false);
        should("crank and rocker shortest, sums alike", 50, 20, 50, 20, true);
        CamWright x = Make.withMechanism(60, 20, 50, 40);
        Check.noIndex("should(1)", () -> Make.should(x, 1));
        Check.noIndex("should(-1)", () -> Make.should(x, -1));
    }

    private static void should(String name, int g, int c, int p, int r, boolean due) {
        Check.due("should: " + name, Make.withMechanism(g, c, p, r).should(0), due);
    }

    private static void atCrankEnds() {
        CamWright x = Make.withMechanism(60, 20, 50, 40);
        for (int step = 0; step < 24; step++) {
            int a = DIRECTIONS[step % 6][0];
            int b = DIRECTIONS[step % 6][1];
            for (int turn = 0; turn < step / 6; turn++) {
                int was = a;
                a = -b;
                b = was;
            }
            Check.due("x of B at " + step, x.at(0, step, UP, 2), 20 * a);
            Check.due("y of B at " + step, x.at(0, step, DOWN, 3), 20 * b);
        }
    }

    private static void atJoints() {
        // B (-10000, 0), d 50000, w 25000, h the root of 275000000
        CamWright x = Make.withMechanism(40, 10, 30, 30);
        Check.due("x up", x.at(0, 12, UP, 0), 15000);
        Check.due("y up", x.at(0, 12, UP, 1), 16583);
        Check.due("x down", x.at(0, 12, DOWN, 0), 15000);
        Check.due("y down", x.at(0, 12, DOWN, 1), -16583);
        // B (0, 10000): e 40000, f -10000, q 1700000000, d 41231, w 20615, h 21794, so that
        // (w e - h f) / d is 1042540000 / 41231 and (w f + h e) / d is 665610000 / 41231
        Check.due("x up at 6", x.at(0, 6, UP, 0), 25285);
        Check.due("y up at 6", x.at(0, 6, UP, 1), 10000 + 16143);
        // 606660000 / 41231 and -1077910000 / 41231, rounded towards 0
        Check.due("x down at 6", x.at(0, 6, DOWN, 0), 14713);
        Check.due("y down at 6", x.at(0, 6, DOWN, 1), 10000 - 26143);
        CamWright straight = Make.withMechanism(50, 30, 20, 60);
        Check.due("stretched, x", straight.at(0, 12, UP, 0), -10000);
        Check.due("stretched, y", straight.at(0, 12, DOWN, 1), 0);
        CamWright folded = Make.withMechanism(50, 10, 20, 60);
        Check.due("folded, w is below 0", folded.at(0, 0, UP, 0), -10000);
    }

    /** Rounded towards 0 is what is divided, ahead of being added to B. */
    private static void atJointsIsRounded() {
        // d is 3000, and (16 - 36 + 9) by 6 is -1.83, so that w is -1833 and h the root of 12640111
        CamWright back = Make.withMechanism(5, 2, 4, 6);
        Check.due("w is -1833, x", back.at(0, 0, UP, 0), 2000 - 1833);
        Check.due("w is -1833, y up", back.at(0, 0, UP, 1), 3555);
        Check.due("w is -1833, y down", back.at(0, 0, DOWN, 1), -3555);
        // B (-707, 707): e 1707, f -707, q 3413698, d 1847, w 924, h the root of 146224, 382
        CamWright x = Make.withMechanism(1, 1, 1, 1);
        Check.due("1847342 by 1847", x.at(0, 9, UP, 0), -707 + 1000);
        Check.due("-1194 by 1847", x.at(0, 9, UP, 1), 707);
        Check.due("1307194 by 1847", x.at(0, 9, DOWN, 0), -707 + 707);
        Check.due("-1305342 by 1847", x.at(0, 9, DOWN, 1), 707 - 706);
        // the same B, e, f and d, but w 111 and h the root of 987679, 993
        CamWright y = Make.withMechanism(1, 1, 1, 2);
        Check.due("891528 by 1847", y.at(0, 9, UP, 0), -707 + 482);
        Check.due("1616574 by 1847", y.at(0, 9, UP, 1), 707 + 875);
    }

    private static void atPoints() {
        // the joint less B is (25000, 16583) up and (25000, -16583) down
        CamWright x = Make.withMechanism(40, 10, 30, 30);
        x.trace(0, 500, 100);
        Check.due("x up", x.at(0, 12, UP, 2), -10000 + 10841);
        Check.due("y up", x.at(0, 12, UP, 3), 10791);
        Check.due("x down", x.at(0, 12, DOWN, 2), -10000 + 14158);
        Check.due("y down", x.at(0, 12, DOWN, 3), -5791);
        x.trace(0, -1, 0);
        Check.due("rounded towards 0, x", x.at(0, 12, UP, 2), -10000 - 25);
        Check.due("rounded towards 0, y", x.at(0, 12, UP, 3), -16);
        Check.due("rounded towards 0, y down", x.at(0, 12, DOWN, 3), 16);
        x.trace(0, 2000, -1000);
        Check.due("greatest u, least v, x", x.at(0, 12, UP, 2), -10000 + 66583);
        Check.due("greatest u, least v, y", x.at(0, 12, UP, 3), 33166 - 25000);
    }

    private static void atPointsIsRounded() {
        // the joint less B is (25000, 16583) at the step 12 and (25285, 16143) at the step 6
        CamWright x = Make.withMechanism(40, 10, 30, 30);
        x.trace(0, 0, 1);
        Check.due("-16583 by 1000", x.at(0, 12, UP, 2), -10000 - 16);
        Check.due("16583 by 1000", x.at(0, 12, DOWN, 2), -10000 + 16);
        x.trace(0, 0, -1);
        Check.due("16583 by 1000, v below 0", x.at(0, 12, UP, 2), -10000 + 16);
        x.trace(0, -1, 0);
        Check.due("-25285 by 1000", x.at(0, 6, UP, 2), -25);
        Check.due("-16143 by 1000", x.at(0, 6, UP, 3), 10000 - 16);
        x.trace(0, 1, 1);
        Check.due("25285 less 16143, by 1000", x.at(0, 6, UP, 2), 9);
        Check.due("16143 and 25285, by 1000", x.at(0, 6, UP, 3), 10000 + 41);
    }

    private static void atRefuses() {
        CamWright x = Make.withMechanism(100, 60, 40, 50);
        Check.noIndex("mechanism 1", () -> x.at(1, 0, 0, 0));
        Check.noIndex("mechanism -1", () -> x.at(-1, 0, 0, 0));
        Check.noIndex("step -1", () -> x.at(0, -1, 0, 0));
        Check.noIndex("step 24 ahead of branch 2", () -> x.at(0, 24, 2, 4));
        Check.noArgument("branch -1", () -> x.at(0, 0, -1, 0));
        Check.noArgument("branch 2", () -> x.at(0, 0, 2, 0));
        Check.noArgument("what -1", () -> x.at(0, 0, 0, -1));
        Check.noArgument("what 4", () -> x.at(0, 0, 0, 4));
        Check.noArgument("branch 2 ahead of stuck", () -> x.at(0, 12, 2, 0));
        Check.noArgument("what 4 ahead of stuck", () -> x.at(0, 12, 0, 4));
        for (int what = 0; what < 4; what++) {
            int asked = what;
            Check.noState("stuck", () -> x.at(0, 12, UP, asked));
        }
    }

    private static void goes() {
        CamWright x = Make.withMechanism(60, 20, 50, 40);
        // B goes from (20000, 0) to (19320, 5180), and from (19320, -5180) to (20000, 0)
        Check.due("from 0 to 1", x.goes(0, 0, UP), 680 + 5180);
        Check.due("from 23 to 0", x.goes(0, 23, DOWN), 680 + 5180);
        x.trace(0, 300, -200);
        for (int step = 0; step < 24; step++) {
            int next = step == 23 ? 0 : step + 1;
            int dx = x.at(0, next, DOWN, 2) - x.at(0, step, DOWN, 2);
            int dy = x.at(0, next, DOWN, 3) - x.at(0, step, DOWN, 3);
            Check.due("from " + step, x.goes(0, step, DOWN), Math.abs(dx) + Math.abs(dy));
        }
    }

    private static void goesRefuses() {
        CamWright x = stuckAtTwelve();
        Check.noState("stuck at the step", () -> x.goes(0, 12, UP));
        Check.noState("stuck at the next", () -> x.goes(0, 11, DOWN));
        CamWright y = Make.withMechanism(7, 7, 5, 5);
        Check.noState("stuck at 0, behind 23", () -> y.goes(0, 23, UP));
        Check.noIndex("mechanism 1", () -> x.goes(1, 0, 0));
        Check.noIndex("mechanism -1", () -> x.goes(-1, 0, 0));
        Check.noIndex("step -1 ahead of branch 2", () -> x.goes(0, -1, 2));
        Check.noIndex("step 24", () -> x.goes(0, 24, 0));
        Check.noArgument("branch -1", () -> x.goes(0, 0, -1));
        Check.noArgument("branch 2 ahead of stuck", () -> x.goes(0, 12, 2));
    }

    private static void area() {
        CamWright x = Make.withMechanism(60, 20, 50, 40);
        // of B the wedges are 103600000, 103482400, 103504800, 103504800, 103482400, 103600000,
        // four times each: 2484697600 by 2000000
        Check.due("the circle of B", x.area(0, UP), 1242);
        Check.due("the same down", x.area(0, DOWN), 1242);
        x.trace(0, 1000, 0);
        Check.due("an arc there and back", x.area(0, UP), loopArea(x, UP));
        x.trace(0, 2000, 0);
        Check.due("a loop with a sum below 0", x.area(0, UP), 1240);
        x.trace(0, 500, 300);
        Check.due("a loop", x.area(0, DOWN), loopArea(x, DOWN));
        Make.mechanism(x, 50, 200, 200, 190);
        x.trace(1, 2000, 1000);
        Check.due("a great loop", x.area(1, UP), 673436);
        CamWright y = stuckAtTwelve();
        Check.noState("far, does not go round", () -> y.area(0, UP));
        CamWright near = Make.withMechanism(50, 11, 20, 60);
        Check.due("near, and never far", near.stuck(0, 12), 0);
        Check.noState("near, does not go round", () -> near.area(0, UP));
        Check.noArgument("branch 2 ahead of it", () -> y.area(0, 2));
        Check.noArgument("branch -1", () -> x.area(0, -1));
        Check.noIndex("mechanism 2", () -> x.area(2, 2));
        Check.noIndex("mechanism -1", () -> x.area(-1, 0));
    }

    /** Sums that are made of parts of 2000000 without a rest, and those that lack 1 to the next. */
    private static void areaIsRounded() {
        areaOf("-5548000000", Make.withMechanism(55, 15, 140, 103), 2000, -1000, UP, 2774);
        areaOf("22000000", Make.withMechanism(133, 2, 100, 89), 126, -874, DOWN, 11);
        areaOf("3999999", Make.withMechanism(133, 3, 106, 108), 1014, 366, UP, 1);
        areaOf("-55103999999", Make.withMechanism(195, 91, 152, 135), 2000, -1000, DOWN, 27551);
        areaOf("1436041415930", Make.withMechanism(39, 140, 200, 200), 2000, 1000, UP, 718020);
    }

    private static void areaOf(String sum, CamWright x, int u, int v, int branch, int due) {
        x.trace(0, u, v);
        Check.due("area of the sum " + sum, x.area(0, branch), due);
    }

    private static long loopArea(CamWright x, int branch) {
        long sum = 0;
        for (int step = 0; step < 24; step++) {
            int next = (step + 1) % 24;
            sum += (long) x.at(0, step, branch, 2) * x.at(0, next, branch, 3);
            sum -= (long) x.at(0, next, branch, 2) * x.at(0, step, branch, 3);
        }
        return Math.abs(sum) / 2000000;
    }

    private static void sign() {
        CamWright x = Make.withMechanism(60, 20, 50, 40);
        text("all of two digits", x, 0, "g60c20p50r40");
        Make.mechanism(x, 200, 1, 100, 9);
        text("one to three digits", x, 1, "g200c1p100r9");
        Check.due("a blank far behind", x.sign(0, Integer.MAX_VALUE), ' ');
        Check.noIndex("place -1", () -> x.sign(0, -1));
        Check.noIndex("place least", () -> x.sign(0, Integer.MIN_VALUE));
        Check.noIndex("mechanism 2", () -> x.sign(2, 0));
        Check.noIndex("mechanism -1", () -> x.sign(-1, -1));
    }

    private static void text(String name, CamWright x, int mechanism, String due) {
        for (int place = 0; place < due.length() + 3; place++) {
            char want = place < due.length() ? due.charAt(place) : ' ';
            Check.due(name + ": sign " + place, x.sign(mechanism, place), want);
        }
    }
}
