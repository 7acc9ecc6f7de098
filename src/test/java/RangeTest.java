/**
 * Each argument of each call: what is due at its least and its greatest value, and that the next
 * one beyond it on either side, and the most distant ones, are refused.
 */
public final class RangeTest {
    private static final int UP = CamWright.UP;
    private static final int DOWN = CamWright.DOWN;

    public static void main(String[] args) {
        baseOfCam();
        camOfPiece();
        lawOfPiece();
        degreesOfPiece();
        liftOfPiece();
        liftAndSteep();
        jams();
        ofCam();
        letter();
        lengthOfLink();
        ofLink();
        trace();
        pointsOfTrace();
        greatestMechanism();
        stuckAndFirstStuck();
        should();
        at();
        goes();
        area();
        sign();
        numberOfAim();
        placeOfAim();
        far();
        Check.finish("RangeTest");
    }

    private static void baseOfCam() {
        CamWright x = new CamWright();
        Check.noArgumentOutside("cam, base", 10, 200, base -> x.cam(base));
        Check.due("cam(10)", x.cam(10), 0);
        Check.due("cam(200)", x.cam(200), 1);
        Check.due("the least base", x.ofCam(0, 5), 10);
        Check.due("the greatest base", x.ofCam(1, 5), 200);
        x.piece(0, CamWright.FLAT, 1, 100);
        x.piece(1, CamWright.FLAT, 1, 100);
        Check.due("100 of 10", x.steep(0, 0), 10000);
        Check.due("100 of 200", x.steep(1, 0), 500);
    }

    /** The cams 0, 1 and 2 have the bases 10, 20, 30, and lead to 10, 20, 30 in 10 degrees. */
    private static CamWright threeCams() {
        CamWright x = new CamWright();
        for (int cam = 0; cam < 3; cam++) {
            x.cam(10 * cam + 10);
            x.piece(cam, CamWright.LINE, 10, 10 * cam + 10);
        }
        return x;
    }

    private static void camOfPiece() {
        CamWright x = threeCams();
        Check.noIndexOutside("piece, cam", 0, 2, cam -> x.piece(cam, CamWright.FLAT, 1, 0));
        Check.due("to the first cam", x.piece(0, CamWright.FLAT, 1, 0), 11);
        Check.due("to the last cam", x.piece(2, CamWright.FLAT, 2, 0), 12);
        Check.due("degrees of the first cam", x.ofCam(0, 1), 11);
        Check.due("degrees of the one between", x.ofCam(1, 1), 10);
        Check.due("degrees of the last cam", x.ofCam(2, 1), 12);
    }

    private static void lawOfPiece() {
        CamWright x = new CamWright();
        x.cam(10);
        x.cam(10);
        int least = CamWright.FLAT;
        int greatest = CamWright.CUBIC;
        Check.noArgumentOutside("piece, law", least, greatest, law -> x.piece(0, law, 1, 0));
        x.piece(0, least, 10, 100);
        x.piece(1, greatest, 10, 100);
        Check.due("by the least law", x.lift(0, 3), 0);
        Check.due("by the greatest law: 3 3 24 of 1000", x.lift(1, 3), 21);
    }

    private static void degreesOfPiece() {
        CamWright x = new CamWright();
        x.cam(10);
        x.cam(10);
        Check.noArgumentOutside("piece, degrees", 1, 360, n -> x.piece(0, CamWright.LINE, n, 0));
        for (int law = CamWright.FLAT; law <= CamWright.CUBIC; law++) {
            Check.due("one degree by " + law, x.piece(0, law, 1, 9 - law), law + 1);
        }
        // each piece has but its beginning, which is what the one ahead leads to
        int[] due = {0, 9, 8, 7, 6, 6};
        for (int degree = 0; degree < due.length; degree++) {
            Check.due("one degree each: " + degree, x.lift(0, degree), due[degree]);
        }
        Check.due("360 degrees", x.piece(1, CamWright.LINE, 360, 100), 360);
        Check.due("18 of 360", x.lift(1, 18), 5);
        Check.due("359 of 360", x.lift(1, 359), 99);
    }

    private static void liftOfPiece() {
        CamWright x = new CamWright();
        x.cam(10);
        Check.noArgumentOutside("piece, lift", 0, 100, lift -> x.piece(0, CamWright.LINE, 1, lift));
        x.piece(0, CamWright.LINE, 1, 100);
        x.piece(0, CamWright.LINE, 1, 0);
        Check.due("the greatest lift", x.lift(0, 1), 100);
        Check.due("the least lift", x.lift(0, 2), 0);
    }

    private static void liftAndSteep() {
        CamWright x = threeCams();
        Check.noIndexOutside("lift, cam", 0, 2, cam -> x.lift(cam, 0));
        Check.noIndexOutside("steep, cam", 0, 2, cam -> x.steep(cam, 0));
        for (int cam = 0; cam < 3; cam++) {
            int one = cam;
            Check.noArgumentOutside("lift, degree", 0, 359, degree -> x.lift(one, degree));
            Check.noArgumentOutside("steep, degree", 0, 359, degree -> x.steep(one, degree));
            Check.due("lift at 0", x.lift(cam, 0), 0);
            Check.due("lift at 359", x.lift(cam, 359), 10 * cam + 10);
            Check.due("steep at 0: 1 of 10, 2 of 20 and 3 of 30", x.steep(cam, 0), 100);
            Check.due("steep at 359: 10 of 20 and so on", x.steep(cam, 359), 500);
        }
    }

    private static void jams() {
        CamWright x = threeCams();
        Check.noIndexOutside("jams, cam", 0, 2, cam -> x.jams(cam, 0));
        for (int cam = 0; cam < 3; cam++) {
            int one = cam;
            Check.noArgumentOutside("jams, bound", 0, 10000, bound -> x.jams(one, bound));
            Check.due("above 0", x.jams(cam, 0), 0);
            Check.due("above 100", x.jams(cam, 100), 359);
            Check.due("above 10000", x.jams(cam, 10000), CamWright.NONE);
        }
        // 9900 at the degree 1 with a base of 10 is the steepest but one, 10000 the steepest
        CamWright jump = Make.withPiece(10, CamWright.FLAT, 2, 99);
        Check.due("9900 is above 9899", jump.jams(0, 9899), 1);
        Check.due("9900 is not above 9900", jump.jams(0, 9900), CamWright.NONE);
    }

    private static void ofCam() {
        CamWright x = threeCams();
        Check.noIndexOutside("ofCam, cam", 0, 2, cam -> x.ofCam(cam, 0));
        for (int cam = 0; cam < 3; cam++) {
            int one = cam;
            Check.noArgumentOutside("ofCam, what", 0, 5, what -> x.ofCam(one, what));
            Check.due("what 0, its pieces", x.ofCam(cam, 0), 1);
            Check.due("what 5, its base", x.ofCam(cam, 5), 10 * cam + 10);
        }
    }

    private static void letter() {
        CamWright x = new CamWright();
        Check.noArgumentOutside("letter", 0, 25, letter -> x.letter(letter));
        Check.due("the least letter", x.letter(0), 1);
        Check.due("a link named a", x.link(1), 0);
        Check.due("the greatest letter", x.letter(25), 1);
        Check.due("a link named z", x.link(2), 1);
        Check.due("the letter 0 again", x.letter(0), 1);
        Check.due("a has its link", x.link(3), 0);
        Check.due("the letter 25 again", x.letter(25), 1);
        Check.due("z has its link", x.link(4), 1);
    }

    private static void lengthOfLink() {
        CamWright x = new CamWright();
        x.letter(0);
        Check.noArgumentOutside("link, length", 1, 200, length -> x.link(length));
        Check.due("a new one of the least length", x.link(1), 0);
        Check.due("its length", x.ofLink(0, 0), 1);
        x.letter(0);
        Check.noArgumentOutside("link again, length", 1, 200, length -> x.link(length));
        Check.due("its length stays", x.ofLink(0, 0), 1);
        Check.due("the greatest length", x.link(200), 0);
        Check.due("its length then", x.ofLink(0, 0), 200);
        x.letter(0);
        Check.noArgumentOutside("once more, length", 1, 200, length -> x.link(length));
        Check.due("its length then stays", x.ofLink(0, 0), 200);
        Check.due("the least length again", x.link(1), 0);
        Check.due("its length again", x.ofLink(0, 0), 1);
    }

    private static void ofLink() {
        CamWright x = new CamWright();
        Make.link(x, "rocker", 7);
        Make.link(x, "b", 8);
        Make.link(x, "abcdefgh", 9);
        Check.noIndexOutside("ofLink, link", 0, 2, link -> x.ofLink(link, 0));
        int[] letters = {6, 1, 8};
        for (int link = 0; link < 3; link++) {
            int one = link;
            Check.noArgumentOutside("ofLink, what", 0, 2, what -> x.ofLink(one, what));
            Check.due("what 0, its length", x.ofLink(link, 0), 7 + link);
            Check.due("what 2, its letters", x.ofLink(link, 2), letters[link]);
        }
    }

    /** The mechanisms 0, 1 and 2 have cranks of 10, 11 and 12. */
    private static CamWright threeMechanisms() {
        CamWright x = new CamWright();
        for (int crank = 10; crank < 13; crank++) {
            Make.mechanism(x, 40, crank, 30, 30);
        }
        return x;
    }

    private static void trace() {
        CamWright x = threeMechanisms();
        Check.noIndexOutside("trace, mechanism", 0, 2, one -> Make.traced(x, one, 0, 0));
        for (int mechanism = 0; mechanism < 3; mechanism++) {
            int one = mechanism;
            Check.noArgumentOutside("trace, u", -1000, 2000, u -> Make.traced(x, one, u, 0));
            Check.noArgumentOutside("trace, v", -1000, 1000, v -> Make.traced(x, one, 0, v));
        }
        x.trace(0, 1000, 0);
        x.trace(2, 1000, 0);
        for (int one = 0; one < 3; one++) {
            boolean isJoint = x.at(one, 0, UP, 3) == x.at(one, 0, UP, 1);
            Check.due("the point of " + one + " is its joint", isJoint, one != 1);
        }
    }

    private static void pointsOfTrace() {
        // at the step 0 B is at (10000, 0), and the joint less B is (15000, 25980) on UP
        CamWright x = Make.withMechanism(40, 10, 30, 30);
        point(x, -1000, 0, -5000, -25980);
        point(x, 2000, 0, 40000, 51960);
        point(x, 0, -1000, 35980, -15000);
        point(x, 0, 1000, -15980, 15000);
        point(x, -1000, -1000, 10000 - 15000 + 25980, -25980 - 15000);
        point(x, -1000, 1000, 10000 - 15000 - 25980, -25980 + 15000);
        point(x, 2000, -1000, 10000 + 30000 + 25980, 51960 - 15000);
        point(x, 2000, 1000, 10000 + 30000 - 25980, 51960 + 15000);
    }

    private static void point(CamWright x, int u, int v, int dueX, int dueY) {
        x.trace(0, u, v);
        Check.due("x of the point " + u + ", " + v, x.at(0, 0, UP, 2), dueX);
        Check.due("y of the point " + u + ", " + v, x.at(0, 0, UP, 3), dueY);
    }

    /** All lengths at their least, and at their greatest, where the numbers are greatest too. */
    private static void greatestMechanism() {
        CamWright least = Make.withMechanism(1, 1, 1, 1);
        Check.due("the least, x", least.at(0, 12, UP, 0), 0);
        Check.due("the least, y", least.at(0, 12, UP, 1), 0);
        // at the step 6 B is at (0, 200000), d is 282842, and w and h are 141421
        CamWright x = Make.withMechanism(200, 200, 200, 200);
        Check.due("the greatest, x up", x.at(0, 6, UP, 0), 200000);
        Check.due("the greatest, y up", x.at(0, 6, UP, 1), 200000);
        Check.due("the greatest, x down", x.at(0, 6, DOWN, 0), 0);
        Check.due("the greatest, y down", x.at(0, 6, DOWN, 1), 0);
        x.trace(0, 2000, 1000);
        Check.due("its greatest point, x up", x.at(0, 6, UP, 2), 400000);
        Check.due("its greatest point, y up", x.at(0, 6, UP, 3), 400000);
        Check.due("its greatest point, x down", x.at(0, 6, DOWN, 2), 200000);
        Check.due("its greatest point, y down", x.at(0, 6, DOWN, 3), -200000);
    }

    private static void stuckAndFirstStuck() {
        CamWright x = Make.withMechanism(7, 7, 5, 5);
        Make.mechanism(x, 40, 10, 30, 30);
        Make.mechanism(x, 19, 53, 17, 18);
        Check.noIndexOutside("stuck, mechanism", 0, 2, one -> x.stuck(one, 0));
        Check.noIndexOutside("firstStuck, mechanism", 0, 2, one -> x.firstStuck(one));
        for (int mechanism = 0; mechanism < 3; mechanism++) {
            int one = mechanism;
            Check.noIndexOutside("stuck, step", 0, 23, step -> x.stuck(one, step));
        }
        Check.due("stuck at 0", x.stuck(0, 0), CamWright.NEAR);
        Check.due("not stuck at 23", x.stuck(0, 23), 0);
        Check.due("not stuck at 0", x.stuck(2, 0), 0);
        Check.due("stuck at 23", x.stuck(2, 23), CamWright.FAR);
        Check.due("first at 0", x.firstStuck(0), 0);
        Check.due("at none", x.firstStuck(1), CamWright.NONE);
        Check.due("first at 1", x.firstStuck(2), 1);
    }

    private static void should() {
        CamWright x = Make.withMechanism(60, 20, 50, 40);
        Make.mechanism(x, 60, 50, 20, 40);
        Make.mechanism(x, 20, 60, 50, 40);
        Check.noIndexOutside("should, mechanism", 0, 2, one -> Make.should(x, one));
        Check.due("the first", x.should(0), true);
        Check.due("the one between", x.should(1), false);
        Check.due("the last", x.should(2), true);
    }

    private static void at() {
        CamWright x = threeMechanisms();
        Check.noIndexOutside("at, mechanism", 0, 2, one -> x.at(one, 0, UP, 0));
        Check.noIndexOutside("at, step", 0, 23, step -> x.at(0, step, UP, 0));
        Check.noArgumentOutside("at, branch", UP, DOWN, branch -> x.at(0, 0, branch, 0));
        Check.noArgumentOutside("at, what", 0, 3, what -> x.at(0, 0, UP, what));
        for (int one = 0; one < 3; one++) {
            int crank = 10 + one;
            Check.due("x of B at 0", x.at(one, 0, UP, 2), 1000 * crank);
            Check.due("y of B at 0", x.at(one, 0, UP, 3), 0);
            Check.due("x of B at 23", x.at(one, 23, DOWN, 2), 966 * crank);
            Check.due("y of B at 23", x.at(one, 23, DOWN, 3), -259 * crank);
        }
        Check.due("what 0, x of the joint", x.at(0, 0, UP, 0), 25000);
        Check.due("what 1, on UP", x.at(0, 0, UP, 1), 25980);
        Check.due("what 1, on DOWN", x.at(0, 0, DOWN, 1), -25980);
    }

    private static void goes() {
        CamWright x = threeMechanisms();
        Check.noIndexOutside("goes, mechanism", 0, 2, one -> x.goes(one, 0, UP));
        Check.noIndexOutside("goes, step", 0, 23, step -> x.goes(0, step, UP));
        Check.noArgumentOutside("goes, branch", UP, DOWN, branch -> x.goes(0, 0, branch));
        for (int one = 0; one < 3; one++) {
            int due = (34 + 259) * (10 + one);
            Check.due("from 0, up", x.goes(one, 0, UP), due);
            Check.due("from 23, down", x.goes(one, 23, DOWN), due);
        }
        // the joint goes from (25000, 25980) to (27028, 27050), or from (25000, -25980) to
        // (22631, -24460)
        x.trace(0, 1000, 0);
        Check.due("of the joint, up", x.goes(0, 0, UP), 2028 + 1070);
        Check.due("of the joint, down", x.goes(0, 0, DOWN), 2369 + 1520);
    }

    private static void area() {
        CamWright x = threeMechanisms();
        Check.noIndexOutside("area, mechanism", 0, 2, one -> x.area(one, UP));
        Check.noArgumentOutside("area, branch", UP, DOWN, branch -> x.area(0, branch));
        // 6211744 times the crank times itself, by 2000000
        int[] due = {310, 375, 447};
        for (int one = 0; one < 3; one++) {
            Check.due("of the circle of B, up", x.area(one, UP), due[one]);
            Check.due("of the circle of B, down", x.area(one, DOWN), due[one]);
        }
    }

    private static void sign() {
        CamWright x = threeMechanisms();
        Check.noIndexOutside("sign, mechanism", 0, 2, one -> x.sign(one, 0));
        Check.noIndex("sign, place -1", () -> x.sign(0, -1));
        Check.noIndex("sign, place least", () -> x.sign(0, Integer.MIN_VALUE));
        for (int one = 0; one < 3; one++) {
            Check.due("the first sign", x.sign(one, 0), 'g');
            Check.due("the last digit of the crank", x.sign(one, 5), '0' + one);
            Check.due("the last sign", x.sign(one, 11), '0');
            Check.due("the first one behind", x.sign(one, 12), ' ');
            Check.due("the last one behind", x.sign(one, Integer.MAX_VALUE), ' ');
        }
    }

    private static void numberOfAim() {
        CamWright x = Make.withMechanism(60, 20, 50, 40);
        Check.noIndexOutside("aim", 0, 2, aim -> Make.aimed(x, aim, 0, 0));
        for (int aim = 0; aim < 3; aim++) {
            x.aim(aim, 20, 0);
            Check.due("aims at (20, 0) up to " + aim, x.far(0, UP), 60000 - 20000 * (aim + 1));
        }
    }

    private static void placeOfAim() {
        CamWright x = Make.withMechanism(60, 20, 50, 40);
        for (int aim = 0; aim < 3; aim++) {
            int one = aim;
            Check.noArgumentOutside("aim, x", -500, 500, at -> Make.aimed(x, one, at, 0));
            Check.noArgumentOutside("aim, y", -500, 500, at -> Make.aimed(x, one, 0, at));
            farWithOneAt(x, aim, 500, 0, 480000);
            farWithOneAt(x, aim, -500, 0, 480000);
            farWithOneAt(x, aim, 0, 500, 480000);
            farWithOneAt(x, aim, 0, -500, 480000);
            // the nearest is B at (14140, 14140), turned
            farWithOneAt(x, aim, 500, 500, 971720);
            farWithOneAt(x, aim, -500, 500, 971720);
            farWithOneAt(x, aim, -500, -500, 971720);
            farWithOneAt(x, aim, 500, -500, 971720);
            x.aim(aim, 0, 0);
        }
    }

    private static void farWithOneAt(CamWright x, int aim, int atX, int atY, int due) {
        x.aim(aim, atX, atY);
        String what = "aim " + aim + " at (" + atX + ", " + atY + "), the others at (0, 0)";
        Check.due(what, x.far(0, UP), due + 40000);
    }

    private static void far() {
        CamWright x = threeMechanisms();
        Check.noIndexOutside("far, mechanism", 0, 2, one -> x.far(one, UP));
        Check.noArgumentOutside("far, branch", UP, DOWN, branch -> x.far(0, branch));
        for (int one = 0; one < 3; one++) {
            Check.due("far of " + one + ", up", x.far(one, UP), 3000 * (10 + one));
            Check.due("far of " + one + ", down", x.far(one, DOWN), 3000 * (10 + one));
        }
        // its point is the joint, which is at (0, 0) at the step 12 and at 6, down
        CamWright y = Make.withMechanism(200, 200, 200, 200);
        y.trace(0, 1000, 0);
        Check.due("0 is how far", y.far(0, DOWN), 0);
        CamWright z = Make.withMechanism(40, 1, 30, 30);
        Make.allAims(z, 500, -500);
        Check.due("the nearest is B at (707, -707)", z.far(0, UP), 3 * (1000000 - 1414));
    }
}
