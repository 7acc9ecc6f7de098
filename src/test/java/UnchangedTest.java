/**
 * A call that throws an exception changes nothing, and questions change nothing: two objects are
 * made alike, the call is made on one of them, and both answer alike then.
 */
public final class UnchangedTest {
    private static final int EMPTY = 0;
    private static final int HALF = 1;
    private static final int FULL = 2;
    private static final String[] KINDS = {"empty", "half", "full"};
    private static final int ALL_KINDS = 3;

    /** A call on an object that is yet to be made. */
    private interface CallOn {
        long answer(CamWright x);
    }

    public static void main(String[] args) {
        refusedOfCams();
        refusedByFullCams();
        refusedOfLinks();
        refusedByFullLinks();
        refusedOfMechanisms();
        refusedWhereStuck();
        refusedOfAims();
        refusedQuestions();
        questionsOfCams();
        questionsOfLinks();
        questionsOfMechanisms();
        objectsApart();
        camsApart();
        mechanismsApart();
        nameStays();
        aimsAndPointsStay();
        camsAndLinksStay();
        Check.finish("UnchangedTest");
    }

    private static CamWright make(int kind) {
        CamWright x = new CamWright();
        if (kind != EMPTY) {
            cams(x, kind == FULL ? 6 : 2, kind == FULL ? 6 : 2);
            links(x, kind == FULL ? 12 : 6);
            mechanisms(x, kind == FULL ? 8 : 2);
            x.aim(0, 15, 5);
            x.aim(1, -7, 12);
            x.aim(2, 3, -20);
            Make.spell(x, kind == FULL ? "abcdefgh" : "xy");
        }
        return x;
    }

    /** The cam 0 has room for no piece among all degrees, and the cam 1 for none behind twelve. */
    private static void cams(CamWright x, int many, int pieces) {
        for (int cam = 0; cam < many; cam++) {
            x.cam(20 + cam);
            for (int i = 0; i < pieces; i++) {
                x.piece(cam, 1 + (i + cam) % 3, 10, i % 2 == 0 ? 40 + cam : 5);
            }
        }
        if (many == 6) {
            x.piece(0, CamWright.LINE, 300, 0);
            for (int i = 0; i < 6; i++) {
                x.piece(1, CamWright.LINE, 2, i);
            }
        }
    }

    private static void links(CamWright x, int many) {
        Make.lengths(x, 60, 20, 50, 40);
        for (int i = 4; i < many; i++) {
            x.letter(i);
            x.link(i);
        }
    }

    /** The mechanism 0 goes round, the mechanism 1 is stuck at some steps. */
    private static void mechanisms(CamWright x, int many) {
        for (int i = 0; i < many; i++) {
            Make.link(x, "crank", i == 1 ? 45 : 20 + i);
            x.build();
        }
        x.trace(0, 400, -300);
        x.trace(1, 900, 250);
    }

    private static void refused(int kind, String what, CallOn call) {
        CamWright x = make(kind);
        String name = KINDS[kind] + ", " + what;
        Check.refused(name, () -> call.answer(x));
        Look.alike(name, x, make(kind));
    }

    private static void refusedByAll(String what, CallOn call) {
        for (int kind = 0; kind < ALL_KINDS; kind++) {
            refused(kind, what, call);
        }
    }

    private static void refusedOfCams() {
        refusedByAll("cam(9)", x -> x.cam(9));
        refusedByAll("cam(201)", x -> x.cam(201));
        refusedByAll("piece of the cam -1", x -> x.piece(-1, CamWright.LINE, 5, 50));
        refusedByAll("piece of the cam 6", x -> x.piece(6, CamWright.LINE, 5, 50));
        refusedByAll("piece by the law -1", x -> x.piece(0, -1, 5, 50));
        refusedByAll("piece by the law 4", x -> x.piece(0, 4, 5, 50));
        refusedByAll("piece of no degrees", x -> x.piece(0, CamWright.LINE, 0, 50));
        refusedByAll("piece of 361 degrees", x -> x.piece(0, CamWright.LINE, 361, 50));
        refusedByAll("piece to the lift -1", x -> x.piece(0, CamWright.LINE, 5, -1));
        refusedByAll("piece to the lift 101", x -> x.piece(0, CamWright.LINE, 5, 101));
        refused(HALF, "piece to 361 degrees", x -> x.piece(1, CamWright.LINE, 341, 50));
    }

    private static void refusedByFullCams() {
        refused(FULL, "a seventh cam", x -> x.cam(33));
        refused(FULL, "a piece behind 360 degrees", x -> x.piece(0, CamWright.LINE, 1, 50));
        refused(FULL, "a thirteenth piece", x -> x.piece(1, CamWright.LINE, 1, 50));
        refused(FULL, "a seventh piece to 361 degrees", x -> x.piece(2, CamWright.LINE, 301, 50));
    }

    private static void refusedOfLinks() {
        refusedByAll("letter(-1)", x -> x.letter(-1));
        refusedByAll("letter(26)", x -> x.letter(26));
        refusedByAll("link(0)", x -> x.link(0));
        refusedByAll("link(201)", x -> x.link(201));
        refused(EMPTY, "link without a name", x -> x.link(5));
        refused(EMPTY, "build without links", x -> x.build());
    }

    private static void refusedByFullLinks() {
        refused(FULL, "a ninth letter", x -> x.letter(3));
        refused(FULL, "a thirteenth link", x -> x.link(5));
        refused(FULL, "a ninth mechanism", x -> x.build());
    }

    private static void refusedOfMechanisms() {
        refusedByAll("trace of the mechanism -1", x -> Make.traced(x, -1, 5, 5));
        refusedByAll("trace of the mechanism 8", x -> Make.traced(x, 8, 5, 5));
        refusedByAll("trace, u -1001", x -> Make.traced(x, 0, -1001, 5));
        refusedByAll("trace, u 2001", x -> Make.traced(x, 0, 2001, 5));
        refusedByAll("trace, v -1001", x -> Make.traced(x, 0, 5, -1001));
        refusedByAll("trace, v 1001", x -> Make.traced(x, 0, 5, 1001));
    }

    private static void refusedWhereStuck() {
        refused(HALF, "at where it is stuck", x -> x.at(1, 12, 0, 0));
        refused(HALF, "goes where it is stuck", x -> x.goes(1, 12, 0));
        refused(HALF, "area of what does not go round", x -> x.area(1, 1));
    }

    private static void refusedOfAims() {
        refusedByAll("aim(-1, 1, 1)", x -> Make.aimed(x, -1, 1, 1));
        refusedByAll("aim(3, 1, 1)", x -> Make.aimed(x, 3, 1, 1));
        for (int aim = 0; aim < 3; aim++) {
            int one = aim;
            refusedByAll("aim, x -501", x -> Make.aimed(x, one, -501, 1));
            refusedByAll("aim, x 501", x -> Make.aimed(x, one, 501, 1));
            refusedByAll("aim, y -501", x -> Make.aimed(x, one, 1, -501));
            refusedByAll("aim, y 501", x -> Make.aimed(x, one, 1, 501));
        }
    }

    private static void refusedQuestions() {
        refusedByAll("lift(0, 360)", x -> x.lift(0, 360));
        refusedByAll("steep(0, -1)", x -> x.steep(0, -1));
        refusedByAll("jams(0, 10001)", x -> x.jams(0, 10001));
        refusedByAll("ofCam(0, 6)", x -> x.ofCam(0, 6));
        refusedByAll("ofLink(0, 3)", x -> x.ofLink(0, 3));
        refusedByAll("stuck(0, 24)", x -> x.stuck(0, 24));
        refusedByAll("firstStuck(8)", x -> x.firstStuck(8));
        refusedByAll("should(8)", x -> Make.should(x, 8));
        refusedByAll("at(0, 24, 0, 0)", x -> x.at(0, 24, 0, 0));
        refusedByAll("goes(0, -1, 0)", x -> x.goes(0, -1, 0));
        refusedByAll("area(0, 2)", x -> x.area(0, 2));
        refusedByAll("sign(0, -1)", x -> x.sign(0, -1));
        refusedByAll("far(0, 2)", x -> x.far(0, 2));
    }

    /** A question is asked three times, and answers alike each time. */
    private static void question(String what, CallOn call) {
        for (int kind = HALF; kind <= FULL; kind++) {
            CamWright x = make(kind);
            String name = KINDS[kind] + ", " + what;
            long first = call.answer(x);
            Check.due(name + ", again", call.answer(x), first);
            Check.due(name + ", once more", call.answer(x), first);
            Look.alike(name, x, make(kind));
        }
    }

    private static void questionsOfCams() {
        question("lift(0, 0)", x -> x.lift(0, 0));
        question("lift(1, 359)", x -> x.lift(1, 359));
        question("steep(0, 15)", x -> x.steep(0, 15));
        question("steep(1, 359)", x -> x.steep(1, 359));
        question("jams(0, 0)", x -> x.jams(0, 0));
        question("jams(1, 10000)", x -> x.jams(1, 10000));
        for (int what = 0; what < 6; what++) {
            int one = what;
            question("ofCam(1, " + what + ")", x -> x.ofCam(1, one));
        }
    }

    private static void questionsOfLinks() {
        for (int what = 0; what < 3; what++) {
            int one = what;
            question("ofLink(1, " + what + ")", x -> x.ofLink(1, one));
            question("ofLink(5, " + what + ")", x -> x.ofLink(5, one));
        }
    }

    private static void questionsOfMechanisms() {
        question("stuck(1, 12)", x -> x.stuck(1, 12));
        question("firstStuck(0)", x -> x.firstStuck(0));
        question("firstStuck(1)", x -> x.firstStuck(1));
        question("should(0)", x -> Make.should(x, 0));
        for (int what = 0; what < 4; what++) {
            int one = what;
            question("at(0, 3, 0, " + what + ")", x -> x.at(0, 3, 0, one));
            question("at(0, 20, 1, " + what + ")", x -> x.at(0, 20, 1, one));
        }
        question("goes(0, 23, 0)", x -> x.goes(0, 23, 0));
        question("goes(0, 2, 1)", x -> x.goes(0, 2, 1));
        question("area(0, 0)", x -> x.area(0, 0));
        question("area(0, 1)", x -> x.area(0, 1));
        question("sign(1, 0)", x -> x.sign(1, 0));
        question("sign(1, 99)", x -> x.sign(1, 99));
        question("far(0, 0)", x -> x.far(0, 0));
        question("far(1, 1)", x -> x.far(1, 1));
        question("best()", x -> x.best());
    }

    /** What is made of one object is nothing to another one. */
    private static void objectsApart() {
        CamWright x = make(HALF);
        CamWright y = make(FULL);
        CamWright z = make(EMPTY);
        Look.alike("an empty one beside others", z, make(EMPTY));
        x.aim(0, 100, 100);
        x.trace(0, 2000, 1000);
        Make.link(x, "z", 5);
        Look.alike("a full one beside others", y, make(FULL));
    }

    private static void camsApart() {
        CamWright x = make(HALF);
        CamWright y = make(HALF);
        x.piece(1, CamWright.LINE, 30, 90);
        for (int what = 0; what < 6; what++) {
            Check.due("ofCam(0, " + what + ")", x.ofCam(0, what), y.ofCam(0, what));
        }
        for (int degree = 0; degree < 40; degree++) {
            Check.due("lift(0, " + degree + ")", x.lift(0, degree), y.lift(0, degree));
        }
    }

    /** What is told of a mechanism, or of links later on, is nothing to the others. */
    private static void mechanismsApart() {
        CamWright x = make(HALF);
        CamWright y = make(HALF);
        x.link(5);
        Make.lengths(x, 90, 80, 70, 61);
        x.trace(1, -500, 600);
        Check.due("firstStuck(0)", x.firstStuck(0), y.firstStuck(0));
        for (int step = 0; step < 24; step++) {
            for (int what = 0; what < 4; what++) {
                String name = "at(0, " + step + ", 0, " + what + ")";
                Check.due(name, x.at(0, step, 0, what), y.at(0, step, 0, what));
            }
        }
        Check.due("area(0, 0)", x.area(0, 0), y.area(0, 0));
        Check.due("far(0, 1)", x.far(0, 1), y.far(0, 1));
        Check.due("stuck(1, 12) as it was", x.stuck(1, 12), y.stuck(1, 12));
    }

    private static void nameStays() {
        CamWright x = make(HALF);
        x.cam(50);
        x.piece(1, CamWright.LINE, 5, 5);
        x.build();
        x.trace(0, 5, 5);
        x.aim(0, 5, 5);
        x.best();
        Check.noArgument("xy, length 0", () -> x.link(0));
        Check.due("xy and one more letter", x.letter(23), 3);
        Check.due("a link named xyx", x.link(9), 6);
        Check.due("its letters", x.ofLink(6, 2), 3);
        Check.due("the same name again", Make.link(x, "xyx", 10), 6);
    }

    private static void aimsAndPointsStay() {
        CamWright x = make(HALF);
        CamWright y = make(HALF);
        x.cam(50);
        x.piece(1, CamWright.LINE, 5, 5);
        x.letter(0);
        x.link(5);
        x.build();
        for (int branch = 0; branch < 2; branch++) {
            for (int one = 0; one < 2; one++) {
                String name = "far(" + one + ", " + branch + ")";
                Check.due(name, x.far(one, branch), y.far(one, branch));
            }
            for (int what = 0; what < 4; what++) {
                String name = "at(1, 3, " + branch + ", " + what + ")";
                Check.due(name, x.at(1, 3, branch, what), y.at(1, 3, branch, what));
            }
        }
        x.aim(1, 200, 200);
        x.aim(1, -7, 12);
        Check.due("an aim told and told back", x.far(0, 0), y.far(0, 0));
        x.trace(0, 1, 1);
        x.trace(0, 400, -300);
        Check.due("a point told and told back", x.far(0, 0), y.far(0, 0));
    }

    private static void camsAndLinksStay() {
        CamWright x = make(HALF);
        CamWright y = make(HALF);
        x.link(5);
        x.build();
        x.trace(0, 5, 5);
        x.aim(0, 5, 5);
        for (int cam = 0; cam < 2; cam++) {
            for (int what = 0; what < 6; what++) {
                Check.due("what " + what + " of a cam", x.ofCam(cam, what), y.ofCam(cam, what));
            }
        }
        for (int link = 0; link < 6; link++) {
            for (int what = 0; what < 3; what++) {
                String name = "what " + what + " of the link " + link;
                Check.due(name, x.ofLink(link, what), y.ofLink(link, what));
            }
        }
    }
}
