/** Promises 1 to 7: a new object, and cams. */
public final class CamTest {
    public static void main(String[] args) {
        newObject();
        cam();
        piece();
        pieceIsRefusedInOrder();
        liftByLaws();
        liftBehindPieces();
        liftRefuses();
        steep();
        jams();
        ofCam();
        Check.finish("CamTest");
    }

    private static void newObject() {
        CamWright x = new CamWright();
        Check.noIndex("new: lift(0, 0)", () -> x.lift(0, 0));
        Check.noIndex("new: ofLink(0, 0)", () -> x.ofLink(0, 0));
        Check.noIndex("new: firstStuck(0)", () -> x.firstStuck(0));
        Check.noState("new: link(5)", () -> x.link(5));
        Check.noState("new: build()", () -> x.build());
        Check.due("new: best()", x.best(), CamWright.NONE);
        Check.due("new: first cam", x.cam(10), 0);
        Check.due("new: first letter", x.letter(0), 1);
        Check.due("new: first link", x.link(1), 0);
        CamWright y = new CamWright();
        Check.noIndex("another new one: ofCam(0, 0)", () -> y.ofCam(0, 0));
        Check.noIndex("another new one: ofLink(0, 0)", () -> y.ofLink(0, 0));
    }

    private static void cam() {
        CamWright x = new CamWright();
        Check.noArgument("cam(9)", () -> x.cam(9));
        Check.noArgument("cam(201)", () -> x.cam(201));
        Check.noArgument("cam(least)", () -> x.cam(Integer.MIN_VALUE));
        int[] bases = {10, 200, 11, 199, 50, 100};
        for (int i = 0; i < bases.length; i++) {
            Check.due("cam " + i, x.cam(bases[i]), i);
        }
        for (int i = 0; i < bases.length; i++) {
            Check.due("base of cam " + i, x.ofCam(i, 5), bases[i]);
        }
        Check.noState("a seventh cam", () -> x.cam(50));
        Check.noArgument("a seventh cam of a wrong base", () -> x.cam(201));
        Check.noIndex("ofCam(6, 0)", () -> x.ofCam(6, 0));
    }

    private static void piece() {
        CamWright x = new CamWright();
        x.cam(20);
        x.cam(20);
        Check.due("piece of 1 degree", x.piece(0, CamWright.FLAT, 1, 0), 1);
        Check.noState("piece to 361 degrees", () -> x.piece(0, CamWright.LINE, 360, 100));
        Check.due("degrees are as they were", x.ofCam(0, 1), 1);
        Check.due("pieces are as they were", x.ofCam(0, 0), 1);
        Check.due("lift is as it was", x.lift(0, 359), 0);
        Check.due("piece to 360 degrees", x.piece(0, CamWright.CUBIC, 359, 100), 360);
        Check.noState("piece behind 360 degrees", () -> x.piece(0, CamWright.FLAT, 1, 0));
        for (int i = 1; i <= 12; i++) {
            Check.due("piece " + i, x.piece(1, CamWright.PARABOLA, 2, i), 2 * i);
        }
        Check.noState("a thirteenth piece", () -> x.piece(1, CamWright.LINE, 1, 1));
        Check.due("twelve pieces", x.ofCam(1, 0), 12);
        Check.due("of 24 degrees", x.ofCam(1, 1), 24);
        x.cam(10);
        Check.due("the whole of it", x.piece(2, CamWright.LINE, 360, 100), 360);
    }

    private static void pieceIsRefusedInOrder() {
        CamWright x = new CamWright();
        Check.noIndex("no cam", () -> x.piece(0, 9, 0, 101));
        x.cam(20);
        Check.noIndex("cam -1", () -> x.piece(-1, 0, 1, 0));
        Check.noIndex("cam 1", () -> x.piece(1, 0, 1, 0));
        Check.noArgument("law -1", () -> x.piece(0, -1, 1, 0));
        Check.noArgument("law 4", () -> x.piece(0, 4, 1, 0));
        Check.noArgument("degrees 0", () -> x.piece(0, 0, 0, 0));
        Check.noArgument("degrees 361", () -> x.piece(0, 0, 361, 0));
        Check.noArgument("lift -1", () -> x.piece(0, 0, 1, -1));
        Check.noArgument("lift 101", () -> x.piece(0, 0, 1, 101));
        Check.due("nothing was added", x.ofCam(0, 0), 0);
        x.piece(0, 0, 360, 0);
        Check.noArgument("a full cam, law 4", () -> x.piece(0, 4, 1, 0));
        Check.noArgument("a full cam, degrees 361", () -> x.piece(0, 0, 361, 0));
        Check.noArgument("a full cam, lift 101", () -> x.piece(0, 0, 1, 101));
    }

    private static void liftByLaws() {
        CamWright flat = Make.withPiece(20, CamWright.FLAT, 10, 50);
        lifts("flat", flat, new int[] {0, 0, 9, 0, 10, 50, 359, 50});
        CamWright line = Make.withPiece(20, CamWright.LINE, 7, 10);
        lifts("line", line, new int[] {0, 0, 1, 1, 2, 2, 3, 4, 6, 8, 7, 10});
        // 2 k k of n n up to the middle, which belongs to the first half
        CamWright even = Make.withPiece(20, CamWright.PARABOLA, 10, 100);
        lifts("even parabola", even, new int[] {0, 0, 1, 2, 4, 32, 5, 50, 6, 68, 9, 98, 10, 100});
        CamWright odd = Make.withPiece(20, CamWright.PARABOLA, 5, 100);
        lifts("odd parabola", odd, new int[] {1, 8, 2, 32, 3, 68, 4, 92, 5, 100});
        // k k (3 n - 2 k) of n n n: 1 1 28 of 1000, 3 3 24 of 1000, 5 5 20 of 1000, 9 9 12 of 1000
        CamWright cubic = Make.withPiece(20, CamWright.CUBIC, 10, 100);
        lifts("cubic", cubic, new int[] {0, 0, 1, 2, 3, 21, 5, 50, 9, 97, 10, 100});
        CamWright longCubic = Make.withPiece(20, CamWright.CUBIC, 360, 100);
        lifts("long cubic", longCubic, new int[] {0, 0, 180, 50, 270, 84, 359, 99});
    }

    private static void liftBehindPieces() {
        CamWright x = new CamWright();
        x.cam(20);
        lifts("no pieces", x, new int[] {0, 0, 359, 0});
        x.piece(0, CamWright.LINE, 10, 30);
        x.piece(0, CamWright.FLAT, 10, 7);
        lifts("flat stays where it begins", x, new int[] {9, 27, 10, 30, 19, 30, 20, 7, 359, 7});
        // downwards: what is added is rounded towards 0, so 7 - 5 * 1 / 3 is 6
        x.piece(0, CamWright.LINE, 3, 2);
        lifts("the next begins with what flat leads to", x, new int[] {20, 7, 21, 6, 22, 4, 23, 2});
        x.piece(0, CamWright.PARABOLA, 4, 0);
        lifts("parabola downwards", x, new int[] {23, 2, 24, 2, 25, 1, 26, 1, 27, 0, 359, 0});
        x.piece(0, CamWright.CUBIC, 4, 9);
        x.piece(0, CamWright.CUBIC, 4, 0);
        // of 64: 10, 32, 54; 9 times that by 64: 1, 4, 7
        lifts("cubic up", x, new int[] {27, 0, 28, 1, 29, 4, 30, 7, 31, 9});
        lifts("cubic down", x, new int[] {32, 8, 33, 5, 34, 2, 35, 0});
    }

    private static void lifts(String name, CamWright x, int[] degreesAndLifts) {
        for (int i = 0; i + 1 < degreesAndLifts.length; i += 2) {
            int degree = degreesAndLifts[i];
            int due = degreesAndLifts[i + 1];
            Check.due(name + ": lift(0, " + degree + ")", x.lift(0, degree), due);
        }
    }

    private static void liftRefuses() {
        CamWright x = Make.withPiece(20, CamWright.LINE, 360, 100);
        Check.noIndex("lift(1, 0)", () -> x.lift(1, 0));
        Check.noIndex("lift(-1, 0)", () -> x.lift(-1, 0));
        Check.noIndex("lift(1, 360)", () -> x.lift(1, 360));
        Check.noArgument("lift(0, -1)", () -> x.lift(0, -1));
        Check.noArgument("lift(0, 360)", () -> x.lift(0, 360));
    }

    private static void steep() {
        CamWright x = Make.withPiece(20, CamWright.LINE, 10, 30);
        Check.due("3 of 20", x.steep(0, 0), 150);
        Check.due("3 of 23", x.steep(0, 1), 130);
        Check.due("3 of 47", x.steep(0, 9), 63);
        Check.due("behind the piece", x.steep(0, 10), 0);
        Check.due("from 359 to 0: 30 of 50", x.steep(0, 359), 600);
        x.piece(0, CamWright.LINE, 5, 0);
        Check.due("downwards: 6 of 50", x.steep(0, 10), 120);
        Check.due("downwards: 6 of 26", x.steep(0, 14), 230);
        CamWright jump = Make.withPiece(10, CamWright.FLAT, 5, 100);
        Check.due("a jump: 100 of 10", jump.steep(0, 4), 10000);
        Check.due("no pieces", without(), 0);
        Check.noIndex("steep(1, 0)", () -> x.steep(1, 0));
        Check.noIndex("steep(-1, 360)", () -> x.steep(-1, 360));
        Check.noArgument("steep(0, -1)", () -> x.steep(0, -1));
        Check.noArgument("steep(0, 360)", () -> x.steep(0, 360));
    }

    private static long without() {
        CamWright x = new CamWright();
        x.cam(10);
        return x.steep(0, 359);
    }

    private static void jams() {
        CamWright x = Make.withPiece(20, CamWright.LINE, 10, 30);
        Check.due("above 0", x.jams(0, 0), 0);
        Check.due("above 149", x.jams(0, 149), 0);
        Check.due("150 is not above 150", x.jams(0, 150), 359);
        Check.due("above 599", x.jams(0, 599), 359);
        Check.due("600 is not above 600", x.jams(0, 600), CamWright.NONE);
        CamWright jump = Make.withPiece(10, CamWright.FLAT, 5, 100);
        Check.due("above 9999", jump.jams(0, 9999), 4);
        Check.due("above 10000", jump.jams(0, 10000), CamWright.NONE);
        CamWright line = Make.withPiece(10, CamWright.LINE, 360, 100);
        Check.due("99 of 109 at the degree 359", line.jams(0, 907), 359);
        Check.due("there is no degree 360", line.jams(0, 908), CamWright.NONE);
        Check.noIndex("jams(1, 0)", () -> x.jams(1, 0));
        Check.noIndex("jams(-1, -1)", () -> x.jams(-1, -1));
        Check.noArgument("jams(0, -1)", () -> x.jams(0, -1));
        Check.noArgument("jams(0, 10001)", () -> x.jams(0, 10001));
    }

    private static void ofCam() {
        CamWright x = new CamWright();
        x.cam(33);
        tells("empty", x, 0, 0, 0, 0, 0, 33);
        x.piece(0, CamWright.LINE, 100, 40);
        tells("half", x, 1, 100, 0, 40, 100, 33);
        x.piece(0, CamWright.FLAT, 100, 90);
        x.piece(0, CamWright.LINE, 60, 40);
        tells("jump", x, 3, 260, 0, 90, 200, 33);
        x.piece(0, CamWright.FLAT, 100, 0);
        tells("whole, the last one flat", x, 4, 360, 1, 90, 200, 33);
        CamWright line = Make.withPiece(10, CamWright.LINE, 360, 100);
        Check.due("360 degrees, not to 0", line.ofCam(0, 2), 0);
        Check.due("never at 100", line.ofCam(0, 3), 99);
        Check.due("first at 99", line.ofCam(0, 4), 357);
        CamWright early = Make.withPiece(10, CamWright.LINE, 1, 70);
        Check.due("greatest from the degree 1 on", early.ofCam(0, 4), 1);
        CamWright zero = Make.withPiece(10, CamWright.LINE, 359, 0);
        Check.due("359 degrees to 0", zero.ofCam(0, 2), 0);
        Check.noIndex("ofCam(1, 0)", () -> x.ofCam(1, 0));
        Check.noIndex("ofCam(-1, 6)", () -> x.ofCam(-1, 6));
        Check.noArgument("ofCam(0, -1)", () -> x.ofCam(0, -1));
        Check.noArgument("ofCam(0, 6)", () -> x.ofCam(0, 6));
    }

    private static void tells(String name, CamWright x, int... due) {
        for (int what = 0; what < due.length; what++) {
            Check.due(name + ": ofCam(0, " + what + ")", x.ofCam(0, what), due[what]);
        }
    }
}
