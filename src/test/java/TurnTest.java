/** What comes behind the last one: the degree 359, the step 23, all pieces, a text. */
public final class TurnTest {
    private static final int UP = CamWright.UP;
    private static final int DOWN = CamWright.DOWN;

    public static void main(String[] args) {
        steepBehind359();
        steepAtEachLaw();
        jamsAt359();
        jamsIsTheFirst();
        greatestLiftAt359();
        piecesMeet();
        middleOfParabola();
        flatAtTheEnd();
        quarterTurns();
        goesBehind23();
        goesBesideStuck();
        loopIsClosed();
        boundsOfDistance();
        rootsOfSquares();
        blankBehindText();
        Check.finish("TurnTest");
    }

    private static void steepBehind359() {
        CamWright whole = Make.withPiece(19, CamWright.LINE, 180, 90);
        whole.piece(0, CamWright.LINE, 180, 0);
        // half of 1 a degree: 90 less 89 (of 89.5) at 359, so 1 of 20; at 358 it is 90 less 89 too
        Check.due("down to 0 by 1 of 20", whole.steep(0, 359), 50);
        Check.due("from 358 to 359: alike", whole.steep(0, 358), 0);
        CamWright open = Make.withPiece(10, CamWright.LINE, 360, 100);
        Check.due("down to 0 by 99 of 109", open.steep(0, 359), 908);
        CamWright flat = Make.withPiece(30, CamWright.FLAT, 360, 100);
        Check.due("flat, whatever it leads to", flat.steep(0, 359), 0);
        CamWright up = Make.withPiece(40, CamWright.FLAT, 359, 60);
        Check.due("up by 60 of 40", up.steep(0, 358), 1500);
        Check.due("down by 60 of 100", up.steep(0, 359), 600);
    }

    private static void steepAtEachLaw() {
        // the lifts are 0 2 8 18 32 50 68 82 92 98 100 by PARABOLA
        CamWright parabola = Make.withPiece(20, CamWright.PARABOLA, 10, 100);
        Check.due("parabola: 18 of 52", parabola.steep(0, 4), 346);
        Check.due("parabola: 18 of 70", parabola.steep(0, 5), 257);
        Check.due("parabola: 2 of 118", parabola.steep(0, 9), 16);
        // and 0 2 10 21 35 50 64 78 89 97 100 by CUBIC
        CamWright cubic = Make.withPiece(20, CamWright.CUBIC, 10, 100);
        Check.due("cubic: 15 of 55", cubic.steep(0, 4), 272);
        Check.due("cubic: 14 of 70", cubic.steep(0, 5), 200);
        Check.due("cubic: 3 of 117", cubic.steep(0, 9), 25);
    }

    private static void jamsAt359() {
        CamWright x = Make.withPiece(10, CamWright.FLAT, 200, 5);
        Check.due("500 at the degree 199", x.jams(0, 499), 199);
        Check.due("then none: 333 at the degree 359", x.jams(0, 500), CamWright.NONE);
        x.piece(0, CamWright.LINE, 160, 100);
        Check.due("95 to 0 at the degree 359", x.jams(0, 500), 359);
        // the lift at 359 is 5 and (95 times 159) by 160, 99
        Check.due("99 of 109", x.jams(0, 907), 359);
        Check.due("908 is not above 908", x.jams(0, 908), CamWright.NONE);
    }

    private static void jamsIsTheFirst() {
        CamWright x = new CamWright();
        x.cam(50);
        x.piece(0, CamWright.LINE, 10, 10);
        x.piece(0, CamWright.LINE, 10, 0);
        x.piece(0, CamWright.LINE, 10, 50);
        x.piece(0, CamWright.LINE, 10, 0);
        // 1 of 50 at 0, 5 of 50 at 20; on the way down 5 of 100 at 30 and 5 of 55 at 39
        Check.due("20 at the degree 0", x.jams(0, 19), 0);
        Check.due("above 20", x.jams(0, 20), 20);
        Check.due("above 99", x.jams(0, 99), 20);
        Check.due("100 is not above 100", x.jams(0, 100), CamWright.NONE);
    }

    private static void greatestLiftAt359() {
        CamWright x = Make.withPiece(10, CamWright.LINE, 359, 100);
        Check.due("100 behind the piece", x.ofCam(0, 3), 100);
        Check.due("at 359 first", x.ofCam(0, 4), 359);
        x.piece(0, CamWright.FLAT, 1, 0);
        Check.due("100 at the last piece's beginning", x.ofCam(0, 3), 100);
        Check.due("at 359 alone", x.ofCam(0, 4), 359);
        Check.due("and it is whole", x.ofCam(0, 2), 1);
        CamWright first = Make.withPiece(10, CamWright.LINE, 10, 30);
        first.piece(0, CamWright.LINE, 10, 0);
        first.piece(0, CamWright.LINE, 10, 30);
        Check.due("30 twice", first.ofCam(0, 3), 30);
        Check.due("at 10 first", first.ofCam(0, 4), 10);
        for (int law = CamWright.FLAT; law <= CamWright.CUBIC; law++) {
            CamWright one = Make.withPiece(10, law, 1, 5);
            Check.due("5 behind one degree by " + law, one.ofCam(0, 3), 5);
            Check.due("at 1 first, by " + law, one.ofCam(0, 4), 1);
        }
    }

    private static void piecesMeet() {
        CamWright x = Make.withPiece(10, CamWright.LINE, 4, 40);
        x.piece(0, CamWright.PARABOLA, 4, 0);
        x.piece(0, CamWright.CUBIC, 4, 64);
        x.piece(0, CamWright.FLAT, 4, 7);
        x.piece(0, CamWright.LINE, 4, 3);
        int[] due = {
            0, 10, 20, 30, 40, 35, 20, 5, 0, 10, 32, 54, 64, 64, 64, 64, 7, 6, 5, 4, 3, 3};
        for (int degree = 0; degree < due.length; degree++) {
            Check.due("lift at " + degree, x.lift(0, degree), due[degree]);
        }
        Check.due("lift at 359", x.lift(0, 359), 3);
    }

    private static void middleOfParabola() {
        // 2 k k of n n: 2 of 9, then 9 less 2 of 9
        lifts("parabola of 3", CamWright.PARABOLA, 3, 0, 22, 77, 100);
        lifts("parabola of 2", CamWright.PARABOLA, 2, 0, 50, 100);
        lifts("parabola of 1", CamWright.PARABOLA, 1, 0, 100);
        lifts("parabola of 4", CamWright.PARABOLA, 4, 0, 12, 50, 87, 100);
        // k k (3 n - 2 k) of n n n: 7 and 20 of 27
        lifts("cubic of 3", CamWright.CUBIC, 3, 0, 25, 74, 100);
        lifts("cubic of 2", CamWright.CUBIC, 2, 0, 50, 100);
        lifts("cubic of 1", CamWright.CUBIC, 1, 0, 100);
        lifts("line of 3", CamWright.LINE, 3, 0, 33, 66, 100);
        lifts("line of 1", CamWright.LINE, 1, 0, 100);
        lifts("flat of 3", CamWright.FLAT, 3, 0, 0, 0, 100);
        lifts("flat of 1", CamWright.FLAT, 1, 0, 100);
    }

    /** A piece by a law that leads to 100 in so many degrees. */
    private static void lifts(String what, int law, int degrees, int... due) {
        CamWright x = Make.withPiece(10, law, degrees, 100);
        for (int degree = 0; degree < due.length; degree++) {
            Check.due(what + ", lift at " + degree, x.lift(0, degree), due[degree]);
        }
    }

    private static void flatAtTheEnd() {
        CamWright x = Make.withPiece(10, CamWright.LINE, 180, 90);
        x.piece(0, CamWright.FLAT, 180, 0);
        Check.due("a flat one to 0 at the end is whole", x.ofCam(0, 2), 1);
        Check.due("and stays where it begins", x.lift(0, 359), 90);
        Check.due("so that it falls behind 359", x.steep(0, 359), 900);
        CamWright y = Make.withPiece(10, CamWright.FLAT, 360, 90);
        Check.due("a flat one to 90 is not whole", y.ofCam(0, 2), 0);
        Check.due("though its lift is 0", y.lift(0, 359), 0);
    }

    /** Six steps behind (a, b) comes (-b, a), and so on, up to the step 23. */
    private static void quarterTurns() {
        CamWright x = Make.withMechanism(60, 1, 50, 40);
        for (int step = 0; step < 24; step++) {
            int behind = (step + 6) % 24;
            int atX = x.at(0, step, UP, 2);
            int atY = x.at(0, step, UP, 3);
            Check.due("x six behind " + step, x.at(0, behind, UP, 2), -atY);
            Check.due("y six behind " + step, x.at(0, behind, UP, 3), atX);
        }
        int[] due = {1000, 966, 866, 707, 500, 259, 0};
        for (int step = 0; step < due.length; step++) {
            Check.due("x at " + step, x.at(0, step, DOWN, 2), due[step]);
            Check.due("y at " + step, x.at(0, step, DOWN, 3), due[6 - step]);
        }
    }

    private static void goesBehind23() {
        CamWright x = Make.withMechanism(40, 10, 30, 30);
        x.trace(0, 1000, 0);
        // at the steps 1 and 23 the joints are mirrored: (27028, 27050) and (22631, -24460)
        Check.due("x at 23, up", x.at(0, 23, UP, 2), 22631);
        Check.due("y at 23, up", x.at(0, 23, UP, 3), 24460);
        Check.due("from 23 to (25000, 25980)", x.goes(0, 23, UP), 2369 + 1520);
        Check.due("from 23 to (25000, -25980)", x.goes(0, 23, DOWN), 2028 + 1070);
        int dx = x.at(0, 23, UP, 2) - x.at(0, 22, UP, 2);
        int dy = x.at(0, 23, UP, 3) - x.at(0, 22, UP, 3);
        Check.due("from 22 to 23", x.goes(0, 22, UP), Math.abs(dx) + Math.abs(dy));
    }

    private static void goesBesideStuck() {
        CamWright at0 = Make.withMechanism(7, 7, 5, 5);
        Check.noState("23, as 0 is stuck", () -> at0.goes(0, 23, UP));
        Check.noState("0 itself", () -> at0.goes(0, 0, UP));
        Check.due("22 to 23", at0.goes(0, 22, UP), 7 * (100 + 241));
        Check.due("1 to 2", at0.goes(0, 1, UP), 7 * (100 + 241));
        // far at the steps 1 and 23, free at the step 0
        CamWright but0 = Make.withMechanism(19, 53, 17, 18);
        Check.noState("23, which is stuck itself", () -> but0.goes(0, 23, UP));
        Check.noState("0, as 1 is stuck", () -> but0.goes(0, 0, DOWN));
        // far at the step 12 alone
        CamWright at12 = Make.withMechanism(120, 100, 109, 110);
        Check.noState("11, as 12 is stuck", () -> at12.goes(0, 11, UP));
        Check.noState("12 itself", () -> at12.goes(0, 12, UP));
        Check.due("13 to 14", at12.goes(0, 13, UP), 100 * (100 + 241));
        Check.due("23 to 0", at12.goes(0, 23, UP), 100 * (34 + 259));
    }

    private static void loopIsClosed() {
        // each quarter of the circle of B is 621174400, so that all but the last part is 1190
        CamWright x = Make.withMechanism(60, 20, 50, 40);
        Check.due("with the part behind 23", x.area(0, UP), 1242);
        // a loop that does not go round (0, 0), so that the part behind 23 is unlike the others
        x.trace(0, 2000, 1000);
        Check.due("up", x.area(0, UP), areaOf(x, UP));
        Check.due("down", x.area(0, DOWN), areaOf(x, DOWN));
    }

    private static long areaOf(CamWright x, int branch) {
        long[] atX = new long[25];
        long[] atY = new long[25];
        for (int step = 0; step < 24; step++) {
            atX[step] = x.at(0, step, branch, 2);
            atY[step] = x.at(0, step, branch, 3);
        }
        atX[24] = atX[0];
        atY[24] = atY[0];
        long sum = 0;
        for (int step = 0; step < 24; step++) {
            sum += atX[step] * atY[step + 1] - atX[step + 1] * atY[step];
        }
        return Math.abs(sum) / 2000000;
    }

    private static void boundsOfDistance() {
        // B is at (6928, 4000): q is 16005184, of which the root is 4000, 2 and 2 together
        CamWright x = Make.withMechanism(7, 8, 2, 2);
        Check.due("4000 is not above 4000", x.stuck(0, 2), 0);
        Check.due("x of its joint", x.at(0, 2, UP, 0), 6928 + 36);
        Check.due("y of its joint", x.at(0, 2, DOWN, 1), 4000 - 2000);
        CamWright shorter = Make.withMechanism(7, 8, 1, 2);
        Check.due("4000 is above 3000", shorter.stuck(0, 2), CamWright.FAR);
        CamWright apart = Make.withMechanism(7, 8, 1, 5);
        Check.due("4000 is not below 4000", apart.stuck(0, 2), 0);
        CamWright further = Make.withMechanism(7, 8, 1, 6);
        Check.due("4000 is below 5000", further.stuck(0, 2), CamWright.NEAR);
        CamWright turned = Make.withMechanism(7, 8, 6, 1);
        Check.due("4000 is below 5000, the coupler longer", turned.stuck(0, 2), CamWright.NEAR);
        CamWright zero = Make.withMechanism(7, 7, 2, 2);
        Check.due("0 is not below 0, but near", zero.stuck(0, 0), CamWright.NEAR);
        CamWright zeroApart = Make.withMechanism(7, 7, 1, 2);
        Check.due("0 is below 1000", zeroApart.stuck(0, 0), CamWright.NEAR);
    }

    private static void rootsOfSquares() {
        // d is 8000, w is 4000, and h the root of 9000000
        CamWright x = Make.withMechanism(10, 2, 5, 5);
        Check.due("x of the joint", x.at(0, 0, UP, 0), 6000);
        Check.due("3000 up", x.at(0, 0, UP, 1), 3000);
        Check.due("3000 down", x.at(0, 0, DOWN, 1), -3000);
        // d is 4000, w is 0: the coupler stands upright, as 3, 4 and 5 make a right angle
        CamWright below = Make.withMechanism(6, 2, 3, 5);
        Check.due("x above B", below.at(0, 0, UP, 0), 2000);
        Check.due("3000 above B", below.at(0, 0, UP, 1), 3000);
        CamWright behind = Make.withMechanism(9, 2, 13, 20);
        // e is 7000: (169 - 400 + 49) / 14 is -13, so that w is -13000 and h is 0
        Check.due("x behind B", behind.at(0, 0, UP, 0), -11000);
        Check.due("straight", behind.at(0, 0, UP, 1), 0);
    }

    private static void blankBehindText() {
        String[] due = {"g1c1p1r1", "g200c200p200r200", "g9c10p99r100"};
        int[][] lengths = {{1, 1, 1, 1}, {200, 200, 200, 200}, {9, 10, 99, 100}};
        CamWright x = new CamWright();
        for (int i = 0; i < due.length; i++) {
            Make.mechanism(x, lengths[i][0], lengths[i][1], lengths[i][2], lengths[i][3]);
            for (int place = 0; place < due[i].length(); place++) {
                Check.due(due[i] + ", " + place, x.sign(i, place), due[i].charAt(place));
            }
            Check.due("behind " + due[i], x.sign(i, due[i].length()), ' ');
            Check.due("far behind " + due[i], x.sign(i, 1000), ' ');
        }
    }
}
