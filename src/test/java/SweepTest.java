/**
 * Each value in the range of an argument is taken as it is, each number of what was made is one of
 * its own, and each degree and each step is answered, not only those at the bounds.
 */
public final class SweepTest {
    private static final int UP = CamWright.UP;
    private static final int DOWN = CamWright.DOWN;
    /** How many rounds of few calls one object is used for, ahead of a new one. */
    private static final int ROUNDS = 100;
    private static final int[][] DIRECTIONS = {
        {1000, 0}, {966, 259}, {866, 500}, {707, 707}, {500, 866}, {259, 966}};

    public static void main(String[] args) {
        bases();
        degreesOfPieces();
        liftsOfPieces();
        laws();
        bounds();
        camsByNumber();
        letters();
        lengths();
        linksByNumber();
        stuckSteps();
        stuckAtAllSteps();
        texts();
        points();
        aims();
        mechanismsByNumber();
        Check.finish("SweepTest");
    }

    private static void bases() {
        for (int base = 10; base <= 200; base++) {
            CamWright x = new CamWright();
            Check.due("cam(" + base + ")", x.cam(base), 0);
            Check.due("its base", x.ofCam(0, 5), base);
            x.piece(0, CamWright.FLAT, 1, 100);
            Check.due("100 by the base " + base, x.steep(0, 0), 100000 / base);
            x.piece(0, CamWright.FLAT, 1, 0);
            Check.due("down by 100", x.steep(0, 1), 100000 / (base + 100));
        }
    }

    private static void degreesOfPieces() {
        for (int degrees = 1; degrees <= 360; degrees++) {
            CamWright x = new CamWright();
            x.cam(10);
            Check.due("piece of " + degrees, x.piece(0, CamWright.FLAT, degrees, 50), degrees);
            Check.due("its degrees", x.ofCam(0, 1), degrees);
            Check.due("at its last degree", x.lift(0, degrees - 1), 0);
            if (degrees < 360) {
                Check.due("behind it", x.lift(0, degrees), 50);
                int rest = 360 - degrees;
                Check.noState("one too much", () -> x.piece(0, CamWright.FLAT, rest + 1, 0));
                Check.due("the rest", x.piece(0, CamWright.FLAT, rest, 0), 360);
            }
            Check.noState("no more", () -> x.piece(0, CamWright.FLAT, 1, 0));
        }
    }

    private static void liftsOfPieces() {
        for (int lift = 0; lift <= 100; lift++) {
            CamWright x = Make.withPiece(10, CamWright.LINE, 100, lift);
            for (int degree = 1; degree < 100; degree += 7) {
                Check.due("on the way to " + lift, x.lift(0, degree), lift * degree / 100);
            }
            Check.due("behind the piece to " + lift, x.lift(0, 100), lift);
            Check.due("at the last degree", x.lift(0, 359), lift);
            Check.due("the greatest", x.ofCam(0, 3), lift);
            x.piece(0, CamWright.FLAT, 260, 0);
            Check.due("it stays there", x.lift(0, 359), lift);
            Check.due("whole, leading to 0", x.ofCam(0, 2), 1);
        }
    }

    /** Each law, for each number of degrees, upwards by 97 and downwards from 97 to 3. */
    private static void laws() {
        for (int law = CamWright.FLAT; law <= CamWright.CUBIC; law++) {
            for (int n = 1; n <= 359; n++) {
                CamWright up = Make.withPiece(10, law, n, 97);
                CamWright down = Make.withPiece(10, CamWright.FLAT, 1, 97);
                down.piece(0, law, n, 3);
                for (int k = 0; k < n; k += 1 + n / 50) {
                    String what = "law " + law + ", " + k + " of " + n;
                    Check.due(what, up.lift(0, k), times(97, law, k, n));
                    Check.due(what + ", down", down.lift(0, k + 1), 97 - times(94, law, k, n));
                }
            }
        }
    }

    private static long times(long difference, int law, long k, long n) {
        switch (law) {
            case CamWright.FLAT: return 0;
            case CamWright.LINE: return difference * k / n;
            case CamWright.PARABOLA: return difference * parabola(k, n) / (n * n);
            default: return difference * k * k * (3 * n - 2 * k) / (n * n * n);
        }
    }

    private static long parabola(long k, long n) {
        return 2 * k <= n ? 2 * k * k : n * n - 2 * (n - k) * (n - k);
    }

    private static void bounds() {
        // 100 of 13 at the degree 4; behind 359 it is 100 of 113, 884
        int jump = 100000 / 13;
        CamWright x = null;
        for (int bound = 0; bound <= 10000; bound++) {
            if (bound % ROUNDS == 0) {
                x = Make.withPiece(13, CamWright.FLAT, 5, 100);
                x.piece(0, CamWright.FLAT, 355, 100);
            }
            Check.due("jams(0, " + bound + ")", x.jams(0, bound), bound < jump ? 4 : -1);
        }
    }

    private static void camsByNumber() {
        CamWright x = new CamWright();
        CamWright[] alone = new CamWright[6];
        for (int cam = 0; cam < 6; cam++) {
            x.cam(15 + 30 * cam);
            alone[cam] = new CamWright();
            alone[cam].cam(15 + 30 * cam);
        }
        // a round of one piece for each cam, and then the next round
        for (int i = 0; i < 5; i++) {
            for (int cam = 0; cam < 6; cam++) {
                int lift = (37 * i + 23 * cam + 41) % 101;
                int due = alone[cam].piece(0, (i + cam) % 4, 5 + 9 * cam + i, lift);
                Check.due("degrees", x.piece(cam, (i + cam) % 4, 5 + 9 * cam + i, lift), due);
            }
        }
        for (int cam = 0; cam < 6; cam++) {
            for (int degree = cam; degree < 360; degree += 12) {
                String what = "cam " + cam + " at " + degree;
                Check.due(what + ", lift", x.lift(cam, degree), alone[cam].lift(0, degree));
                Check.due(what + ", steep", x.steep(cam, degree), alone[cam].steep(0, degree));
            }
            for (int what = 0; what < 6; what++) {
                Check.due("what " + what, x.ofCam(cam, what), alone[cam].ofCam(0, what));
            }
            Check.due("jams", x.jams(cam, 30), alone[cam].jams(0, 30));
        }
    }

    /** Each letter is unlike each other one. */
    private static void letters() {
        for (int letter = 0; letter < 26; letter++) {
            for (int other = 0; other < 26; other++) {
                CamWright x = new CamWright();
                x.letter(7);
                Check.due("letter " + letter, x.letter(letter), 2);
                x.link(1);
                x.letter(7);
                Check.due("letter " + other, x.letter(other), 2);
                Check.due(letter + " and " + other, x.link(2), letter == other ? 0 : 1);
            }
        }
    }

    private static void lengths() {
        CamWright x = null;
        for (int length = 1; length <= 200; length++) {
            if (length % ROUNDS == 1) {
                x = new CamWright();
            }
            x.letter(3);
            Check.due("link(" + length + ")", x.link(length), 0);
            Check.due("its length", x.ofLink(0, 0), length);
        }
    }

    private static void linksByNumber() {
        CamWright x = new CamWright();
        for (int link = 0; link < 12; link++) {
            for (int i = 0; i <= link % 8; i++) {
                x.letter(link);
            }
            Check.due("link " + link, x.link(1 + 18 * link), link);
        }
        for (int link = 0; link < 12; link++) {
            Check.due("length of " + link, x.ofLink(link, 0), 1 + 18 * link);
            Check.due("role of " + link, x.ofLink(link, 1), CamWright.NONE);
            Check.due("letters of " + link, x.ofLink(link, 2), 1 + link % 8);
        }
        for (int link = 0; link < 12; link++) {
            for (int length = 1; length <= 200; length += 199) {
                for (int i = 0; i <= link % 8; i++) {
                    x.letter(link);
                }
                Check.due("link " + link + " again", x.link(length), link);
                Check.due("its length then", x.ofLink(link, 0), length);
            }
        }
    }

    private static void stuckSteps() {
        // near below 60000, far above 140000: of the distances, which grow up to the step 12 and
        // are mirrored behind it, 50116 is that at the step 2, 73290 at 3, 134536 at 6, 150877 at 7
        CamWright x = Make.withMechanism(100, 90, 40, 100);
        Check.due("first stuck", x.firstStuck(0), 0);
        for (int step = 0; step < 24; step++) {
            int one = step;
            int fromTwelve = Math.abs(12 - step);
            int due = fromTwelve <= 5 ? CamWright.FAR : fromTwelve <= 9 ? 0 : CamWright.NEAR;
            Check.due("stuck at " + step, x.stuck(0, step), due);
            if (due != 0) {
                Check.noState("at " + step, () -> x.at(0, one, UP, 0));
                Check.noState("goes from " + step, () -> x.goes(0, one, DOWN));
            } else {
                Check.due("B at " + step, x.at(0, step, DOWN, 3), 90 * crankY(step));
            }
        }
    }

    private static void stuckAtAllSteps() {
        CamWright x = Make.withMechanism(100, 1, 2, 3);
        Make.mechanism(x, 1, 100, 5, 200);
        for (int step = 0; step < 24; step++) {
            Check.due("99000 at least, above 5000", x.stuck(0, step), CamWright.FAR);
            Check.due("101000 at most, below 195000", x.stuck(1, step), CamWright.NEAR);
        }
        Check.due("far, first", x.firstStuck(0), 0);
        Check.due("near, first", x.firstStuck(1), 0);
        for (int branch = UP; branch <= DOWN; branch++) {
            int one = branch;
            Check.due("always far", x.far(0, branch), CamWright.NONE);
            Check.due("always near", x.far(1, branch), CamWright.NONE);
            Check.noState("always far, area", () -> x.area(0, one));
            Check.noState("always near, area", () -> x.area(1, one));
        }
        Check.due("none is the best", x.best(), CamWright.NONE);
    }

    private static int crankX(int step) {
        int[] direction = DIRECTIONS[step % 6];
        switch (step / 6) {
            case 0: return direction[0];
            case 1: return -direction[1];
            case 2: return -direction[0];
            default: return direction[1];
        }
    }

    private static int crankY(int step) {
        return crankX((step + 18) % 24);
    }

    private static void texts() {
        for (int length = 1; length <= 200; length++) {
            int crank = 201 - length;
            int coupler = length % 100 + 1;
            int rocker = 200 - length / 3;
            CamWright x = Make.withMechanism(length, crank, coupler, rocker);
            String due = "g" + length + "c" + crank + "p" + coupler + "r" + rocker + "  ";
            for (int place = 0; place < due.length(); place++) {
                Check.due(due + place, x.sign(0, place), due.charAt(place));
            }
        }
    }

    /** The joint less B is (25000, 16583) at the step 12 on UP, and (25000, -16583) on DOWN. */
    private static void points() {
        CamWright x = null;
        for (int i = 0; i <= 3000; i++) {
            int u = i - 1000;
            int v = i * 7 % 2001 - 1000;
            if (i % ROUNDS == 0) {
                x = Make.withMechanism(40, 10, 30, 30);
            }
            String what = "the point " + u + ", " + v;
            x.trace(0, u, v);
            Check.due(what + ", x", x.at(0, 12, UP, 2), -10000 + (25000 * u - 16583 * v) / 1000);
            Check.due(what + ", y", x.at(0, 12, UP, 3), (16583 * u + 25000 * v) / 1000);
            Check.due(what + ", y down", x.at(0, 12, DOWN, 3), (25000 * v - 16583 * u) / 1000);
        }
    }

    private static void aims() {
        CamWright x = null;
        for (int i = 0; i <= 1000; i++) {
            int atX = i - 500;
            int atY = i * 7 % 1001 - 500;
            if (i % ROUNDS == 0) {
                x = Make.withMechanism(60, 20, 50, 40);
            }
            int aim = i % 3;
            x.aim(aim, atX, atY);
            String what = "aim " + aim + " at " + atX + ", " + atY;
            Check.due(what, x.far(0, UP), 40000 + leastApart(1000 * atX, 1000 * atY));
            x.aim(aim, 0, 0);
        }
    }

    /** By how much the end of a crank of 20 comes near to a place. */
    private static int leastApart(int x, int y) {
        int least = Integer.MAX_VALUE;
        for (int step = 0; step < 24; step++) {
            int dx = Math.abs(20 * crankX(step) - x);
            int dy = Math.abs(20 * crankY(step) - y);
            least = Math.min(least, dx + dy);
        }
        return least;
    }

    private static void mechanismsByNumber() {
        for (int number = 0; number < 8; number++) {
            CamWright x = eight();
            CamWright alone = Make.withMechanism(60, 11 + number, 50, 40 + number);
            alone.trace(0, 100 * number, 350 - 100 * number);
            for (int step = 0; step < 24; step++) {
                int branch = step % 2;
                String what = "mechanism " + number + " at " + step;
                for (int i = 0; i < 4; i++) {
                    int due = alone.at(0, step, branch, i);
                    Check.due(what + ", " + i, x.at(number, step, branch, i), due);
                }
                int due = alone.goes(0, step, branch);
                Check.due(what + ", goes", x.goes(number, step, branch), due);
            }
            for (int branch = UP; branch <= DOWN; branch++) {
                Check.due("area", x.area(number, branch), alone.area(0, branch));
                Check.due("far", x.far(number, branch), alone.far(0, branch));
            }
        }
    }

    private static CamWright eight() {
        CamWright x = new CamWright();
        for (int number = 0; number < 8; number++) {
            Make.link(x, "ground", 60);
            Make.link(x, "crank", 11 + number);
            Make.link(x, "coupler", 50);
            Make.link(x, "rocker", 40 + number);
            x.build();
        }
        for (int number = 0; number < 8; number++) {
            x.trace(number, 100 * number, 350 - 100 * number);
        }
        return x;
    }
}
