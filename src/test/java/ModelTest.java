/** Long runs of calls, drawn from a row of numbers that is always the same, against the Model. */
public final class ModelTest {
    private static final int RUNS = 160;
    private static final int CALLS = 512;
    /** The letters of the four names, the links that have them, and the mechanism. */
    private static final int CALLS_OF_MECHANISM = 24 + 4 + 1;
    private static final String[] NAMES = {"ground", "crank", "coupler", "rocker"};

    private long seed;
    private CamWright x;
    private Model model;

    public static void main(String[] args) {
        ModelTest test = new ModelTest();
        for (int run = 0; run < RUNS; run++) {
            test.run(run);
        }
        Check.finish("ModelTest");
    }

    /** Of four runs one is of all calls, one of cams, and two are of mechanisms and aims. */
    private void run(int number) {
        seed = 1000003L * number + 17;
        x = new CamWright();
        model = new Model();
        int kind = number % 4;
        int made = 0;
        while (made < CALLS) {
            if (kind < 2) {
                step(draw(kind == 0 ? 21 : 6));
                made++;
            } else if (made == 0 || draw(40) == 0 && made + CALLS_OF_MECHANISM <= CALLS) {
                mechanism(kind == 2 ? 200 : 4 + draw(8));
                made += CALLS_OF_MECHANISM;
            } else {
                step(10 + draw(11));
                made++;
            }
        }
    }

    /** 0 to less than bound. */
    private int draw(int bound) {
        seed = seed * 6364136223846793005L + 1442695040888963407L;
        return (int) ((seed >>> 33) % bound);
    }

    /** Mostly in the range, now and then a little or far outside. */
    private int argument(int least, int most) {
        switch (draw(40)) {
            case 0: return least - 1;
            case 1: return most + 1;
            case 2: return draw(2) == 0 ? Integer.MIN_VALUE : Integer.MAX_VALUE;
            case 3: return least;
            case 4: return most;
            default: return least + draw(most - least + 1);
        }
    }

    /** A small greatest length brings sums and differences that are alike. */
    private void mechanism(int most) {
        for (String name : NAMES) {
            for (int i = 0; i < name.length(); i++) {
                letter(name.charAt(i) - 'a');
            }
            link(1 + draw(most));
        }
        same("build", model.build(), () -> x.build());
    }

    private void letter(int letter) {
        same("letter", model.letter(letter), () -> x.letter(letter));
    }

    private void link(int length) {
        same("link", model.link(length), () -> x.link(length));
    }

    private void step(int which) {
        if (which < 6) {
            cams(which);
        } else if (which < 9) {
            links(which);
        } else if (which < 18) {
            mechanisms(which);
        } else {
            aims(which);
        }
    }

    private void cams(int which) {
        int cam = argument(0, 5);
        int degree = argument(0, 359);
        int bound = draw(2) == 0 ? argument(0, 10000) : argument(0, 200);
        int law = argument(0, 3);
        int degrees = draw(3) == 0 ? argument(1, 360) : argument(1, 40);
        int lift = argument(0, 100);
        int what = argument(0, 5);
        int base = argument(10, 200);
        switch (which) {
            case 0: same("cam", model.cam(base), () -> x.cam(base)); break;
            case 1: same("piece", model.piece(cam, law, degrees, lift),
                () -> x.piece(cam, law, degrees, lift)); break;
            case 2: same("lift", model.lift(cam, degree), () -> x.lift(cam, degree)); break;
            case 3: same("steep", model.steep(cam, degree), () -> x.steep(cam, degree)); break;
            case 4: same("jams", model.jams(cam, bound), () -> x.jams(cam, bound)); break;
            default: same("ofCam", model.ofCam(cam, what), () -> x.ofCam(cam, what));
        }
    }

    private void links(int which) {
        int link = argument(0, 11);
        int what = argument(0, 2);
        switch (which) {
            case 6: letter(draw(3) == 0 ? argument(0, 25) : draw(2)); break;
            case 7: link(argument(1, 200)); break;
            default: same("ofLink", model.ofLink(link, what), () -> x.ofLink(link, what));
        }
    }

    private void mechanisms(int which) {
        int m = draw(2) == 0 ? argument(0, 7) : draw(3);
        int step = argument(0, 23);
        int branch = argument(0, 1);
        int what = argument(0, 3);
        int u = argument(-1000, 2000);
        int v = argument(-1000, 1000);
        int place = argument(0, 18);
        switch (which) {
            case 9: same("build", model.build(), () -> x.build()); break;
            case 10: same("trace", model.trace(m, u, v), () -> Make.traced(x, m, u, v)); break;
            case 11: same("stuck", model.stuck(m, step), () -> x.stuck(m, step)); break;
            case 12: same("firstStuck", model.firstStuck(m), () -> x.firstStuck(m)); break;
            case 13: same("should", model.should(m), () -> Make.should(x, m)); break;
            case 14: same("at", model.at(m, step, branch, what),
                () -> x.at(m, step, branch, what)); break;
            case 15: same("goes", model.goes(m, step, branch),
                () -> x.goes(m, step, branch)); break;
            case 16: same("area", model.area(m, branch), () -> x.area(m, branch)); break;
            default: same("sign", model.sign(m, place), () -> x.sign(m, place));
        }
    }

    private void aims(int which) {
        int m = draw(2) == 0 ? argument(0, 7) : draw(3);
        int branch = argument(0, 1);
        int aim = argument(0, 2);
        int toX = argument(-500, 500);
        int toY = argument(-500, 500);
        switch (which) {
            case 18: same("aim", model.aim(aim, toX, toY),
                () -> Make.aimed(x, aim, toX, toY)); break;
            case 19: same("far", model.far(m, branch), () -> x.far(m, branch)); break;
            default: same("best", model.best(), () -> x.best());
        }
    }

    private void same(String call, String due, Check.Call made) {
        switch (due) {
            case "I": Check.noIndex(call, made); break;
            case "A": Check.noArgument(call, made); break;
            case "S": Check.noState(call, made); break;
            default: Check.due(call, made.answer(), due.isEmpty() ? 0 : Long.parseLong(due));
        }
    }
}
