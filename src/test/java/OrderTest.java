/** Where several exceptions apply to a call, the one that is named first in its throws clause. */
public final class OrderTest {
    private static final int UP = CamWright.UP;

    public static void main(String[] args) {
        cam();
        pieceWithoutCam();
        pieceOfFullCam();
        pieceOfTwelve();
        lookAtCam();
        letter();
        linkWithoutName();
        linkBehindTwelve();
        ofLink();
        build();
        trace();
        stuck();
        at();
        goes();
        area();
        sign();
        aim();
        far();
        Check.finish("OrderTest");
    }

    private static void cam() {
        CamWright x = new CamWright();
        for (int i = 0; i < 6; i++) {
            x.cam(10);
        }
        Check.noArgumentOutside("a seventh cam, base", 10, 200, base -> x.cam(base));
        Check.noState("a seventh cam", () -> x.cam(10));
    }

    private static void pieceWithoutCam() {
        CamWright x = new CamWright();
        x.cam(10);
        Check.noIndexOutside("no cam, wrong law", 0, 0, cam -> x.piece(cam, 4, 1, 0));
        Check.noIndexOutside("no cam, wrong degrees", 0, 0, cam -> x.piece(cam, 0, 361, 0));
        Check.noIndexOutside("no cam, wrong lift", 0, 0, cam -> x.piece(cam, 0, 1, 101));
        x.piece(0, CamWright.FLAT, 360, 0);
        Check.noIndexOutside("no cam, the others full", 0, 0, cam -> x.piece(cam, 0, 1, 0));
        Check.noIndexOutside("no cam and all else", 0, 0, cam -> x.piece(cam, -1, 0, -1));
    }

    private static void pieceOfFullCam() {
        CamWright x = Make.withPiece(10, CamWright.LINE, 360, 0);
        wrongArgumentsComeFirst("360 degrees", x);
        CamWright y = Make.withPiece(10, CamWright.LINE, 350, 0);
        Check.noArgument("350 and 361 degrees", () -> y.piece(0, 0, 361, 0));
        Check.noArgument("350 and 11 degrees, law", () -> y.piece(0, 4, 11, 0));
        Check.noArgument("350 and 11 degrees, lift", () -> y.piece(0, 0, 11, 101));
        Check.noState("350 and 11 degrees", () -> y.piece(0, 0, 11, 0));
    }

    private static void pieceOfTwelve() {
        CamWright x = new CamWright();
        x.cam(10);
        for (int i = 0; i < 12; i++) {
            x.piece(0, CamWright.LINE, 1, 0);
        }
        wrongArgumentsComeFirst("twelve pieces", x);
    }

    private static void wrongArgumentsComeFirst(String what, CamWright x) {
        Check.noArgumentOutside(what + ", law", 0, 3, law -> x.piece(0, law, 1, 0));
        Check.noArgumentOutside(what + ", degrees", 1, 360, n -> x.piece(0, 0, n, 0));
        Check.noArgumentOutside(what + ", lift", 0, 100, lift -> x.piece(0, 0, 1, lift));
        Check.noState(what, () -> x.piece(0, 0, 1, 0));
    }

    private static void lookAtCam() {
        CamWright x = new CamWright();
        x.cam(10);
        for (int wrong : new int[] {-1, 360, 10001}) {
            Check.noIndexOutside("lift, cam", 0, 0, cam -> x.lift(cam, wrong));
            Check.noIndexOutside("steep, cam", 0, 0, cam -> x.steep(cam, wrong));
            Check.noIndexOutside("jams, cam", 0, 0, cam -> x.jams(cam, wrong));
            Check.noIndexOutside("ofCam, cam", 0, 0, cam -> x.ofCam(cam, wrong));
        }
    }

    private static void letter() {
        CamWright x = new CamWright();
        Make.spell(x, "abcdefgh");
        Check.noArgumentOutside("a ninth letter", 0, 25, letter -> x.letter(letter));
        Check.noState("a ninth letter", () -> x.letter(0));
    }

    private static void linkWithoutName() {
        CamWright x = new CamWright();
        Check.noArgumentOutside("no name, length", 1, 200, length -> x.link(length));
        Check.noState("no name", () -> x.link(1));
    }

    private static void linkBehindTwelve() {
        CamWright x = new CamWright();
        for (int i = 0; i < 12; i++) {
            x.letter(i);
            x.link(1);
        }
        Check.noArgumentOutside("twelve, no name, length", 1, 200, length -> x.link(length));
        Check.noState("twelve, no name", () -> x.link(1));
        x.letter(12);
        Check.noArgumentOutside("a thirteenth, length", 1, 200, length -> x.link(length));
        Check.noState("a thirteenth", () -> x.link(1));
    }

    private static void ofLink() {
        CamWright x = new CamWright();
        Make.link(x, "a", 1);
        Check.noIndexOutside("ofLink, what -1", 0, 0, link -> x.ofLink(link, -1));
        Check.noIndexOutside("ofLink, what 3", 0, 0, link -> x.ofLink(link, 3));
    }

    /** Both reasons have one exception, and never apply at once: a link that is made stays. */
    private static void build() {
        CamWright x = new CamWright();
        Check.noState("no links", () -> x.build());
        Make.lengths(x, 60, 20, 50, 40);
        for (int i = 0; i < 8; i++) {
            x.build();
        }
        Check.noState("a ninth mechanism", () -> x.build());
    }

    private static void trace() {
        CamWright x = Make.withMechanism(60, 20, 50, 40);
        Check.noIndexOutside("trace, u -1001", 0, 0, one -> Make.traced(x, one, -1001, 0));
        Check.noIndexOutside("trace, u 2001", 0, 0, one -> Make.traced(x, one, 2001, 0));
        Check.noIndexOutside("trace, v -1001", 0, 0, one -> Make.traced(x, one, 0, -1001));
        Check.noIndexOutside("trace, v 1001", 0, 0, one -> Make.traced(x, one, 0, 1001));
        Check.noArgument("trace, u and v", () -> Make.traced(x, 0, 2001, -1001));
    }

    private static void stuck() {
        CamWright x = Make.withMechanism(60, 20, 50, 40);
        Check.noIndexOutside("neither mechanism nor step", 0, 0, one -> x.stuck(one, 24));
        Check.noIndexOutside("no mechanism, any step", 0, 0, one -> x.stuck(one, 0));
    }

    /** A mechanism that is stuck at all steps. */
    private static CamWright stuckEverywhere() {
        return Make.withMechanism(100, 1, 2, 3);
    }

    private static void at() {
        CamWright x = stuckEverywhere();
        Check.noIndexOutside("at, mechanism, all else", 0, 0, one -> x.at(one, 24, 2, 4));
        Check.noIndexOutside("at, mechanism, branch", 0, 0, one -> x.at(one, 0, -1, 0));
        Check.noIndexOutside("at, mechanism, what", 0, 0, one -> x.at(one, 0, 0, -1));
        Check.noIndexOutside("at, mechanism", 0, 0, one -> x.at(one, 0, 0, 0));
        Check.noIndexOutside("at, step, branch", 0, 23, step -> x.at(0, step, 2, 0));
        Check.noIndexOutside("at, step, what", 0, 23, step -> x.at(0, step, 0, 4));
        Check.noIndexOutside("at, step", 0, 23, step -> x.at(0, step, 0, 0));
        for (int step = 0; step < 24; step++) {
            int one = step;
            Check.noArgumentOutside("at, stuck, branch", 0, 1, branch -> x.at(0, one, branch, 0));
            Check.noArgumentOutside("at, stuck, what", 0, 3, what -> x.at(0, one, 0, what));
            Check.noState("at, stuck", () -> x.at(0, one, 1, 3));
        }
    }

    private static void goes() {
        CamWright x = stuckEverywhere();
        Check.noIndexOutside("goes, mechanism, all else", 0, 0, one -> x.goes(one, 24, 2));
        Check.noIndexOutside("goes, mechanism, branch", 0, 0, one -> x.goes(one, 0, -1));
        Check.noIndexOutside("goes, mechanism", 0, 0, one -> x.goes(one, 0, 0));
        Check.noIndexOutside("goes, step, branch", 0, 23, step -> x.goes(0, step, 2));
        Check.noIndexOutside("goes, step", 0, 23, step -> x.goes(0, step, 0));
        for (int step = 0; step < 24; step++) {
            int one = step;
            Check.noArgumentOutside("goes, stuck, branch", 0, 1, branch -> x.goes(0, one, branch));
            Check.noState("goes, stuck", () -> x.goes(0, one, UP));
        }
    }

    private static void area() {
        CamWright x = stuckEverywhere();
        Check.noIndexOutside("area, mechanism, branch", 0, 0, one -> x.area(one, 2));
        Check.noIndexOutside("area, mechanism", 0, 0, one -> x.area(one, 0));
        Check.noArgumentOutside("area, stuck, branch", 0, 1, branch -> x.area(0, branch));
        Check.noState("area, stuck", () -> x.area(0, UP));
    }

    private static void sign() {
        CamWright x = Make.withMechanism(60, 20, 50, 40);
        Check.noIndexOutside("neither mechanism nor place", 0, 0, one -> x.sign(one, -1));
        Check.noIndexOutside("no mechanism, far behind", 0, 0, one -> x.sign(one, 100));
    }

    private static void aim() {
        CamWright x = new CamWright();
        Check.noIndexOutside("aim, x -501", 0, 2, aim -> Make.aimed(x, aim, -501, 0));
        Check.noIndexOutside("aim, x 501", 0, 2, aim -> Make.aimed(x, aim, 501, 0));
        Check.noIndexOutside("aim, y -501", 0, 2, aim -> Make.aimed(x, aim, 0, -501));
        Check.noIndexOutside("aim, y 501", 0, 2, aim -> Make.aimed(x, aim, 0, 501));
        Check.noArgument("aim, x and y", () -> Make.aimed(x, 0, -501, 501));
    }

    private static void far() {
        CamWright x = stuckEverywhere();
        Check.noIndexOutside("far, mechanism, branch -1", 0, 0, one -> x.far(one, -1));
        Check.noIndexOutside("far, mechanism, branch 2", 0, 0, one -> x.far(one, 2));
        Check.noArgumentOutside("far, stuck, branch", 0, 1, branch -> x.far(0, branch));
        Check.due("far, stuck", x.far(0, UP), CamWright.NONE);
    }
}
