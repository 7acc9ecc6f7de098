/** Nothing there yet, and as many as there may be. */
public final class CountTest {
    private static final int UP = CamWright.UP;
    private static final int DOWN = CamWright.DOWN;
    private static final String[] ROLES = {"ground", "crank", "coupler", "rocker"};

    public static void main(String[] args) {
        noCams();
        noPieces();
        noLinks();
        noMechanisms();
        noAimsToldYet();
        sixCams();
        twelvePieces();
        twelvePiecesOfAllDegrees();
        allDegrees();
        eightLetters();
        twelveLinks();
        twelveLinksKeepTheName();
        rolesThatAreNoLinks();
        rolesAmongTwelve();
        eightMechanisms();
        bestOfEight();
        allCalls();
        Check.finish("CountTest");
    }

    private static void noCams() {
        CamWright x = new CamWright();
        Check.noIndex("no cams: piece", () -> x.piece(0, CamWright.LINE, 1, 0));
        Check.noIndex("no cams: lift", () -> x.lift(0, 0));
        Check.noIndex("no cams: steep", () -> x.steep(0, 0));
        Check.noIndex("no cams: jams", () -> x.jams(0, 0));
        Check.noIndex("no cams: ofCam", () -> x.ofCam(0, 0));
        Check.due("the first cam", x.cam(10), 0);
        Check.due("it is there", x.ofCam(0, 5), 10);
        Check.noIndex("no second cam", () -> x.ofCam(1, 5));
    }

    private static void noPieces() {
        CamWright x = new CamWright();
        x.cam(10);
        for (int degree = 0; degree < 360; degree += 359) {
            Check.due("no pieces: lift", x.lift(0, degree), 0);
            Check.due("no pieces: steep", x.steep(0, degree), 0);
        }
        Check.due("no pieces: jams", x.jams(0, 0), CamWright.NONE);
        Check.due("no pieces: pieces", x.ofCam(0, 0), 0);
        Check.due("no pieces: degrees", x.ofCam(0, 1), 0);
        Check.due("no pieces: not whole", x.ofCam(0, 2), 0);
        Check.due("no pieces: greatest lift", x.ofCam(0, 3), 0);
        Check.due("no pieces: its first degree", x.ofCam(0, 4), 0);
        Check.due("the first piece begins with 0", x.piece(0, CamWright.LINE, 2, 50), 2);
        Check.due("at its beginning", x.lift(0, 0), 0);
        Check.due("half behind it", x.lift(0, 1), 25);
    }

    private static void noLinks() {
        CamWright x = new CamWright();
        Check.noIndex("no links: ofLink", () -> x.ofLink(0, 0));
        Check.noState("no links: build", () -> x.build());
        Check.noState("no letters: link", () -> x.link(1));
        Check.due("the first letter", x.letter(5), 1);
        Check.noIndex("no link by the letter alone", () -> x.ofLink(0, 0));
        Check.due("the first link", x.link(1), 0);
        Check.due("of one letter", x.ofLink(0, 2), 1);
        Check.noState("no letters behind it", () -> x.link(1));
        Check.noIndex("no second link", () -> x.ofLink(1, 0));
    }

    private static void noMechanisms() {
        CamWright x = new CamWright();
        Make.lengths(x, 60, 20, 50, 40);
        Check.noIndex("none: trace", () -> Make.traced(x, 0, 0, 0));
        Check.noIndex("none: stuck", () -> x.stuck(0, 0));
        Check.noIndex("none: firstStuck", () -> x.firstStuck(0));
        Check.noIndex("none: should", () -> Make.should(x, 0));
        Check.noIndex("none: at", () -> x.at(0, 0, UP, 0));
        Check.noIndex("none: goes", () -> x.goes(0, 0, UP));
        Check.noIndex("none: area", () -> x.area(0, UP));
        Check.noIndex("none: sign", () -> x.sign(0, 0));
        Check.noIndex("none: far", () -> x.far(0, UP));
        Check.due("none: best", x.best(), CamWright.NONE);
        Check.due("the first mechanism", x.build(), 0);
        Check.due("it goes round", x.firstStuck(0), CamWright.NONE);
        Check.due("it is the best", x.best(), 0);
        Check.noIndex("no second one", () -> x.firstStuck(1));
    }

    private static void noAimsToldYet() {
        CamWright x = Make.withMechanism(60, 20, 50, 40);
        Check.due("three aims at (0, 0)", x.far(0, UP), 60000);
        Check.due("the point is B: x", x.at(0, 6, UP, 2), 0);
        Check.due("the point is B: y", x.at(0, 6, UP, 3), 20000);
        x.trace(0, 1000, 1000);
        Make.mechanism(x, 60, 30, 50, 40);
        Check.due("the point of a new one is its B: x", x.at(1, 6, DOWN, 2), 0);
        Check.due("the point of a new one is its B: y", x.at(1, 6, DOWN, 3), 30000);
    }

    private static void sixCams() {
        CamWright x = new CamWright();
        for (int i = 0; i < 6; i++) {
            Check.due("cam " + i, x.cam(10 + i), i);
            int behind = i + 1;
            Check.noIndex("no cam behind it", () -> x.ofCam(behind, 0));
            x.piece(i, CamWright.LINE, 10, 10 * i);
        }
        Check.noState("a seventh cam", () -> x.cam(10));
        Check.noIndex("it is not there", () -> x.ofCam(6, 5));
        for (int i = 0; i < 6; i++) {
            Check.due("base of cam " + i, x.ofCam(i, 5), 10 + i);
            Check.due("lift of cam " + i, x.lift(i, 10), 10 * i);
        }
        Check.noState("a seventh cam, again", () -> x.cam(200));
    }

    private static void twelvePieces() {
        CamWright x = new CamWright();
        x.cam(10);
        for (int i = 1; i <= 12; i++) {
            Check.due("piece " + i, x.piece(0, CamWright.LINE, 3, 5 * i), 3 * i);
            Check.due("pieces then", x.ofCam(0, 0), i);
        }
        Check.noState("a thirteenth piece", () -> x.piece(0, CamWright.LINE, 1, 99));
        Check.noState("a thirteenth, of all that is left", () -> x.piece(0, 0, 324, 0));
        Check.due("twelve pieces", x.ofCam(0, 0), 12);
        Check.due("36 degrees", x.ofCam(0, 1), 36);
        Check.due("in the twelfth", x.lift(0, 35), 55 + 3);
        Check.due("behind the twelfth", x.lift(0, 36), 60);
        Check.due("behind all", x.lift(0, 359), 60);
    }

    private static void twelvePiecesOfAllDegrees() {
        CamWright x = new CamWright();
        x.cam(10);
        for (int i = 1; i <= 12; i++) {
            Check.due("piece " + i, x.piece(0, CamWright.LINE, 30, i % 2 * 90), 30 * i);
            Check.due("whole with " + i, x.ofCam(0, 2), i == 12 ? 1 : 0);
        }
        Check.noState("a thirteenth piece", () -> x.piece(0, CamWright.FLAT, 1, 0));
        Check.due("3 a degree, up", x.lift(0, 329), 87);
        Check.due("3 a degree, down", x.lift(0, 359), 3);
    }

    private static void allDegrees() {
        CamWright x = new CamWright();
        x.cam(10);
        Check.due("359 degrees", x.piece(0, CamWright.LINE, 359, 0), 359);
        Check.due("not whole", x.ofCam(0, 2), 0);
        Check.noState("361 degrees", () -> x.piece(0, CamWright.LINE, 2, 0));
        Check.noState("719 degrees", () -> x.piece(0, CamWright.LINE, 360, 0));
        Check.due("360 degrees", x.piece(0, CamWright.FLAT, 1, 0), 360);
        Check.due("whole", x.ofCam(0, 2), 1);
        Check.noState("361 degrees, of 1", () -> x.piece(0, CamWright.FLAT, 1, 0));
        Check.due("two pieces", x.ofCam(0, 0), 2);
        CamWright y = new CamWright();
        y.cam(10);
        Check.due("359 degrees to 1", y.piece(0, CamWright.LINE, 359, 0), 359);
        Check.due("360 degrees to 1", y.piece(0, CamWright.FLAT, 1, 1), 360);
        Check.due("all its lifts are 0", y.ofCam(0, 3), 0);
        Check.due("it leads to 1, so it is not whole", y.ofCam(0, 2), 0);
    }

    private static void eightLetters() {
        CamWright x = new CamWright();
        for (int i = 1; i <= 8; i++) {
            Check.due("letter " + i, x.letter(i), i);
        }
        Check.noState("a ninth letter", () -> x.letter(0));
        Check.noState("a ninth letter, again", () -> x.letter(25));
        Check.due("the link of eight", x.link(1), 0);
        Check.due("its letters", x.ofLink(0, 2), 8);
        Check.due("unlike in the last letter", Make.link(x, "bcdefghj", 2), 1);
        Check.due("unlike in the first letter", Make.link(x, "acdefghi", 3), 2);
        Check.due("without the last letter", Make.link(x, "bcdefgh", 4), 3);
        Check.due("without the first letter", Make.link(x, "cdefghi", 5), 4);
        Check.due("alike", Make.link(x, "bcdefghi", 6), 0);
        Check.due("its length", x.ofLink(0, 0), 6);
    }

    private static CamWright withLinks(int many) {
        CamWright x = new CamWright();
        for (int i = 0; i < many; i++) {
            x.letter(i);
            x.link(100 + i);
        }
        return x;
    }

    private static void twelveLinks() {
        CamWright x = withLinks(11);
        Check.due("a twelfth link", Make.link(x, "zz", 111), 11);
        Make.spell(x, "z");
        Check.noState("a thirteenth link", () -> x.link(112));
        Check.noIndex("it is not there", () -> x.ofLink(12, 0));
        for (int i = 0; i < 12; i++) {
            Check.due("length of " + i, x.ofLink(i, 0), 100 + i);
        }
        Check.due("z is z still, so that zz is spelled", x.letter(25), 2);
        Check.due("the twelfth one, again", x.link(1), 11);
        for (int i = 0; i < 11; i++) {
            x.letter(i);
            Check.due("another length of " + i, x.link(50 + i), i);
            Check.due("it has it", x.ofLink(i, 0), 50 + i);
        }
        Check.due("the twelfth has kept its own", x.ofLink(11, 0), 1);
    }

    private static void twelveLinksKeepTheName() {
        CamWright x = withLinks(12);
        x.letter(20);
        Check.noState("u is a thirteenth", () -> x.link(1));
        Check.noArgument("u, length 0", () -> x.link(0));
        for (int i = 2; i <= 8; i++) {
            Check.due("letters of u and more", x.letter(0), i);
        }
        Check.noState("a thirteenth of eight letters", () -> x.link(1));
        Check.noState("a ninth letter", () -> x.letter(0));
    }

    /** Of all ways to leave roles out, only that which leaves out none can be built. */
    private static void rolesThatAreNoLinks() {
        for (int there = 0; there < 16; there++) {
            CamWright x = new CamWright();
            Make.link(x, "rod", 40);
            for (int role = 0; role < 4; role++) {
                if ((there >> role & 1) == 1) {
                    Make.link(x, ROLES[role], 40);
                }
            }
            if (there == 15) {
                Check.due("all roles", x.build(), 0);
            } else {
                Check.noState("roles " + there, () -> x.build());
                Check.noIndex("nothing is built", () -> x.firstStuck(0));
            }
        }
    }

    private static void rolesAmongTwelve() {
        CamWright x = withLinks(8);
        for (int role = 3; role >= 0; role--) {
            Check.noState("roles from " + (role + 1) + " on", () -> x.build());
            Check.due("role " + role, Make.link(x, ROLES[role], 60 + role), 11 - role);
            Check.due("it has the role", x.ofLink(11 - role, 1), role);
        }
        Check.due("built of the last four", x.build(), 0);
        String due = "g60c61p62r63 ";
        for (int place = 0; place < due.length(); place++) {
            Check.due("sign " + place, x.sign(0, place), due.charAt(place));
        }
    }

    private static void eightMechanisms() {
        CamWright x = new CamWright();
        for (int i = 0; i < 8; i++) {
            Check.due("mechanism " + i, Make.mechanism(x, 60, 11 + i, 50, 40), i);
        }
        Make.link(x, "crank", 99);
        Check.noState("a ninth mechanism", () -> x.build());
        Check.noIndex("it is not there", () -> x.sign(8, 0));
        for (int i = 0; i < 8; i++) {
            Check.due("crank of " + i + ", tens", x.sign(i, 4), '1');
            Check.due("crank of " + i + ", ones", x.sign(i, 5), '1' + i);
            Check.due("x of its B", x.at(i, 0, UP, 2), 11000 + 1000 * i);
        }
        Check.noState("a ninth mechanism, again", () -> x.build());
    }

    private static void bestOfEight() {
        CamWright x = new CamWright();
        for (int i = 0; i < 8; i++) {
            Make.mechanism(x, 60, 20, 50, 40);
        }
        Check.due("all alike, the lowest, up", x.best(), 0);
        // the points of all others are B, that of the last is its joint
        x.trace(7, 1000, 0);
        Make.allAims(x, x.at(7, 0, UP, 0) / 1000, x.at(7, 0, UP, 1) / 1000);
        Check.due("the last, up", x.best(), 14);
        Make.allAims(x, x.at(7, 0, DOWN, 0) / 1000, x.at(7, 0, DOWN, 1) / 1000);
        Check.due("the last, down", x.best(), 15);
    }

    /** An object is used for 512 calls; the last one of them is answered like all others. */
    private static void allCalls() {
        CamWright x = new CamWright();
        for (int i = 0; i < 56; i++) {
            Make.spell(x, "abcdefgh");
            Check.due("link " + i, x.link(1 + i), 0);
        }
        for (int i = 0; i < 6; i++) {
            Check.due("cam " + i, x.cam(10), i);
        }
        Check.noState("call 511", () -> x.cam(10));
        Check.due("call 512", x.ofLink(0, 0), 56);
    }
}
