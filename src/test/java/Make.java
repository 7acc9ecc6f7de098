/** Objects in the states that tests begin with. */
final class Make {
    private Make() {
    }

    static void spell(CamWright x, String name) {
        for (int i = 0; i < name.length(); i++) {
            x.letter(name.charAt(i) - 'a');
        }
    }

    static int link(CamWright x, String name, int length) {
        spell(x, name);
        return x.link(length);
    }

    static void lengths(CamWright x, int ground, int crank, int coupler, int rocker) {
        link(x, "ground", ground);
        link(x, "crank", crank);
        link(x, "coupler", coupler);
        link(x, "rocker", rocker);
    }

    static int mechanism(CamWright x, int ground, int crank, int coupler, int rocker) {
        lengths(x, ground, crank, coupler, rocker);
        return x.build();
    }

    static CamWright withMechanism(int ground, int crank, int coupler, int rocker) {
        CamWright x = new CamWright();
        mechanism(x, ground, crank, coupler, rocker);
        return x;
    }

    static CamWright withPiece(int base, int law, int degrees, int lift) {
        CamWright x = new CamWright();
        x.cam(base);
        x.piece(0, law, degrees, lift);
        return x;
    }

    /** trace, aim and should as calls with a number for their answer. */
    static long traced(CamWright x, int mechanism, int u, int v) {
        x.trace(mechanism, u, v);
        return 0;
    }

    static long aimed(CamWright x, int aim, int atX, int atY) {
        x.aim(aim, atX, atY);
        return 0;
    }

    static long should(CamWright x, int mechanism) {
        return x.should(mechanism) ? 1 : 0;
    }

    static void allAims(CamWright x, int atX, int atY) {
        for (int aim = 0; aim < 3; aim++) {
            x.aim(aim, atX, atY);
        }
    }
}
