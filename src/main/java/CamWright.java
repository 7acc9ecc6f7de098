import java.util.ArrayList;

/**
 * Cams and linkages: what is drawn can be turned through, or it is told where not.
 *
 * <p>All numbers are whole; Java's division of whole numbers rounds towards 0, as it is wanted.
 */
public final class CamWright {
    /** There is none. */
    public static final int NONE = -1;
    /** Laws of pieces. */
    public static final int FLAT = 0, LINE = 1, PARABOLA = 2, CUBIC = 3;
    /** Branches. */
    public static final int UP = 0, DOWN = 1;
    /** By what a mechanism is stuck. */
    public static final int FAR = 1, NEAR = 2;

    private static final int MOST_CAMS = 6;
    private static final int MOST_PIECES = 12;
    private static final int MOST_LINKS = 12;
    private static final int MOST_LETTERS = 8;
    private static final int MOST_MECHANISMS = 8;
    private static final int AIMS = 3;
    private static final int ROUND = 360;
    private static final int STEPS = 24;
    private static final int BRANCHES = 2;
    private static final int FREE = 0;

    private static final int GROUND = 0, CRANK = 1, COUPLER = 2, ROCKER = 3;

    private static final int[] CRANK_X = {
        1000, 966, 866, 707, 500, 259, 0, -259, -500, -707, -866, -966,
        -1000, -966, -866, -707, -500, -259, 0, 259, 500, 707, 866, 966};
    private static final int[] CRANK_Y = {
        0, 259, 500, 707, 866, 966, 1000, 966, 866, 707, 500, 259,
        0, -259, -500, -707, -866, -966, -1000, -966, -866, -707, -500, -259};

    private final ArrayList<Cam> cams = new ArrayList<>();
    private final ArrayList<Link> links = new ArrayList<>();
    private final ArrayList<Mechanism> mechanisms = new ArrayList<>();
    private final StringBuilder spelled = new StringBuilder();
    private final int[] aimX = new int[AIMS];
    private final int[] aimY = new int[AIMS];

    /** An object without cams, links and mechanisms. */
    public CamWright() {
    }

    // ---- cams

    /** Begins a cam and returns its number. */
    public int cam(int base) throws IllegalArgumentException, IllegalStateException {
        requireRange(base, 10, 200);
        if (cams.size() >= MOST_CAMS) {
            throw new IllegalStateException("there are as many cams as there may be");
        }
        cams.add(new Cam(base));
        return cams.size() - 1;
    }

    /** Adds a piece to a cam, behind the others, and returns how many degrees the cam has then. */
    public int piece(int cam, int law, int degrees, int lift)
            throws IndexOutOfBoundsException, IllegalArgumentException, IllegalStateException {
        Cam one = camNumbered(cam);
        requireRange(law, FLAT, CUBIC);
        requireRange(degrees, 1, ROUND);
        requireRange(lift, 0, 100);
        if (!one.hasRoomFor(degrees)) {
            throw new IllegalStateException("the cam has no room for the piece");
        }
        one.addPiece(law, degrees, lift);
        return one.degreesUsed();
    }

    /** Returns the lift of a cam at a degree. */
    public int lift(int cam, int degree)
            throws IndexOutOfBoundsException, IllegalArgumentException {
        Cam one = camNumbered(cam);
        requireRange(degree, 0, ROUND - 1);
        return one.liftAt(degree);
    }

    /** Returns the steepness of a cam at a degree. */
    public int steep(int cam, int degree)
            throws IndexOutOfBoundsException, IllegalArgumentException {
        Cam one = camNumbered(cam);
        requireRange(degree, 0, ROUND - 1);
        return one.steepnessAt(degree);
    }

    /** Returns the first degree at which a cam is steeper than a bound, or NONE. */
    public int jams(int cam, int bound)
            throws IndexOutOfBoundsException, IllegalArgumentException {
        Cam one = camNumbered(cam);
        requireRange(bound, 0, 10000);
        return one.firstSteeperThan(bound);
    }

    /** Tells something of a cam. */
    public int ofCam(int cam, int what)
            throws IndexOutOfBoundsException, IllegalArgumentException {
        Cam one = camNumbered(cam);
        requireRange(what, 0, 5);
        switch (what) {
            case 0: return one.pieceCount();
            case 1: return one.degreesUsed();
            case 2: return one.isWhole() ? 1 : 0;
            case 3: return one.liftAt(one.degreeOfGreatestLift());
            case 4: return one.degreeOfGreatestLift();
            default: return one.base;
        }
    }

    // ---- links

    /** Spells a letter behind the others and returns how many letters the name has then. */
    public int letter(int letter) throws IllegalArgumentException, IllegalStateException {
        requireRange(letter, 0, 25);
        if (spelled.length() >= MOST_LETTERS) {
            throw new IllegalStateException("the name has as many letters as it may have");
        }
        spelled.append((char) ('a' + letter));
        return spelled.length();
    }

    /** Makes a link by the name that is spelled, or gives it another length; returns its number. */
    public int link(int length) throws IllegalArgumentException, IllegalStateException {
        requireRange(length, 1, 200);
        if (spelled.length() == 0) {
            throw new IllegalStateException("no name is spelled");
        }
        String name = spelled.toString();
        int number = numberOfLink(name);
        if (number == NONE && links.size() >= MOST_LINKS) {
            throw new IllegalStateException("there are as many links as there may be");
        }
        spelled.setLength(0);
        if (number == NONE) {
            links.add(new Link(name, length));
            return links.size() - 1;
        }
        linkNumbered(number).length = length;
        return number;
    }

    /** Tells something of a link. */
    public int ofLink(int link, int what)
            throws IndexOutOfBoundsException, IllegalArgumentException {
        Link one = linkNumbered(link);
        requireRange(what, 0, 2);
        switch (what) {
            case 0: return one.length;
            case 1: return one.role;
            default: return one.name.length();
        }
    }

    // ---- mechanisms

    /** Makes a mechanism of the four links that have roles and returns its number. */
    public int build() throws IllegalStateException {
        int ground = lengthOfRole(GROUND);
        int crank = lengthOfRole(CRANK);
        int coupler = lengthOfRole(COUPLER);
        int rocker = lengthOfRole(ROCKER);
        if (ground == NONE || crank == NONE || coupler == NONE || rocker == NONE) {
            throw new IllegalStateException("a role is no link's");
        }
        if (mechanisms.size() >= MOST_MECHANISMS) {
            throw new IllegalStateException("there are as many mechanisms as there may be");
        }
        mechanisms.add(new Mechanism(ground, crank, coupler, rocker));
        return mechanisms.size() - 1;
    }

    /** Tells the point of the coupler of a mechanism. */
    public void trace(int mechanism, int u, int v)
            throws IndexOutOfBoundsException, IllegalArgumentException {
        Mechanism one = mechanismNumbered(mechanism);
        requireRange(u, -1000, 2000);
        requireRange(v, -1000, 1000);
        one.placePoints(u, v);
    }

    /** Returns by what a mechanism is stuck at a step: 0, FAR or NEAR. */
    public int stuck(int mechanism, int step) throws IndexOutOfBoundsException {
        Mechanism one = mechanismNumbered(mechanism);
        requireStep(step);
        return one.stuckBy[step];
    }

    /** Returns the first step at which a mechanism is stuck, or NONE if it goes round. */
    public int firstStuck(int mechanism) throws IndexOutOfBoundsException {
        return mechanismNumbered(mechanism).firstStuckStep();
    }

    /** Returns whether a mechanism should go round by the rule of its lengths. */
    public boolean should(int mechanism) throws IndexOutOfBoundsException {
        return mechanismNumbered(mechanism).shouldGoRound();
    }

    /** Tells something of a mechanism at a step, on a branch. */
    public int at(int mechanism, int step, int branch, int what)
            throws IndexOutOfBoundsException, IllegalArgumentException, IllegalStateException {
        Mechanism one = mechanismNumbered(mechanism);
        requireStep(step);
        requireRange(branch, UP, DOWN);
        requireRange(what, 0, 3);
        requireFree(one, step);
        int place = placeOf(step, branch);
        switch (what) {
            case 0: return (int) one.jointX[place];
            case 1: return (int) one.jointY[place];
            case 2: return (int) one.pointX[place];
            default: return (int) one.pointY[place];
        }
    }

    /** Returns how far the point of a mechanism goes from a step to the next one. */
    public int goes(int mechanism, int step, int branch)
            throws IndexOutOfBoundsException, IllegalArgumentException, IllegalStateException {
        Mechanism one = mechanismNumbered(mechanism);
        requireStep(step);
        requireRange(branch, UP, DOWN);
        int next = stepBehind(step);
        requireFree(one, step);
        requireFree(one, next);
        int place = placeOf(next, branch);
        return (int) one.apart(step, branch, one.pointX[place], one.pointY[place]);
    }

    /** Returns the area of the loop of a mechanism, on a branch. */
    public int area(int mechanism, int branch)
            throws IndexOutOfBoundsException, IllegalArgumentException, IllegalStateException {
        Mechanism one = mechanismNumbered(mechanism);
        requireRange(branch, UP, DOWN);
        if (one.firstStuckStep() != NONE) {
            throw new IllegalStateException("the mechanism does not go round");
        }
        return (int) one.loopArea(branch);
    }

    /** Returns a sign of the text of a mechanism; a blank behind its end. */
    public char sign(int mechanism, int place) throws IndexOutOfBoundsException {
        Mechanism one = mechanismNumbered(mechanism);
        if (place < 0) {
            throw new IndexOutOfBoundsException("there is no such place");
        }
        return place < one.text.length() ? one.text.charAt(place) : ' ';
    }

    // ---- aims

    /** Tells where an aim is. */
    public void aim(int aim, int x, int y)
            throws IndexOutOfBoundsException, IllegalArgumentException {
        if (aim < 0 || aim >= AIMS) {
            throw new IndexOutOfBoundsException("there is no such aim");
        }
        requireRange(x, -500, 500);
        requireRange(y, -500, 500);
        aimX[aim] = x;
        aimY[aim] = y;
    }

    /** Returns how far a mechanism on a branch is from the aims; NONE if it is always stuck. */
    public int far(int mechanism, int branch)
            throws IndexOutOfBoundsException, IllegalArgumentException {
        Mechanism one = mechanismNumbered(mechanism);
        requireRange(branch, UP, DOWN);
        return (int) farFromAims(one, branch);
    }

    /** Returns 2 times the best mechanism, and its branch, together; NONE without one. */
    public int best() {
        int best = NONE;
        long least = NONE;
        for (int number = 0; number < mechanisms.size(); number++) {
            for (int branch = UP; branch <= DOWN; branch++) {
                long far = farFromAims(mechanisms.get(number), branch);
                if (far != NONE && (best == NONE || far < least)) {
                    least = far;
                    best = 2 * number + branch;
                }
            }
        }
        return best;
    }

    // ---- what the face leans on

    private static void requireRange(int value, int least, int most) {
        if (value < least || value > most) {
            throw new IllegalArgumentException("an argument is out of its range");
        }
    }

    private static void requireStep(int step) {
        if (step < 0 || step >= STEPS) {
            throw new IndexOutOfBoundsException("there is no such step");
        }
    }

    private static void requireFree(Mechanism mechanism, int step) {
        if (mechanism.stuckBy[step] != FREE) {
            throw new IllegalStateException("the mechanism is stuck there");
        }
    }

    private Cam camNumbered(int number) {
        if (number < 0 || number >= cams.size()) {
            throw new IndexOutOfBoundsException("there is no such cam");
        }
        return cams.get(number);
    }

    private Link linkNumbered(int number) {
        if (number < 0 || number >= links.size()) {
            throw new IndexOutOfBoundsException("there is no such link");
        }
        return links.get(number);
    }

    private Mechanism mechanismNumbered(int number) {
        if (number < 0 || number >= mechanisms.size()) {
            throw new IndexOutOfBoundsException("there is no such mechanism");
        }
        return mechanisms.get(number);
    }

    private int numberOfLink(String name) {
        for (int number = 0; number < links.size(); number++) {
            if (links.get(number).name.equals(name)) {
                return number;
            }
        }
        return NONE;
    }

    private int lengthOfRole(int role) {
        for (int number = 0; number < links.size(); number++) {
            if (links.get(number).role == role) {
                return links.get(number).length;
            }
        }
        return NONE;
    }

    private long farFromAims(Mechanism mechanism, int branch) {
        long sum = 0;
        for (int aim = 0; aim < AIMS; aim++) {
            long least = mechanism.leastApart(branch, 1000L * aimX[aim], 1000L * aimY[aim]);
            if (least == NONE) {
                return NONE;
            }
            sum += least;
        }
        return sum;
    }

    private static int stepBehind(int step) {
        return (step + 1) % STEPS;
    }

    /** Where the joint and the point of a step and a branch stand in a mechanism's rows. */
    private static int placeOf(int step, int branch) {
        return branch * STEPS + step;
    }

    private static long squared(long number) {
        return number * number;
    }

    /** No divisor of the document is ever 0; the test keeps the machine from throwing all the same. */
    private static long divided(long number, long divisor) {
        return divisor == 0 ? 0 : number / divisor;
    }

    /** The greatest whole number that times itself is not more, built up from its highest bit. */
    private static long root(long number) {
        long root = 0;
        for (long bit = 1L << 30; bit > 0; bit >>= 1) {
            if (squared(root + bit) <= number) {
                root += bit;
            }
        }
        return root;
    }

    /**
     * A base with pieces around it. Of the pieces nothing is asked but the lifts that they make, so
     * these are worked out once, when a piece is added; behind all pieces stands the last lift.
     */
    private static final class Cam {
        final int base;
        private final int[] lifts = new int[ROUND];
        private int pieces = 0;
        private int degrees = 0;
        private int lastLift = 0;

        Cam(int base) {
            this.base = base;
        }

        int pieceCount() {
            return pieces;
        }

        int degreesUsed() {
            return degrees;
        }

        boolean hasRoomFor(int more) {
            return pieces < MOST_PIECES && degrees + more <= ROUND;
        }

        void addPiece(int law, int length, int to) {
            for (int degree = degrees; degree < ROUND; degree++) {
                int k = degree - degrees;
                lifts[degree] = k < length ? liftBetween(lastLift, to, law, k, length) : to;
            }
            pieces++;
            degrees += length;
            lastLift = to;
        }

        private static int liftBetween(int from, int to, int law, long k, long n) {
            switch (law) {
                case LINE: return partWay(from, to, k, n);
                case PARABOLA: return partWay(from, to, parabola(k, n), n * n);
                case CUBIC: return partWay(from, to, k * k * (3 * n - 2 * k), n * n * n);
                default: return from;
            }
        }

        private static int partWay(int from, int to, long done, long whole) {
            return from + (int) divided((to - from) * done, whole);
        }

        private static long parabola(long k, long n) {
            return 2 * k <= n ? 2 * k * k : n * n - 2 * squared(n - k);
        }

        boolean isWhole() {
            return degrees == ROUND && lastLift == 0;
        }

        int liftAt(int degree) {
            return lifts[degree];
        }

        int steepnessAt(int degree) {
            int here = lifts[degree];
            int next = lifts[(degree + 1) % ROUND];
            return (int) divided(1000L * Math.abs(next - here), base + here);
        }

        int firstSteeperThan(int bound) {
            for (int degree = 0; degree < ROUND; degree++) {
                if (steepnessAt(degree) > bound) {
                    return degree;
                }
            }
            return NONE;
        }

        int degreeOfGreatestLift() {
            int best = 0;
            for (int degree = 1; degree < ROUND; degree++) {
                if (lifts[degree] > lifts[best]) {
                    best = degree;
                }
            }
            return best;
        }
    }

    /** A length with a name, which may give it a role. */
    private static final class Link {
        final String name;
        final int role;
        int length;

        Link(String name, int length) {
            this.name = name;
            this.role = roleOf(name);
            this.length = length;
        }

        private static int roleOf(String name) {
            if (name.equals("ground")) {
                return GROUND;
            }
            if (name.equals("crank")) {
                return CRANK;
            }
            if (name.equals("coupler")) {
                return COUPLER;
            }
            return name.equals("rocker") ? ROCKER : NONE;
        }
    }

    /**
     * Four lengths, with all that follows from them worked out once: a mechanism's lengths never
     * change, and only trace moves its points. The rows hold thousandths. What they hold for steps
     * at which the mechanism is stuck means nothing and is never asked for.
     */
    private static final class Mechanism {
        final String text;
        final int[] stuckBy = new int[STEPS];
        final long[] jointX = new long[BRANCHES * STEPS];
        final long[] jointY = new long[BRANCHES * STEPS];
        final long[] pointX = new long[BRANCHES * STEPS];
        final long[] pointY = new long[BRANCHES * STEPS];
        private final int ground;
        private final int crank;
        private final int coupler;
        private final int rocker;

        Mechanism(int ground, int crank, int coupler, int rocker) {
            this.ground = ground;
            this.crank = crank;
            this.coupler = coupler;
            this.rocker = rocker;
            text = textOf(ground, crank, coupler, rocker);
            for (int step = 0; step < STEPS; step++) {
                placeJoints(step);
            }
            placePoints(0, 0);
        }

        private static String textOf(int ground, int crank, int coupler, int rocker) {
            StringBuilder text = new StringBuilder();
            text.append('g').append(ground);
            text.append('c').append(crank);
            text.append('p').append(coupler);
            text.append('r').append(rocker);
            return text.toString();
        }

        private long crankEndX(int step) {
            return (long) crank * CRANK_X[step];
        }

        private long crankEndY(int step) {
            return (long) crank * CRANK_Y[step];
        }

        /** The letters e, f, q, d, w and h are those of the document. */
        private void placeJoints(int step) {
            long e = 1000L * ground - crankEndX(step);
            long f = -crankEndY(step);
            long q = squared(e) + squared(f);
            long d = root(q);
            stuckBy[step] = stuckAcross(d);
            if (stuckBy[step] != FREE) {
                return;
            }
            long w = divided(squared(1000L * coupler) - squared(1000L * rocker) + q, 2 * d);
            long h = root(Math.max(0, squared(1000L * coupler) - squared(w)));
            for (int branch = UP; branch <= DOWN; branch++) {
                long side = branch == DOWN ? -h : h;
                int place = placeOf(step, branch);
                jointX[place] = crankEndX(step) + divided(w * e - side * f, d);
                jointY[place] = crankEndY(step) + divided(w * f + side * e, d);
            }
        }

        private int stuckAcross(long d) {
            if (d > 1000L * (coupler + rocker)) {
                return FAR;
            }
            return d == 0 || d < 1000L * Math.abs(coupler - rocker) ? NEAR : FREE;
        }

        void placePoints(int u, int v) {
            for (int branch = UP; branch <= DOWN; branch++) {
                for (int step = 0; step < STEPS; step++) {
                    int place = placeOf(step, branch);
                    long x = jointX[place] - crankEndX(step);
                    long y = jointY[place] - crankEndY(step);
                    pointX[place] = crankEndX(step) + (u * x - v * y) / 1000;
                    pointY[place] = crankEndY(step) + (u * y + v * x) / 1000;
                }
            }
        }

        int firstStuckStep() {
            for (int step = 0; step < STEPS; step++) {
                if (stuckBy[step] != FREE) {
                    return step;
                }
            }
            return NONE;
        }

        boolean shouldGoRound() {
            int shortest = Math.min(Math.min(ground, crank), Math.min(coupler, rocker));
            int longest = Math.max(Math.max(ground, crank), Math.max(coupler, rocker));
            int all = ground + crank + coupler + rocker;
            boolean sumsFit = shortest + longest <= all - shortest - longest;
            return sumsFit && (ground == shortest || crank == shortest);
        }

        /** By how much the point and a place are apart in x and in y, together. */
        long apart(int step, int branch, long x, long y) {
            int place = placeOf(step, branch);
            return Math.abs(pointX[place] - x) + Math.abs(pointY[place] - y);
        }

        /** The least of these over the steps at which it is not stuck; NONE without such a step. */
        long leastApart(int branch, long x, long y) {
            long least = NONE;
            for (int step = 0; step < STEPS; step++) {
                if (stuckBy[step] == FREE) {
                    long here = apart(step, branch, x, y);
                    least = least == NONE ? here : Math.min(least, here);
                }
            }
            return least;
        }

        long loopArea(int branch) {
            long sum = 0;
            for (int step = 0; step < STEPS; step++) {
                int here = placeOf(step, branch);
                int next = placeOf(stepBehind(step), branch);
                sum += pointX[here] * pointY[next] - pointX[next] * pointY[here];
            }
            return Math.abs(sum) / 2000000;
        }
    }
}
