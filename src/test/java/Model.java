import java.math.BigInteger;
import java.util.ArrayList;
import java.util.List;

/**
 * The document told a second time, slowly: nothing is kept but what was told, all is worked out
 * anew for each question, with numbers that have no bound. Each call answers a text:
 * the number, or "I", "A" or "S" for the three exceptions in the order of the throws clauses.
 */
final class Model {
    private static final int[][] DIRECTIONS = {
        {1000, 0}, {966, 259}, {866, 500}, {707, 707}, {500, 866}, {259, 966}};
    private static final String[] ROLES = {"ground", "crank", "coupler", "rocker"};

    /** Each a base, and then law, degrees and lift of each piece. */
    private final List<List<Integer>> cams = new ArrayList<>();
    private final List<String> names = new ArrayList<>();
    private final List<Integer> lengths = new ArrayList<>();
    /** Each G, C, P, R, u, v. */
    private final List<int[]> mechanisms = new ArrayList<>();
    private final int[][] aims = new int[3][2];
    private String name = "";

    private static boolean in(int value, int least, int most) {
        return least <= value && value <= most;
    }

    String cam(int base) {
        if (!in(base, 10, 200)) return "A";
        if (cams.size() == 6) return "S";
        cams.add(new ArrayList<>(List.of(base)));
        return "" + (cams.size() - 1);
    }

    private static int pieces(List<Integer> cam) {
        return cam.size() / 3;
    }

    private static int degrees(List<Integer> cam) {
        int sum = 0;
        for (int i = 0; i < pieces(cam); i++) sum += cam.get(3 * i + 2);
        return sum;
    }

    private static int last(List<Integer> cam) {
        return pieces(cam) == 0 ? 0 : cam.get(cam.size() - 1);
    }

    String piece(int cam, int law, int degrees, int lift) {
        if (!in(cam, 0, cams.size() - 1)) return "I";
        if (!in(law, 0, 3) || !in(degrees, 1, 360) || !in(lift, 0, 100)) return "A";
        List<Integer> c = cams.get(cam);
        if (pieces(c) == 12 || degrees(c) + degrees > 360) return "S";
        c.addAll(List.of(law, degrees, lift));
        return "" + degrees(c);
    }

    private static int liftOf(List<Integer> cam, int degree) {
        int begin = 0;
        int k = degree;
        for (int i = 0; i < pieces(cam); i++) {
            int n = cam.get(3 * i + 2);
            int to = cam.get(3 * i + 3);
            if (k < n) return begin + part(cam.get(3 * i + 1), k, n, to - begin);
            k -= n;
            begin = to;
        }
        return begin;
    }

    private static int part(int law, int k, int n, int difference) {
        BigInteger times = big(0);
        BigInteger by = big(1);
        if (law == 1) {
            times = big(k);
            by = big(n);
        } else if (law == 2) {
            int back = n - k;
            times = 2 * k <= n ? big(2 * k * k) : big(n * n - 2 * back * back);
            by = big(n * n);
        } else if (law == 3) {
            times = big(k).multiply(big(k)).multiply(big(3 * n - 2 * k));
            by = big(n).pow(3);
        }
        return big(difference).multiply(times).divide(by).intValueExact();
    }

    private static int steepOf(List<Integer> cam, int degree) {
        int here = liftOf(cam, degree);
        int next = liftOf(cam, degree == 359 ? 0 : degree + 1);
        return 1000 * Math.abs(next - here) / (cam.get(0) + here);
    }

    String lift(int cam, int degree) {
        if (!in(cam, 0, cams.size() - 1)) return "I";
        return in(degree, 0, 359) ? "" + liftOf(cams.get(cam), degree) : "A";
    }

    String steep(int cam, int degree) {
        if (!in(cam, 0, cams.size() - 1)) return "I";
        return in(degree, 0, 359) ? "" + steepOf(cams.get(cam), degree) : "A";
    }

    String jams(int cam, int bound) {
        if (!in(cam, 0, cams.size() - 1)) return "I";
        if (!in(bound, 0, 10000)) return "A";
        int degree = 0;
        while (degree < 360 && steepOf(cams.get(cam), degree) <= bound) degree++;
        return degree == 360 ? "-1" : "" + degree;
    }

    String ofCam(int cam, int what) {
        if (!in(cam, 0, cams.size() - 1)) return "I";
        if (!in(what, 0, 5)) return "A";
        List<Integer> c = cams.get(cam);
        int greatest = 0;
        for (int degree = 0; degree < 360; degree++) {
            greatest = Math.max(greatest, liftOf(c, degree));
        }
        int first = 0;
        while (liftOf(c, first) != greatest) first++;
        int whole = degrees(c) == 360 && last(c) == 0 ? 1 : 0;
        int[] answers = {pieces(c), degrees(c), whole, greatest, first, c.get(0)};
        return "" + answers[what];
    }

    String letter(int letter) {
        if (!in(letter, 0, 25)) return "A";
        if (name.length() == 8) return "S";
        name += "abcdefghijklmnopqrstuvwxyz".charAt(letter);
        return "" + name.length();
    }

    String link(int length) {
        if (!in(length, 1, 200)) return "A";
        int number = names.indexOf(name);
        if (name.isEmpty() || number < 0 && names.size() == 12) return "S";
        if (number < 0) {
            number = names.size();
            names.add(name);
            lengths.add(0);
        }
        lengths.set(number, length);
        name = "";
        return "" + number;
    }

    String ofLink(int link, int what) {
        if (!in(link, 0, names.size() - 1)) return "I";
        if (!in(what, 0, 2)) return "A";
        int role = List.of(ROLES).indexOf(names.get(link));
        int[] answers = {lengths.get(link), role, names.get(link).length()};
        return "" + answers[what];
    }

    String build() {
        int[] m = new int[6];
        for (int role = 0; role < 4; role++) {
            int link = names.indexOf(ROLES[role]);
            if (link < 0) return "S";
            m[role] = lengths.get(link);
        }
        if (mechanisms.size() == 8) return "S";
        mechanisms.add(m);
        return "" + (mechanisms.size() - 1);
    }

    String trace(int mechanism, int u, int v) {
        if (!in(mechanism, 0, mechanisms.size() - 1)) return "I";
        if (!in(u, -1000, 2000) || !in(v, -1000, 1000)) return "A";
        mechanisms.get(mechanism)[4] = u;
        mechanisms.get(mechanism)[5] = v;
        return "";
    }

    private static BigInteger big(long number) {
        return BigInteger.valueOf(number);
    }

    private static BigInteger[] crankEnd(int[] m, int step) {
        int a = DIRECTIONS[step % 6][0];
        int b = DIRECTIONS[step % 6][1];
        for (int turn = 0; turn < step / 6; turn++) {
            int was = a;
            a = -b;
            b = was;
        }
        return new BigInteger[] {big(m[1] * a), big(m[1] * b)};
    }

    /** The joint's x and y and the point's; null where it is stuck. */
    private static BigInteger[] places(int[] m, int step, int branch) {
        if (stuckOf(m, step) != 0) return null;
        BigInteger[] b = crankEnd(m, step);
        BigInteger e = big(1000 * m[0]).subtract(b[0]);
        BigInteger f = big(0).subtract(b[1]);
        BigInteger q = e.pow(2).add(f.pow(2));
        BigInteger d = q.sqrt();
        BigInteger pp = big(1000 * m[2]).pow(2);
        BigInteger rr = big(1000 * m[3]).pow(2);
        BigInteger w = pp.subtract(rr).add(q).divide(d.add(d));
        BigInteger h = pp.subtract(w.pow(2)).max(big(0)).sqrt();
        if (branch == 1) h = h.negate();
        BigInteger x = w.multiply(e).subtract(h.multiply(f)).divide(d);
        BigInteger y = w.multiply(f).add(h.multiply(e)).divide(d);
        BigInteger u = big(m[4]);
        BigInteger v = big(m[5]);
        BigInteger px = u.multiply(x).subtract(v.multiply(y)).divide(big(1000));
        BigInteger py = u.multiply(y).add(v.multiply(x)).divide(big(1000));
        return new BigInteger[] {b[0].add(x), b[1].add(y), b[0].add(px), b[1].add(py)};
    }

    private static int stuckOf(int[] m, int step) {
        BigInteger[] b = crankEnd(m, step);
        BigInteger d = big(1000 * m[0]).subtract(b[0]).pow(2).add(b[1].pow(2)).sqrt();
        if (d.compareTo(big(1000 * (m[2] + m[3]))) > 0) return 1;
        return d.signum() == 0 || d.compareTo(big(1000 * Math.abs(m[2] - m[3]))) < 0 ? 2 : 0;
    }

    private static int firstStuckOf(int[] m) {
        for (int step = 0; step < 24; step++) {
            if (stuckOf(m, step) != 0) return step;
        }
        return -1;
    }

    String stuck(int mechanism, int step) {
        if (!in(mechanism, 0, mechanisms.size() - 1) || !in(step, 0, 23)) return "I";
        return "" + stuckOf(mechanisms.get(mechanism), step);
    }

    String firstStuck(int mechanism) {
        if (!in(mechanism, 0, mechanisms.size() - 1)) return "I";
        return "" + firstStuckOf(mechanisms.get(mechanism));
    }

    String should(int mechanism) {
        if (!in(mechanism, 0, mechanisms.size() - 1)) return "I";
        int[] m = mechanisms.get(mechanism);
        int[] sorted = {m[0], m[1], m[2], m[3]};
        java.util.Arrays.sort(sorted);
        boolean fits = sorted[0] + sorted[3] <= sorted[1] + sorted[2];
        return fits && Math.min(m[0], m[1]) == sorted[0] ? "1" : "0";
    }

    String at(int mechanism, int step, int branch, int what) {
        if (!in(mechanism, 0, mechanisms.size() - 1) || !in(step, 0, 23)) return "I";
        if (!in(branch, 0, 1) || !in(what, 0, 3)) return "A";
        BigInteger[] places = places(mechanisms.get(mechanism), step, branch);
        return places == null ? "S" : "" + places[what];
    }

    String goes(int mechanism, int step, int branch) {
        if (!in(mechanism, 0, mechanisms.size() - 1) || !in(step, 0, 23)) return "I";
        if (!in(branch, 0, 1)) return "A";
        BigInteger[] from = places(mechanisms.get(mechanism), step, branch);
        BigInteger[] to = places(mechanisms.get(mechanism), (step + 1) % 24, branch);
        if (from == null || to == null) return "S";
        return "" + from[2].subtract(to[2]).abs().add(from[3].subtract(to[3]).abs());
    }

    String area(int mechanism, int branch) {
        if (!in(mechanism, 0, mechanisms.size() - 1)) return "I";
        if (!in(branch, 0, 1)) return "A";
        int[] m = mechanisms.get(mechanism);
        if (firstStuckOf(m) >= 0) return "S";
        BigInteger sum = big(0);
        for (int step = 0; step < 24; step++) {
            BigInteger[] from = places(m, step, branch);
            BigInteger[] to = places(m, (step + 1) % 24, branch);
            sum = sum.add(from[2].multiply(to[3])).subtract(to[2].multiply(from[3]));
        }
        return "" + sum.abs().divide(big(2000000));
    }

    String sign(int mechanism, int place) {
        if (!in(mechanism, 0, mechanisms.size() - 1) || place < 0) return "I";
        int[] m = mechanisms.get(mechanism);
        String text = "g" + m[0] + "c" + m[1] + "p" + m[2] + "r" + m[3];
        return "" + (int) (place < text.length() ? text.charAt(place) : ' ');
    }

    String aim(int aim, int x, int y) {
        if (!in(aim, 0, 2)) return "I";
        if (!in(x, -500, 500) || !in(y, -500, 500)) return "A";
        aims[aim][0] = x;
        aims[aim][1] = y;
        return "";
    }

    private BigInteger farOf(int[] m, int branch) {
        BigInteger sum = big(0);
        for (int[] aim : aims) {
            BigInteger least = null;
            for (int step = 0; step < 24; step++) {
                BigInteger[] p = places(m, step, branch);
                if (p == null) continue;
                BigInteger dx = p[2].subtract(big(1000 * aim[0])).abs();
                BigInteger here = dx.add(p[3].subtract(big(1000 * aim[1])).abs());
                least = least == null ? here : least.min(here);
            }
            if (least == null) return null;
            sum = sum.add(least);
        }
        return sum;
    }

    String far(int mechanism, int branch) {
        if (!in(mechanism, 0, mechanisms.size() - 1)) return "I";
        if (!in(branch, 0, 1)) return "A";
        BigInteger far = farOf(mechanisms.get(mechanism), branch);
        return far == null ? "-1" : "" + far;
    }

    String best() {
        BigInteger least = null;
        String best = "-1";
        for (int number = 2 * mechanisms.size() - 1; number >= 0; number--) {
            BigInteger far = farOf(mechanisms.get(number / 2), number % 2);
            if (far != null && (least == null || far.compareTo(least) <= 0)) {
                least = far;
                best = "" + number;
            }
        }
        return best;
    }
}
