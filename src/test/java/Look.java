import java.util.ArrayList;
import java.util.Arrays;

/**
 * All that can be told of an object, in fewer calls than it may be used for: what its questions
 * answer, and then what calls answer that make more of it.
 */
final class Look {
    private static final long INDEX = Long.MIN_VALUE;
    private static final long ARGUMENT = INDEX + 1;
    private static final long STATE = INDEX + 2;
    private static final long OTHER = INDEX + 3;

    private final ArrayList<Long> answers = new ArrayList<>();

    private Look() {
    }

    /** Both objects answer alike, in all that is asked and made; no call may be made behind it. */
    static void alike(String what, CamWright x, CamWright y) {
        long[] seen = at(x);
        long[] due = at(y);
        Check.due(what + ": all answers are as they were", Arrays.equals(seen, due), true);
    }

    private static long[] at(CamWright x) {
        Look look = new Look();
        look.cams(x);
        look.links(x);
        look.mechanisms(x);
        look.more(x);
        long[] all = new long[look.answers.size()];
        for (int i = 0; i < all.length; i++) {
            all[i] = look.answers.get(i);
        }
        return all;
    }

    private void ask(Check.Call call) {
        answers.add(answerOf(call));
    }

    /** What a call answers, or a number for its exception that no call answers. */
    static long answerOf(Check.Call call) {
        try {
            return call.answer();
        } catch (IndexOutOfBoundsException e) {
            return INDEX;
        } catch (IllegalArgumentException e) {
            return ARGUMENT;
        } catch (IllegalStateException e) {
            return STATE;
        } catch (RuntimeException e) {
            return OTHER;
        }
    }

    private void cams(CamWright x) {
        for (int i = 0; i < 7; i++) {
            int cam = i;
            for (int j = 0; j < 6; j++) {
                int what = j;
                ask(() -> x.ofCam(cam, what));
            }
            for (int degree : new int[] {5, 15, 25, 359}) {
                ask(() -> x.lift(cam, degree));
            }
        }
    }

    private void links(CamWright x) {
        for (int i = 0; i < 13; i++) {
            int link = i;
            for (int j = 0; j < 3; j++) {
                int what = j;
                ask(() -> x.ofLink(link, what));
            }
        }
    }

    private void mechanisms(CamWright x) {
        for (int i = 0; i < 9; i++) {
            int one = i;
            ask(() -> x.firstStuck(one));
            for (int j = 0; j < 4; j++) {
                int what = j;
                ask(() -> x.at(one, 3, CamWright.UP, what));
                ask(() -> x.at(one, 20, CamWright.DOWN, what));
            }
            ask(() -> x.far(one, CamWright.UP));
            ask(() -> x.far(one, CamWright.DOWN));
            ask(() -> x.sign(one, 5));
        }
        ask(() -> x.best());
    }

    /** The name that is spelled shows in its letters, and in the link that has it. */
    private void more(CamWright x) {
        ask(() -> x.link(77));
        ask(() -> x.letter(24));
        ask(() -> x.link(78));
        for (int i = 0; i < 13; i++) {
            int link = i;
            ask(() -> x.ofLink(link, 0));
            ask(() -> x.ofLink(link, 2));
        }
        ask(() -> x.build());
        ask(() -> x.piece(0, CamWright.LINE, 3, 33));
        ask(() -> x.cam(66));
        ask(() -> x.best());
    }
}
