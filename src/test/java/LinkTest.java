/** Promises 8 to 10: letters and links. */
public final class LinkTest {
    public static void main(String[] args) {
        letter();
        link();
        linkOfOldName();
        namesUnlikeInOneLetter();
        namesOfOneLetter();
        namesAlikeAsNumbers();
        linksAreTwelve();
        roles();
        ofLinkRefuses();
        Check.finish("LinkTest");
    }

    private static void letter() {
        CamWright x = new CamWright();
        Check.noArgument("letter(-1)", () -> x.letter(-1));
        Check.noArgument("letter(26)", () -> x.letter(26));
        for (int i = 1; i <= 8; i++) {
            Check.due("letter " + i, x.letter(i == 8 ? 25 : 0), i);
        }
        Check.noState("a ninth letter", () -> x.letter(0));
        Check.noArgument("a ninth letter, wrong", () -> x.letter(26));
        x.link(1);
        Check.due("letters of the name", x.ofLink(0, 2), 8);
        Check.due("the next name begins anew", x.letter(3), 1);
    }

    private static void link() {
        CamWright x = new CamWright();
        Check.noState("no letters", () -> x.link(1));
        Check.noArgument("no letters, length 0", () -> x.link(0));
        Make.spell(x, "ab");
        Check.noArgument("length 0", () -> x.link(0));
        Check.noArgument("length 201", () -> x.link(201));
        Check.due("the name is kept", x.letter(2), 3);
        Check.due("least length", x.link(1), 0);
        Check.due("name abc", x.ofLink(0, 2), 3);
        Check.noState("the name is gone", () -> x.link(1));
        Check.due("greatest length", Make.link(x, "b", 200), 1);
        Check.due("length of abc", x.ofLink(0, 0), 1);
        Check.due("length of b", x.ofLink(1, 0), 200);
    }

    private static void linkOfOldName() {
        CamWright x = new CamWright();
        Make.link(x, "ab", 5);
        Make.link(x, "a", 6);
        Make.link(x, "ba", 7);
        Check.due("ab again", Make.link(x, "ab", 8), 0);
        Check.due("ba again", Make.link(x, "ba", 9), 2);
        Check.due("a again", Make.link(x, "a", 10), 1);
        Check.due("length of ab", x.ofLink(0, 0), 8);
        Check.due("length of a", x.ofLink(1, 0), 10);
        Check.due("length of ba", x.ofLink(2, 0), 9);
        Check.noIndex("no fourth link", () -> x.ofLink(3, 0));
        Check.noState("no letters behind it", () -> x.link(3));
    }

    private static void namesUnlikeInOneLetter() {
        CamWright x = new CamWright();
        String[] names = {"abcd", "abcc", "abbd", "aacd", "bbcd", "abc", "bcd", "dcba", "bacd"};
        for (int i = 0; i < names.length; i++) {
            Check.due("link " + names[i], Make.link(x, names[i], 1 + i), i);
        }
        for (int i = 0; i < names.length; i++) {
            Check.due("length of " + names[i], x.ofLink(i, 0), 1 + i);
            Check.due("again " + names[i], Make.link(x, names[i], 101 + i), i);
        }
    }

    /** The letter 0 counts like all others: a and aa are two names. */
    private static void namesOfOneLetter() {
        CamWright x = new CamWright();
        String[] names = {"a", "aa", "aaa", "aaaa", "aaaaa", "aaaaaa", "aaaaaaa", "aaaaaaaa",
            "b", "ab", "ba", "baa"};
        unlike(x, names);
    }

    /** Each pair is one number of 32 bits, if letters are digits (by 26, 26, 27 and 31). */
    private static void namesAlikeAsNumbers() {
        CamWright x = new CamWright();
        String[] names = {"iqzviibx", "xqhmddtp", "bgkvqyaw", "nofbcmdi", "vynzsexw", "pugcqafq",
            "xdfoihuv", "kofydnth"};
        unlike(x, names);
    }

    private static void unlike(CamWright x, String[] names) {
        for (int i = 0; i < names.length; i++) {
            Check.due("link " + names[i], Make.link(x, names[i], 1 + i), i);
        }
        for (int i = 0; i < names.length; i++) {
            Check.due("length of " + names[i], x.ofLink(i, 0), 1 + i);
            Check.due("letters of " + names[i], x.ofLink(i, 2), names[i].length());
            Check.due("again " + names[i], Make.link(x, names[i], 101 + i), i);
        }
    }

    private static void linksAreTwelve() {
        CamWright x = new CamWright();
        for (int i = 0; i < 12; i++) {
            x.letter(i);
            Check.due("link " + i, x.link(i + 1), i);
        }
        x.letter(12);
        Check.noState("a thirteenth link", () -> x.link(1));
        Check.noArgument("a thirteenth link of length 201", () -> x.link(201));
        Check.noIndex("ofLink(12, 0)", () -> x.ofLink(12, 0));
        Check.due("the name is kept", x.letter(12), 2);
        Check.noState("still a new name", () -> x.link(1));
        CamWright y = new CamWright();
        for (int i = 0; i < 12; i++) {
            y.letter(i);
            y.link(i + 1);
        }
        y.letter(11);
        Check.due("another length with twelve", y.link(99), 11);
        Check.due("it has it", y.ofLink(11, 0), 99);
        Check.due("the one ahead keeps its own", y.ofLink(10, 0), 11);
    }

    private static void roles() {
        CamWright x = new CamWright();
        String[] names = {"rocker", "coupler", "crank", "ground", "grounds", "groun", "rockes",
            "cranks", "cran", "couplers", "g", "dnuorg"};
        int[] due = {3, 2, 1, 0, -1, -1, -1, -1, -1, -1, -1, -1};
        for (int i = 0; i < names.length; i++) {
            int number = Make.link(x, names[i], 40 + i);
            Check.due("length of " + names[i], x.ofLink(number, 0), 40 + i);
            Check.due("role of " + names[i], x.ofLink(number, 1), due[i]);
            Check.due("letters of " + names[i], x.ofLink(number, 2), names[i].length());
        }
    }

    private static void ofLinkRefuses() {
        CamWright x = new CamWright();
        Check.noIndex("ofLink(0, 0)", () -> x.ofLink(0, 0));
        Make.link(x, "a", 1);
        Check.noIndex("ofLink(-1, 0)", () -> x.ofLink(-1, 0));
        Check.noIndex("ofLink(1, 3)", () -> x.ofLink(1, 3));
        Check.noArgument("ofLink(0, -1)", () -> x.ofLink(0, -1));
        Check.noArgument("ofLink(0, 3)", () -> x.ofLink(0, 3));
    }
}
