import java.util.ArrayList;
import java.util.HashMap;
import java.util.List;
import java.util.Map;

/**
 * Each "Throws" sentence of the document: every argument one below its bounds and one above them, alone and
 * together with every other wrong one, and every state that refuses a call. The exception must be the one that
 * the document names first, and the object must answer and do afterwards what one answers and does that was
 * never asked. The ends of the bounds themselves must not be refused.
 */
public final class RefusalTest {
    private static final int LEAST = Integer.MIN_VALUE;
    private static final int GREATEST = Integer.MAX_VALUE;
    private static final int MOST_CALLS = 512;

    private static final Class<? extends RuntimeException> PLACE = IndexOutOfBoundsException.class;
    private static final Class<? extends RuntimeException> NUMBER = IllegalArgumentException.class;
    private static final Class<? extends RuntimeException> STATE = IllegalStateException.class;

    private interface Call {
        double on(KeyStage stage, int[] a);
    }

    private interface Maker {
        void fill(Stage stage);
    }

    private interface Question {
        double on(KeyStage stage);
    }

    /** The bounds of one argument, and what is thrown outside them. */
    private static final class Bounds {
        final int least;
        final int greatest;
        final Class<? extends RuntimeException> thrown;

        Bounds(int least, int greatest, Class<? extends RuntimeException> thrown) {
            this.least = least;
            this.greatest = greatest;
            this.thrown = thrown;
        }
    }

    /** A KeyStage that counts its calls, as nothing is promised after the 512th. */
    private static final class Stage {
        final KeyStage stage = new KeyStage();
        final List<String> answers = new ArrayList<>();
        int calls;

        void ask(Question question) {
            calls++;
            answers.add(outcome(question));
        }

        private String outcome(Question question) {
            try {
                return Double.toString(question.on(stage));
            } catch (RuntimeException thrown) {
                return nameOf(thrown);
            }
        }

        void askDigest() {
            calls++;
            answers.add(Long.toString(stage.digest()));
        }
    }

    private static String method;
    private static int wrong;
    private static int asked;
    private static final Map<Maker, List<List<String>>> untouched = new HashMap<>();

    public static void main(String[] args) {
        clipCalls();
        keyCalls();
        cueCalls();
        trackCalls();
        retimeCalls();
        retimeStates();
        stripCalls();
        stripSetters();
        playedCalls();
        System.out.println(asked + " calls tried, " + wrong + " not as due");
        if (wrong != 0) {
            System.exit(1);
        }
    }

    private static void clipCalls() {
        method = "addClip: length is not 1 to 2000";
        Call addClip = (s, a) -> s.addClip(a[0]);
        refusals(RefusalTest::some, addClip, args(30), number(1, 2000));
        method = "addClip: there are 6";
        refusedBy(RefusalTest::full, addClip, args(30), number(1, 2000));
        method = "clip: no such clip, what is not 0 to 2";
        refusals(RefusalTest::some, (s, a) -> s.clip(a[0], a[1]), args(1, 1), place(0, 2), place(0, 2));
        refusals(RefusalTest::full, (s, a) -> s.clip(a[0], a[1]), args(1, 1), place(0, 5), place(0, 2));
        method = "mirror: no such clip";
        refusals(RefusalTest::some, (s, a) -> s.mirror(a[0]), args(0), place(0, 2));
        method = "any call for a clip, as there is none";
        nothingThere(addClip, args(0), NUMBER);
        nothingThere((s, a) -> s.clip(0, 0), args(), PLACE);
        nothingThere((s, a) -> s.key(0, 0, 0, 0, 0), args(), PLACE);
        nothingThere((s, a) -> s.unkey(0, 0, 0), args(), PLACE);
        nothingThere((s, a) -> s.keys(0, 0), args(), PLACE);
        nothingThere((s, a) -> s.keyOf(0, 0, 0, 0), args(), PLACE);
        nothingThere((s, a) -> s.trackAt(0, 0, 0), args(), PLACE);
        nothingThere((s, a) -> s.cue(0, 0, 0), args(), PLACE);
        nothingThere((s, a) -> s.cueOf(0, 0, 0), args(), PLACE);
        nothingThere((s, a) -> s.mirror(0), args(), PLACE);
        nothingThere((s, a) -> s.retime(0, 1, 1), args(), PLACE);
        nothingThere((s, a) -> s.reduce(0, 0, 0), args(), PLACE);
        nothingThere((s, a) -> s.addStrip(0, 0, 1, 0), args(), PLACE);
    }

    private static void keyCalls() {
        Call key = (s, a) -> s.key(a[0], a[1], a[2], a[3], a[4]);
        method = "key: no such clip or property; time, value, ease out of bounds";
        Bounds[] bounds = {place(0, 2), place(0, 3), number(0, 50), number(-10000, 10000), number(0, 4)};
        refusals(RefusalTest::some, key, args(0, 0, 11, 5, 1), bounds);
        method = "key: time is not 0 to the length of just this clip";
        refusals(RefusalTest::some, key, args(1, 0, 3, 5, 1),
                place(0, 2), place(0, 3), number(0, 7), number(-10000, 10000), number(0, 4));
        method = "key: the track has 16, and none at this time";
        refusedBy(RefusalTest::some, key, args(0, 2, 31, 5, 1), bounds);
        allowed(RefusalTest::some, key, args(0, 2, 30, 5, 1));
        allowed(RefusalTest::some, key, args(0, 2, 0, 5, 1));
        allowed(RefusalTest::some, key, args(0, 1, 31, 5, 1));
        allowed(RefusalTest::some, key, args(2, 2, 31, 5, 1));
        method = "unkey: no such clip, key or property";
        Call unkey = (s, a) -> s.unkey(a[0], a[1], a[2]);
        refusals(RefusalTest::some, unkey, args(0, 0, 1), place(0, -1), place(0, -1), place(0, 2));
        refusals(RefusalTest::some, unkey, args(0, 2, 1), place(0, -1), place(0, -1), place(0, 15));
        refused(RefusalTest::some, unkey, args(3, 0, 0), PLACE);
        refused(RefusalTest::some, unkey, args(0, 4, 0), PLACE);
        refused(RefusalTest::some, unkey, args(0, 1, 0), PLACE);
        allowed(RefusalTest::some, unkey, args(1, 3, 1));
        refused(RefusalTest::some, unkey, args(1, 3, 2), PLACE);
        method = "keys: no such clip or property";
        refusals(RefusalTest::some, (s, a) -> s.keys(a[0], a[1]), args(1, 1), place(0, 2), place(0, 3));
        method = "keyOf: no such clip, key or property, what is not 0 to 2";
        Call keyOf = (s, a) -> s.keyOf(a[0], a[1], a[2], a[3]);
        refusals(RefusalTest::some, keyOf, args(0, 0, 1, 1), place(0, -1), place(0, -1), place(0, 2), place(0, 2));
        refusals(RefusalTest::some, keyOf, args(0, 2, 1, 1), place(0, -1), place(0, -1), place(0, 15), place(0, 2));
        refused(RefusalTest::some, keyOf, args(3, 0, 0, 0), PLACE);
        refused(RefusalTest::some, keyOf, args(0, 4, 0, 0), PLACE);
        refused(RefusalTest::some, keyOf, args(0, 1, 0, 0), PLACE);
    }

    private static void cueCalls() {
        Call cue = (s, a) -> s.cue(a[0], a[1], a[2]);
        method = "cue: no such clip; time or number out of bounds";
        refusals(RefusalTest::some, cue, args(0, 10, 5), place(0, -1), number(0, 50), number(0, 99));
        refusals(RefusalTest::some, cue, args(2, 10, 5), place(0, -1), number(0, 2000), number(0, 99));
        refused(RefusalTest::some, cue, args(3, 0, 0), PLACE);
        method = "cue: the clip has 8";
        refusedBy(RefusalTest::some, cue, args(1, 7, 5), place(0, -1), number(0, 7), number(0, 99));
        method = "cueOf: no such clip or cue, what is not 0 to 1";
        Call cueOf = (s, a) -> s.cueOf(a[0], a[1], a[2]);
        refusals(RefusalTest::some, cueOf, args(0, 1, 1), place(0, -1), place(0, 2), place(0, 1));
        refusals(RefusalTest::some, cueOf, args(1, 1, 1), place(0, -1), place(0, 7), place(0, 1));
        refused(RefusalTest::some, cueOf, args(3, 0, 0), PLACE);
        refused(RefusalTest::some, cueOf, args(2, 0, 0), PLACE);
    }

    private static void trackCalls() {
        Call trackAt = (s, a) -> s.trackAt(a[0], a[1], a[2]);
        method = "trackAt: no such clip or property; time is not 0 to the length";
        refusals(RefusalTest::some, trackAt, args(0, 0, 9), place(0, -1), place(0, -1), number(0, 50));
        refusals(RefusalTest::some, trackAt, args(1, 3, 5), place(0, -1), place(0, -1), number(0, 7));
        refused(RefusalTest::some, trackAt, args(3, 0, 0), PLACE);
        refused(RefusalTest::some, trackAt, args(0, 4, 0), PLACE);
        refused(RefusalTest::some, trackAt, args(0, 4, 51), PLACE);
        method = "trackAt: the track has no keys";
        refusedBy(RefusalTest::some, trackAt, args(0, 1, 50), place(0, -1), place(0, -1), number(0, 50));
        refused(RefusalTest::some, trackAt, args(2, 3, 2000), STATE);
        method = "reduce: no such clip or property; tolerance is not 0 to 1000";
        refusals(RefusalTest::some, (s, a) -> s.reduce(a[0], a[1], a[2]), args(0, 2, 9),
                place(0, 2), place(0, 3), number(0, 1000));
    }

    private static void retimeCalls() {
        Call retime = (s, a) -> s.retime(a[0], a[1], a[2]);
        method = "retime: no such clip; p or q is not 1 to 20";
        refusals(RefusalTest::lone, retime, args(0, 10, 10), place(0, 0), number(1, 20), number(1, 20));
        method = "retime: the length would be 0";
        refusedBy(RefusalTest::shortest, retime, args(0, 1, 2), place(0, 0), number(1, 20), number(1, 20));
        refused(RefusalTest::shortest, retime, args(0, 19, 20), STATE);
        allowed(RefusalTest::shortest, retime, args(0, 20, 20));
        allowed(RefusalTest::shortest, retime, args(0, 2, 2));
        method = "retime: the length would be 2001 or more";
        refusedBy(RefusalTest::longest, retime, args(0, 20, 19), place(0, 0), number(1, 20), number(1, 20));
        refused(RefusalTest::longest, retime, args(0, 20, 1), STATE);
        allowed(RefusalTest::longest, retime, args(0, 19, 19));
        allowed(RefusalTest::longest, retime, args(0, 1, 20));
        method = "retime: two keys of a track would have the same time";
        refusedBy(RefusalTest::some, retime, args(0, 1, 3), place(0, 2), number(1, 20), number(1, 20));
        refused(RefusalTest::some, retime, args(1, 1, 2), STATE);
        allowed(RefusalTest::some, retime, args(0, 1, 2));
    }

    /** Exactly one pair of keys comes together, in each of the tracks and at each of its ends. */
    private static void retimeStates() {
        for (int property = 0; property < 4; property++) {
            for (int pair = 0; pair < 15; pair++) {
                int track = property;
                int near = pair;
                method = "retime: keys " + pair + " and " + (pair + 1) + " of the track " + property + " come together";
                Maker maker = stage -> closePair(stage, track, near);
                Call retime = (s, a) -> s.retime(a[0], a[1], a[2]);
                refused(maker, retime, args(0, 1, 2), STATE);
                refused(maker, retime, args(0, 21, 2), NUMBER);
                allowed(maker, retime, args(0, 2, 2));
            }
        }
    }

    /** Keys at 0, 4, 8 and so on, but the one behind the given one comes only 1 behind it. */
    private static void closePair(Stage stage, int property, int pair) {
        stage.ask(s -> s.addClip(64));
        for (int i = 0; i < 16; i++) {
            int time = i == pair + 1 ? 4 * i - 3 : 4 * i;
            int value = i;
            for (int other = 0; other < 4; other++) {
                int track = other;
                stage.ask(s -> s.key(0, track, track == property ? time : 4 * value, value, 1));
            }
        }
    }

    private static void stripCalls() {
        Call addStrip = (s, a) -> s.addStrip(a[0], a[1], a[2], a[3]);
        Bounds[] bounds = {place(0, 2), number(0, 5000), number(1, 9), number(0, 2)};
        method = "addStrip: no such clip; start, rounds or way out of bounds";
        refusals(RefusalTest::some, addStrip, args(1, 30, 3, 1), bounds);
        method = "addStrip: there are 10";
        refusedBy(RefusalTest::full, addStrip, args(1, 30, 3, 1),
                place(0, 5), number(0, 5000), number(1, 9), number(0, 2));
        method = "removeStrip: no such strip";
        refusals(RefusalTest::some, (s, a) -> s.removeStrip(a[0]), args(1), place(0, 2));
        refusals(RefusalTest::full, (s, a) -> s.removeStrip(a[0]), args(1), place(0, 9));
        method = "strip: no such strip, what is not 0 to 12";
        refusals(RefusalTest::some, (s, a) -> s.strip(a[0], a[1]), args(1, 1), place(0, 2), place(0, 12));
        refusals(RefusalTest::full, (s, a) -> s.strip(a[0], a[1]), args(1, 1), place(0, 9), place(0, 12));
        method = "stripAt: no such strip; time is not 0 to 100000";
        for (int local = 0; local < 2; local++) {
            boolean isLocal = local == 1;
            refusals(RefusalTest::some, (s, a) -> s.stripAt(a[0], a[1], isLocal), args(1, 40),
                    place(0, 2), number(0, 100000));
        }
        method = "any call for a strip, as there is none";
        nothingThere((s, a) -> s.removeStrip(0), args(), PLACE);
        nothingThere((s, a) -> s.setSpeed(0, 1, 1), args(), PLACE);
        nothingThere((s, a) -> s.setBlend(0, 0, 0, true, true), args(), PLACE);
        nothingThere((s, a) -> s.setFade(0, 0, 0), args(), PLACE);
        nothingThere((s, a) -> s.strip(0, 0), args(), PLACE);
        nothingThere((s, a) -> s.stripAt(0, 0, true), args(), PLACE);
        nothingThere((s, a) -> s.stripAt(0, 0, false), args(), PLACE);
        nothingThere((s, a) -> s.met(0, 0), args(), PLACE);
    }

    private static void stripSetters() {
        method = "setBase: property is not 0 to 3; value is not -10000 to 10000";
        refusals(RefusalTest::some, (s, a) -> s.setBase(a[0], a[1]), args(1, 77), place(0, 3), number(-10000, 10000));
        method = "setSpeed: no such strip; p or q is not 1 to 9";
        refusals(RefusalTest::some, (s, a) -> s.setSpeed(a[0], a[1], a[2]), args(1, 5, 6),
                place(0, 2), number(1, 9), number(1, 9));
        method = "setBlend: no such strip; layer is not 0 to 9, weight is not 0 to 100";
        for (int way = 0; way < 4; way++) {
            boolean isAdded = way % 2 == 1;
            boolean isHeld = way > 1;
            refusals(RefusalTest::some, (s, a) -> s.setBlend(a[0], a[1], a[2], isAdded, isHeld), args(1, 5, 66),
                    place(0, 2), number(0, 9), number(0, 100));
        }
        method = "setFade: no such strip; in or out is not 0 to 2000";
        refusals(RefusalTest::some, (s, a) -> s.setFade(a[0], a[1], a[2]), args(1, 5, 6),
                place(0, 2), number(0, 2000), number(0, 2000));
    }

    private static void playedCalls() {
        method = "at: property is not 0 to 3; time is not 0 to 100000";
        refusals(RefusalTest::some, (s, a) -> s.at(a[0], a[1]), args(1, 40), place(0, 3), number(0, 100000));
        method = "reaches: property is not 0 to 3; from is not 0 to 100000; to is not from to from + 300";
        spanRefusals((s, a) -> s.reaches(a[0], a[1], a[2], 5));
        spanRefusals((s, a) -> s.reaches(a[0], a[1], a[2], LEAST));
        spanRefusals((s, a) -> s.reaches(a[0], a[1], a[2], GREATEST));
        method = "mean: property is not 0 to 3; from is not 0 to 100000; to is not from to from + 300";
        spanRefusals((s, a) -> s.mean(a[0], a[1], a[2]));
        method = "play: from is not 0 to 100000; to is not from to 100000";
        Call play = (s, a) -> s.play(a[0], a[1]);
        refusals(RefusalTest::some, play, args(40, 60), number(0, 60), number(40, 100000));
        for (int[] good : new int[][] {args(0, 0), args(0, 100000), args(100000, 100000)}) {
            allowed(RefusalTest::some, play, good);
        }
        for (int[] bad : new int[][] {args(-1, -1), args(-1, 100000), args(0, -1), args(100000, 99999),
            args(100001, 100001), args(100000, 100001), args(LEAST, LEAST), args(GREATEST, GREATEST)}) {
            refused(RefusalTest::some, play, bad, NUMBER);
        }
        method = "met: there are not so many, index is 100 or more, what is not 0 to 3";
        Call met = (s, a) -> s.met(a[0], a[1]);
        refusals(RefusalTest::some, met, args(1, 1), place(0, 8), place(0, 3));
        refusals(RefusalTest::full, met, args(1, 1), place(0, 99), place(0, 3));
    }

    private static void spanRefusals(Call span) {
        // Where from may end depends on to, so its ends are tried by themselves.
        refusals(RefusalTest::some, span, args(1, 40, 60), place(0, 3), number(0, -1), number(40, 340));
        for (int[] good : new int[][] {args(1, 0, 0), args(1, 0, 300), args(1, 100000, 100000),
            args(1, 100000, 100300)}) {
            allowed(RefusalTest::some, span, good);
        }
        for (int[] bad : new int[][] {args(1, 0, 301), args(1, 0, -1), args(1, 100000, 99999), args(1, 100000, 100301),
            args(1, 100001, 100001), args(1, 100001, 100301), args(1, -1, -1), args(1, -1, 299),
            args(1, GREATEST, GREATEST), args(1, GREATEST, LEAST), args(1, GREATEST - 300, GREATEST),
            args(1, LEAST, LEAST)}) {
            refused(RefusalTest::some, span, bad, NUMBER);
        }
    }

    // ---- stages

    private static void empty(Stage stage) {
        stage.askDigest();
    }

    private static void lone(Stage stage) {
        stage.ask(s -> s.addClip(100));
    }

    private static void shortest(Stage stage) {
        stage.ask(s -> s.addClip(1));
        stage.ask(s -> s.key(0, 0, 0, 1, 1));
        stage.ask(s -> s.cue(0, 1, 1));
        stage.ask(s -> s.addStrip(0, 0, 1, 0));
    }

    private static void longest(Stage stage) {
        stage.ask(s -> s.addClip(1901));
        stage.ask(s -> s.key(0, 3, 1900, 1, 1));
        stage.ask(s -> s.cue(0, 1901, 1));
        stage.ask(s -> s.addStrip(0, 0, 1, 0));
    }

    /** Three clips, the track 2 of the first one full, the cues of the second one full, the third one empty. */
    private static void some(Stage stage) {
        stage.ask(s -> s.addClip(50));
        stage.ask(s -> s.addClip(7));
        stage.ask(s -> s.addClip(2000));
        for (int i = 0; i < 3; i++) {
            int k = i;
            stage.ask(s -> s.key(0, 0, 20 * k, 100 * k - 70, k + 2));
            stage.ask(s -> s.cue(0, 10 * k, 30 + k));
        }
        for (int i = 0; i < 16; i++) {
            int k = i;
            stage.ask(s -> s.key(0, 2, 2 * k, k * k % 17, k % 5));
        }
        stage.ask(s -> s.key(0, 3, 9, -10000, 1));
        stage.ask(s -> s.key(1, 3, 2, 500, 3));
        stage.ask(s -> s.key(1, 3, 3, -500, 2));
        for (int i = 0; i < 8; i++) {
            int k = i;
            stage.ask(s -> s.cue(1, k % 4, k));
        }
        stage.ask(s -> s.setBase(1, -33));
        stage.ask(s -> s.setBase(3, 44));
        stage.ask(s -> s.addStrip(0, 5, 1, 2));
        stage.ask(s -> s.addStrip(1, 33, 1, 1));
        stage.ask(s -> s.addStrip(0, 44, 4, 0));
        stage.ask(s -> s.setSpeed(1, 2, 3));
        stage.ask(s -> s.setBlend(1, 3, 55, true, true));
        stage.ask(s -> s.setFade(2, 17, 23));
        // The first strip meets its 3 cues until then, the second one 6 of its 8.
        stage.ask(s -> s.play(3, 43));
    }

    /** As many clips, strips and cues as there may be; 400 cues are noted. */
    private static void full(Stage stage) {
        for (int i = 0; i < 6; i++) {
            int k = i;
            stage.ask(s -> s.addClip(10 + k));
        }
        for (int i = 0; i < 8; i++) {
            int k = i;
            stage.ask(s -> s.cue(1, k, 90 + k));
        }
        for (int i = 0; i < 10; i++) {
            int k = i;
            stage.ask(s -> s.addStrip(1, 7 * k, 5, k % 3));
        }
        stage.ask(s -> s.key(1, 1, 4, 400, 4));
        stage.ask(s -> s.play(0, 1000));
    }

    // ---- what is tried

    private static int[] args(int... a) {
        return a;
    }

    private static Bounds place(int least, int greatest) {
        return new Bounds(least, greatest, PLACE);
    }

    private static Bounds number(int least, int greatest) {
        return new Bounds(least, greatest, NUMBER);
    }

    /** Bounds that end below their beginning only say what is thrown; others are tried at both ends. */
    private static boolean isTried(Bounds bounds) {
        return bounds.least <= bounds.greatest;
    }

    private static void refusals(Maker maker, Call call, int[] good, Bounds... bounds) {
        allowed(maker, call, good);
        for (int i = 0; i < good.length; i++) {
            if (isTried(bounds[i])) {
                allowed(maker, call, with(good, i, bounds[i].least));
                allowed(maker, call, with(good, i, bounds[i].greatest));
            }
        }
        wrongArguments(maker, call, good, bounds);
    }

    /** With these arguments the state refuses the call; with a wrong one more, what is named ahead of it is thrown. */
    private static void refusedBy(Maker maker, Call call, int[] good, Bounds... bounds) {
        refused(maker, call, good, STATE);
        wrongArguments(maker, call, good, bounds);
    }

    /** Each argument is as it was, one too small or one too great, in all combinations; and each far outside. */
    private static void wrongArguments(Maker maker, Call call, int[] good, Bounds... bounds) {
        int combinations = 1;
        for (int i = 0; i < good.length; i++) {
            combinations *= 3;
        }
        for (int combination = 1; combination < combinations; combination++) {
            int[] a = good.clone();
            Class<? extends RuntimeException> due = null;
            int rest = combination;
            for (int i = 0; i < good.length; i++) {
                int side = rest % 3;
                rest /= 3;
                if (side != 0) {
                    a[i] = side == 1 ? bounds[i].least - 1 : isTried(bounds[i]) ? bounds[i].greatest + 1 : GREATEST - 1;
                    due = due == PLACE ? PLACE : bounds[i].thrown;
                }
            }
            refused(maker, call, a, due);
        }
        for (int i = 0; i < good.length; i++) {
            refused(maker, call, with(good, i, LEAST), bounds[i].thrown);
            refused(maker, call, with(good, i, GREATEST), bounds[i].thrown);
        }
    }

    private static int[] with(int[] a, int index, int number) {
        int[] changed = a.clone();
        changed[index] = number;
        return changed;
    }

    private static void allowed(Maker maker, Call call, int[] a) {
        asked++;
        Stage stage = new Stage();
        maker.fill(stage);
        try {
            call.on(stage.stage, a);
        } catch (RuntimeException thrown) {
            complain(a, "was refused: " + nameOf(thrown));
        }
    }

    private static void nothingThere(Call call, int[] a, Class<? extends RuntimeException> due) {
        refused(RefusalTest::empty, call, a, due);
    }

    private static void refused(Maker maker, Call call, int[] a, Class<? extends RuntimeException> due) {
        asked++;
        List<List<String>> before = untouched.computeIfAbsent(maker, RefusalTest::answersOfAnUntouchedOne);
        for (int part = 0; part < PARTS; part++) {
            Stage stage = new Stage();
            maker.fill(stage);
            stage.calls++;
            String got;
            try {
                got = "the answer " + call.on(stage.stage, a);
            } catch (RuntimeException thrown) {
                got = nameOf(thrown);
            }
            if (!got.equals("KeyStage throws " + due.getSimpleName())) {
                complain(a, "due is " + due.getSimpleName() + ", but it was " + got);
                return;
            }
            if (!before.get(part).equals(answers(stage, part))) {
                complain(a, "the refused call changed something");
                return;
            }
        }
    }

    private static List<List<String>> answersOfAnUntouchedOne(Maker maker) {
        List<List<String>> answers = new ArrayList<>();
        for (int part = 0; part < PARTS; part++) {
            Stage stage = new Stage();
            maker.fill(stage);
            answers.add(answers(stage, part));
        }
        return answers;
    }

    /** Tells apart what the class throws from what the machine or the library throws in it. */
    private static String nameOf(RuntimeException thrown) {
        StackTraceElement[] trace = thrown.getStackTrace();
        boolean isOwn = trace.length > 0 && trace[0].getClassName().equals("KeyStage");
        return (isOwn ? "KeyStage throws " : "the machine throws ") + thrown.getClass().getSimpleName();
    }

    private static void complain(int[] a, String text) {
        wrong++;
        StringBuilder line = new StringBuilder(method).append(", with");
        for (int x : a) {
            line.append(' ').append(x);
        }
        System.out.println(line.append(": ").append(text));
    }

    // ---- all that an object tells, in parts, as one object may be asked only so often

    private static final int PARTS = 4;

    private static List<String> answers(Stage stage, int part) {
        switch (part) {
            case 0:
                askForClips(stage);
                break;
            case 1:
                askForStripsAndNotes(stage);
                break;
            case 2:
                askForTimes(stage);
                break;
            default:
                goOn(stage);
                break;
        }
        if (stage.calls > MOST_CALLS) {
            throw new AssertionError("too many calls on one object: " + stage.calls);
        }
        return stage.answers;
    }

    private static void askForClips(Stage stage) {
        stage.askDigest();
        int clips = 0;
        for (int clip = 0; clip < 7; clip++) {
            int c = clip;
            for (int what = 0; what < 3; what++) {
                int w = what;
                stage.ask(s -> s.clip(c, w));
            }
            clips += stage.answers.get(stage.answers.size() - 1).startsWith("KeyStage") ? 0 : 1;
        }
        for (int clip = 0; clip < clips; clip++) {
            for (int property = 0; property < 4; property++) {
                int c = clip;
                int p = property;
                stage.calls++;
                int keys = stage.stage.keys(clip, property);
                stage.answers.add("keys " + keys);
                for (int i = 0; i < 3 * keys; i++) {
                    int k = i;
                    stage.ask(s -> s.keyOf(c, p, k / 3, k % 3));
                }
            }
            stage.calls++;
            int cues = stage.stage.clip(clip, 1);
            for (int i = 0; i < 2 * cues; i++) {
                int c = clip;
                int k = i;
                stage.ask(s -> s.cueOf(c, k / 2, k % 2));
            }
        }
    }

    private static void askForStripsAndNotes(Stage stage) {
        stage.ask(KeyStage::end);
        for (int i = 0; i < 11 * 13; i++) {
            int k = i;
            stage.ask(s -> s.strip(k / 13, k % 13));
        }
        for (int i = 0; i < 4 * 60; i++) {
            int k = i;
            stage.ask(s -> s.met(k / 4 < 30 ? k / 4 : k / 4 + 41, k % 4));
        }
    }

    private static void askForTimes(Stage stage) {
        int[] times = {0, 5, 6, 20, 33, 43, 44, 50, 55, 99, 101, 233, 243, 244, 100000};
        for (int time : times) {
            for (int property = 0; property < 4; property++) {
                int p = property;
                stage.ask(s -> s.at(p, time));
                stage.ask(s -> s.trackAt(0, p, time % 51));
            }
            for (int strip = 0; strip < 3; strip++) {
                int k = strip;
                stage.ask(s -> s.stripAt(k, time, true));
                stage.ask(s -> s.stripAt(k, time, false));
            }
        }
        for (int property = 0; property < 4; property++) {
            int p = property;
            stage.ask(s -> s.mean(p, 0, 300));
            stage.ask(s -> s.reaches(p, 0, 300, 7));
        }
    }

    /** Nor may a refused call show in what later calls do. */
    private static void goOn(Stage stage) {
        stage.askDigest();
        List<Question> calls = new ArrayList<>();
        calls.add(s -> s.key(0, 2, 4, 77, 2));
        calls.add(s -> s.key(0, 1, 3, 78, 3));
        calls.add(s -> s.unkey(0, 2, 5));
        calls.add(s -> s.key(0, 2, 1, 79, 1));
        calls.add(s -> s.cue(0, 7, 40));
        calls.add(s -> s.cue(1, 7, 41));
        calls.add(s -> s.mirror(0));
        calls.add(s -> s.retime(0, 3, 2));
        calls.add(s -> s.reduce(0, 2, 5));
        calls.add(s -> s.addClip(12));
        calls.add(s -> s.setBase(2, 80));
        calls.add(s -> s.addStrip(0, 3, 2, 2));
        calls.add(s -> s.setSpeed(0, 7, 5));
        calls.add(s -> s.setBlend(0, 2, 81, false, true));
        calls.add(s -> s.setFade(0, 5, 6));
        calls.add(s -> s.removeStrip(1));
        calls.add(s -> s.at(2, 40));
        calls.add(s -> s.play(0, 500));
        calls.add(s -> s.mirror(1));
        calls.add(s -> s.retime(1, 2, 1));
        calls.add(s -> s.play(20, 40));
        for (Question call : calls) {
            stage.ask(call);
            stage.askDigest();
        }
    }
}
