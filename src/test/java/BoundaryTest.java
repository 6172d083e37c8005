import java.math.BigInteger;

/**
 * A test for each sentence of the document that names a boundary: the last that is still allowed and the first
 * that is not any more, the empty and the full, the two sides of a time, what is rounded or cut, what wraps
 * around. What is refused for its arguments, and that it changes nothing then, is tried in RefusalTest.
 */
public final class BoundaryTest {
    private interface Test {
        void run();
    }

    private interface Call {
        double answer();
    }

    private static String sentence = "";
    private static int wrong;
    private static int tests;
    private static int asked;

    public static void main(String[] args) {
        numbers();
        clips();
        keysAndCues();
        tracks();
        mirroring();
        retiming();
        reducing();
        strips();
        localTimes();
        strengths();
        values();
        spans();
        playing();
        notes();
        digests();
        System.out.println(tests + " sentences, " + asked + " answers asked, " + wrong + " not as due");
        if (wrong != 0) {
            System.exit(1);
        }
    }

    private static void test(String text, Test test) {
        sentence = text;
        tests++;
        try {
            test.run();
        } catch (RuntimeException thrown) {
            complain("thrown was " + thrown);
        }
    }

    private static void complain(String text) {
        wrong++;
        String line = "";
        for (StackTraceElement frame : new Throwable().getStackTrace()) {
            if (frame.getMethodName().startsWith("lambda") || frame.getMethodName().endsWith("Test")) {
                line = "line " + frame.getLineNumber();
                break;
            }
        }
        System.out.println(sentence + " (" + line + "): " + text);
    }

    private static void due(double want, double got) {
        asked++;
        if (want != got) {
            complain("due is " + want + ", answered was " + got);
        }
    }

    private static void throwsThis(Class<? extends RuntimeException> want, Call call) {
        asked++;
        try {
            complain("due is " + want.getSimpleName() + ", answered was " + call.answer());
        } catch (RuntimeException thrown) {
            StackTraceElement[] trace = thrown.getStackTrace();
            if (thrown.getClass() != want || trace.length == 0 || !trace[0].getClassName().equals("KeyStage")) {
                complain("due is " + want.getSimpleName() + " of the class's own, thrown was " + thrown);
            }
        }
    }

    private static void noPlace(Call call) {
        throwsThis(IndexOutOfBoundsException.class, call);
    }

    private static void badNumber(Call call) {
        throwsThis(IllegalArgumentException.class, call);
    }

    private static void badState(Call call) {
        throwsThis(IllegalStateException.class, call);
    }

    private static int[] is(int... numbers) {
        return numbers;
    }

    private static KeyStage withClip(int length) {
        KeyStage stage = new KeyStage();
        stage.addClip(length);
        return stage;
    }

    private static KeyStage withStrip(int length, int start, int rounds, int way) {
        KeyStage stage = withClip(length);
        stage.addStrip(0, start, rounds, way);
        return stage;
    }

    /** Lays keys on a track of clip 0, each told by its time, value and ease. */
    private static KeyStage lay(KeyStage s, int property, int[]... keys) {
        for (int[] key : keys) {
            s.key(0, property, key[0], key[1], key[2]);
        }
        return s;
    }

    /** The track of clip 0 has these keys and no others. */
    private static void dueKeys(KeyStage s, int property, int[]... keys) {
        due(keys.length, s.keys(0, property));
        for (int i = 0; i < keys.length; i++) {
            for (int what = 0; what < 3; what++) {
                due(keys[i][what], s.keyOf(0, property, i, what));
            }
        }
        noPlace(() -> s.keyOf(0, property, keys.length, 0));
    }

    /** Clip 0 has these cues and no others, each told by its time and number. */
    private static void dueCues(KeyStage s, int[]... cues) {
        due(cues.length, s.clip(0, 1));
        for (int i = 0; i < cues.length; i++) {
            due(cues[i][0], s.cueOf(0, i, 0));
            due(cues[i][1], s.cueOf(0, i, 1));
        }
        noPlace(() -> s.cueOf(0, cues.length, 0));
    }

    /** A span meets these cues and no others, each told by its time, strip, round and number. */
    private static void dueMet(KeyStage s, int from, int to, int[]... notes) {
        due(notes.length, s.play(from, to));
        for (int i = 0; i < notes.length; i++) {
            for (int what = 0; what < 4; what++) {
                due(notes[i][what], s.met(i, what));
            }
        }
        noPlace(() -> s.met(notes.length, 0));
    }

    // ---- numbers

    private static void numbers() {
        test("Rounded: to the nearest number; the greater one, if there are two (a track)", () -> {
            KeyStage s = lay(withClip(20), 0, is(0, 0, 1), is(4, 1, 1), is(8, 0, 1), is(12, -1, 1), is(16, 0, 1));
            int[] values = {0, 0, 1, 1, 1, 1, 1, 0, 0, 0, 0, -1, -1, -1, 0, 0, 0};
            for (int time = 0; time < values.length; time++) {
                due(values[time], s.trackAt(0, 0, time));
            }
        });
        test("Rounded: to the nearest number; the greater one, if there are two (a strength)", () -> {
            KeyStage s = withStrip(100, 0, 1, 0);
            s.setFade(0, 8, 8);
            due(13, s.stripAt(0, 1, false));
            due(38, s.stripAt(0, 3, false));
            due(88, s.stripAt(0, 7, false));
            due(88, s.stripAt(0, 93, false));
            due(38, s.stripAt(0, 97, false));
            due(13, s.stripAt(0, 99, false));
            s.setFade(0, 3, 3);
            due(33, s.stripAt(0, 1, false));
            due(67, s.stripAt(0, 2, false));
            due(67, s.stripAt(0, 98, false));
            due(33, s.stripAt(0, 99, false));
        });
        test("Rounded: to the nearest number; the greater one, if there are two (a value)", () -> {
            int[][] cases = {
                // base, value of the track, weight, value if it replaces, value if it is added
                is(0, 1, 50, 1, 1), is(0, 1, 49, 0, 0), is(0, -1, 50, 0, 0), is(0, -1, 51, -1, -1),
                is(0, 3, 50, 2, 2), is(0, -3, 50, -1, -1), is(5, 4, 50, 5, 7), is(5, 4, 51, 4, 7),
                is(-5, -4, 50, -4, -7), is(-5, -4, 49, -5, -7), is(-5, -4, 12, -5, -5), is(-5, -4, 13, -5, -6),
            };
            for (int[] c : cases) {
                KeyStage s = lay(withStrip(1, 0, 1, 0), 2, is(0, c[1], 1));
                s.setBase(2, c[0]);
                s.setBlend(0, 0, c[2], false, false);
                due(c[3], s.at(2, 0));
                s.setBlend(0, 0, c[2], true, false);
                due(c[4], s.at(2, 0));
            }
        });
        test("Properties are numbered 0 to 3", () -> {
            for (int property = 0; property < 4; property++) {
                KeyStage s = withStrip(10, 0, 1, 0);
                due(1, s.key(0, property, 5, 50 + property, 1));
                due(0, s.setBase(property, 60 + property));
                for (int other = 0; other < 4; other++) {
                    int p = other;
                    due(other == property ? 1 : 0, s.keys(0, other));
                    due(other == property ? 50 + property : 0, s.at(other, 0));
                    due(other == property ? 60 + property : 0, s.at(other, 10));
                    if (other != property) {
                        badState(() -> s.trackAt(0, p, 5));
                    }
                }
                due(0, s.unkey(0, property, 0));
            }
        });
        test("Each has a base value, -10000 to 10000 (0, at first)", () -> {
            KeyStage s = new KeyStage();
            for (int property = 0; property < 4; property++) {
                int p = property;
                due(0, s.at(property, 0));
                due(0, s.setBase(property, -10000));
                due(-10000, s.at(property, 100000));
                badNumber(() -> s.setBase(p, -10001));
                due(-10000, s.setBase(property, 10000));
                due(10000, s.at(property, 0));
                badNumber(() -> s.setBase(p, 10001));
                due(10000, s.setBase(property, 0));
            }
        });
    }

    // ---- clips

    private static void clips() {
        test("Clips. There are at most 6, numbered from 0 in the order of their creation", () -> {
            KeyStage s = new KeyStage();
            for (int clip = 0; clip < 6; clip++) {
                int c = clip;
                noPlace(() -> s.clip(c, 0));
                due(clip, s.addClip(100 + clip));
            }
            badState(() -> s.addClip(106));
            noPlace(() -> s.clip(6, 0));
            for (int clip = 0; clip < 6; clip++) {
                due(100 + clip, s.clip(clip, 0));
            }
        });
        test("A clip has a length, 1 to 2000", () -> {
            KeyStage s = new KeyStage();
            badNumber(() -> s.addClip(0));
            badNumber(() -> s.addClip(2001));
            due(0, s.addClip(1));
            due(1, s.addClip(2000));
            due(1, s.clip(0, 0));
            due(2000, s.clip(1, 0));
        });
        test("Adds a clip without keys and cues", () -> {
            KeyStage s = withClip(10);
            s.key(0, 0, 10, 1, 1);
            s.cue(0, 10, 1);
            due(1, s.addClip(20));
            due(0, s.clip(1, 1));
            due(0, s.clip(1, 2));
            for (int property = 0; property < 4; property++) {
                due(0, s.keys(1, property));
            }
        });
        test("Its times are 0 to this length", () -> {
            for (int length : new int[] {1, 2, 2000}) {
                KeyStage s = withClip(length);
                due(1, s.key(0, 0, 0, 3, 1));
                due(2, s.key(0, 0, length, 4, 1));
                due(1, s.cue(0, 0, 5));
                due(2, s.cue(0, length, 6));
                due(3, s.trackAt(0, 0, 0));
                due(4, s.trackAt(0, 0, length));
                badNumber(() -> s.key(0, 0, -1, 3, 1));
                badNumber(() -> s.key(0, 0, length + 1, 3, 1));
                badNumber(() -> s.cue(0, -1, 5));
                badNumber(() -> s.cue(0, length + 1, 5));
                badNumber(() -> s.trackAt(0, 0, -1));
                badNumber(() -> s.trackAt(0, 0, length + 1));
            }
        });
        test("Its times are 0 to this length: that which it has after retiming", () -> {
            KeyStage s = lay(withClip(10), 0, is(10, 7, 1));
            due(5, s.retime(0, 1, 2));
            badNumber(() -> s.trackAt(0, 0, 6));
            badNumber(() -> s.key(0, 0, 6, 1, 1));
            badNumber(() -> s.cue(0, 6, 1));
            due(7, s.trackAt(0, 0, 5));
            due(20, s.retime(0, 4, 1));
            due(7, s.trackAt(0, 0, 20));
            due(2, s.key(0, 0, 19, 1, 1));
            due(1, s.cue(0, 20, 1));
            badNumber(() -> s.trackAt(0, 0, 21));
        });
        test("clip: 0 its length, 1 the number of its cues, 2 of its keys, of all properties (none, and full)", () -> {
            KeyStage s = withClip(20);
            due(0, s.clip(0, 1));
            due(0, s.clip(0, 2));
            for (int i = 0; i < 16; i++) {
                for (int property = 0; property < 4; property++) {
                    s.key(0, property, i, i, 1);
                }
            }
            for (int i = 0; i < 8; i++) {
                s.cue(0, 20, i);
            }
            due(20, s.clip(0, 0));
            due(8, s.clip(0, 1));
            due(64, s.clip(0, 2));
            s.unkey(0, 3, 15);
            due(63, s.clip(0, 2));
        });
    }

    private static void keysAndCues() {
        test("It has a track of at most 16 keys", () -> {
            KeyStage s = withClip(20);
            for (int i = 1; i <= 16; i++) {
                due(i, s.key(0, 1, 20 - i, i, 1));
            }
            badState(() -> s.key(0, 1, 20, 0, 1));
            badState(() -> s.key(0, 1, 3, 0, 1));
            due(16, s.keys(0, 1));
            due(1, s.key(0, 2, 20, 0, 1));
            due(15, s.unkey(0, 1, 0));
            due(16, s.key(0, 1, 3, 99, 1));
            badState(() -> s.key(0, 1, 4, 0, 1));
            due(99, s.keyOf(0, 1, 0, 1));
        });
        test("Keys at different times: a key is laid in the place of one that is there at this time", () -> {
            KeyStage s = lay(withClip(40), 1, is(10, 1, 1), is(20, 2, 2), is(30, 3, 3));
            due(3, s.key(0, 1, 10, -1, 0));
            due(3, s.key(0, 1, 30, -3, 4));
            due(3, s.key(0, 1, 20, 2, 0));
            dueKeys(s, 1, is(10, -1, 0), is(20, 2, 0), is(30, -3, 4));
            due(4, s.key(0, 1, 19, 5, 1));
            due(5, s.key(0, 1, 21, 6, 1));
            dueKeys(s, 1, is(10, -1, 0), is(19, 5, 1), is(20, 2, 0), is(21, 6, 1), is(30, -3, 4));
        });
        test("key: the track has 16, and none at this time (so one at this time is replaced in a full track)", () -> {
            KeyStage s = withClip(40);
            for (int i = 0; i < 16; i++) {
                s.key(0, 1, 2 * i, i, 1);
            }
            for (int i = 0; i < 16; i++) {
                int time = 2 * i + 1;
                badState(() -> s.key(0, 1, time, 0, 1));
                due(16, s.key(0, 1, 2 * i, -i, 3));
                due(-i, s.keyOf(0, 1, i, 1));
                due(3, s.keyOf(0, 1, i, 2));
            }
        });
        test("A key has a value, -10000 to 10000, and an ease, 0 to 4", () -> {
            KeyStage s = withClip(10);
            due(1, s.key(0, 0, 0, -10000, 0));
            due(2, s.key(0, 0, 10, 10000, 4));
            dueKeys(s, 0, is(0, -10000, 0), is(10, 10000, 4));
            badNumber(() -> s.key(0, 0, 0, -10001, 0));
            badNumber(() -> s.key(0, 0, 0, 10001, 0));
            badNumber(() -> s.key(0, 0, 0, 0, -1));
            badNumber(() -> s.key(0, 0, 0, 0, 5));
        });
        test("unkey: the key, in ascending order of their times, from 0 (first, last, the only one, none)", () -> {
            KeyStage s = lay(withClip(40), 0, is(40, 4, 0), is(0, 1, 1), is(20, 2, 2), is(30, 3, 3));
            noPlace(() -> s.unkey(0, 0, 4));
            noPlace(() -> s.unkey(0, 0, -1));
            due(3, s.unkey(0, 0, 3));
            dueKeys(s, 0, is(0, 1, 1), is(20, 2, 2), is(30, 3, 3));
            due(2, s.unkey(0, 0, 0));
            dueKeys(s, 0, is(20, 2, 2), is(30, 3, 3));
            due(1, s.unkey(0, 0, 1));
            due(0, s.unkey(0, 0, 0));
            dueKeys(s, 0);
            noPlace(() -> s.unkey(0, 0, 0));
            due(1, s.key(0, 0, 5, 6, 1));
            dueKeys(s, 0, is(5, 6, 1));
        });
        test("A clip has at most 8 cues", () -> {
            KeyStage s = withClip(10);
            s.addClip(10);
            for (int i = 1; i <= 8; i++) {
                due(i, s.cue(0, 10 - i, i));
            }
            badState(() -> s.cue(0, 10, 0));
            badState(() -> s.cue(0, 9, 1));
            due(8, s.clip(0, 1));
            due(1, s.cue(1, 10, 0));
        });
        test("Cues in ascending order of their times (those that came first ahead, at the same time)", () -> {
            KeyStage s = withClip(10);
            dueCues(s);
            s.cue(0, 5, 1);
            s.cue(0, 10, 2);
            s.cue(0, 0, 3);
            s.cue(0, 5, 4);
            s.cue(0, 0, 5);
            s.cue(0, 10, 1);
            s.cue(0, 5, 0);
            s.cue(0, 4, 6);
            dueCues(s, is(0, 3), is(0, 5), is(4, 6), is(5, 1), is(5, 4), is(5, 0), is(10, 2), is(10, 1));
        });
        test("Each cue with a number, 0 to 99", () -> {
            KeyStage s = withClip(10);
            due(1, s.cue(0, 3, 0));
            due(2, s.cue(0, 3, 99));
            badNumber(() -> s.cue(0, 3, -1));
            badNumber(() -> s.cue(0, 3, 100));
            dueCues(s, is(3, 0), is(3, 99));
        });
    }

    // ---- what a track has

    private static void tracks() {
        test("The value of a track: that of the first key, if t is not behind it", () -> {
            KeyStage s = lay(withClip(30), 0, is(10, -40, 1), is(20, 60, 1));
            due(-40, s.trackAt(0, 0, 0));
            due(-40, s.trackAt(0, 0, 9));
            due(-40, s.trackAt(0, 0, 10));
            due(-30, s.trackAt(0, 0, 11));
        });
        test("The value of a track: that of the last one, if t is not ahead of it", () -> {
            KeyStage s = lay(withClip(30), 0, is(10, -40, 1), is(20, 60, 2));
            due(50, s.trackAt(0, 0, 19));
            due(60, s.trackAt(0, 0, 20));
            due(60, s.trackAt(0, 0, 21));
            due(60, s.trackAt(0, 0, 30));
        });
        test("The value of a track with one key, at the ends of the clip too", () -> {
            for (int time : new int[] {0, 7, 30}) {
                KeyStage s = lay(withClip(30), 3, is(time, 5, 4));
                due(5, s.trackAt(0, 3, 0));
                due(5, s.trackAt(0, 3, 7));
                due(5, s.trackAt(0, 3, 30));
            }
        });
        test("The key at or next ahead of t, and the next one (at a key, one ahead of it, one behind it)", () -> {
            KeyStage s = lay(withClip(40), 0, is(0, 0, 1), is(10, 100, 0), is(20, 500, 1), is(30, 200, 1));
            due(90, s.trackAt(0, 0, 9));
            due(100, s.trackAt(0, 0, 10));
            due(100, s.trackAt(0, 0, 11));
            due(100, s.trackAt(0, 0, 19));
            due(500, s.trackAt(0, 0, 20));
            due(470, s.trackAt(0, 0, 21));
            due(230, s.trackAt(0, 0, 29));
            due(200, s.trackAt(0, 0, 30));
        });
        test("0 hold: 0 / 1", () -> dueEase(0, is(1, -10000, 1999, -10000), is(1, 10000, 1999, 10000), 0));
        test("1 linear: x / d", () -> dueEase(1, is(1, -9990, 1999, 9990), is(1, 9990, 1999, -9990), 50));
        test("2 in: x * x / (d * d)", () -> dueEase(2,
                is(1, -10000, 9, -10000, 10, -9999, 1000, -5000, 1999, 9980),
                is(1, 10000, 10, 10000, 11, 9999, 1000, 5000, 1999, -9980), 25));
        test("3 out: x * (2 * d - x) / (d * d)", () -> dueEase(3,
                is(1, -9980, 1000, 5000, 1989, 9999, 1990, 10000, 1999, 10000),
                is(1, 9980, 1000, -5000, 1989, -9999, 1990, -9999, 1991, -10000), 75));
        test("4 in and out: x * x * (3 * d - 2 * x) / (d * d * d)", () -> dueEase(4,
                is(1, -10000, 5, -10000, 6, -9999, 500, -6875, 1000, 0, 1500, 6875, 1994, 9999, 1999, 10000),
                is(1, 10000, 5, 10000, 6, 9999, 500, 6875, 1000, 0, 1500, -6875, 1994, -9999, 1999, -10000), 50));
        test("A track without keys has no value", () -> {
            KeyStage s = withStrip(10, 0, 1, 0);
            s.setBase(1, 6);
            badState(() -> s.trackAt(0, 1, 0));
            badState(() -> s.trackAt(0, 1, 10));
            due(6, s.at(1, 5));
            s.key(0, 1, 0, 9, 1);
            due(9, s.trackAt(0, 1, 10));
            due(9, s.at(1, 5));
            s.unkey(0, 1, 0);
            badState(() -> s.trackAt(0, 1, 10));
            due(6, s.at(1, 5));
        });
    }

    /** The longest way up and down (times and values in turn), the shortest way, and half of a short way. */
    private static void dueEase(int ease, int[] up, int[] down, int half) {
        KeyStage s = lay(withClip(2000), 0, is(0, -10000, ease), is(2000, 10000, ease));
        lay(s, 1, is(0, 10000, ease), is(2000, -10000, ease));
        lay(s, 2, is(5, 0, ease), is(6, 77, ease), is(7, -77, ease));
        lay(s, 3, is(10, 0, ease), is(12, 100, ease), is(14, 100, ease));
        for (int i = 0; i < up.length; i += 2) {
            due(up[i + 1], s.trackAt(0, 0, up[i]));
        }
        for (int i = 0; i < down.length; i += 2) {
            due(down[i + 1], s.trackAt(0, 1, down[i]));
        }
        due(-10000, s.trackAt(0, 0, 0));
        due(10000, s.trackAt(0, 0, 2000));
        due(0, s.trackAt(0, 2, 5));
        due(77, s.trackAt(0, 2, 6));
        due(-77, s.trackAt(0, 2, 7));
        due(half, s.trackAt(0, 3, 11));
        due(100, s.trackAt(0, 3, 13));
    }

    // ---- changing clips

    private static void mirroring() {
        test("Mirroring: each key and each cue at t comes to length - t (0 and the length too)", () -> {
            KeyStage s = lay(withClip(9), 0, is(0, 1, 1), is(4, 2, 1), is(9, 3, 1));
            s.cue(0, 0, 1);
            s.cue(0, 4, 2);
            s.cue(0, 9, 3);
            due(9, s.mirror(0));
            dueKeys(s, 0, is(0, 3, 1), is(5, 2, 1), is(9, 1, 1));
            dueCues(s, is(0, 3), is(5, 2), is(9, 1));
        });
        test("The ease between two keys stays between them, with 2 and 3 exchanged (0 stays 0)", () -> {
            int[] mirrored = {0, 1, 3, 2, 4};
            for (int ease = 0; ease < 5; ease++) {
                KeyStage s = lay(withClip(10), 0, is(2, 1, ease), is(7, 2, 3));
                s.mirror(0);
                dueKeys(s, 0, is(3, 2, mirrored[ease]), is(8, 1, 1));
            }
            KeyStage s = lay(withClip(10), 0,
                    is(0, 1, 0), is(1, 2, 1), is(2, 3, 2), is(3, 4, 3), is(4, 5, 4), is(5, 6, 0));
            s.mirror(0);
            dueKeys(s, 0, is(5, 6, 4), is(6, 5, 2), is(7, 4, 3), is(8, 3, 1), is(9, 2, 0), is(10, 1, 1));
        });
        test("The last key of a track has the ease 1 then (one key; and twice mirrored)", () -> {
            for (int ease = 0; ease < 5; ease++) {
                KeyStage s = lay(withClip(10), 3, is(4, 7, ease));
                lay(s, 1, is(0, 7, 4), is(10, 8, ease));
                s.mirror(0);
                dueKeys(s, 3, is(6, 7, 1));
                s.mirror(0);
                dueKeys(s, 3, is(4, 7, 1));
                dueKeys(s, 1, is(0, 7, 4), is(10, 8, 1));
            }
        });
        test("Mirroring tracks that are full, and those that are empty", () -> {
            int[] mirrored = {0, 1, 3, 2, 4};
            KeyStage s = withClip(15);
            for (int i = 0; i < 16; i++) {
                s.key(0, 2, i, 100 * i, i % 5);
            }
            due(15, s.mirror(0));
            for (int i = 0; i < 16; i++) {
                due(i, s.keyOf(0, 2, i, 0));
                due(100 * (15 - i), s.keyOf(0, 2, i, 1));
                due(i == 15 ? 1 : mirrored[(14 - i) % 5], s.keyOf(0, 2, i, 2));
            }
            dueKeys(s, 0);
            dueKeys(s, 1);
            dueKeys(s, 3);
            dueCues(s);
            // A track that was empty then takes 16 keys as any other does.
            dueFilled(s, 1);
        });
        test("Cues at the same time come in the opposite order", () -> {
            KeyStage s = withClip(6);
            for (int i = 0; i < 8; i++) {
                s.cue(0, i < 3 ? 0 : i < 5 ? 3 : 6, i);
            }
            s.mirror(0);
            dueCues(s, is(0, 7), is(0, 6), is(0, 5), is(3, 4), is(3, 3), is(6, 2), is(6, 1), is(6, 0));
            KeyStage more = withClip(6);
            more.cue(0, 3, 1);
            more.cue(0, 3, 2);
            more.mirror(0);
            more.cue(0, 3, 3);
            dueCues(more, is(3, 2), is(3, 1), is(3, 3));
        });
    }

    private static void retiming() {
        test("Retiming by p / q (each 1 to 20)", () -> {
            KeyStage s = withClip(20);
            due(1, s.retime(0, 1, 20));
            due(20, s.retime(0, 20, 1));
            due(20, s.retime(0, 20, 20));
            due(20, s.retime(0, 1, 1));
            badNumber(() -> s.retime(0, 0, 1));
            badNumber(() -> s.retime(0, 21, 20));
            badNumber(() -> s.retime(0, 1, 0));
            badNumber(() -> s.retime(0, 20, 21));
            due(20, s.clip(0, 0));
        });
        test("Each time t of a key or cue becomes t * p / q, cut, and so does the length", () -> {
            KeyStage s = lay(withClip(11), 0, is(0, 1, 0), is(2, 2, 2), is(3, 3, 3), is(5, 4, 4), is(11, 5, 2));
            s.cue(0, 0, 1);
            s.cue(0, 1, 2);
            s.cue(0, 10, 3);
            s.cue(0, 11, 4);
            due(7, s.retime(0, 2, 3));
            dueKeys(s, 0, is(0, 1, 0), is(1, 2, 2), is(2, 3, 3), is(3, 4, 4), is(7, 5, 2));
            dueCues(s, is(0, 1), is(0, 2), is(6, 3), is(7, 4));
        });
        test("Cues keep their sequence (those that come to the same time)", () -> {
            KeyStage s = withClip(20);
            s.cue(0, 9, 3);
            s.cue(0, 8, 4);
            s.cue(0, 9, 1);
            s.cue(0, 10, 2);
            s.cue(0, 8, 5);
            due(1, s.retime(0, 1, 20));
            dueCues(s, is(0, 4), is(0, 5), is(0, 3), is(0, 1), is(0, 2));
            s.cue(0, 0, 0);
            s.cue(0, 1, 9);
            dueCues(s, is(0, 4), is(0, 5), is(0, 3), is(0, 1), is(0, 2), is(0, 0), is(1, 9));
        });
        test("retime: the length would not be 1 to 2000", () -> {
            badState(() -> withClip(19).retime(0, 1, 20));
            due(1, withClip(20).retime(0, 1, 20));
            badState(() -> withClip(1).retime(0, 19, 20));
            due(1, withClip(2).retime(0, 19, 20));
            due(2000, withClip(100).retime(0, 20, 1));
            badState(() -> withClip(101).retime(0, 20, 1));
            badState(() -> withClip(667).retime(0, 3, 1));
            badState(() -> withClip(2000).retime(0, 20, 19));
            due(2000, withClip(2000).retime(0, 20, 20));
            // 353 * 17 is 6001: the length is cut to 2000.
            due(2000, withClip(353).retime(0, 17, 3));
        });
        test("retime: two keys of a track would have the same time", () -> {
            KeyStage s = lay(withClip(10), 3, is(1, 5, 1), is(3, 6, 1), is(4, 7, 1));
            due(5, s.retime(0, 1, 2));
            dueKeys(s, 3, is(0, 5, 1), is(1, 6, 1), is(2, 7, 1));
            badState(() -> s.retime(0, 1, 2));
            dueKeys(s, 3, is(0, 5, 1), is(1, 6, 1), is(2, 7, 1));
            due(5, s.clip(0, 0));
            s.unkey(0, 3, 1);
            due(2, s.retime(0, 1, 2));
            dueKeys(s, 3, is(0, 5, 1), is(1, 7, 1));
        });
        test("Keys of a track: those of two tracks may come to the same time, and those of another clip", () -> {
            KeyStage s = withClip(10);
            for (int property = 0; property < 4; property++) {
                s.key(0, property, 6 + property % 2, 9, 1);
            }
            s.addClip(10);
            s.key(1, 0, 2, 1, 1);
            s.key(1, 0, 3, 1, 1);
            due(5, s.retime(0, 1, 2));
            for (int property = 0; property < 4; property++) {
                dueKeys(s, property, is(3, 9, 1));
            }
        });
        test("Retiming a clip without keys and cues, and one whose tracks are full", () -> {
            KeyStage s = withClip(30);
            due(45, s.retime(0, 3, 2));
            for (int i = 0; i < 16; i++) {
                s.key(0, 1, 3 * i, i, i % 5);
            }
            due(15, s.retime(0, 1, 3));
            for (int i = 0; i < 16; i++) {
                due(i, s.keyOf(0, 1, i, 0));
                due(i, s.keyOf(0, 1, i, 1));
                due(i % 5, s.keyOf(0, 1, i, 2));
            }
        });
        test("Retiming changes the ticks and the end of the strips that play the clip", () -> {
            KeyStage s = withStrip(10, 100, 3, 0);
            s.addClip(10);
            s.addStrip(1, 100, 3, 0);
            due(5, s.retime(0, 1, 2));
            due(115, s.strip(0, 2));
            due(130, s.strip(1, 2));
            due(-1, s.stripAt(0, 115, true));
            due(4, s.stripAt(0, 114, true));
            due(0, s.stripAt(0, 105, true));
        });
    }

    private static void reducing() {
        test("Reducing a track by a tolerance, 0 to 1000", () -> {
            KeyStage s = lay(withClip(20), 0, is(0, 0, 1), is(10, 1001, 1), is(20, 0, 1));
            badNumber(() -> s.reduce(0, 0, -1));
            badNumber(() -> s.reduce(0, 0, 1001));
            due(3, s.reduce(0, 0, 0));
            due(3, s.reduce(0, 0, 1000));
            s.key(0, 0, 10, 1000, 1);
            due(2, s.reduce(0, 0, 1000));
            s.key(0, 0, 10, 0, 1);
            due(2, s.reduce(0, 0, 0));
        });
        test("Taken away, if the value differs by not more than the tolerance (above and below)", () -> {
            for (int sign = -1; sign <= 1; sign += 2) {
                KeyStage s = lay(withClip(20), 0, is(0, 0, 1), is(10, 7 * sign, 1), is(20, 0, 1));
                due(3, s.reduce(0, 0, 6));
                dueKeys(s, 0, is(0, 0, 1), is(10, 7 * sign, 1), is(20, 0, 1));
                due(2, s.reduce(0, 0, 7));
                dueKeys(s, 0, is(0, 0, 1), is(20, 0, 1));
            }
        });
        test("At no time from the next key ahead of it that is left (it differs most ahead of the key)", () -> {
            // Without the key at 10 the value differs by 100 at 5 at most, and not at all from 10 on.
            int[][] keys = {is(0, 0, 3), is(10, 600, 3), is(20, 800, 1)};
            due(3, lay(withClip(20), 0, keys).reduce(0, 0, 99));
            due(2, lay(withClip(20), 0, keys).reduce(0, 0, 100));
        });
        test("At no time to the next one behind it (it differs most behind the key)", () -> {
            int[][] keys = {is(0, 0, 2), is(10, 200, 2), is(20, 800, 1)};
            due(3, lay(withClip(20), 0, keys).reduce(0, 0, 99));
            due(2, lay(withClip(20), 0, keys).reduce(0, 0, 100));
            // The last time ahead of the next key: 90 of the way are not held there.
            int[][] held = {is(0, 0, 0), is(10, 0, 1), is(20, 100, 1)};
            due(3, lay(withClip(20), 0, held).reduce(0, 0, 89));
            due(2, lay(withClip(20), 0, held).reduce(0, 0, 90));
            // It differs at the time of the key alone.
            int[][] jump = {is(0, 0, 1), is(1, 50, 1), is(2, 0, 1), is(20, 0, 1)};
            due(3, lay(withClip(20), 0, jump).reduce(0, 0, 49));
            due(2, lay(withClip(20), 0, jump).reduce(0, 0, 50));
        });
        test("From what the track had at the beginning of the reducing (not from what is left of it)", () -> {
            // Without 10 it has 3 at 10; without 20 too it would have 4 there, and had 0 at the beginning.
            KeyStage s = lay(withClip(30), 0, is(0, 0, 1), is(10, 0, 1), is(20, 6, 1), is(30, 12, 1));
            due(3, s.reduce(0, 0, 3));
            dueKeys(s, 0, is(0, 0, 1), is(20, 6, 1), is(30, 12, 1));
            // What is left then is the beginning of the next reducing.
            due(2, s.reduce(0, 0, 3));
        });
        test("For its keys in ascending order", () -> {
            // In descending order the key at 20 would go first, and the one at 10 would stay.
            KeyStage s = lay(withClip(30), 0, is(0, 0, 1), is(10, 6, 1), is(20, 6, 1), is(30, 0, 1));
            due(3, s.reduce(0, 0, 3));
            dueKeys(s, 0, is(0, 0, 1), is(20, 6, 1), is(30, 0, 1));
        });
        test("For its keys, but the first and the last one (0, 1, 2 and 3 keys)", () -> {
            KeyStage s = withClip(40);
            due(0, s.reduce(0, 2, 1000));
            s.key(0, 2, 10, 4, 2);
            due(1, s.reduce(0, 2, 1000));
            s.key(0, 2, 30, 4, 3);
            due(2, s.reduce(0, 2, 1000));
            dueKeys(s, 2, is(10, 4, 2), is(30, 4, 3));
            s.key(0, 2, 20, 4, 4);
            due(2, s.reduce(0, 2, 1000));
            dueKeys(s, 2, is(10, 4, 2), is(30, 4, 3));
        });
        test("A track that was full and is reduced takes 16 keys again", () -> {
            KeyStage s = withClip(30);
            for (int i = 0; i < 16; i++) {
                s.key(0, 3, 2 * i, 7, 0);
            }
            due(2, s.reduce(0, 3, 0));
            s.mirror(0);
            dueKeys(s, 3, is(0, 7, 0), is(30, 7, 1));
            due(1, s.unkey(0, 3, 0));
            due(0, s.unkey(0, 3, 0));
            dueFilled(s, 3);
        });
        test("Reducing a full track: all but two go, or none, or every other one", () -> {
            KeyStage s = withClip(150);
            for (int i = 0; i < 16; i++) {
                s.key(0, 0, 10 * i, 20 * i, 1);
                s.key(0, 1, 10 * i, i % 2 * 100, 1);
                s.key(0, 2, 10 * i, i / 2 % 2 * 100 + i % 2 * 50 * (1 - i / 2 % 2 * 2), 1);
            }
            due(2, s.reduce(0, 0, 0));
            dueKeys(s, 0, is(0, 0, 1), is(150, 300, 1));
            due(16, s.reduce(0, 1, 49));
            due(9, s.reduce(0, 2, 0));
            for (int i = 0; i < 8; i++) {
                due(20 * i, s.keyOf(0, 2, i, 0));
                due(i % 2 * 100, s.keyOf(0, 2, i, 1));
            }
            due(150, s.keyOf(0, 2, 8, 0));
            due(50, s.keyOf(0, 2, 8, 1));
            due(10, s.key(0, 2, 1, 0, 1));
        });
    }

    /** An empty track of clip 0 takes 16 keys, from its last time to its first one, and not one more. */
    private static void dueFilled(KeyStage s, int property) {
        for (int i = 15; i >= 0; i--) {
            due(16 - i, s.key(0, property, i, 10 * i - 70, (i + 2) % 5));
        }
        for (int i = 0; i < 16; i++) {
            due(i, s.keyOf(0, property, i, 0));
            due(10 * i - 70, s.keyOf(0, property, i, 1));
            due((i + 2) % 5, s.keyOf(0, property, i, 2));
        }
        noPlace(() -> s.keyOf(0, property, 16, 0));
    }

    // ---- strips

    private static void strips() {
        test("Strips. There are at most 10, numbered from 0 in the order in which they came", () -> {
            KeyStage s = withClip(10);
            for (int strip = 0; strip < 10; strip++) {
                int k = strip;
                noPlace(() -> s.strip(k, 0));
                due(strip, s.addStrip(0, 30 + strip, 1, 0));
            }
            badState(() -> s.addStrip(0, 40, 1, 0));
            noPlace(() -> s.strip(10, 0));
            for (int strip = 0; strip < 10; strip++) {
                due(30 + strip, s.strip(strip, 1));
            }
        });
        test("If one is removed, those behind it have numbers that are 1 less (first, last, the only one)", () -> {
            KeyStage s = withClip(10);
            for (int strip = 0; strip < 10; strip++) {
                s.addStrip(0, 30 + strip, 1, 0);
            }
            due(9, s.removeStrip(9));
            due(8, s.removeStrip(0));
            noPlace(() -> s.removeStrip(8));
            for (int strip = 0; strip < 8; strip++) {
                due(31 + strip, s.strip(strip, 1));
            }
            due(7, s.removeStrip(3));
            due(33, s.strip(2, 1));
            due(35, s.strip(3, 1));
            for (int left = 6; left >= 0; left--) {
                due(left, s.removeStrip(0));
            }
            noPlace(() -> s.removeStrip(0));
            noPlace(() -> s.strip(0, 0));
            for (int strip = 0; strip < 10; strip++) {
                due(strip, s.addStrip(0, 60 + strip, 1, 0));
            }
            badState(() -> s.addStrip(0, 0, 1, 0));
            due(69, s.strip(9, 1));
        });
        test("A strip has a start, 0 to 5000, rounds, 1 to 9, a way (0, 1, 2)", () -> {
            KeyStage s = withClip(10);
            due(0, s.addStrip(0, 0, 1, 0));
            due(1, s.addStrip(0, 5000, 9, 1));
            due(2, s.addStrip(0, 0, 9, 2));
            int[][] facts = {is(0, 0, 10, 1, 0), is(0, 5000, 5090, 9, 1), is(0, 0, 90, 9, 2)};
            for (int strip = 0; strip < 3; strip++) {
                for (int what = 0; what < 5; what++) {
                    due(facts[strip][what], s.strip(strip, what));
                }
            }
            badNumber(() -> s.addStrip(0, -1, 1, 0));
            badNumber(() -> s.addStrip(0, 5001, 1, 0));
            badNumber(() -> s.addStrip(0, 0, 0, 0));
            badNumber(() -> s.addStrip(0, 0, 10, 0));
            badNumber(() -> s.addStrip(0, 0, 1, -1));
            badNumber(() -> s.addStrip(0, 0, 1, 3));
        });
        test("At first: speed 1 / 1, layer 0, weight 100, it replaces, fades 0, not held", () -> {
            KeyStage s = withStrip(10, 20, 1, 0);
            s.setSpeed(0, 2, 3);
            s.setBlend(0, 4, 5, true, true);
            s.setFade(0, 6, 7);
            due(1, s.addStrip(0, 20, 1, 0));
            int[] facts = {0, 20, 30, 1, 0, 1, 1, 0, 100, 0, 0, 0, 0};
            for (int what = 0; what < 13; what++) {
                due(facts[what], s.strip(1, what));
            }
        });
        test("strip: 9 1 if it is added, else 0, 10 1 if it is held, else 0", () -> {
            KeyStage s = withStrip(9, 0, 1, 0);
            for (int way = 0; way < 4; way++) {
                s.setBlend(0, 3, 50, way % 2 == 1, way > 1);
                due(way % 2, s.strip(0, 9));
                due(way / 2, s.strip(0, 10));
            }
            noPlace(() -> s.strip(0, 13));
            noPlace(() -> s.strip(0, -1));
        });
        test("A speed p / q (each 1 to 9)", () -> {
            KeyStage s = withStrip(9, 0, 1, 0);
            due(81, s.setSpeed(0, 1, 9));
            due(1, s.setSpeed(0, 9, 1));
            due(9, s.strip(0, 5));
            due(1, s.strip(0, 6));
            due(9, s.setSpeed(0, 9, 9));
            badNumber(() -> s.setSpeed(0, 0, 1));
            badNumber(() -> s.setSpeed(0, 10, 1));
            badNumber(() -> s.setSpeed(0, 1, 0));
            badNumber(() -> s.setSpeed(0, 1, 10));
        });
        test("A layer, 0 to 9, a weight, 0 to 100", () -> {
            KeyStage s = withStrip(9, 0, 1, 0);
            due(0, s.setBlend(0, 9, 0, true, true));
            due(9, s.strip(0, 7));
            due(0, s.strip(0, 8));
            due(9, s.setBlend(0, 0, 100, false, false));
            due(0, s.strip(0, 7));
            due(100, s.strip(0, 8));
            badNumber(() -> s.setBlend(0, -1, 100, false, false));
            badNumber(() -> s.setBlend(0, 10, 100, false, false));
            badNumber(() -> s.setBlend(0, 0, -1, false, false));
            badNumber(() -> s.setBlend(0, 0, 101, false, false));
        });
        test("Two fades, in and out, each 0 to 2000", () -> {
            KeyStage s = withStrip(9, 0, 1, 0);
            due(0, s.setFade(0, 2000, 0));
            due(2000, s.strip(0, 11));
            due(0, s.strip(0, 12));
            due(2000, s.setFade(0, 0, 2000));
            due(0, s.strip(0, 11));
            due(2000, s.strip(0, 12));
            badNumber(() -> s.setFade(0, -1, 0));
            badNumber(() -> s.setFade(0, 2001, 0));
            badNumber(() -> s.setFade(0, 0, -1));
            badNumber(() -> s.setFade(0, 0, 2001));
        });
        test("Its end is its start and ticks * q / p, rounded up to a whole number", () -> {
            due(1, withStrip(1, 0, 1, 0).setSpeed(0, 9, 1));
            due(1, withStrip(8, 0, 1, 0).setSpeed(0, 9, 1));
            due(1, withStrip(9, 0, 1, 0).setSpeed(0, 9, 1));
            due(2, withStrip(10, 0, 1, 0).setSpeed(0, 9, 1));
            due(5001, withStrip(1, 5000, 9, 0).setSpeed(0, 9, 1));
            due(103, withStrip(2, 100, 1, 0).setSpeed(0, 2, 3));
            due(105, withStrip(3, 100, 1, 0).setSpeed(0, 2, 3));
            due(167000, withStrip(2000, 5000, 9, 0).setSpeed(0, 1, 9));
        });
        test("It is on at the times from its start to its end, the end not included", () -> {
            dueOn(withStrip(10, 0, 1, 0), 0, 9);
            dueOn(withStrip(1, 50, 1, 1), 50, 50);
            dueOn(withStrip(10, 50, 9, 2), 50, 139);
            KeyStage s = withStrip(10, 50, 1, 0);
            s.setSpeed(0, 9, 1);
            dueOn(s, 50, 51);
            s.setSpeed(0, 1, 9);
            dueOn(s, 50, 139);
            KeyStage slow = withStrip(2000, 5000, 9, 0);
            slow.setSpeed(0, 1, 9);
            dueOn(slow, 5000, 100000);
        });
        test("If it is held, from its start on", () -> {
            KeyStage s = withStrip(10, 50, 2, 0);
            s.setBlend(0, 0, 100, false, true);
            dueOn(s, 50, 100000);
            due(100, s.stripAt(0, 70, false));
            due(10, s.stripAt(0, 70, true));
            s.setBlend(0, 0, 100, false, false);
            dueOn(s, 50, 69);
        });
        test("end: the greatest end of all strips; 0 if there are none", () -> {
            KeyStage s = new KeyStage();
            due(0, s.end());
            s.addClip(10);
            due(0, s.end());
            s.addStrip(0, 30, 1, 0);
            due(40, s.end());
            s.addStrip(0, 60, 1, 0);
            s.addStrip(0, 20, 3, 0);
            due(70, s.end());
            s.setBlend(0, 0, 100, false, true);
            due(70, s.end());
            s.setSpeed(0, 1, 9);
            due(120, s.end());
            s.removeStrip(0);
            due(70, s.end());
            s.removeStrip(0);
            due(50, s.end());
            s.removeStrip(0);
            due(0, s.end());
        });
    }

    /** Strip 0 is on from the first to the last of these times, and next to them it is not. */
    private static void dueOn(KeyStage s, int first, int last) {
        boolean[] locals = {true, false};
        for (boolean isLocal : locals) {
            if (first > 0) {
                due(-1, s.stripAt(0, first - 1, isLocal));
                due(-1, s.stripAt(0, 0, isLocal));
            }
            due(1, s.stripAt(0, first, isLocal) >= 0 ? 1 : 0);
            due(1, s.stripAt(0, last, isLocal) >= 0 ? 1 : 0);
            if (last < 100000) {
                due(-1, s.stripAt(0, last + 1, isLocal));
                due(-1, s.stripAt(0, 100000, isLocal));
            }
        }
        // A strip that is not on does nothing.
        s.key(0, 3, 0, 77, 1);
        if (first > 0) {
            due(0, s.at(3, first - 1));
        }
        due(77, s.at(3, first));
        due(77, s.at(3, last));
        if (last < 100000) {
            due(0, s.at(3, last + 1));
        }
    }

    private static void dueLocal(KeyStage s, int first, int... times) {
        for (int i = 0; i < times.length; i++) {
            due(times[i], s.stripAt(0, first + i, true));
        }
    }

    private static void localTimes() {
        test("The tick is (T - start) * p / q, cut", () -> {
            KeyStage s = withStrip(100, 20, 1, 0);
            s.setSpeed(0, 2, 3);
            dueLocal(s, 20, 0, 0, 1, 2, 2, 3, 4);
            s.setSpeed(0, 1, 9);
            due(0, s.stripAt(0, 28, true));
            due(1, s.stripAt(0, 29, true));
            due(99, s.stripAt(0, 919, true));
            s.setSpeed(0, 9, 1);
            dueLocal(s, 19, -1, 0, 9, 18, 27);
            due(99, s.stripAt(0, 31, true));
            due(-1, s.stripAt(0, 32, true));
        });
        test("The tick is at most its ticks", () -> {
            for (int p = 1; p <= 9; p++) {
                KeyStage s = withStrip(10, 20, 2, 0);
                s.setBlend(0, 0, 100, false, true);
                int end = s.setSpeed(0, p, 1);
                due((end - 21) * p % 10, s.stripAt(0, end - 1, true));
                due(10, s.stripAt(0, end, true));
                due(10, s.stripAt(0, end + 1, true));
                due(10, s.stripAt(0, 100000, true));
            }
        });
        test("The round is the tick divided by the length, cut: the time in the clip is the rest", () -> {
            dueLocal(withStrip(3, 20, 3, 0), 19, -1, 0, 1, 2, 0, 1, 2, 0, 1, 2, -1);
            dueLocal(withStrip(1, 20, 3, 0), 19, -1, 0, 0, 0, -1);
        });
        test("Or (backwards) the length less the rest", () -> {
            dueLocal(withStrip(3, 20, 3, 1), 19, -1, 3, 2, 1, 3, 2, 1, 3, 2, 1, -1);
            dueLocal(withStrip(1, 20, 3, 1), 19, -1, 1, 1, 1, -1);
        });
        test("To and fro: forwards in the rounds 0, 2, 4 .., backwards in the others", () -> {
            dueLocal(withStrip(2, 20, 9, 2), 19, -1, 0, 1, 2, 1, 0, 1, 2, 1, 0, 1, 2, 1, 0, 1, 2, 1, 0, 1, -1);
            dueLocal(withStrip(1, 20, 4, 2), 19, -1, 0, 1, 0, 1, -1);
        });
        test("The round is at most its rounds less 1 (at its end, if it is held)", () -> {
            for (int rounds = 1; rounds <= 9; rounds++) {
                for (int way = 0; way < 3; way++) {
                    KeyStage s = withStrip(7, 20, rounds, way);
                    s.setBlend(0, 0, 100, false, true);
                    boolean isBackwards = way == 1 || way == 2 && rounds % 2 == 0;
                    due(isBackwards ? 1 : 6, s.stripAt(0, 19 + 7 * rounds, true));
                    due(isBackwards ? 0 : 7, s.stripAt(0, 20 + 7 * rounds, true));
                    due(isBackwards ? 0 : 7, s.stripAt(0, 21 + 7 * rounds, true));
                    due(isBackwards ? 0 : 7, s.stripAt(0, 100000, true));
                }
            }
        });
    }

    private static void dueStrength(KeyStage s, int... timesAndStrengths) {
        for (int i = 0; i < timesAndStrengths.length; i += 2) {
            due(timesAndStrengths[i + 1], s.stripAt(0, timesAndStrengths[i], false));
        }
    }

    private static KeyStage weighing(int weight, boolean isHeld, int in, int out) {
        KeyStage s = withStrip(100, 50, 1, 0);
        s.setBlend(0, 0, weight, false, isHeld);
        s.setFade(0, in, out);
        return s;
    }

    private static void strengths() {
        test("Its strength is its weight (0 and 100 too), where no fade is", () -> {
            dueStrength(weighing(100, false, 0, 0), 49, -1, 50, 100, 149, 100, 150, -1);
            dueStrength(weighing(0, false, 0, 0), 49, -1, 50, 0, 149, 0, 150, -1);
            dueStrength(weighing(0, true, 9, 9), 49, -1, 50, 0, 55, 0, 149, 0, 150, 0);
            dueStrength(weighing(1, false, 9, 9), 50, 0, 54, 0, 55, 1, 140, 1, 145, 1, 146, 0, 149, 0);
        });
        test("If T - start is less than the fade in, at most the weight * (T - start) / fade in", () -> {
            dueStrength(weighing(80, false, 10, 0), 50, 0, 51, 8, 59, 72, 60, 80, 61, 80, 149, 80);
            dueStrength(weighing(80, false, 1, 0), 50, 0, 51, 80, 149, 80);
            dueStrength(weighing(80, false, 2, 0), 50, 0, 51, 40, 52, 80);
            dueStrength(weighing(80, false, 2000, 0), 50, 0, 62, 0, 63, 1, 149, 4);
        });
        test("If its end less T is less than the fade out, at most the weight * (end - T) / fade out", () -> {
            dueStrength(weighing(80, false, 0, 10), 50, 80, 139, 80, 140, 80, 141, 72, 149, 8, 150, -1);
            dueStrength(weighing(80, false, 0, 1), 148, 80, 149, 80);
            dueStrength(weighing(80, false, 0, 2), 148, 80, 149, 40);
            dueStrength(weighing(80, false, 0, 2000), 50, 4, 137, 1, 138, 0, 149, 0);
        });
        test("If it is not held: a held one does not fade out", () -> {
            dueStrength(weighing(80, true, 0, 10), 50, 80, 149, 80, 150, 80, 100000, 80);
            dueStrength(weighing(80, true, 2000, 2000), 50, 0, 149, 4, 150, 4, 2037, 79, 2038, 80, 2049, 80, 2050, 80);
        });
        test("Both fades: each only says at most", () -> {
            dueStrength(weighing(80, false, 100, 50),
                    50, 0, 60, 8, 100, 40, 115, 52, 116, 53, 117, 53, 118, 51, 149, 2);
            dueStrength(weighing(80, false, 2000, 2000), 50, 0, 100, 2, 149, 0);
            dueStrength(weighing(80, false, 50, 50), 99, 78, 100, 80, 101, 78);
        });
        test("The fade out ends at the end that speed and rounds give", () -> {
            KeyStage s = withStrip(10, 50, 2, 0);
            s.setFade(0, 0, 4);
            due(57, s.setSpeed(0, 3, 1));
            dueStrength(s, 53, 100, 54, 75, 55, 50, 56, 25, 57, -1);
        });
    }

    // ---- what is played

    private static void values() {
        test("It begins with the base value; then the strips that are on do what they do", () -> {
            KeyStage s = withClip(10);
            s.setBase(0, -6);
            due(-6, s.at(0, 0));
            s.key(0, 0, 0, 50, 1);
            due(-6, s.at(0, 0));
            s.addStrip(0, 0, 1, 0);
            s.addStrip(0, 10, 1, 0);
            s.setBlend(1, 0, 100, true, false);
            due(50, s.at(0, 0));
            due(50, s.at(0, 9));
            due(44, s.at(0, 10));
            due(44, s.at(0, 19));
            due(-6, s.at(0, 20));
            due(-6, s.at(0, 100000));
        });
        test("And whose clip has keys for it", () -> {
            KeyStage s = withStrip(10, 0, 1, 0);
            s.setBase(0, 7);
            s.setBase(1, 8);
            s.key(0, 1, 0, 50, 1);
            due(7, s.at(0, 5));
            due(50, s.at(1, 5));
            s.unkey(0, 1, 0);
            due(8, s.at(1, 5));
        });
        test("With the track's value v and the strength w, x and (v - x) * w / 100 (w is 0, 1, 99 and 100)", () -> {
            KeyStage s = lay(withStrip(10, 0, 1, 0), 0, is(0, 10000, 1));
            s.setBase(0, -10000);
            int[][] cases = {is(0, -10000), is(1, -9800), is(99, 9800), is(100, 10000)};
            for (int[] c : cases) {
                s.setBlend(0, 0, c[0], false, false);
                due(c[1], s.at(0, 9));
            }
        });
        test("One that is added makes it x and v * w / 100: no value is a greatest or a least one", () -> {
            for (int sign = -1; sign <= 1; sign += 2) {
                KeyStage s = lay(withClip(10), 0, is(0, 10000 * sign, 1));
                s.setBase(0, 10000 * sign);
                for (int strip = 0; strip < 10; strip++) {
                    s.addStrip(0, 0, 1, 0);
                    s.setBlend(strip, strip, 100, true, false);
                    due((strip + 2) * 10000 * sign, s.at(0, 0));
                }
                s.setBlend(9, 9, 1, true, false);
                due(100100 * sign, s.at(0, 0));
                s.setBlend(9, 9, 0, true, false);
                due(100000 * sign, s.at(0, 0));
                // From far outside the values of a key back to one.
                s.setBlend(9, 9, 50, false, false);
                due(55000 * sign, s.at(0, 0));
                s.setBlend(9, 9, 100, false, false);
                due(10000 * sign, s.at(0, 0));
            }
        });
        test("In ascending order of their layers (0 and 9)", () -> {
            KeyStage s = twoStrips();
            due(20, s.at(0, 0));
            s.setBlend(0, 9, 100, false, false);
            due(10, s.at(0, 0));
            s.setBlend(1, 9, 100, false, false);
            due(20, s.at(0, 0));
            s.setBlend(0, 8, 100, false, false);
            due(20, s.at(0, 0));
            s.setBlend(0, 1, 100, false, false);
            s.setBlend(1, 0, 100, false, false);
            due(10, s.at(0, 0));
        });
        test("Of the same layer in ascending order of their numbers (that removing changes)", () -> {
            KeyStage s = twoStrips();
            s.addStrip(0, 0, 1, 0);
            due(10, s.at(0, 0));
            s.removeStrip(0);
            due(10, s.at(0, 0));
            s.removeStrip(1);
            due(20, s.at(0, 0));
            s.addStrip(0, 0, 1, 0);
            due(10, s.at(0, 0));
            s.setBlend(1, 0, 100, true, false);
            due(30, s.at(0, 0));
            s.setBlend(0, 0, 100, true, false);
            s.setBlend(1, 0, 100, false, false);
            due(10, s.at(0, 0));
        });
        test("at: a time, 0 to 100000", () -> {
            KeyStage s = lay(withStrip(10, 0, 1, 1), 3, is(0, 1, 1), is(10, 11, 1));
            s.setBlend(0, 0, 100, false, true);
            due(11, s.at(3, 0));
            due(1, s.at(3, 100000));
            badNumber(() -> s.at(3, -1));
            badNumber(() -> s.at(3, 100001));
            noPlace(() -> s.at(4, 0));
            noPlace(() -> s.at(-1, 0));
        });
    }

    /** Strip 0 makes the property 0 to 10, strip 1 to 20. */
    private static KeyStage twoStrips() {
        KeyStage s = lay(withClip(10), 0, is(0, 10, 1));
        s.addClip(10);
        s.key(1, 0, 0, 20, 1);
        s.addStrip(0, 0, 1, 0);
        s.addStrip(1, 0, 1, 0);
        return s;
    }

    private static void spans() {
        test("reaches: the value of the property is at least this one", () -> {
            KeyStage s = rising();
            due(50, s.reaches(1, 0, 300, 50));
            due(-1, s.reaches(1, 0, 49, 50));
            due(50, s.reaches(1, 0, 50, 50));
            due(0, s.reaches(1, 0, 300, 0));
            due(0, s.reaches(1, 0, 300, Integer.MIN_VALUE));
            due(-1, s.reaches(1, 0, 300, Integer.MAX_VALUE));
        });
        test("reaches: the first time from the first to the last one; -1 if there is none", () -> {
            KeyStage s = rising();
            due(300, s.reaches(1, 0, 300, 300));
            due(-1, s.reaches(1, 0, 300, 301));
            due(301, s.reaches(1, 1, 301, 301));
            due(60, s.reaches(1, 60, 300, 50));
            due(50, s.reaches(1, 50, 50, 50));
            due(-1, s.reaches(1, 50, 50, 51));
            // It comes down from 400 on: the first time is told, and the last but one is not looked at again.
            due(399, s.reaches(1, 300, 600, 399));
            due(401, s.reaches(1, 401, 700, 399));
            due(-1, s.reaches(1, 402, 702, 399));
        });
        test("reaches: from is not 0 to 100000, or to is not from to from + 300", () -> {
            KeyStage s = rising();
            s.setBlend(0, 0, 100, true, true);
            s.setBase(1, 5);
            due(0, s.reaches(1, 0, 0, 5));
            due(-1, s.reaches(1, 0, 0, 6));
            due(100000, s.reaches(1, 100000, 100000, 5));
            due(100000, s.reaches(1, 100000, 100300, 5));
            due(-1, s.reaches(1, 100000, 100300, 6));
            badNumber(() -> s.reaches(1, -1, 0, 0));
            badNumber(() -> s.reaches(1, 100001, 100001, 0));
            badNumber(() -> s.reaches(1, 1, 0, 0));
            badNumber(() -> s.reaches(1, 0, 301, 0));
            badNumber(() -> s.reaches(1, 100000, 100301, 0));
        });
        test("reaches: to may be behind 100000, and the times behind it are looked at", () -> {
            KeyStage s = late();
            due(100009, s.reaches(0, 100000, 100300, 1));
            due(100297, s.reaches(0, 100000, 100300, 33));
            due(-1, s.reaches(0, 100000, 100300, 34));
        });
        test("mean: at all times from the first to the last one (1 time, 2 and 301)", () -> {
            KeyStage s = rising();
            due(7, s.mean(1, 7, 7));
            due(0.5, s.mean(1, 0, 1));
            due(150, s.mean(1, 0, 300));
            due((398 + 399 + 400) / 3.0, s.mean(1, 398, 400));
            due((399 + 400 + 399 + 398) / 4.0, s.mean(1, 399, 402));
            s.setBase(0, -10000);
            due(-10000, s.mean(0, 0, 300));
            due(-10000, s.mean(0, 100000, 100000));
            s.setBase(0, 1);
            due(1, s.mean(0, 100000, 100300));
            due(0, s.mean(2, 0, 300));
        });
        test("mean: it is not rounded (above and below 0)", () -> {
            KeyStage s = lay(withStrip(3, 0, 1, 0), 0, is(0, 0, 1), is(1, 0, 1), is(2, -1, 1), is(3, 1, 1));
            due(-1 / 3.0, s.mean(0, 0, 2));
            due(-1 / 2.0, s.mean(0, 1, 2));
            due(-1 / 4.0, s.mean(0, 0, 3));
            s.key(0, 0, 2, 1, 1);
            due(1 / 3.0, s.mean(0, 0, 2));
            due(1 / 301.0, s.mean(0, 0, 300));
        });
        test("mean: from is not 0 to 100000, or to is not from to from + 300", () -> {
            KeyStage s = rising();
            due(0, s.mean(1, 0, 0));
            due(0, s.mean(1, 100000, 100300));
            // Each of 0 to 32 nine times, and four times 33.
            due((9 * 528 + 4 * 33) / 301.0, late().mean(0, 100000, 100300));
            badNumber(() -> s.mean(1, -1, 0));
            badNumber(() -> s.mean(1, 100001, 100001));
            badNumber(() -> s.mean(1, 1, 0));
            badNumber(() -> s.mean(1, 0, 301));
            badNumber(() -> s.mean(1, 100000, 100301));
        });
        test("mean: the sum of the greatest values is not too great", () -> {
            for (int sign = -1; sign <= 1; sign += 2) {
                KeyStage s = lay(withClip(2000), 0, is(0, 10000 * sign, 1));
                s.setBase(0, 10000 * sign);
                for (int strip = 0; strip < 10; strip++) {
                    s.addStrip(0, 0, 1, 0);
                    s.setBlend(strip, 0, 100, true, true);
                }
                due(110000 * sign, s.mean(0, 0, 300));
                due(110000 * sign, s.mean(0, 100000, 100300));
            }
        });
    }

    /** Property 1 is the time until 400, and falls to 0 from then to 800. */
    private static KeyStage rising() {
        return lay(withStrip(400, 0, 2, 2), 1, is(0, 0, 1), is(400, 400, 1));
    }

    /** Property 0 is 0 at 100000, and 1 more every 9 times from then on. */
    private static KeyStage late() {
        // At 100000 the tick is 11000: 1000 in the round 5.
        KeyStage s = lay(withStrip(2000, 1000, 9, 0), 0, is(1000, 0, 1), is(1100, 100, 1));
        s.setSpeed(0, 1, 9);
        return s;
    }

    /** Clip 0 is 10 long, with a cue 1 at 0, 2 and 3 at 4, and 4 at 10. */
    private static KeyStage meeting(int start, int rounds, int way) {
        KeyStage s = withStrip(10, start, rounds, way);
        s.cue(0, 0, 1);
        s.cue(0, 4, 2);
        s.cue(0, 4, 3);
        s.cue(0, 10, 4);
        return s;
    }

    private static void playing() {
        test("A strip meets each cue in each of its rounds: at the tick round * length and the time of the cue", () ->
                dueMet(meeting(20, 2, 0), 0, 100000,
                        is(20, 0, 0, 1), is(24, 0, 0, 2), is(24, 0, 0, 3), is(30, 0, 0, 4),
                        is(30, 0, 1, 1), is(34, 0, 1, 2), is(34, 0, 1, 3), is(40, 0, 1, 4)));
        test("In rounds that go backwards: the length less the time of the cue, and in the opposite order", () -> {
            dueMet(meeting(20, 2, 1), 0, 100000,
                    is(20, 0, 0, 4), is(26, 0, 0, 3), is(26, 0, 0, 2), is(30, 0, 0, 1),
                    is(30, 0, 1, 4), is(36, 0, 1, 3), is(36, 0, 1, 2), is(40, 0, 1, 1));
            dueMet(meeting(20, 3, 2), 0, 100000,
                    is(20, 0, 0, 1), is(24, 0, 0, 2), is(24, 0, 0, 3), is(30, 0, 0, 4),
                    is(30, 0, 1, 4), is(36, 0, 1, 3), is(36, 0, 1, 2), is(40, 0, 1, 1),
                    is(40, 0, 2, 1), is(44, 0, 2, 2), is(44, 0, 2, 3), is(50, 0, 2, 4));
        });
        test("At the first time T for which (T - start) * p / q is not less than this tick", () -> {
            int[][] cases = {
                // p, q, and the times for the ticks 0, 4, 10, 14 and 20
                is(1, 1, 20, 24, 30, 34, 40), is(3, 1, 20, 22, 24, 25, 27), is(4, 1, 20, 21, 23, 24, 25),
                is(9, 1, 20, 21, 22, 22, 23), is(1, 9, 20, 56, 110, 146, 200), is(2, 3, 20, 26, 35, 41, 50),
                is(3, 2, 20, 23, 27, 30, 34), is(9, 8, 20, 24, 29, 33, 38), is(8, 9, 20, 25, 32, 36, 43),
            };
            for (int[] c : cases) {
                KeyStage s = meeting(20, 2, 0);
                due(c[6], s.setSpeed(0, c[0], c[1]));
                dueMet(s, 20, c[6], is(c[2], 0, 0, 1), is(c[3], 0, 0, 2), is(c[3], 0, 0, 3), is(c[4], 0, 0, 4),
                        is(c[4], 0, 1, 1), is(c[5], 0, 1, 2), is(c[5], 0, 1, 3), is(c[6], 0, 1, 4));
            }
        });
        test("(A cue at the end of a round and one at the beginning of the next are both met)", () -> {
            dueMet(meeting(20, 2, 0), 30, 30, is(30, 0, 0, 4), is(30, 0, 1, 1));
            dueMet(meeting(20, 2, 1), 30, 30, is(30, 0, 0, 1), is(30, 0, 1, 4));
            dueMet(meeting(20, 3, 2), 30, 30, is(30, 0, 0, 4), is(30, 0, 1, 4));
            dueMet(meeting(20, 3, 2), 40, 40, is(40, 0, 1, 1), is(40, 0, 2, 1));
        });
        test("Each of its rounds: a cue at the end of the last round is met at the strip's end", () -> {
            KeyStage s = meeting(20, 1, 0);
            dueMet(s, 30, 100000, is(30, 0, 0, 4));
            dueMet(s, 31, 100000);
            s.setBlend(0, 0, 0, true, true);
            dueMet(s, 30, 100000, is(30, 0, 0, 4));
            due(22, s.setSpeed(0, 9, 1));
            dueMet(s, 22, 22, is(22, 0, 0, 4));
            dueMet(s, 23, 100000);
        });
        test("A strip meets each cue from its start on (at 0, and next to its start)", () -> {
            dueMet(meeting(0, 1, 0), 0, 0, is(0, 0, 0, 1));
            dueMet(meeting(20, 1, 0), 0, 19);
            dueMet(meeting(20, 1, 0), 20, 20, is(20, 0, 0, 1));
            dueMet(meeting(5000, 1, 1), 0, 5000, is(5000, 0, 0, 4));
        });
        test("play: at times from the first to the last one", () -> {
            KeyStage s = meeting(20, 1, 0);
            dueMet(s, 20, 24, is(20, 0, 0, 1), is(24, 0, 0, 2), is(24, 0, 0, 3));
            dueMet(s, 21, 24, is(24, 0, 0, 2), is(24, 0, 0, 3));
            dueMet(s, 24, 24, is(24, 0, 0, 2), is(24, 0, 0, 3));
            dueMet(s, 20, 23, is(20, 0, 0, 1));
            dueMet(s, 21, 23);
            dueMet(s, 25, 29);
            dueMet(s, 25, 30, is(30, 0, 0, 4));
        });
        test("play: from is not 0 to 100000, or to is not from to 100000", () -> {
            KeyStage s = meeting(0, 1, 0);
            due(1, s.play(0, 0));
            due(4, s.play(0, 100000));
            badNumber(() -> s.play(-1, 0));
            badNumber(() -> s.play(0, 100001));
            badNumber(() -> s.play(100001, 100001));
            badNumber(() -> s.play(1, 0));
            due(10, s.met(3, 0));
            due(0, s.play(100000, 100000));
        });
        test("play: to is at most 100000 (cues that are met then, and behind it)", () -> {
            KeyStage s = withStrip(2000, 1000, 9, 0);
            due(163000, s.setSpeed(0, 1, 9));
            s.cue(0, 1000, 5);
            s.cue(0, 1001, 6);
            due(11, s.play(0, 100000));
            due(100000, s.met(10, 0));
            due(5, s.met(10, 2));
            due(5, s.met(10, 3));
            dueMet(s, 100000, 100000, is(100000, 0, 5, 5));
            due(10, s.play(0, 99999));
        });
        test("In ascending order of times, of strips, of rounds, and as they stand in the clip", () -> {
            KeyStage s = withClip(2);
            s.cue(0, 0, 1);
            s.cue(0, 1, 2);
            s.cue(0, 1, 3);
            s.cue(0, 2, 4);
            s.addStrip(0, 10, 2, 0);
            s.addStrip(0, 10, 2, 1);
            s.setSpeed(0, 9, 1);
            s.setSpeed(1, 9, 1);
            s.setBlend(0, 9, 100, false, false);
            dueMet(s, 0, 100000, is(10, 0, 0, 1), is(10, 1, 0, 4),
                    is(11, 0, 0, 2), is(11, 0, 0, 3), is(11, 0, 0, 4),
                    is(11, 0, 1, 1), is(11, 0, 1, 2), is(11, 0, 1, 3), is(11, 0, 1, 4),
                    is(11, 1, 0, 3), is(11, 1, 0, 2), is(11, 1, 0, 1),
                    is(11, 1, 1, 4), is(11, 1, 1, 3), is(11, 1, 1, 2), is(11, 1, 1, 1));
        });
        test("Cues that no strip meets: no clips, no strips, no cues", () -> {
            KeyStage s = new KeyStage();
            dueMet(s, 0, 100000);
            s.addClip(10);
            s.cue(0, 0, 1);
            dueMet(s, 0, 100000);
            s.addClip(10);
            s.addStrip(1, 0, 9, 0);
            dueMet(s, 0, 100000);
            s.addStrip(0, 0, 1, 0);
            dueMet(s, 0, 100000, is(0, 1, 0, 1));
        });
    }

    /** One cue is met at each time from 0 to 215: the strips start at 144, 72 and 0, or the other way round. */
    private static KeyStage meetingAlways(boolean isUpwards) {
        KeyStage s = withClip(8);
        for (int i = 0; i < 8; i++) {
            s.cue(0, i, 50 + i);
        }
        for (int i = 0; i < 3; i++) {
            s.addStrip(0, 72 * (isUpwards ? i : 2 - i), 9, 0);
        }
        return s;
    }

    private static void notes() {
        test("What was noted before is gone", () -> {
            KeyStage s = meeting(20, 2, 0);
            due(8, s.play(0, 100000));
            due(1, s.play(40, 50));
            due(40, s.met(0, 0));
            noPlace(() -> s.met(1, 0));
            due(8, s.play(0, 100000));
            due(0, s.play(41, 50));
            noPlace(() -> s.met(0, 0));
        });
        test("What was noted stays until the next play, whatever is done with strips and clips", () -> {
            KeyStage s = meeting(20, 1, 0);
            due(4, s.play(0, 100));
            s.mirror(0);
            s.retime(0, 1, 2);
            s.setSpeed(0, 9, 1);
            s.removeStrip(0);
            int[][] notes = {is(20, 0, 0, 1), is(24, 0, 0, 2), is(24, 0, 0, 3), is(30, 0, 0, 4)};
            for (int i = 0; i < 4; i++) {
                for (int what = 0; what < 4; what++) {
                    due(notes[i][what], s.met(i, what));
                }
            }
            noPlace(() -> s.met(4, 0));
            due(0, s.play(0, 100));
            noPlace(() -> s.met(0, 0));
        });
        test("The first 100 are kept, all are counted", () -> {
            for (int i = 0; i < 2; i++) {
                KeyStage s = meetingAlways(i == 0);
                int[] counts = {99, 100, 101, 216};
                for (int count : counts) {
                    due(count, s.play(0, count - 1));
                    int kept = Math.min(count, 100);
                    for (int k = 0; k < kept; k += 7) {
                        dueNoteOf(s, k, k, i == 0);
                    }
                    dueNoteOf(s, kept - 1, kept - 1, i == 0);
                    noPlace(() -> s.met(kept, 0));
                }
                due(216, s.play(0, 100000));
                due(100, s.play(116, 215));
                dueNoteOf(s, 0, 116, i == 0);
                dueNoteOf(s, 99, 215, i == 0);
            }
        });
        test("The first 100 are kept: as many as can be met", () -> {
            KeyStage s = withClip(1);
            for (int i = 0; i < 8; i++) {
                s.cue(0, 0, i);
            }
            for (int i = 0; i < 10; i++) {
                s.addStrip(0, 0, 9, 0);
            }
            due(720, s.play(0, 100000));
            for (int i = 0; i < 100; i += 3) {
                due(i / 80, s.met(i, 0));
                due(i / 8 % 10, s.met(i, 1));
                due(i / 80, s.met(i, 2));
                due(i % 8, s.met(i, 3));
            }
            noPlace(() -> s.met(100, 0));
            noPlace(() -> s.met(719, 0));
        });
        test("met: there are not so many, index is 100 or more, or what is not 0 to 3", () -> {
            KeyStage s = meeting(20, 1, 0);
            noPlace(() -> s.met(0, 0));
            due(4, s.play(0, 100));
            due(20, s.met(0, 0));
            due(4, s.met(3, 3));
            noPlace(() -> s.met(-1, 0));
            noPlace(() -> s.met(4, 0));
            noPlace(() -> s.met(0, -1));
            noPlace(() -> s.met(0, 4));
            KeyStage many = meetingAlways(true);
            many.play(0, 100000);
            due(99, many.met(99, 0));
            noPlace(() -> many.met(100, 0));
            noPlace(() -> many.met(215, 0));
            noPlace(() -> many.met(99, 4));
        });
    }

    /** A note on a stage on which always one cue is met. */
    private static void dueNoteOf(KeyStage s, int index, int time, boolean isUpwards) {
        due(time, s.met(index, 0));
        due(isUpwards ? time / 72 : 2 - time / 72, s.met(index, 1));
        due(time % 72 / 8, s.met(index, 2));
        due(50 + time % 8, s.met(index, 3));
    }

    private static void digests() {
        test("A number d starts with 401 (a new object; what is played with nothing there)", () -> {
            KeyStage s = new KeyStage();
            dueDigest(new Digest().of(0, 0, 0, 0, 0, 0, 0), s);
            s.play(0, 100000);
            dueDigest(new Digest().of(0, 0, 0, 0, 0, 0, 0), s);
        });
        test("d becomes d * 31 + x, which wraps around as a 64-bit integer", () -> {
            int[] bases = {-10000, 10000, -1, 0};
            for (int base : bases) {
                KeyStage s = new KeyStage();
                Digest digest = new Digest();
                for (int property = 0; property < 4; property++) {
                    s.setBase(property, base);
                    digest.of(base);
                }
                // With one clip the digest goes beyond 64 bits for the first time.
                s.addClip(2000);
                dueDigest(digest.of(1, 2000, 0, 0, 0, 0, 0, 0, 0), s);
            }
        });
        test("The digest of all that there can be", () -> {
            KeyStage s = new KeyStage();
            Digest digest = new Digest();
            for (int property = 0; property < 4; property++) {
                s.setBase(property, 2500 * property - 10000);
                digest.of(2500 * property - 10000);
            }
            digest.of(6);
            for (int clip = 0; clip < 6; clip++) {
                fill(s, clip, digest);
            }
            digest.of(10);
            for (int strip = 0; strip < 10; strip++) {
                s.addStrip(strip % 6, 100 * strip, 1 + strip % 9, strip % 3);
                int end = 100 * strip + (20 + strip % 6) * (1 + strip % 9);
                digest.of(strip % 6, 100 * strip, end, 1 + strip % 9, strip % 3, 1, 1, 0, 100, 0, 0, 0, 0);
            }
            dueDigest(digest.of(0), s);
        });
        test("The number of cues that were noted, and for each one that is kept what met() tells", () -> {
            int[] counts = {0, 1, 99, 100, 101, 216};
            for (int count : counts) {
                KeyStage s = meetingAlways(true);
                Digest digest = new Digest().of(0, 0, 0, 0, 1, 8, 0, 0, 0, 0, 8);
                for (int i = 0; i < 8; i++) {
                    digest.of(i, 50 + i);
                }
                digest.of(3);
                for (int strip = 0; strip < 3; strip++) {
                    digest.of(0, 72 * strip, 72 * strip + 72, 9, 0, 1, 1, 0, 100, 0, 0, 0, 0);
                }
                due(count, count == 0 ? s.play(216, 300) : s.play(0, count - 1));
                digest.of(count);
                for (int i = 0; i < count && i < 100; i++) {
                    digest.of(i, i / 72, i % 72 / 8, 50 + i % 8);
                }
                dueDigest(digest, s);
            }
        });
        test("Asking changes nothing", () -> {
            KeyStage s = lay(meeting(20, 3, 2), 1, is(0, 5, 2), is(9, -5, 3));
            s.play(0, 40);
            long before = s.digest();
            s.clip(0, 2);
            s.keys(0, 1);
            s.keyOf(0, 1, 1, 2);
            s.trackAt(0, 1, 4);
            s.cueOf(0, 3, 1);
            s.strip(0, 2);
            s.stripAt(0, 25, true);
            s.stripAt(0, 25, false);
            s.end();
            s.at(1, 25);
            s.reaches(1, 0, 300, 6);
            s.mean(1, 0, 300);
            s.met(7, 0);
            asked++;
            if (s.digest() != before) {
                complain("the digest was " + before + " and is " + s.digest());
            }
        });
    }

    /** All keys and cues that a clip can have. */
    private static void fill(KeyStage s, int clip, Digest digest) {
        s.addClip(20 + clip);
        digest.of(20 + clip);
        for (int property = 0; property < 4; property++) {
            digest.of(16);
            for (int i = 0; i < 16; i++) {
                int value = 1000 * (i - 8) + 10 * property + clip;
                s.key(clip, property, i + property, value, (i + clip) % 5);
                digest.of(i + property, value, (i + clip) % 5);
            }
        }
        digest.of(8);
        for (int i = 0; i < 8; i++) {
            s.cue(clip, i / 2, 10 * i + clip);
            digest.of(i / 2, 10 * i + clip);
        }
    }

    private static void dueDigest(Digest want, KeyStage s) {
        asked++;
        long got = s.digest();
        if (want.wrapped() != got) {
            complain("due is the digest " + want.wrapped() + ", answered was " + got);
        }
    }

    /** The checksum without an end of its digits; it is wrapped around only when it is compared. */
    private static final class Digest {
        private BigInteger d = BigInteger.valueOf(401);

        Digest of(int... numbers) {
            for (int x : numbers) {
                d = d.multiply(BigInteger.valueOf(31)).add(BigInteger.valueOf(x));
            }
            return this;
        }

        long wrapped() {
            return d.longValue();
        }
    }
}
