/** Each promise of the document: ordinary calls, the edges that it names, and wrong calls. */
public final class PromiseTest {
    private static final int LEAST = Integer.MIN_VALUE;
    private static final int GREATEST = Integer.MAX_VALUE;

    private interface Call {
        double answer();
    }

    private static int promise;
    private static int wrong;
    private static int asked;

    public static void main(String[] args) {
        promise1();
        promise2();
        promise3();
        promise4();
        promise5();
        promise6();
        promise7();
        promise8();
        promise8Rounding();
        promise9();
        promise10();
        promise11();
        promise12();
        promise13();
        promise14();
        promise15();
        promise16();
        promise17();
        promise18();
        promise19();
        promise20();
        promise21Local();
        promise21Strength();
        promise22();
        promise23();
        promise24();
        promise25();
        promise26();
        promise26Order();
        promise27();
        promise28();
        System.out.println(asked + " answers asked, " + wrong + " not as due");
        if (wrong != 0) {
            System.exit(1);
        }
    }

    private static void due(double want, double got) {
        asked++;
        if (want != got) {
            complain("due is " + want + ", answered was " + got);
        }
    }

    private static void dueDigest(long want, long got) {
        asked++;
        if (want != got) {
            complain("due is the digest " + want + ", answered was " + got);
        }
    }

    /** The call must throw exactly this, and change nothing. */
    private static void refused(Class<? extends RuntimeException> want, KeyStage stage, Call call) {
        asked++;
        long before = stage.digest();
        try {
            double got = call.answer();
            complain("due is " + want.getSimpleName() + ", answered was " + got);
        } catch (RuntimeException thrown) {
            if (thrown.getClass() != want) {
                complain("due is " + want.getSimpleName() + ", thrown was " + thrown);
            }
            StackTraceElement[] trace = thrown.getStackTrace();
            if (trace.length == 0 || !trace[0].getClassName().equals("KeyStage")) {
                complain("the machine or the library has thrown " + thrown);
            }
        }
        if (stage.digest() != before) {
            complain("a refused call changed something");
        }
    }

    private static void noPlace(KeyStage stage, Call call) {
        refused(IndexOutOfBoundsException.class, stage, call);
    }

    private static void badNumber(KeyStage stage, Call call) {
        refused(IllegalArgumentException.class, stage, call);
    }

    private static void badState(KeyStage stage, Call call) {
        refused(IllegalStateException.class, stage, call);
    }

    private static void complain(String text) {
        wrong++;
        StackTraceElement[] trace = new Throwable().getStackTrace();
        String line = "";
        for (StackTraceElement frame : trace) {
            if (frame.getMethodName().startsWith("promise")) {
                line = frame.getMethodName() + ", line " + frame.getLineNumber();
                break;
            }
        }
        System.out.println("promise " + promise + " (" + line + "): " + text);
    }

    private static KeyStage withClip(int length) {
        KeyStage stage = new KeyStage();
        stage.addClip(length);
        return stage;
    }

    private static void dueKey(KeyStage s, int property, int index, int time, int value, int ease) {
        due(time, s.keyOf(0, property, index, 0));
        due(value, s.keyOf(0, property, index, 1));
        due(ease, s.keyOf(0, property, index, 2));
    }

    private static void dueCue(KeyStage s, int index, int time, int number) {
        due(time, s.cueOf(0, index, 0));
        due(number, s.cueOf(0, index, 1));
    }

    private static void dueMet(KeyStage s, int index, int time, int strip, int round, int number) {
        due(time, s.met(index, 0));
        due(strip, s.met(index, 1));
        due(round, s.met(index, 2));
        due(number, s.met(index, 3));
    }

    private static void promise1() {
        promise = 1;
        KeyStage s = new KeyStage();
        due(0, s.end());
        for (int property = 0; property < 4; property++) {
            due(0, s.at(property, 0));
            due(0, s.at(property, 100000));
        }
        due(0, s.play(0, 100000));
        noPlace(s, () -> s.clip(0, 0));
        noPlace(s, () -> s.strip(0, 0));
        noPlace(s, () -> s.met(0, 0));
        KeyStage other = withClip(7);
        due(0, s.addClip(5));
        due(7, other.clip(0, 0));
        due(5, s.clip(0, 0));
    }

    private static void promise2() {
        promise = 2;
        KeyStage s = new KeyStage();
        badNumber(s, () -> s.addClip(0));
        badNumber(s, () -> s.addClip(2001));
        badNumber(s, () -> s.addClip(-1));
        badNumber(s, () -> s.addClip(LEAST));
        badNumber(s, () -> s.addClip(GREATEST));
        due(0, s.addClip(1));
        due(1, s.addClip(2000));
        for (int i = 2; i < 6; i++) {
            due(i, s.addClip(10 * i));
        }
        badState(s, () -> s.addClip(10));
        badNumber(s, () -> s.addClip(0));
        due(1, s.clip(0, 0));
        due(2000, s.clip(1, 0));
        due(50, s.clip(5, 0));
    }

    private static void promise3() {
        promise = 3;
        KeyStage s = withClip(30);
        due(30, s.clip(0, 0));
        due(0, s.clip(0, 1));
        due(0, s.clip(0, 2));
        s.cue(0, 3, 3);
        s.cue(0, 3, 3);
        s.key(0, 0, 1, 1, 1);
        s.key(0, 3, 1, 1, 1);
        s.key(0, 3, 2, 1, 1);
        due(30, s.clip(0, 0));
        due(2, s.clip(0, 1));
        due(3, s.clip(0, 2));
        s.addClip(4);
        due(0, s.clip(1, 2));
        noPlace(s, () -> s.clip(2, 0));
        noPlace(s, () -> s.clip(-1, 0));
        noPlace(s, () -> s.clip(0, 3));
        noPlace(s, () -> s.clip(0, -1));
        noPlace(s, () -> s.clip(GREATEST, LEAST));
    }

    private static void promise4() {
        promise = 4;
        KeyStage s = withClip(100);
        due(1, s.key(0, 2, 50, -10000, 4));
        due(2, s.key(0, 2, 0, 10000, 0));
        due(3, s.key(0, 2, 100, 7, 3));
        due(4, s.key(0, 2, 49, 8, 2));
        due(1, s.key(0, 3, 49, 8, 2));
        due(1, s.key(0, 3, 49, 9, 3));
        dueKey(s, 3, 0, 49, 9, 3);
        dueKey(s, 2, 0, 0, 10000, 0);
        dueKey(s, 2, 1, 49, 8, 2);
        dueKey(s, 2, 2, 50, -10000, 4);
        dueKey(s, 2, 3, 100, 7, 3);
        due(4, s.key(0, 2, 49, -8, 1));
        dueKey(s, 2, 1, 49, -8, 1);
        dueKey(s, 2, 2, 50, -10000, 4);
        for (int i = 5; i <= 16; i++) {
            due(i, s.key(0, 2, i, i, 1));
        }
        badState(s, () -> s.key(0, 2, 99, 0, 1));
        due(16, s.key(0, 2, 16, 1000, 3));
        dueKey(s, 2, 12, 16, 1000, 3);
        badNumber(s, () -> s.key(0, 2, 101, 0, 1));
        badNumber(s, () -> s.key(0, 2, -1, 0, 1));
        badNumber(s, () -> s.key(0, 2, 99, 10001, 1));
        badNumber(s, () -> s.key(0, 2, 99, -10001, 1));
        badNumber(s, () -> s.key(0, 2, 99, LEAST, 1));
        badNumber(s, () -> s.key(0, 2, 99, 0, 5));
        badNumber(s, () -> s.key(0, 2, 99, 0, -1));
        noPlace(s, () -> s.key(1, 2, -1, 0, 1));
        noPlace(s, () -> s.key(-1, 2, 1, 0, 1));
        noPlace(s, () -> s.key(0, 4, 1, 0, 9));
        noPlace(s, () -> s.key(0, -1, 1, 0, 1));
    }

    private static void promise5() {
        promise = 5;
        KeyStage s = withClip(100);
        noPlace(s, () -> s.unkey(0, 1, 0));
        s.key(0, 1, 10, 1, 1);
        s.key(0, 1, 20, 2, 2);
        s.key(0, 1, 30, 3, 3);
        noPlace(s, () -> s.unkey(0, 1, 3));
        noPlace(s, () -> s.unkey(0, 1, -1));
        noPlace(s, () -> s.unkey(0, 0, 0));
        noPlace(s, () -> s.unkey(0, 4, 0));
        noPlace(s, () -> s.unkey(0, -1, 0));
        noPlace(s, () -> s.unkey(1, 1, 0));
        due(2, s.unkey(0, 1, 1));
        dueKey(s, 1, 0, 10, 1, 1);
        dueKey(s, 1, 1, 30, 3, 3);
        due(1, s.unkey(0, 1, 0));
        dueKey(s, 1, 0, 30, 3, 3);
        due(0, s.unkey(0, 1, 0));
        due(0, s.keys(0, 1));
        for (int i = 0; i < 16; i++) {
            s.key(0, 1, i, i, 1);
        }
        due(15, s.unkey(0, 1, 15));
        due(16, s.key(0, 1, 99, 4, 4));
        due(15, s.unkey(0, 1, 0));
        dueKey(s, 1, 14, 99, 4, 4);
    }

    private static void promise6() {
        promise = 6;
        KeyStage s = withClip(100);
        due(0, s.keys(0, 0));
        s.key(0, 0, 5, 5, 1);
        s.key(0, 0, 6, 5, 1);
        s.key(0, 3, 6, 5, 1);
        due(2, s.keys(0, 0));
        due(0, s.keys(0, 1));
        due(1, s.keys(0, 3));
        noPlace(s, () -> s.keys(0, 4));
        noPlace(s, () -> s.keys(0, -1));
        noPlace(s, () -> s.keys(1, 0));
        noPlace(s, () -> s.keys(-1, 0));
    }

    private static void promise7() {
        promise = 7;
        KeyStage s = withClip(100);
        s.key(0, 0, 40, -4, 3);
        s.key(0, 0, 20, 2, 0);
        dueKey(s, 0, 0, 20, 2, 0);
        dueKey(s, 0, 1, 40, -4, 3);
        noPlace(s, () -> s.keyOf(0, 0, 2, 0));
        noPlace(s, () -> s.keyOf(0, 0, -1, 0));
        noPlace(s, () -> s.keyOf(0, 0, 0, 3));
        noPlace(s, () -> s.keyOf(0, 0, 0, -1));
        noPlace(s, () -> s.keyOf(0, 1, 0, 0));
        noPlace(s, () -> s.keyOf(0, 4, 0, 0));
        noPlace(s, () -> s.keyOf(1, 0, 0, 0));
        s.unkey(0, 0, 1);
        noPlace(s, () -> s.keyOf(0, 0, 1, 0));
    }

    private static void promise8() {
        promise = 8;
        KeyStage s = withClip(60);
        s.key(0, 0, 5, -50, 0);
        s.key(0, 0, 10, 0, 1);
        s.key(0, 0, 20, 100, 2);
        s.key(0, 0, 30, 200, 3);
        s.key(0, 0, 40, 300, 4);
        s.key(0, 0, 50, 400, 1);
        due(-50, s.trackAt(0, 0, 0));
        due(-50, s.trackAt(0, 0, 5));
        due(-50, s.trackAt(0, 0, 9));
        due(0, s.trackAt(0, 0, 10));
        due(30, s.trackAt(0, 0, 13));
        due(100, s.trackAt(0, 0, 20));
        due(109, s.trackAt(0, 0, 23));
        due(200, s.trackAt(0, 0, 30));
        due(251, s.trackAt(0, 0, 33));
        due(322, s.trackAt(0, 0, 43));
        due(350, s.trackAt(0, 0, 45));
        due(400, s.trackAt(0, 0, 50));
        due(400, s.trackAt(0, 0, 60));
        badNumber(s, () -> s.trackAt(0, 0, 61));
        badNumber(s, () -> s.trackAt(0, 0, -1));
        badNumber(s, () -> s.trackAt(0, 1, 61));
        badState(s, () -> s.trackAt(0, 1, 60));
        noPlace(s, () -> s.trackAt(0, 4, 61));
        noPlace(s, () -> s.trackAt(0, -1, 0));
        noPlace(s, () -> s.trackAt(1, 0, 0));
        s.key(0, 1, 30, 9, 2);
        due(9, s.trackAt(0, 1, 0));
        due(9, s.trackAt(0, 1, 60));
    }

    private static void promise8Rounding() {
        KeyStage s = withClip(2000);
        s.key(0, 0, 0, 0, 1);
        s.key(0, 0, 2, 1, 1);
        s.key(0, 0, 4, 0, 1);
        due(1, s.trackAt(0, 0, 1));
        due(1, s.trackAt(0, 0, 3));
        s.key(0, 1, 0, 0, 1);
        s.key(0, 1, 2, -1, 1);
        s.key(0, 1, 5, -2, 1);
        due(0, s.trackAt(0, 1, 1));
        due(-1, s.trackAt(0, 1, 3));
        due(-2, s.trackAt(0, 1, 4));
        s.key(0, 2, 0, -10000, 4);
        s.key(0, 2, 2000, 10000, 4);
        due(-10000, s.trackAt(0, 2, 1));
        due(-6875, s.trackAt(0, 2, 500));
        due(0, s.trackAt(0, 2, 1000));
        due(10000, s.trackAt(0, 2, 1999));
        s.key(0, 3, 0, 10000, 2);
        s.key(0, 3, 2000, -10000, 2);
        due(10000, s.trackAt(0, 3, 10));
        due(9999, s.trackAt(0, 3, 11));
        due(-9980, s.trackAt(0, 3, 1999));
        s.key(0, 3, 0, 10000, 3);
        due(9980, s.trackAt(0, 3, 1));
        due(-5000, s.trackAt(0, 3, 1000));
    }

    private static void promise9() {
        promise = 9;
        KeyStage s = withClip(20);
        due(1, s.cue(0, 10, 0));
        due(2, s.cue(0, 20, 99));
        due(3, s.cue(0, 0, 1));
        due(4, s.cue(0, 10, 2));
        due(5, s.cue(0, 10, 2));
        due(6, s.cue(0, 0, 3));
        badNumber(s, () -> s.cue(0, 21, 0));
        badNumber(s, () -> s.cue(0, -1, 0));
        badNumber(s, () -> s.cue(0, 0, 100));
        badNumber(s, () -> s.cue(0, 0, -1));
        due(7, s.cue(0, 5, 4));
        due(8, s.cue(0, 20, 5));
        badState(s, () -> s.cue(0, 1, 1));
        badNumber(s, () -> s.cue(0, 1, 100));
        noPlace(s, () -> s.cue(1, 100, 100));
        noPlace(s, () -> s.cue(-1, 1, 1));
        int[] times = {0, 0, 5, 10, 10, 10, 20, 20};
        int[] numbers = {1, 3, 4, 0, 2, 2, 99, 5};
        for (int i = 0; i < 8; i++) {
            dueCue(s, i, times[i], numbers[i]);
        }
    }

    private static void promise10() {
        promise = 10;
        KeyStage s = withClip(20);
        noPlace(s, () -> s.cueOf(0, 0, 0));
        s.cue(0, 12, 34);
        s.cue(0, 11, 35);
        dueCue(s, 0, 11, 35);
        dueCue(s, 1, 12, 34);
        noPlace(s, () -> s.cueOf(0, 2, 0));
        noPlace(s, () -> s.cueOf(0, -1, 0));
        noPlace(s, () -> s.cueOf(0, 0, 2));
        noPlace(s, () -> s.cueOf(0, 0, -1));
        noPlace(s, () -> s.cueOf(1, 0, 0));
        noPlace(s, () -> s.cueOf(-1, 0, 0));
    }

    private static void promise11() {
        promise = 11;
        KeyStage s = withClip(100);
        s.key(0, 0, 0, 1, 0);
        s.key(0, 0, 10, 2, 2);
        s.key(0, 0, 30, 3, 3);
        s.key(0, 0, 60, 4, 4);
        s.key(0, 0, 90, 5, 0);
        s.key(0, 1, 40, 6, 2);
        s.cue(0, 0, 10);
        s.cue(0, 30, 11);
        s.cue(0, 30, 12);
        s.cue(0, 100, 13);
        s.key(0, 3, 10, 0, 2);
        s.key(0, 3, 20, 1, 4);
        due(100, s.mirror(0));
        dueKey(s, 3, 0, 80, 1, 3);
        dueKey(s, 3, 1, 90, 0, 1);
        due(5, s.keys(0, 0));
        dueKey(s, 0, 0, 10, 5, 4);
        dueKey(s, 0, 1, 40, 4, 2);
        dueKey(s, 0, 2, 70, 3, 3);
        dueKey(s, 0, 3, 90, 2, 0);
        dueKey(s, 0, 4, 100, 1, 1);
        due(1, s.keys(0, 1));
        dueKey(s, 1, 0, 60, 6, 1);
        due(0, s.keys(0, 2));
        dueCue(s, 0, 0, 13);
        dueCue(s, 1, 70, 12);
        dueCue(s, 2, 70, 11);
        dueCue(s, 3, 100, 10);
        s.mirror(0);
        dueKey(s, 0, 1, 10, 2, 2);
        dueKey(s, 0, 4, 90, 5, 1);
        dueCue(s, 1, 30, 11);
        noPlace(s, () -> s.mirror(1));
        noPlace(s, () -> s.mirror(-1));
    }

    private static void promise12() {
        promise = 12;
        KeyStage s = withClip(10);
        s.key(0, 0, 0, 1, 2);
        s.key(0, 0, 3, 2, 3);
        s.key(0, 0, 10, 3, 4);
        s.key(0, 1, 4, 3, 4);
        s.cue(0, 5, 1);
        s.cue(0, 4, 2);
        due(6, s.retime(0, 2, 3));
        dueKey(s, 0, 0, 0, 1, 2);
        dueKey(s, 0, 1, 2, 2, 3);
        dueKey(s, 0, 2, 6, 3, 4);
        dueKey(s, 1, 0, 2, 3, 4);
        dueCue(s, 0, 2, 2);
        dueCue(s, 1, 3, 1);
        badState(s, () -> s.retime(0, 1, 3));
        badState(s, () -> s.retime(0, 1, 7));
        s.unkey(0, 0, 0);
        due(2, s.retime(0, 1, 3));
        dueCue(s, 0, 0, 2);
        dueCue(s, 1, 1, 1);
        due(40, s.retime(0, 20, 1));
        due(800, s.retime(0, 20, 1));
        due(2000, s.retime(0, 5, 2));
        badState(s, () -> s.retime(0, 20, 19));
        badNumber(s, () -> s.retime(0, 0, 1));
        badNumber(s, () -> s.retime(0, 21, 1));
        badNumber(s, () -> s.retime(0, 1, 0));
        badNumber(s, () -> s.retime(0, 1, 21));
        badNumber(s, () -> s.retime(0, LEAST, GREATEST));
        noPlace(s, () -> s.retime(1, 0, 0));
        noPlace(s, () -> s.retime(-1, 1, 1));
        s.addClip(1);
        badState(s, () -> s.retime(1, 1, 2));
        due(1, s.retime(1, 20, 20));
        s.addClip(1999);
        badState(s, () -> s.retime(2, 20, 19));
        s.addStrip(2, 0, 1, 0);
        due(999, s.retime(2, 1, 2));
        due(999, s.strip(0, 2));
        s.addClip(9);
        s.key(3, 3, 2, 0, 1);
        s.key(3, 3, 4, 0, 1);
        s.key(3, 3, 5, 0, 1);
        badState(s, () -> s.retime(3, 3, 4));
        due(7, s.retime(3, 4, 5));
        due(4, s.keyOf(3, 3, 2, 0));
    }

    private static void promise13() {
        promise = 13;
        KeyStage s = withClip(100);
        due(0, s.reduce(0, 0, 1000));
        s.key(0, 0, 0, 0, 1);
        due(1, s.reduce(0, 0, 1000));
        s.key(0, 0, 10, 0, 1);
        due(2, s.reduce(0, 0, 1000));
        s.key(0, 0, 20, 6, 1);
        s.key(0, 0, 30, 12, 1);
        badNumber(s, () -> s.reduce(0, 0, -1));
        badNumber(s, () -> s.reduce(0, 0, 1001));
        noPlace(s, () -> s.reduce(0, 4, -1));
        noPlace(s, () -> s.reduce(0, -1, 0));
        noPlace(s, () -> s.reduce(1, 0, 0));
        // Without the key at 20 the value at 10 would be 4, and it was 0 at the beginning.
        due(3, s.reduce(0, 0, 3));
        dueKey(s, 0, 0, 0, 0, 1);
        dueKey(s, 0, 1, 20, 6, 1);
        dueKey(s, 0, 2, 30, 12, 1);
        due(2, s.reduce(0, 0, 3));
        s.key(0, 0, 10, 4, 1);
        s.key(0, 0, 20, 8, 1);
        s.key(0, 0, 30, 13, 1);
        due(3, s.reduce(0, 0, 0));
        dueKey(s, 0, 1, 20, 8, 1);
        s.key(0, 1, 0, 5, 0);
        s.key(0, 1, 10, 5, 1);
        s.key(0, 1, 20, 9, 4);
        due(3, s.reduce(0, 1, 3));
        due(2, s.reduce(0, 1, 4));
        dueKey(s, 1, 0, 0, 5, 0);
        dueKey(s, 1, 1, 20, 9, 4);
        for (int i = 0; i < 16; i++) {
            s.key(0, 2, 2 * i, i == 3 || i == 9 ? 1001 : 0, 1);
        }
        // The key at 16 stays: without it 1001 would go on from 6 to 18, and at 8 it was 0.
        due(5, s.reduce(0, 2, 1000));
        int[] left = {0, 6, 16, 18, 30};
        for (int i = 0; i < left.length; i++) {
            due(left[i], s.keyOf(0, 2, i, 0));
        }
        due(6, s.key(0, 2, 100, 77, 2));
        due(7, s.key(0, 2, 20, 78, 3));
        dueKey(s, 2, 4, 20, 78, 3);
        dueKey(s, 2, 6, 100, 77, 2);
        s.mirror(0);
        dueKey(s, 2, 0, 0, 77, 1);
        dueKey(s, 2, 1, 70, 0, 2);
        dueKey(s, 2, 2, 80, 78, 1);
    }

    private static void promise14() {
        promise = 14;
        KeyStage s = new KeyStage();
        due(0, s.setBase(0, 10000));
        due(10000, s.setBase(0, -10000));
        due(-10000, s.setBase(0, 5));
        due(0, s.setBase(3, 6));
        due(5, s.at(0, 0));
        due(0, s.at(1, 0));
        due(6, s.at(3, 99));
        badNumber(s, () -> s.setBase(0, 10001));
        badNumber(s, () -> s.setBase(0, -10001));
        badNumber(s, () -> s.setBase(0, LEAST));
        noPlace(s, () -> s.setBase(4, 10001));
        noPlace(s, () -> s.setBase(-1, 0));
        due(5, s.at(0, 0));
    }

    private static void promise15() {
        promise = 15;
        KeyStage s = withClip(20);
        noPlace(s, () -> s.addStrip(1, -1, 0, 3));
        noPlace(s, () -> s.addStrip(-1, 0, 1, 0));
        badNumber(s, () -> s.addStrip(0, -1, 1, 0));
        badNumber(s, () -> s.addStrip(0, 5001, 1, 0));
        badNumber(s, () -> s.addStrip(0, 0, 0, 0));
        badNumber(s, () -> s.addStrip(0, 0, 10, 0));
        badNumber(s, () -> s.addStrip(0, 0, 1, -1));
        badNumber(s, () -> s.addStrip(0, 0, 1, 3));
        due(0, s.addStrip(0, 5000, 9, 2));
        int[] facts = {0, 5000, 5180, 9, 2, 1, 1, 0, 100, 0, 0, 0, 0};
        for (int what = 0; what < facts.length; what++) {
            due(facts[what], s.strip(0, what));
        }
        for (int i = 1; i < 10; i++) {
            due(i, s.addStrip(0, i, 1, 1));
        }
        badState(s, () -> s.addStrip(0, 0, 1, 0));
        badNumber(s, () -> s.addStrip(0, 0, 1, 3));
        noPlace(s, () -> s.addStrip(1, 0, 1, 0));
        s.removeStrip(4);
        due(9, s.addStrip(0, 77, 1, 0));
        due(77, s.strip(9, 1));
    }

    private static void promise16() {
        promise = 16;
        KeyStage s = withClip(20);
        noPlace(s, () -> s.removeStrip(0));
        for (int i = 0; i < 4; i++) {
            s.addStrip(0, 100 * i, 1, 0);
        }
        s.setBlend(2, 5, 55, true, true);
        noPlace(s, () -> s.removeStrip(4));
        noPlace(s, () -> s.removeStrip(-1));
        due(3, s.removeStrip(1));
        due(0, s.strip(0, 1));
        due(200, s.strip(1, 1));
        due(55, s.strip(1, 8));
        due(300, s.strip(2, 1));
        noPlace(s, () -> s.strip(3, 1));
        due(2, s.removeStrip(2));
        due(1, s.removeStrip(0));
        due(200, s.strip(0, 1));
        due(0, s.removeStrip(0));
        due(0, s.end());
    }

    private static void promise17() {
        promise = 17;
        KeyStage s = withClip(10);
        s.addStrip(0, 5, 3, 0);
        due(14, s.setSpeed(0, 7, 2));
        due(7, s.strip(0, 5));
        due(2, s.strip(0, 6));
        due(275, s.setSpeed(0, 1, 9));
        due(9, s.setSpeed(0, 9, 1));
        due(35, s.setSpeed(0, 9, 9));
        badNumber(s, () -> s.setSpeed(0, 0, 1));
        badNumber(s, () -> s.setSpeed(0, 10, 1));
        badNumber(s, () -> s.setSpeed(0, 1, 0));
        badNumber(s, () -> s.setSpeed(0, 1, 10));
        noPlace(s, () -> s.setSpeed(1, 0, 0));
        noPlace(s, () -> s.setSpeed(-1, 1, 1));
        due(35, s.strip(0, 2));
        s.addClip(2000);
        s.addStrip(1, 5000, 9, 0);
        due(167000, s.setSpeed(1, 1, 9));
    }

    private static void promise18() {
        promise = 18;
        KeyStage s = withClip(10);
        s.addStrip(0, 5, 3, 0);
        due(0, s.setBlend(0, 9, 0, true, false));
        due(9, s.setBlend(0, 4, 100, false, true));
        due(4, s.strip(0, 7));
        due(100, s.strip(0, 8));
        due(0, s.strip(0, 9));
        due(1, s.strip(0, 10));
        due(4, s.setBlend(0, 0, 0, true, false));
        due(0, s.strip(0, 8));
        due(1, s.strip(0, 9));
        due(0, s.strip(0, 10));
        badNumber(s, () -> s.setBlend(0, 10, 1, false, true));
        badNumber(s, () -> s.setBlend(0, -1, 1, false, true));
        badNumber(s, () -> s.setBlend(0, 1, 101, false, true));
        badNumber(s, () -> s.setBlend(0, 1, -1, false, true));
        noPlace(s, () -> s.setBlend(1, 10, 1, false, true));
        noPlace(s, () -> s.setBlend(-1, 1, 1, false, true));
    }

    private static void promise19() {
        promise = 19;
        KeyStage s = withClip(10);
        s.addStrip(0, 5, 3, 0);
        due(0, s.setFade(0, 2000, 7));
        due(2000, s.strip(0, 11));
        due(7, s.strip(0, 12));
        due(2000, s.setFade(0, 8, 2000));
        due(8, s.setFade(0, 0, 0));
        due(0, s.strip(0, 12));
        badNumber(s, () -> s.setFade(0, -1, 1));
        badNumber(s, () -> s.setFade(0, 2001, 1));
        badNumber(s, () -> s.setFade(0, 1, -1));
        badNumber(s, () -> s.setFade(0, 1, 2001));
        noPlace(s, () -> s.setFade(1, -1, 1));
        noPlace(s, () -> s.setFade(-1, 1, 1));
    }

    private static void promise20() {
        promise = 20;
        KeyStage s = withClip(10);
        s.addClip(7);
        noPlace(s, () -> s.strip(0, 0));
        s.addStrip(1, 6, 3, 1);
        s.setSpeed(0, 5, 4);
        s.setBlend(0, 8, 42, true, true);
        s.setFade(0, 11, 12);
        int[] facts = {1, 6, 23, 3, 1, 5, 4, 8, 42, 1, 1, 11, 12};
        for (int what = 0; what < facts.length; what++) {
            due(facts[what], s.strip(0, what));
        }
        s.retime(1, 2, 1);
        due(40, s.strip(0, 2));
        noPlace(s, () -> s.strip(0, 13));
        noPlace(s, () -> s.strip(0, -1));
        noPlace(s, () -> s.strip(1, 0));
        noPlace(s, () -> s.strip(-1, 0));
    }

    private static void promise21Local() {
        promise = 21;
        KeyStage s = withClip(10);
        s.addStrip(0, 100, 3, 0);
        s.addStrip(0, 100, 3, 1);
        s.addStrip(0, 100, 3, 2);
        due(-1, s.stripAt(0, 99, true));
        due(0, s.stripAt(0, 100, true));
        due(9, s.stripAt(0, 109, true));
        due(0, s.stripAt(0, 110, true));
        due(9, s.stripAt(0, 129, true));
        due(-1, s.stripAt(0, 130, true));
        due(10, s.stripAt(1, 100, true));
        due(1, s.stripAt(1, 109, true));
        due(10, s.stripAt(1, 110, true));
        due(1, s.stripAt(1, 129, true));
        due(9, s.stripAt(2, 109, true));
        due(10, s.stripAt(2, 110, true));
        due(1, s.stripAt(2, 119, true));
        due(0, s.stripAt(2, 120, true));
        for (int strip = 0; strip < 3; strip++) {
            s.setBlend(strip, 0, 100, false, true);
        }
        due(-1, s.stripAt(0, 99, true));
        due(10, s.stripAt(0, 130, true));
        due(10, s.stripAt(0, 100000, true));
        due(0, s.stripAt(1, 130, true));
        due(10, s.stripAt(2, 100000, true));
        s.setSpeed(0, 3, 2);
        due(1, s.stripAt(0, 101, true));
        due(3, s.stripAt(0, 102, true));
        due(0, s.stripAt(0, 107, true));
        due(8, s.stripAt(0, 119, true));
        due(10, s.stripAt(0, 120, true));
        s.addStrip(0, 100, 9, 2);
        due(2, s.stripAt(3, 122, true));
        due(8, s.stripAt(3, 132, true));
        due(2, s.stripAt(3, 142, true));
        due(8, s.stripAt(3, 152, true));
        due(2, s.stripAt(3, 182, true));
        badNumber(s, () -> s.stripAt(0, -1, true));
        badNumber(s, () -> s.stripAt(0, 100001, true));
        badNumber(s, () -> s.stripAt(0, LEAST, false));
        noPlace(s, () -> s.stripAt(4, -1, false));
        noPlace(s, () -> s.stripAt(-1, 0, true));
    }

    private static void promise21Strength() {
        KeyStage s = withClip(10);
        s.addStrip(0, 100, 2, 0);
        due(-1, s.stripAt(0, 99, false));
        due(100, s.stripAt(0, 100, false));
        due(100, s.stripAt(0, 119, false));
        due(-1, s.stripAt(0, 120, false));
        s.setBlend(0, 0, 75, false, false);
        s.setFade(0, 10, 4);
        due(0, s.stripAt(0, 100, false));
        due(8, s.stripAt(0, 101, false));
        due(68, s.stripAt(0, 109, false));
        due(75, s.stripAt(0, 110, false));
        due(75, s.stripAt(0, 116, false));
        due(56, s.stripAt(0, 117, false));
        due(38, s.stripAt(0, 118, false));
        due(19, s.stripAt(0, 119, false));
        s.setFade(0, 40, 40);
        due(0, s.stripAt(0, 100, false));
        due(17, s.stripAt(0, 109, false));
        due(19, s.stripAt(0, 110, false));
        due(17, s.stripAt(0, 111, false));
        s.setBlend(0, 0, 75, false, true);
        due(36, s.stripAt(0, 119, false));
        due(73, s.stripAt(0, 139, false));
        due(75, s.stripAt(0, 140, false));
        due(75, s.stripAt(0, 100000, false));
    }

    private static void promise22() {
        promise = 22;
        KeyStage s = withClip(10);
        due(0, s.end());
        s.addStrip(0, 100, 2, 0);
        due(120, s.end());
        s.addStrip(0, 0, 1, 0);
        due(120, s.end());
        s.addStrip(0, 110, 2, 0);
        due(130, s.end());
        s.setSpeed(1, 1, 9);
        due(130, s.end());
        s.setSpeed(0, 1, 2);
        due(140, s.end());
        s.setBlend(0, 0, 0, false, true);
        due(140, s.end());
        s.removeStrip(0);
        due(130, s.end());
        s.retime(0, 1, 2);
        due(120, s.end());
    }

    private static void promise23() {
        promise = 23;
        KeyStage s = withClip(10);
        s.setBase(0, 100);
        s.key(0, 0, 0, 200, 1);
        s.key(0, 0, 10, 300, 1);
        s.addStrip(0, 10, 1, 0);
        due(100, s.at(0, 9));
        due(200, s.at(0, 10));
        due(290, s.at(0, 19));
        due(100, s.at(0, 20));
        due(0, s.at(1, 15));
        s.setBlend(0, 0, 33, false, false);
        due(150, s.at(0, 15));
        s.setBlend(0, 0, 33, true, true);
        due(183, s.at(0, 15));
        due(199, s.at(0, 100000));
        s.setBase(0, -100);
        due(-17, s.at(0, 15));
        s.setBase(1, 7);
        s.addClip(4);
        s.key(1, 0, 0, 40, 0);
        s.addStrip(1, 12, 2, 0);
        s.setBlend(1, 0, 50, false, false);
        due(-31, s.at(0, 11));
        due(7, s.at(0, 12));
        due(7, s.at(1, 12));
        s.setBlend(0, 1, 33, true, true);
        due(43, s.at(0, 12));
        s.setBlend(1, 9, 50, false, false);
        due(7, s.at(0, 12));
        s.setBlend(1, 0, 0, false, false);
        due(-27, s.at(0, 12));
        badNumber(s, () -> s.at(0, -1));
        badNumber(s, () -> s.at(0, 100001));
        noPlace(s, () -> s.at(4, -1));
        noPlace(s, () -> s.at(-1, 0));
        KeyStage half = withClip(1);
        half.key(0, 0, 0, -1, 1);
        half.addStrip(0, 0, 1, 0);
        half.setBlend(0, 0, 50, true, true);
        due(0, half.at(0, 0));
        half.key(0, 0, 0, 1, 1);
        due(1, half.at(0, 0));
        half.setBlend(0, 0, 50, false, true);
        half.setBase(0, 2);
        due(2, half.at(0, 0));
    }

    private static void promise24() {
        promise = 24;
        KeyStage s = withClip(400);
        s.key(0, 1, 0, 0, 1);
        s.key(0, 1, 400, 400, 1);
        s.addStrip(0, 0, 2, 2);
        due(50, s.reaches(1, 0, 300, 50));
        due(60, s.reaches(1, 60, 300, 50));
        due(300, s.reaches(1, 0, 300, 300));
        due(-1, s.reaches(1, 0, 300, 301));
        due(-1, s.reaches(1, 10, 10, 11));
        due(10, s.reaches(1, 10, 10, 10));
        due(10, s.reaches(1, 10, 20, LEAST));
        due(-1, s.reaches(1, 10, 20, GREATEST));
        due(0, s.reaches(0, 0, 0, 0));
        due(100000, s.reaches(1, 100000, 100300, 0));
        due(100000, s.reaches(1, 100000, 100000, -1));
        badNumber(s, () -> s.reaches(1, -1, 0, 0));
        badNumber(s, () -> s.reaches(1, 100001, 100001, 0));
        badNumber(s, () -> s.reaches(1, 10, 9, 0));
        badNumber(s, () -> s.reaches(1, 10, 311, 0));
        badNumber(s, () -> s.reaches(1, GREATEST, GREATEST, 0));
        noPlace(s, () -> s.reaches(4, -1, 0, 0));
        noPlace(s, () -> s.reaches(-1, 0, 0, 0));
        s.setBlend(0, 0, 100, true, true);
        s.key(0, 1, 0, 5, 1);
        s.setBase(1, 1);
        due(100000, s.reaches(1, 100000, 100300, 6));
        due(-1, s.reaches(1, 100000, 100300, 7));
    }

    private static void promise25() {
        promise = 25;
        KeyStage s = withClip(400);
        s.key(0, 1, 0, 0, 1);
        s.key(0, 1, 400, 400, 1);
        s.addStrip(0, 0, 1, 0);
        due(150, s.mean(1, 0, 300));
        due(0.5, s.mean(1, 0, 1));
        due(7, s.mean(1, 7, 7));
        due(0, s.mean(0, 0, 300));
        due(0, s.mean(1, 100000, 100300));
        s.setBase(1, -10);
        due((399 - 10) / 2.0, s.mean(1, 399, 400));
        due((398 + 399 - 10) / 3.0, s.mean(1, 398, 400));
        due(-10.0, s.mean(1, 100000, 100300));
        badNumber(s, () -> s.mean(1, -1, 0));
        badNumber(s, () -> s.mean(1, 100001, 100001));
        badNumber(s, () -> s.mean(1, 10, 9));
        badNumber(s, () -> s.mean(1, 10, 311));
        badNumber(s, () -> s.mean(1, GREATEST, LEAST));
        noPlace(s, () -> s.mean(4, -1, 0));
        noPlace(s, () -> s.mean(-1, 0, 0));
    }

    private static void promise26() {
        promise = 26;
        KeyStage s = withClip(10);
        s.cue(0, 0, 1);
        s.cue(0, 4, 2);
        s.cue(0, 4, 3);
        s.cue(0, 10, 4);
        due(0, s.play(0, 100000));
        s.addStrip(0, 20, 2, 2);
        due(8, s.play(0, 100000));
        dueMet(s, 0, 20, 0, 0, 1);
        dueMet(s, 1, 24, 0, 0, 2);
        dueMet(s, 2, 24, 0, 0, 3);
        dueMet(s, 3, 30, 0, 0, 4);
        dueMet(s, 4, 30, 0, 1, 4);
        dueMet(s, 5, 36, 0, 1, 3);
        dueMet(s, 6, 36, 0, 1, 2);
        dueMet(s, 7, 40, 0, 1, 1);
        due(3, s.play(20, 24));
        due(2, s.play(21, 29));
        due(1, s.play(20, 20));
        due(4, s.play(25, 36));
        dueMet(s, 0, 30, 0, 0, 4);
        due(1, s.play(40, 100000));
        dueMet(s, 0, 40, 0, 1, 1);
        due(0, s.play(41, 100000));
        noPlace(s, () -> s.met(0, 0));
        s.setSpeed(0, 3, 1);
        due(8, s.play(20, 27));
        dueMet(s, 1, 22, 0, 0, 2);
        dueMet(s, 3, 24, 0, 0, 4);
        dueMet(s, 5, 26, 0, 1, 3);
        dueMet(s, 7, 27, 0, 1, 1);
        s.setSpeed(0, 1, 3);
        due(8, s.play(20, 80));
        dueMet(s, 1, 32, 0, 0, 2);
        badNumber(s, () -> s.play(-1, 0));
        badNumber(s, () -> s.play(100001, 100001));
        badNumber(s, () -> s.play(5, 4));
        badNumber(s, () -> s.play(5, 100001));
        due(80, s.met(7, 0));
        due(0, s.play(100000, 100000));
    }

    private static void promise26Order() {
        KeyStage s = withClip(2);
        for (int number = 0; number < 8; number++) {
            s.cue(0, number / 4, number);
        }
        s.addStrip(0, 1, 9, 0);
        s.addStrip(0, 0, 9, 1);
        s.setSpeed(0, 9, 1);
        due(144, s.play(0, 100));
        // Strip 1 meets its cues at 1 to 18, backwards; strip 0 at 1 to 3, several rounds at once.
        dueMet(s, 0, 1, 0, 0, 0);
        dueMet(s, 3, 1, 0, 0, 3);
        dueMet(s, 4, 1, 1, 0, 7);
        dueMet(s, 7, 1, 1, 0, 4);
        dueMet(s, 8, 2, 0, 0, 4);
        dueMet(s, 12, 2, 0, 1, 0);
        dueMet(s, 43, 2, 0, 4, 7);
        dueMet(s, 44, 2, 1, 0, 3);
        dueMet(s, 47, 2, 1, 0, 0);
        dueMet(s, 48, 3, 0, 5, 0);
        dueMet(s, 99, 7, 1, 3, 4);
        noPlace(s, () -> s.met(100, 0));
        s.setBlend(0, 9, 0, false, false);
        s.setBlend(1, 0, 0, false, true);
        due(144, s.play(1, 18));
        dueMet(s, 0, 1, 0, 0, 0);
        due(4, s.play(18, 18));
        dueMet(s, 0, 18, 1, 8, 3);
        // Those that come later may be met earlier: then the last of the first 100 are not kept.
        s.addStrip(0, 60, 9, 0);
        s.addStrip(0, 30, 9, 0);
        s.removeStrip(0);
        s.removeStrip(0);
        due(144, s.play(0, 100));
        dueMet(s, 0, 30, 1, 0, 0);
        dueMet(s, 71, 47, 1, 8, 7);
        dueMet(s, 72, 60, 0, 0, 0);
        dueMet(s, 99, 66, 0, 3, 3);
        noPlace(s, () -> s.met(100, 0));
    }

    private static void promise27() {
        promise = 27;
        KeyStage s = withClip(10);
        s.cue(0, 3, 5);
        noPlace(s, () -> s.met(0, 0));
        s.addStrip(0, 20, 3, 0);
        noPlace(s, () -> s.met(0, 0));
        s.play(0, 40);
        dueMet(s, 0, 23, 0, 0, 5);
        dueMet(s, 1, 33, 0, 1, 5);
        noPlace(s, () -> s.met(2, 0));
        noPlace(s, () -> s.met(-1, 0));
        noPlace(s, () -> s.met(0, 4));
        noPlace(s, () -> s.met(0, -1));
        noPlace(s, () -> s.met(GREATEST, LEAST));
        // What was noted stays as it was then.
        s.removeStrip(0);
        s.mirror(0);
        dueMet(s, 1, 33, 0, 1, 5);
        s.play(0, 40);
        noPlace(s, () -> s.met(0, 0));
    }

    private static long mixed(long... numbers) {
        long d = 401;
        for (long x : numbers) {
            d = d * 31 + x;
        }
        return d;
    }

    private static void promise28() {
        promise = 28;
        KeyStage s = new KeyStage();
        dueDigest(mixed(0, 0, 0, 0, 0, 0, 0), s.digest());
        s.setBase(0, 1);
        s.setBase(1, -2);
        s.setBase(2, 3);
        s.setBase(3, 4);
        s.addClip(10);
        s.addClip(20);
        s.key(0, 1, 6, 7, 2);
        s.key(0, 1, 5, -8, 3);
        s.key(0, 3, 9, 10, 0);
        s.cue(1, 11, 12);
        s.cue(1, 1, 13);
        s.addStrip(1, 100, 2, 1);
        s.setSpeed(0, 2, 3);
        s.setBlend(0, 4, 50, true, false);
        s.setFade(0, 14, 15);
        long first = mixed(1, -2, 3, 4, 2,
                10, 0, 2, 5, -8, 3, 6, 7, 2, 0, 1, 9, 10, 0, 0,
                20, 0, 0, 0, 0, 2, 1, 13, 11, 12,
                1, 1, 100, 160, 2, 1, 2, 3, 4, 50, 1, 0, 14, 15,
                0);
        dueDigest(first, s.digest());
        dueDigest(first, s.digest());
        due(2, s.play(0, 130));
        dueDigest(mixed(1, -2, 3, 4, 2,
                10, 0, 2, 5, -8, 3, 6, 7, 2, 0, 1, 9, 10, 0, 0,
                20, 0, 0, 0, 0, 2, 1, 13, 11, 12,
                1, 1, 100, 160, 2, 1, 2, 3, 4, 50, 1, 0, 14, 15,
                2, 114, 0, 0, 12, 129, 0, 0, 13), s.digest());
        KeyStage many = withClip(1);
        for (int i = 0; i < 8; i++) {
            many.cue(0, 0, 0);
        }
        many.addStrip(0, 0, 9, 0);
        many.addStrip(0, 0, 9, 0);
        due(144, many.play(0, 100));
        long d = mixed(0, 0, 0, 0, 1, 1, 0, 0, 0, 0, 8);
        for (int i = 0; i < 16; i++) {
            d = d * 31;
        }
        d = d * 31 + 2;
        for (int strip = 0; strip < 2; strip++) {
            for (long x : new long[] {0, 0, 9, 9, 0, 1, 1, 0, 100, 0, 0, 0, 0}) {
                d = d * 31 + x;
            }
        }
        d = d * 31 + 144;
        for (int i = 0; i < 100; i++) {
            for (int what = 0; what < 4; what++) {
                d = d * 31 + many.met(i, what);
            }
        }
        dueDigest(d, many.digest());
    }
}
