import java.math.BigInteger;
import java.util.ArrayList;
import java.util.Arrays;
import java.util.Collections;
import java.util.Comparator;
import java.util.List;
import java.util.Random;
import java.util.TreeMap;

/**
 * Long runs of calls, chosen by a fixed seed, on the class and on a slow model of the document
 * that goes by its words alone; each answer, exception and digest must be the same on both.
 */
public final class ModelTest {
    private static final int RUNS = 800;
    // After each call the digest is asked too, and nothing is promised after an object's 512th call.
    private static final int CALLS = 256;
    private static final int[] EDGES = {
        Integer.MIN_VALUE, Integer.MIN_VALUE + 1, -100001, -10001, -2, -1, 0, 1, 2, 3, 4, 5, 6, 8, 9, 10, 13, 16,
        20, 21, 99, 100, 101, 300, 301, 1000, 1001, 2000, 2001, 5000, 5001, 10000, 10001, 99999, 100000, 100001,
        100300, 100301, Integer.MAX_VALUE - 300, Integer.MAX_VALUE - 1, Integer.MAX_VALUE
    };
    private static final int KINDS = 27;

    public static void main(String[] args) {
        int wrong = 0;
        int[] answered = new int[KINDS];
        int[] refused = new int[KINDS];
        for (int run = 0; run < RUNS && wrong < 10; run++) {
            if (!sameInRun(run, answered, refused)) {
                wrong++;
            }
        }
        for (int kind = 0; kind < KINDS; kind++) {
            // A run of calls that never gets through, or is never refused, would show little.
            if (answered[kind] < 50 || refused[kind] < 50 && kind != 26) {
                System.out.println("kind " + kind + ": " + answered[kind] + " answers, " + refused[kind] + " refusals");
                wrong++;
            }
        }
        System.out.println(RUNS + " runs, " + wrong + " not as due");
        if (wrong != 0) {
            System.exit(1);
        }
    }

    private static boolean sameInRun(int run, int[] answered, int[] refused) {
        Random random = new Random(7000 + run);
        KeyStage stage = new KeyStage();
        Model model = new Model();
        // In some runs most numbers are in their bounds, in others many are not.
        int wildness = run % 4 == 0 ? 20 : run % 4 == 1 ? 4 : 1;
        for (int i = 0; i < CALLS; i++) {
            int kind = random.nextInt(i < 60 ? 12 : KINDS);
            int[] a = arguments(kind, random, wildness, model);
            String want = outcome(() -> model.call(kind, a));
            String got = outcomeOnStage(() -> onStage(stage, kind, a));
            long wantDigest = model.digest();
            long gotDigest = stage.digest();
            if (want.startsWith("throws")) {
                refused[kind]++;
            } else {
                answered[kind]++;
            }
            if (!want.equals(got) || wantDigest != gotDigest) {
                System.out.println("run " + run + ", call " + i + ": kind " + kind + " with " + Arrays.toString(a)
                        + " answered " + got + " (digest " + gotDigest + "), due is " + want
                        + " (digest " + wantDigest + ")");
                return false;
            }
        }
        return true;
    }

    private interface Call {
        double answer();
    }

    private static String outcome(Call call) {
        try {
            return Double.toString(call.answer());
        } catch (RuntimeException thrown) {
            return "throws " + thrown.getClass().getName();
        }
    }

    /** What the machine or the library throws by itself never counts as an answer. */
    private static String outcomeOnStage(Call call) {
        try {
            return Double.toString(call.answer());
        } catch (RuntimeException thrown) {
            StackTraceElement[] trace = thrown.getStackTrace();
            boolean isOwn = trace.length > 0 && trace[0].getClassName().equals("KeyStage");
            return (isOwn ? "throws " : "did not throw, but was hit by ") + thrown.getClass().getName();
        }
    }

    // The order of the kinds: those that build come first, as runs begin with them.
    private static double onStage(KeyStage s, int kind, int[] a) {
        switch (kind) {
            case 0: return s.addClip(a[0]);
            case 1: return s.key(a[0], a[1], a[2], a[3], a[4]);
            case 2: return s.key(a[0], a[1], a[2], a[3], a[4]);
            case 3: return s.key(a[0], a[1], a[2], a[3], a[4]);
            case 4: return s.cue(a[0], a[1], a[2]);
            case 5: return s.cue(a[0], a[1], a[2]);
            case 6: return s.setBase(a[0], a[1]);
            case 7: return s.addStrip(a[0], a[1], a[2], a[3]);
            case 8: return s.addStrip(a[0], a[1], a[2], a[3]);
            case 9: return s.setSpeed(a[0], a[1], a[2]);
            case 10: return s.setBlend(a[0], a[1], a[2], a[3] % 2 == 0, a[4] % 2 == 0);
            case 11: return s.setFade(a[0], a[1], a[2]);
            case 12: return s.clip(a[0], a[1]);
            case 13: return s.unkey(a[0], a[1], a[2]);
            case 14: return s.keys(a[0], a[1]);
            case 15: return s.keyOf(a[0], a[1], a[2], a[3]);
            case 16: return s.trackAt(a[0], a[1], a[2]);
            case 17: return s.cueOf(a[0], a[1], a[2]);
            case 18: return a[3] % 3 == 0 ? s.mirror(a[0]) : s.retime(a[0], a[1], a[2]);
            case 19: return s.reduce(a[0], a[1], a[2]);
            case 20: return a[3] % 4 == 0 ? s.removeStrip(a[0]) : s.strip(a[0], a[1]);
            case 21: return s.stripAt(a[0], a[1], a[2] % 2 == 0);
            case 22: return s.at(a[0], a[1]);
            case 23: return s.reaches(a[0], a[1], a[2], a[3]);
            case 24: return s.mean(a[0], a[1], a[2]);
            case 25: return a[3] % 3 == 0 ? s.play(a[0], a[1]) : s.met(a[1], a[2]);
            default: return s.end();
        }
    }

    private static int[] arguments(int kind, Random random, int wildness, Model model) {
        int[] a = tameArguments(kind, random, model);
        for (int i = 0; i < a.length; i++) {
            if (random.nextInt(100) < wildness) {
                a[i] = random.nextBoolean() ? EDGES[random.nextInt(EDGES.length)] : a[i] + random.nextInt(7) - 3;
            }
        }
        return a;
    }

    private static int[] tameArguments(int kind, Random r, Model model) {
        int clip = r.nextInt(Math.max(1, model.clips.size()));
        int strip = r.nextInt(Math.max(1, model.strips.size()));
        int length = model.clips.isEmpty() ? 10 : model.clips.get(clip).length;
        int property = r.nextInt(4) * r.nextInt(2);
        int time = r.nextInt(length + 1);
        int value = r.nextInt(3) == 0 ? r.nextInt(20001) - 10000 : r.nextInt(201) - 100;
        switch (kind) {
            case 0: return new int[] {1 + r.nextInt(r.nextInt(3) == 0 ? 2000 : 30)};
            case 1: case 2: case 3: return new int[] {clip, property, time, value, r.nextInt(5)};
            case 4: case 5: return new int[] {clip, time, r.nextInt(100)};
            case 6: return new int[] {property, value};
            case 7: case 8: return new int[] {clip, r.nextInt(r.nextBoolean() ? 60 : 5001), 1 + r.nextInt(9), r.nextInt(3)};
            case 9: return new int[] {strip, 1 + r.nextInt(9), 1 + r.nextInt(9)};
            case 10: return new int[] {strip, r.nextInt(r.nextBoolean() ? 3 : 10), r.nextInt(101), r.nextInt(2), r.nextInt(2)};
            case 11: return new int[] {strip, r.nextInt(r.nextBoolean() ? 50 : 2001), r.nextInt(r.nextBoolean() ? 50 : 2001)};
            case 12: return new int[] {clip, r.nextInt(3)};
            case 13: return new int[] {clip, property, r.nextInt(8)};
            case 14: return new int[] {clip, property};
            case 15: return new int[] {clip, property, r.nextInt(8), r.nextInt(3)};
            case 16: return new int[] {clip, property, time};
            case 17: return new int[] {clip, r.nextInt(8), r.nextInt(2)};
            case 18: return new int[] {clip, 1 + r.nextInt(20), 1 + r.nextInt(20), r.nextInt(6)};
            case 19: return new int[] {clip, property, r.nextInt(r.nextBoolean() ? 20 : 1001)};
            case 20: return new int[] {strip, r.nextInt(13), 0, r.nextInt(24)};
            case 21: return new int[] {strip, timeNear(r, model, strip), r.nextInt(2)};
            case 22: return new int[] {property, timeNear(r, model, strip)};
            case 23: case 24:
                int from = timeNear(r, model, strip);
                return new int[] {property, from, from + r.nextInt(301), value};
            case 25:
                int first = timeNear(r, model, strip);
                return r.nextBoolean()
                        ? new int[] {first, first + r.nextInt(Math.max(1, 100001 - first)), 0, 0}
                        : new int[] {0, r.nextInt(r.nextBoolean() ? 10 : 100), r.nextInt(4), 1};
            default: return new int[0];
        }
    }

    /** Mostly times at which the strip does something, and those next to its start and end. */
    private static int timeNear(Random r, Model model, int strip) {
        if (model.strips.isEmpty() || r.nextInt(8) == 0) {
            return r.nextInt(r.nextBoolean() ? 200 : 100001);
        }
        Model.Strip s = model.strips.get(strip);
        int end = model.end(s);
        int time = r.nextInt(4) == 0 ? (r.nextBoolean() ? s.start : end) - 1 + r.nextInt(3)
                : s.start + r.nextInt(end - s.start + 1);
        return Math.max(0, Math.min(100000, time));
    }

    /** The document, word by word: nothing is kept that can be worked out anew. */
    private static final class Model {
        static final class Key {
            final int value;
            final int ease;

            Key(int value, int ease) {
                this.value = value;
                this.ease = ease;
            }
        }

        static final class Clip {
            int length;
            final List<TreeMap<Integer, Key>> tracks = new ArrayList<>();
            List<int[]> cues = new ArrayList<>();

            Clip(int length) {
                this.length = length;
                for (int i = 0; i < 4; i++) {
                    tracks.add(new TreeMap<>());
                }
            }
        }

        static final class Strip {
            int clip;
            int start;
            int rounds;
            int way;
            int p = 1;
            int q = 1;
            int layer;
            int weight = 100;
            boolean added;
            boolean held;
            int in;
            int out;
        }

        final int[] base = new int[4];
        final List<Clip> clips = new ArrayList<>();
        final List<Strip> strips = new ArrayList<>();
        List<int[]> noted = new ArrayList<>();

        double call(int kind, int[] a) {
            switch (kind) {
                case 0: return addClip(a[0]);
                case 1: case 2: case 3: return key(a[0], a[1], a[2], a[3], a[4]);
                case 4: case 5: return cue(a[0], a[1], a[2]);
                case 6: return setBase(a[0], a[1]);
                case 7: case 8: return addStrip(a[0], a[1], a[2], a[3]);
                case 9: return setSpeed(a[0], a[1], a[2]);
                case 10: return setBlend(a[0], a[1], a[2], a[3] % 2 == 0, a[4] % 2 == 0);
                case 11: return setFade(a[0], a[1], a[2]);
                case 12: return clip(a[0], a[1]);
                case 13: return unkey(a[0], a[1], a[2]);
                case 14: return track(a[0], a[1]).size();
                case 15: return keyOf(a[0], a[1], a[2], a[3]);
                case 16: return trackAt(a[0], a[1], a[2]);
                case 17: return cueOf(a[0], a[1], a[2]);
                case 18: return a[3] % 3 == 0 ? mirror(a[0]) : retime(a[0], a[1], a[2]);
                case 19: return reduce(a[0], a[1], a[2]);
                case 20: return a[3] % 4 == 0 ? removeStrip(a[0]) : strip(a[0], a[1]);
                case 21: return stripAt(a[0], a[1], a[2] % 2 == 0);
                case 22: return at(a[0], a[1]);
                case 23: return reaches(a[0], a[1], a[2], a[3]);
                case 24: return mean(a[0], a[1], a[2]);
                case 25: return a[3] % 3 == 0 ? play(a[0], a[1]) : met(a[1], a[2]);
                default: return end();
            }
        }

        static void place(boolean holds) {
            if (!holds) {
                throw new IndexOutOfBoundsException();
            }
        }

        static void number(long x, long least, long greatest) {
            if (x < least || x > greatest) {
                throw new IllegalArgumentException();
            }
        }

        static void state(boolean holds) {
            if (!holds) {
                throw new IllegalStateException();
            }
        }

        static boolean in(int x, int size) {
            return 0 <= x && x < size;
        }

        Clip theClip(int clip) {
            place(in(clip, clips.size()));
            return clips.get(clip);
        }

        TreeMap<Integer, Key> track(int clip, int property) {
            place(in(clip, clips.size()) && in(property, 4));
            return clips.get(clip).tracks.get(property);
        }

        Strip theStrip(int strip) {
            place(in(strip, strips.size()));
            return strips.get(strip);
        }

        /** The greatest whole number that is not above x / y + 1 / 2. */
        static int rounded(BigInteger x, BigInteger y) {
            BigInteger two = BigInteger.TWO;
            BigInteger[] parts = x.multiply(two).add(y).divideAndRemainder(y.multiply(two));
            return parts[1].signum() < 0 ? parts[0].intValueExact() - 1 : parts[0].intValueExact();
        }

        static int rounded(long x, long y) {
            return rounded(BigInteger.valueOf(x), BigInteger.valueOf(y));
        }

        static int valueOf(TreeMap<Integer, Key> track, int t) {
            if (t <= track.firstKey()) {
                return track.firstEntry().getValue().value;
            }
            if (t >= track.lastKey()) {
                return track.lastEntry().getValue().value;
            }
            int a = track.floorKey(t);
            int b = track.higherKey(t);
            int u = track.get(a).value;
            int v = track.get(b).value;
            BigInteger d = BigInteger.valueOf(b - a);
            BigInteger x = BigInteger.valueOf(t - a);
            BigInteger over;
            BigInteger under;
            switch (track.get(a).ease) {
                case 0:
                    over = BigInteger.ZERO;
                    under = BigInteger.ONE;
                    break;
                case 1:
                    over = x;
                    under = d;
                    break;
                case 2:
                    over = x.pow(2);
                    under = d.pow(2);
                    break;
                case 3:
                    over = x.multiply(d.add(d).subtract(x));
                    under = d.pow(2);
                    break;
                default:
                    over = x.pow(2).multiply(d.add(d).add(d).subtract(x.add(x)));
                    under = d.pow(3);
                    break;
            }
            return u + rounded(BigInteger.valueOf(v - u).multiply(over), under);
        }

        int addClip(int length) {
            number(length, 1, 2000);
            state(clips.size() < 6);
            clips.add(new Clip(length));
            return clips.size() - 1;
        }

        int clip(int clip, int what) {
            Clip c = theClip(clip);
            place(in(what, 3));
            int keys = 0;
            for (TreeMap<Integer, Key> track : c.tracks) {
                keys += track.size();
            }
            return what == 0 ? c.length : what == 1 ? c.cues.size() : keys;
        }

        int key(int clip, int property, int time, int value, int ease) {
            TreeMap<Integer, Key> track = track(clip, property);
            number(time, 0, clips.get(clip).length);
            number(value, -10000, 10000);
            number(ease, 0, 4);
            state(track.size() < 16 || track.containsKey(time));
            track.put(time, new Key(value, ease));
            return track.size();
        }

        int unkey(int clip, int property, int index) {
            TreeMap<Integer, Key> track = track(clip, property);
            place(in(index, track.size()));
            track.remove(new ArrayList<>(track.keySet()).get(index));
            return track.size();
        }

        int keyOf(int clip, int property, int index, int what) {
            TreeMap<Integer, Key> track = track(clip, property);
            place(in(index, track.size()) && in(what, 3));
            int time = new ArrayList<>(track.keySet()).get(index);
            return what == 0 ? time : what == 1 ? track.get(time).value : track.get(time).ease;
        }

        int trackAt(int clip, int property, int time) {
            TreeMap<Integer, Key> track = track(clip, property);
            number(time, 0, clips.get(clip).length);
            state(!track.isEmpty());
            return valueOf(track, time);
        }

        int cue(int clip, int time, int number) {
            Clip c = theClip(clip);
            number(time, 0, c.length);
            number(number, 0, 99);
            state(c.cues.size() < 8);
            c.cues.add(new int[] {time, number});
            c.cues.sort(Comparator.comparingInt(cue -> cue[0]));
            return c.cues.size();
        }

        int cueOf(int clip, int index, int what) {
            Clip c = theClip(clip);
            place(in(index, c.cues.size()) && in(what, 2));
            return c.cues.get(index)[what];
        }

        int mirror(int clip) {
            Clip c = theClip(clip);
            int[] mirrored = {0, 1, 3, 2, 4};
            for (int property = 0; property < 4; property++) {
                TreeMap<Integer, Key> before = c.tracks.get(property);
                TreeMap<Integer, Key> after = new TreeMap<>();
                for (int t : before.keySet()) {
                    Integer ahead = before.lowerKey(t);
                    int ease = ahead == null ? 1 : mirrored[before.get(ahead).ease];
                    after.put(c.length - t, new Key(before.get(t).value, ease));
                }
                c.tracks.set(property, after);
            }
            Collections.reverse(c.cues);
            for (int[] cue : c.cues) {
                cue[0] = c.length - cue[0];
            }
            return c.length;
        }

        int retime(int clip, int p, int q) {
            Clip c = theClip(clip);
            number(p, 1, 20);
            number(q, 1, 20);
            int length = c.length * p / q;
            state(1 <= length && length <= 2000);
            List<TreeMap<Integer, Key>> tracks = new ArrayList<>();
            for (TreeMap<Integer, Key> before : c.tracks) {
                TreeMap<Integer, Key> after = new TreeMap<>();
                for (int t : before.keySet()) {
                    after.put(t * p / q, before.get(t));
                }
                state(after.size() == before.size());
                tracks.add(after);
            }
            c.length = length;
            c.tracks.clear();
            c.tracks.addAll(tracks);
            for (int[] cue : c.cues) {
                cue[0] = cue[0] * p / q;
            }
            return length;
        }

        int reduce(int clip, int property, int tolerance) {
            TreeMap<Integer, Key> track = track(clip, property);
            number(tolerance, 0, 1000);
            TreeMap<Integer, Key> beginning = new TreeMap<>(track);
            for (int t : beginning.keySet()) {
                if (t == beginning.firstKey() || t == beginning.lastKey()) {
                    continue;
                }
                Key key = track.remove(t);
                boolean near = true;
                for (int x = track.lowerKey(t); x <= track.higherKey(t); x++) {
                    near &= Math.abs(valueOf(track, x) - valueOf(beginning, x)) <= tolerance;
                }
                if (!near) {
                    track.put(t, key);
                }
            }
            return track.size();
        }

        int setBase(int property, int value) {
            place(in(property, 4));
            number(value, -10000, 10000);
            int before = base[property];
            base[property] = value;
            return before;
        }

        int addStrip(int clip, int start, int rounds, int way) {
            theClip(clip);
            number(start, 0, 5000);
            number(rounds, 1, 9);
            number(way, 0, 2);
            state(strips.size() < 10);
            Strip s = new Strip();
            s.clip = clip;
            s.start = start;
            s.rounds = rounds;
            s.way = way;
            strips.add(s);
            return strips.size() - 1;
        }

        int removeStrip(int strip) {
            theStrip(strip);
            strips.remove(strip);
            return strips.size();
        }

        int setSpeed(int strip, int p, int q) {
            Strip s = theStrip(strip);
            number(p, 1, 9);
            number(q, 1, 9);
            s.p = p;
            s.q = q;
            return end(s);
        }

        int setBlend(int strip, int layer, int weight, boolean added, boolean held) {
            Strip s = theStrip(strip);
            number(layer, 0, 9);
            number(weight, 0, 100);
            int before = s.layer;
            s.layer = layer;
            s.weight = weight;
            s.added = added;
            s.held = held;
            return before;
        }

        int setFade(int strip, int in, int out) {
            Strip s = theStrip(strip);
            number(in, 0, 2000);
            number(out, 0, 2000);
            int before = s.in;
            s.in = in;
            s.out = out;
            return before;
        }

        int strip(int strip, int what) {
            Strip s = theStrip(strip);
            place(in(what, 13));
            int[] facts = {s.clip, s.start, end(s), s.rounds, s.way, s.p, s.q, s.layer, s.weight, s.added ? 1 : 0,
                s.held ? 1 : 0, s.in, s.out};
            return facts[what];
        }

        int length(Strip s) {
            return clips.get(s.clip).length;
        }

        /** The first time from the start on at which (T - start) * p / q is not less than the tick. */
        int timeOf(Strip s, int tick) {
            int t = s.start + Math.max(0, tick * s.q / s.p - 2);
            while ((t - s.start) * s.p < tick * s.q) {
                t++;
            }
            return t;
        }

        int end(Strip s) {
            return timeOf(s, length(s) * s.rounds);
        }

        boolean on(Strip s, int t) {
            return s.held ? t >= s.start : s.start <= t && t < end(s);
        }

        boolean backwards(Strip s, int round) {
            return s.way == 1 || s.way == 2 && (round & 1) != 0;
        }

        int local(Strip s, int t) {
            int length = length(s);
            int tick = (t - s.start) * s.p / s.q;
            if (tick > length * s.rounds) {
                tick = length * s.rounds;
            }
            int round = tick / length;
            if (round > s.rounds - 1) {
                round = s.rounds - 1;
            }
            int rest = tick - round * length;
            return backwards(s, round) ? length - rest : rest;
        }

        int strength(Strip s, int t) {
            int w = s.weight;
            if (t - s.start < s.in) {
                w = Math.min(w, rounded((long) s.weight * (t - s.start), s.in));
            }
            if (!s.held && end(s) - t < s.out) {
                w = Math.min(w, rounded((long) s.weight * (end(s) - t), s.out));
            }
            return w;
        }

        int stripAt(int strip, int time, boolean isLocal) {
            Strip s = theStrip(strip);
            number(time, 0, 100000);
            return !on(s, time) ? -1 : isLocal ? local(s, time) : strength(s, time);
        }

        int end() {
            int end = 0;
            for (Strip s : strips) {
                end = Math.max(end, end(s));
            }
            return end;
        }

        int value(int property, int time) {
            List<Strip> order = new ArrayList<>(strips);
            order.sort(Comparator.comparingInt(s -> s.layer));
            int x = base[property];
            for (Strip s : order) {
                TreeMap<Integer, Key> track = clips.get(s.clip).tracks.get(property);
                if (on(s, time) && !track.isEmpty()) {
                    int v = valueOf(track, local(s, time));
                    long w = strength(s, time);
                    x = x + rounded((s.added ? v : v - x) * w, 100);
                }
            }
            return x;
        }

        int at(int property, int time) {
            place(in(property, 4));
            number(time, 0, 100000);
            return value(property, time);
        }

        int reaches(int property, int from, int to, int value) {
            place(in(property, 4));
            number(from, 0, 100000);
            number(to, from, from + 300L);
            for (int t = from; t <= to; t++) {
                if (value(property, t) >= value) {
                    return t;
                }
            }
            return -1;
        }

        double mean(int property, int from, int to) {
            place(in(property, 4));
            number(from, 0, 100000);
            number(to, from, from + 300L);
            double sum = 0;
            for (int t = from; t <= to; t++) {
                sum += value(property, t);
            }
            return sum / (to - from + 1);
        }

        int play(int from, int to) {
            number(from, 0, 100000);
            number(to, from, 100000);
            noted = new ArrayList<>();
            for (int i = 0; i < strips.size(); i++) {
                Strip s = strips.get(i);
                for (int round = 0; round < s.rounds; round++) {
                    List<int[]> cues = new ArrayList<>(clips.get(s.clip).cues);
                    if (backwards(s, round)) {
                        Collections.reverse(cues);
                    }
                    for (int[] cue : cues) {
                        int rest = backwards(s, round) ? length(s) - cue[0] : cue[0];
                        int t = timeOf(s, round * length(s) + rest);
                        if (from <= t && t <= to) {
                            noted.add(new int[] {t, i, round, cue[1]});
                        }
                    }
                }
            }
            noted.sort(Comparator.comparingInt(note -> note[0]));
            return noted.size();
        }

        int met(int index, int what) {
            place(in(index, noted.size()) && index < 100 && in(what, 4));
            return noted.get(index)[what];
        }

        long digest() {
            List<Integer> numbers = new ArrayList<>();
            for (int x : base) {
                numbers.add(x);
            }
            numbers.add(clips.size());
            for (int clip = 0; clip < clips.size(); clip++) {
                numbers.add(clips.get(clip).length);
                for (int property = 0; property < 4; property++) {
                    TreeMap<Integer, Key> track = track(clip, property);
                    numbers.add(track.size());
                    for (int t : track.keySet()) {
                        numbers.addAll(List.of(t, track.get(t).value, track.get(t).ease));
                    }
                }
                numbers.add(clips.get(clip).cues.size());
                for (int[] cue : clips.get(clip).cues) {
                    numbers.addAll(List.of(cue[0], cue[1]));
                }
            }
            numbers.add(strips.size());
            for (int strip = 0; strip < strips.size(); strip++) {
                for (int what = 0; what < 13; what++) {
                    numbers.add(strip(strip, what));
                }
            }
            numbers.add(noted.size());
            for (int i = 0; i < noted.size() && i < 100; i++) {
                for (int what = 0; what < 4; what++) {
                    numbers.add(met(i, what));
                }
            }
            long d = 401;
            for (int x : numbers) {
                d = d * 31 + x;
            }
            return d;
        }
    }
}
