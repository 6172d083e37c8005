import java.util.ArrayList;

/** A timeline for animations: clips of keys and cues, and strips that play them in layers. */
public final class KeyStage {
    private static final int MAX_CLIPS = 6;
    private static final int MAX_LENGTH = 2000;
    private static final int PROPERTIES = 4;
    private static final int MAX_KEYS = 16;
    private static final int MAX_VALUE = 10000;
    private static final int MAX_CUES = 8;
    private static final int MAX_CUE_NUMBER = 99;
    private static final int MAX_RETIME = 20;
    private static final int MAX_TOLERANCE = 1000;
    private static final int MAX_STRIPS = 10;
    private static final int MAX_START = 5000;
    private static final int MAX_ROUNDS = 9;
    private static final int MAX_SPEED = 9;
    private static final int MAX_LAYER = 9;
    private static final int FULL_WEIGHT = 100;
    private static final int MAX_FADE = 2000;
    private static final int MAX_TIME = 100000;
    private static final int MAX_SPAN = 300;
    private static final int MAX_KEPT = 100;

    private static final int EASE_HOLD = 0;
    private static final int EASE_LINEAR = 1;
    private static final int EASE_IN = 2;
    private static final int EASE_OUT = 3;
    private static final int EASE_IN_AND_OUT = 4;

    private static final int WAY_BACKWARDS = 1;
    private static final int WAY_TO_AND_FRO = 2;

    private static final int KEY_FACTS = 3;
    private static final int CUE_FACTS = 2;
    private static final int STRIP_FACTS = 13;
    private static final int NOTE_FACTS = 4;

    private final ArrayList<Clip> clips;
    private final ArrayList<Strip> strips;
    private final Row bases;
    private final Row layered;
    private final Notes notes;

    public KeyStage() {
        clips = new ArrayList<>();
        strips = new ArrayList<>();
        bases = new Row(PROPERTIES);
        for (int property = 0; property < PROPERTIES; property++) {
            bases.append(0);
        }
        layered = new Row(MAX_STRIPS);
        notes = new Notes();
    }

    // ---- clips

    public int addClip(int length) throws IllegalArgumentException, IllegalStateException {
        if (!isIn(length, 1, MAX_LENGTH)) {
            throw new IllegalArgumentException("length is not 1 to 2000");
        }
        if (clips.size() >= MAX_CLIPS) {
            throw new IllegalStateException("there are 6 clips");
        }
        clips.add(new Clip(length));
        return clips.size() - 1;
    }

    public int clip(int clip, int what) throws IndexOutOfBoundsException {
        Clip asked = clipOrNull(clip);
        if (asked == null || !isIn(what, 0, 2)) {
            throw new IndexOutOfBoundsException("no such clip, or what is not 0 to 2");
        }
        switch (what) {
            case 0:
                return asked.length;
            case 1:
                return asked.cueCount();
            default:
                return asked.keyCount();
        }
    }

    public int key(int clip, int property, int time, int value, int ease)
            throws IndexOutOfBoundsException, IllegalArgumentException, IllegalStateException {
        Clip changed = clipOrNull(clip);
        Track track = trackOrNull(changed, property);
        if (changed == null || track == null) {
            throw new IndexOutOfBoundsException("no such clip, or property is not 0 to 3");
        }
        if (!isIn(time, 0, changed.length) || !isValue(value)
                || !isIn(ease, EASE_HOLD, EASE_IN_AND_OUT)) {
            throw new IllegalArgumentException("time, value or ease is out of its bounds");
        }
        if (track.count() >= MAX_KEYS && !track.hasKeyAt(time)) {
            throw new IllegalStateException("the track has 16 keys");
        }
        track.lay(time, value, ease);
        return track.count();
    }

    public int unkey(int clip, int property, int index) throws IndexOutOfBoundsException {
        Track track = trackOrNull(clipOrNull(clip), property);
        if (track == null || !isIn(index, 0, track.count() - 1)) {
            throw new IndexOutOfBoundsException("no such clip or key, or property is not 0 to 3");
        }
        track.takeAway(index);
        return track.count();
    }

    public int keys(int clip, int property) throws IndexOutOfBoundsException {
        Track track = trackOrNull(clipOrNull(clip), property);
        if (track == null) {
            throw new IndexOutOfBoundsException("no such clip, or property is not 0 to 3");
        }
        return track.count();
    }

    public int keyOf(int clip, int property, int index, int what) throws IndexOutOfBoundsException {
        Track track = trackOrNull(clipOrNull(clip), property);
        if (track == null || !isIn(index, 0, track.count() - 1) || !isIn(what, 0, KEY_FACTS - 1)) {
            throw new IndexOutOfBoundsException("no such clip, property, key or fact");
        }
        return track.fact(index, what);
    }

    public int trackAt(int clip, int property, int time)
            throws IndexOutOfBoundsException, IllegalArgumentException, IllegalStateException {
        Clip asked = clipOrNull(clip);
        Track track = trackOrNull(asked, property);
        if (asked == null || track == null) {
            throw new IndexOutOfBoundsException("no such clip, or property is not 0 to 3");
        }
        if (!isIn(time, 0, asked.length)) {
            throw new IllegalArgumentException("time is not 0 to the length");
        }
        if (track.count() == 0) {
            throw new IllegalStateException("the track has no keys");
        }
        return track.valueAt(time);
    }

    public int cue(int clip, int time, int number)
            throws IndexOutOfBoundsException, IllegalArgumentException, IllegalStateException {
        Clip changed = clipOrNull(clip);
        if (changed == null) {
            throw new IndexOutOfBoundsException("no such clip");
        }
        if (!isIn(time, 0, changed.length) || !isIn(number, 0, MAX_CUE_NUMBER)) {
            throw new IllegalArgumentException("time is not 0 to the length, or number is not 0 to 99");
        }
        if (changed.cueCount() >= MAX_CUES) {
            throw new IllegalStateException("the clip has 8 cues");
        }
        changed.layCue(time, number);
        return changed.cueCount();
    }

    public int cueOf(int clip, int index, int what) throws IndexOutOfBoundsException {
        Clip asked = clipOrNull(clip);
        if (asked == null || !isIn(index, 0, asked.cueCount() - 1) || !isIn(what, 0, CUE_FACTS - 1)) {
            throw new IndexOutOfBoundsException("no such clip or cue, or what is not 0 to 1");
        }
        return asked.cueFact(index, what);
    }

    public int mirror(int clip) throws IndexOutOfBoundsException {
        Clip changed = clipOrNull(clip);
        if (changed == null) {
            throw new IndexOutOfBoundsException("no such clip");
        }
        changed.turnAround();
        return changed.length;
    }

    public int retime(int clip, int p, int q)
            throws IndexOutOfBoundsException, IllegalArgumentException, IllegalStateException {
        Clip changed = clipOrNull(clip);
        if (changed == null) {
            throw new IndexOutOfBoundsException("no such clip");
        }
        if (!isIn(p, 1, MAX_RETIME) || !isIn(q, 1, MAX_RETIME)) {
            throw new IllegalArgumentException("p or q is not 1 to 20");
        }
        if (!changed.canStretch(p, q)) {
            throw new IllegalStateException("the length or two keys do not allow it");
        }
        changed.stretch(p, q);
        return changed.length;
    }

    public int reduce(int clip, int property, int tolerance)
            throws IndexOutOfBoundsException, IllegalArgumentException {
        Track track = trackOrNull(clipOrNull(clip), property);
        if (track == null) {
            throw new IndexOutOfBoundsException("no such clip, or property is not 0 to 3");
        }
        if (!isIn(tolerance, 0, MAX_TOLERANCE)) {
            throw new IllegalArgumentException("tolerance is not 0 to 1000");
        }
        track.thinOut(tolerance);
        return track.count();
    }

    // ---- strips

    public int setBase(int property, int value)
            throws IndexOutOfBoundsException, IllegalArgumentException {
        if (!isProperty(property)) {
            throw new IndexOutOfBoundsException("property is not 0 to 3");
        }
        if (!isValue(value)) {
            throw new IllegalArgumentException("value is not -10000 to 10000");
        }
        int before = bases.get(property);
        bases.set(property, value);
        return before;
    }

    public int addStrip(int clip, int start, int rounds, int way)
            throws IndexOutOfBoundsException, IllegalArgumentException, IllegalStateException {
        Clip played = clipOrNull(clip);
        if (played == null) {
            throw new IndexOutOfBoundsException("no such clip");
        }
        if (!isIn(start, 0, MAX_START) || !isIn(rounds, 1, MAX_ROUNDS)
                || !isIn(way, 0, WAY_TO_AND_FRO)) {
            throw new IllegalArgumentException("start, rounds or way is out of its bounds");
        }
        if (strips.size() >= MAX_STRIPS) {
            throw new IllegalStateException("there are 10 strips");
        }
        strips.add(new Strip(played, clip, start, rounds, way));
        return strips.size() - 1;
    }

    public int removeStrip(int strip) throws IndexOutOfBoundsException {
        if (!isIn(strip, 0, strips.size() - 1)) {
            throw new IndexOutOfBoundsException("no such strip");
        }
        strips.remove(strip);
        return strips.size();
    }

    public int setSpeed(int strip, int p, int q)
            throws IndexOutOfBoundsException, IllegalArgumentException {
        Strip changed = stripOrNull(strip);
        if (changed == null) {
            throw new IndexOutOfBoundsException("no such strip");
        }
        if (!isIn(p, 1, MAX_SPEED) || !isIn(q, 1, MAX_SPEED)) {
            throw new IllegalArgumentException("p or q is not 1 to 9");
        }
        changed.p = p;
        changed.q = q;
        return changed.endTime();
    }

    public int setBlend(int strip, int layer, int weight, boolean isAdded, boolean isHeld)
            throws IndexOutOfBoundsException, IllegalArgumentException {
        Strip changed = stripOrNull(strip);
        if (changed == null) {
            throw new IndexOutOfBoundsException("no such strip");
        }
        if (!isIn(layer, 0, MAX_LAYER) || !isIn(weight, 0, FULL_WEIGHT)) {
            throw new IllegalArgumentException("layer is not 0 to 9, or weight is not 0 to 100");
        }
        int before = changed.layer;
        changed.layer = layer;
        changed.weight = weight;
        changed.isAdded = isAdded;
        changed.isHeld = isHeld;
        return before;
    }

    public int setFade(int strip, int in, int out)
            throws IndexOutOfBoundsException, IllegalArgumentException {
        Strip changed = stripOrNull(strip);
        if (changed == null) {
            throw new IndexOutOfBoundsException("no such strip");
        }
        if (!isIn(in, 0, MAX_FADE) || !isIn(out, 0, MAX_FADE)) {
            throw new IllegalArgumentException("in or out is not 0 to 2000");
        }
        int before = changed.fadeIn;
        changed.fadeIn = in;
        changed.fadeOut = out;
        return before;
    }

    public int strip(int strip, int what) throws IndexOutOfBoundsException {
        Strip asked = stripOrNull(strip);
        if (asked == null || !isIn(what, 0, STRIP_FACTS - 1)) {
            throw new IndexOutOfBoundsException("no such strip, or what is not 0 to 12");
        }
        return asked.fact(what);
    }

    public int stripAt(int strip, int time, boolean isLocal)
            throws IndexOutOfBoundsException, IllegalArgumentException {
        Strip asked = stripOrNull(strip);
        if (asked == null) {
            throw new IndexOutOfBoundsException("no such strip");
        }
        if (!isTime(time)) {
            throw new IllegalArgumentException("time is not 0 to 100000");
        }
        if (!asked.isOn(time)) {
            return -1;
        }
        return isLocal ? asked.localTime(time) : asked.strength(time);
    }

    public int end() {
        int greatest = 0;
        for (int i = 0; i < strips.size(); i++) {
            greatest = Math.max(greatest, strips.get(i).endTime());
        }
        return greatest;
    }

    // ---- what is played

    public int at(int property, int time) throws IndexOutOfBoundsException, IllegalArgumentException {
        if (!isProperty(property)) {
            throw new IndexOutOfBoundsException("property is not 0 to 3");
        }
        if (!isTime(time)) {
            throw new IllegalArgumentException("time is not 0 to 100000");
        }
        sortByLayers();
        return valueAt(property, time);
    }

    public int reaches(int property, int from, int to, int value)
            throws IndexOutOfBoundsException, IllegalArgumentException {
        if (!isProperty(property)) {
            throw new IndexOutOfBoundsException("property is not 0 to 3");
        }
        if (!isTime(from) || !isIn(to, from, from + MAX_SPAN)) {
            throw new IllegalArgumentException("from is not 0 to 100000, or to is not from to from + 300");
        }
        sortByLayers();
        for (int time = from; time <= to; time++) {
            if (valueAt(property, time) >= value) {
                return time;
            }
        }
        return -1;
    }

    public double mean(int property, int from, int to)
            throws IndexOutOfBoundsException, IllegalArgumentException {
        if (!isProperty(property)) {
            throw new IndexOutOfBoundsException("property is not 0 to 3");
        }
        if (!isTime(from) || !isIn(to, from, from + MAX_SPAN)) {
            throw new IllegalArgumentException("from is not 0 to 100000, or to is not from to from + 300");
        }
        sortByLayers();
        long sum = 0;
        for (int time = from; time <= to; time++) {
            sum += valueAt(property, time);
        }
        return (double) sum / (double) (to - from + 1);
    }

    public int play(int from, int to) throws IllegalArgumentException {
        if (!isTime(from) || !isIn(to, from, MAX_TIME)) {
            throw new IllegalArgumentException("from is not 0 to 100000, or to is not from to 100000");
        }
        notes.clear();
        for (int i = 0; i < strips.size(); i++) {
            noteCues(strips.get(i), i, from, to);
        }
        return notes.count;
    }

    public int met(int index, int what) throws IndexOutOfBoundsException {
        if (!isIn(index, 0, notes.keptCount() - 1) || !isIn(what, 0, NOTE_FACTS - 1)) {
            throw new IndexOutOfBoundsException("no such cue is kept, or what is not 0 to 3");
        }
        return notes.fact(index, what);
    }

    public long digest() {
        long d = 401;
        for (int property = 0; property < PROPERTIES; property++) {
            d = mixed(d, bases.get(property));
        }
        d = mixed(d, clips.size());
        for (int i = 0; i < clips.size(); i++) {
            d = clips.get(i).mixedInto(d);
        }
        d = mixed(d, strips.size());
        for (int i = 0; i < strips.size(); i++) {
            for (int what = 0; what < STRIP_FACTS; what++) {
                d = mixed(d, strips.get(i).fact(what));
            }
        }
        return notes.mixedInto(d);
    }

    // ---- helpers of the face

    private Clip clipOrNull(int clip) {
        return clip >= 0 && clip < clips.size() ? clips.get(clip) : null;
    }

    private Strip stripOrNull(int strip) {
        return strip >= 0 && strip < strips.size() ? strips.get(strip) : null;
    }

    private static Track trackOrNull(Clip clip, int property) {
        return clip == null ? null : clip.trackOrNull(property);
    }

    private static boolean isIn(int x, int least, int greatest) {
        return x >= least && x <= greatest;
    }

    private static boolean isProperty(int property) {
        return isIn(property, 0, PROPERTIES - 1);
    }

    private static boolean isValue(int value) {
        return isIn(value, -MAX_VALUE, MAX_VALUE);
    }

    private static boolean isTime(int time) {
        return isIn(time, 0, MAX_TIME);
    }

    /** Done once a call, not once a time, as a call may ask for the values at 301 times. */
    private void sortByLayers() {
        layered.shorten(0);
        for (int layer = 0; layer <= MAX_LAYER; layer++) {
            for (int i = 0; i < strips.size(); i++) {
                if (strips.get(i).layer == layer) {
                    layered.append(i);
                }
            }
        }
    }

    private int valueAt(int property, int time) {
        int value = bases.get(property);
        for (int i = 0; i < layered.size(); i++) {
            Strip strip = stripOrNull(layered.get(i));
            if (strip != null) {
                value = strip.blended(value, property, time);
            }
        }
        return value;
    }

    private void noteCues(Strip strip, int number, int from, int to) {
        Clip clip = strip.clip;
        int cues = clip.cueCount();
        for (int round = 0; round < strip.rounds; round++) {
            for (int i = 0; i < cues; i++) {
                int cue = strip.isBackwards(round) ? cues - 1 - i : i;
                int time = strip.meetingTime(round, clip.cueTimes.get(cue));
                if (isIn(time, from, to)) {
                    notes.note(time, number, round, clip.cueNumbers.get(cue));
                }
            }
        }
    }

    private static long mixed(long d, int x) {
        return d * 31 + x;
    }

    // ---- quotients: every divisor is tested here; those that are asked for are greater than 0

    private static int cut(int dividend, int divisor) {
        return divisor > 0 ? dividend / divisor : 0;
    }

    private static int roundedUp(int dividend, int divisor) {
        return divisor > 0 ? (dividend + divisor - 1) / divisor : 0;
    }

    /** To the nearest number; the greater one, if there are two. */
    private static int rounded(long dividend, long divisor) {
        return divisor > 0 ? (int) Math.floorDiv(2 * dividend + divisor, 2 * divisor) : 0;
    }

    /** A row of numbers with a fixed room. Arrays are used here alone, so that every index is tested here. */
    private static final class Row {
        private final int[] cells;
        private int size;

        Row(int room) {
            cells = new int[room > 0 ? room : 0];
        }

        int size() {
            return size;
        }

        private boolean isCell(int index) {
            return index >= 0 && index < size && index < cells.length;
        }

        int get(int index) {
            return isCell(index) ? cells[index] : 0;
        }

        void set(int index, int number) {
            if (isCell(index)) {
                cells[index] = number;
            }
        }

        void append(int number) {
            insert(size, number);
        }

        void insert(int index, int number) {
            if (index < 0 || index > size || size >= cells.length) {
                return;
            }
            for (int i = size; i > index; i--) {
                cells[i] = cells[i - 1];
            }
            cells[index] = number;
            size++;
        }

        void delete(int index) {
            if (!isCell(index)) {
                return;
            }
            for (int i = index + 1; i < size && i < cells.length; i++) {
                cells[i - 1] = cells[i];
            }
            size--;
        }

        void shorten(int newSize) {
            if (newSize >= 0 && newSize < size) {
                size = newSize;
            }
        }

        void reverse() {
            for (int i = 0; i < size / 2; i++) {
                int number = get(i);
                set(i, get(size - 1 - i));
                set(size - 1 - i, number);
            }
        }

        /** How many numbers of an ascending row are not greater than this one. */
        int countUpTo(int number) {
            int count = size;
            while (count > 0 && get(count - 1) > number) {
                count--;
            }
            return count;
        }

        void mirrorTimes(int length) {
            for (int i = 0; i < size; i++) {
                set(i, length - get(i));
            }
            reverse();
        }

        void stretchTimes(int p, int q) {
            for (int i = 0; i < size; i++) {
                set(i, cut(get(i) * p, q));
            }
        }
    }

    /** The keys of one property of a clip, in ascending order of their times. */
    private static final class Track {
        private final Row times = new Row(MAX_KEYS);
        private final Row values = new Row(MAX_KEYS);
        private final Row eases = new Row(MAX_KEYS);

        int count() {
            return times.size();
        }

        int fact(int index, int what) {
            switch (what) {
                case 0:
                    return times.get(index);
                case 1:
                    return values.get(index);
                default:
                    return eases.get(index);
            }
        }

        boolean hasKeyAt(int time) {
            int place = times.countUpTo(time);
            return place > 0 && times.get(place - 1) == time;
        }

        void lay(int time, int value, int ease) {
            int place = times.countUpTo(time);
            if (hasKeyAt(time)) {
                values.set(place - 1, value);
                eases.set(place - 1, ease);
                return;
            }
            times.insert(place, time);
            values.insert(place, value);
            eases.insert(place, ease);
        }

        void takeAway(int index) {
            times.delete(index);
            values.delete(index);
            eases.delete(index);
        }

        int valueAt(int time) {
            int count = times.size();
            int next = times.countUpTo(time);
            if (next == 0) {
                return values.get(0);
            }
            if (next == count) {
                return values.get(count - 1);
            }
            return valueBetween(next - 1, next, time);
        }

        /** What the track has at a time between two keys if there are no others between them. */
        private int valueBetween(int first, int second, int time) {
            long x = time - times.get(first);
            long d = times.get(second) - times.get(first);
            int from = values.get(first);
            long way = values.get(second) - from;
            switch (eases.get(first)) {
                case EASE_HOLD:
                    return from;
                case EASE_LINEAR:
                    return from + rounded(way * x, d);
                case EASE_IN:
                    return from + rounded(way * x * x, d * d);
                case EASE_OUT:
                    return from + rounded(way * x * (2 * d - x), d * d);
                default:
                    return from + rounded(way * x * x * (3 * d - 2 * x), d * d * d);
            }
        }

        void turnAround(int length) {
            int count = times.size();
            if (count == 0) {
                return;
            }
            times.mirrorTimes(length);
            values.reverse();
            eases.reverse();
            // The ease of a key is that of the way to the next one, so all move up by one key.
            eases.delete(0);
            eases.append(EASE_LINEAR);
            for (int i = 0; i < count; i++) {
                eases.set(i, mirroredEase(eases.get(i)));
            }
        }

        private static int mirroredEase(int ease) {
            if (ease == EASE_IN) {
                return EASE_OUT;
            }
            return ease == EASE_OUT ? EASE_IN : ease;
        }

        boolean staysApart(int p, int q) {
            for (int i = 1; i < times.size(); i++) {
                if (cut(times.get(i - 1) * p, q) == cut(times.get(i) * p, q)) {
                    return false;
                }
            }
            return true;
        }

        void thinOut(int tolerance) {
            int count = times.size();
            if (count < 3) {
                return;
            }
            // Keys that are left move down only to places whose keys are not looked at any more.
            int left = 1;
            int last = 0;
            for (int i = 1; i < count - 1; i++) {
                if (!isNear(last, i + 1, tolerance)) {
                    moveKey(i, left);
                    left++;
                    last = i;
                }
            }
            moveKey(count - 1, left);
            times.shorten(left + 1);
            values.shorten(left + 1);
            eases.shorten(left + 1);
        }

        /** Whether the track is nearly the same without all keys between these two. */
        private boolean isNear(int first, int second, int tolerance) {
            for (int i = first; i < second; i++) {
                for (int time = times.get(i); time < times.get(i + 1); time++) {
                    int before = valueBetween(i, i + 1, time);
                    if (Math.abs(valueBetween(first, second, time) - before) > tolerance) {
                        return false;
                    }
                }
            }
            return true;
        }

        private void moveKey(int from, int to) {
            times.set(to, times.get(from));
            values.set(to, values.get(from));
            eases.set(to, eases.get(from));
        }
    }

    /** A clip: its length, a track for each property, and its cues. */
    private static final class Clip {
        private int length;
        private final Track[] tracks;
        private final Row cueTimes = new Row(MAX_CUES);
        private final Row cueNumbers = new Row(MAX_CUES);

        Clip(int length) {
            this.length = length;
            tracks = new Track[PROPERTIES];
            for (int property = 0; property < tracks.length; property++) {
                tracks[property] = new Track();
            }
        }

        Track trackOrNull(int property) {
            return property >= 0 && property < tracks.length ? tracks[property] : null;
        }

        int keyCount() {
            int count = 0;
            for (Track track : tracks) {
                count += track.count();
            }
            return count;
        }

        int cueCount() {
            return cueTimes.size();
        }

        int cueFact(int index, int what) {
            return what == 0 ? cueTimes.get(index) : cueNumbers.get(index);
        }

        void layCue(int time, int number) {
            int place = cueTimes.countUpTo(time);
            cueTimes.insert(place, time);
            cueNumbers.insert(place, number);
        }

        void turnAround() {
            for (Track track : tracks) {
                track.turnAround(length);
            }
            cueTimes.mirrorTimes(length);
            cueNumbers.reverse();
        }

        boolean canStretch(int p, int q) {
            for (Track track : tracks) {
                if (!track.staysApart(p, q)) {
                    return false;
                }
            }
            return isIn(cut(length * p, q), 1, MAX_LENGTH);
        }

        void stretch(int p, int q) {
            for (Track track : tracks) {
                track.times.stretchTimes(p, q);
            }
            cueTimes.stretchTimes(p, q);
            length = cut(length * p, q);
        }

        long mixedInto(long digest) {
            long d = mixed(digest, length);
            for (Track track : tracks) {
                d = mixed(d, track.count());
                for (int i = 0; i < track.count(); i++) {
                    for (int what = 0; what < KEY_FACTS; what++) {
                        d = mixed(d, track.fact(i, what));
                    }
                }
            }
            d = mixed(d, cueCount());
            for (int i = 0; i < cueCount(); i++) {
                for (int what = 0; what < CUE_FACTS; what++) {
                    d = mixed(d, cueFact(i, what));
                }
            }
            return d;
        }
    }

    /** A strip: it plays a clip from its start on. What follows from the clip's length is never kept. */
    private static final class Strip {
        private final Clip clip;
        private final int clipNumber;
        private final int start;
        private final int rounds;
        private final int way;
        private int p = 1;
        private int q = 1;
        private int layer;
        private int weight = FULL_WEIGHT;
        private boolean isAdded;
        private boolean isHeld;
        private int fadeIn;
        private int fadeOut;

        Strip(Clip clip, int clipNumber, int start, int rounds, int way) {
            this.clip = clip;
            this.clipNumber = clipNumber;
            this.start = start;
            this.rounds = rounds;
            this.way = way;
        }

        int fact(int what) {
            switch (what) {
                case 0:
                    return clipNumber;
                case 1:
                    return start;
                case 2:
                    return endTime();
                case 3:
                    return rounds;
                case 4:
                    return way;
                case 5:
                    return p;
                case 6:
                    return q;
                case 7:
                    return layer;
                case 8:
                    return weight;
                case 9:
                    return isAdded ? 1 : 0;
                case 10:
                    return isHeld ? 1 : 0;
                case 11:
                    return fadeIn;
                default:
                    return fadeOut;
            }
        }

        private int ticks() {
            return clip.length * rounds;
        }

        /** The first time at which as many ticks have gone by. */
        private int timeOfTick(int tick) {
            return start + roundedUp(tick * q, p);
        }

        int endTime() {
            return timeOfTick(ticks());
        }

        boolean isOn(int time) {
            return time >= start && (isHeld || time < endTime());
        }

        boolean isBackwards(int round) {
            return way == WAY_BACKWARDS || way == WAY_TO_AND_FRO && round % 2 == 1;
        }

        int localTime(int time) {
            int tick = Math.min(cut((time - start) * p, q), ticks());
            int round = Math.min(cut(tick, clip.length), rounds - 1);
            int rest = tick - round * clip.length;
            return isBackwards(round) ? clip.length - rest : rest;
        }

        int strength(int time) {
            int strength = weight;
            int gone = time - start;
            if (gone < fadeIn) {
                strength = Math.min(strength, rounded(weight * gone, fadeIn));
            }
            int left = endTime() - time;
            if (!isHeld && left < fadeOut) {
                strength = Math.min(strength, rounded(weight * left, fadeOut));
            }
            return strength;
        }

        int blended(int value, int property, int time) {
            Track track = clip.trackOrNull(property);
            if (track == null || track.count() == 0 || !isOn(time)) {
                return value;
            }
            int aim = track.valueAt(localTime(time));
            int change = isAdded ? aim : aim - value;
            return value + rounded((long) change * strength(time), FULL_WEIGHT);
        }

        /** When a cue is met in a round; cues at the strip's very end are met too. */
        int meetingTime(int round, int cueTime) {
            int rest = isBackwards(round) ? clip.length - cueTime : cueTime;
            return timeOfTick(round * clip.length + rest);
        }
    }

    /** The cues that were met: all are counted, the first ones are kept. */
    private static final class Notes {
        private final Row times = new Row(MAX_KEPT);
        private final Row strips = new Row(MAX_KEPT);
        private final Row rounds = new Row(MAX_KEPT);
        private final Row numbers = new Row(MAX_KEPT);
        private int count;

        int keptCount() {
            return times.size();
        }

        void clear() {
            shorten(0);
            count = 0;
        }

        private void shorten(int size) {
            times.shorten(size);
            strips.shorten(size);
            rounds.shorten(size);
            numbers.shorten(size);
        }

        /** They come strip by strip and round by round, so one goes behind all of the same time. */
        void note(int time, int strip, int round, int number) {
            count++;
            int place = times.countUpTo(time);
            if (place >= MAX_KEPT) {
                return;
            }
            shorten(MAX_KEPT - 1);
            times.insert(place, time);
            strips.insert(place, strip);
            rounds.insert(place, round);
            numbers.insert(place, number);
        }

        int fact(int index, int what) {
            switch (what) {
                case 0:
                    return times.get(index);
                case 1:
                    return strips.get(index);
                case 2:
                    return rounds.get(index);
                default:
                    return numbers.get(index);
            }
        }

        long mixedInto(long digest) {
            long d = mixed(digest, count);
            for (int i = 0; i < times.size(); i++) {
                for (int what = 0; what < NOTE_FACTS; what++) {
                    d = mixed(d, fact(i, what));
                }
            }
            return d;
        }
    }
}
