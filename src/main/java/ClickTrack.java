import java.util.Arrays;

/**
 * A click track for a score. It tells when each bar begins for each of three players and which bar
 * and beat a moment belongs to, counts clicks, compares players, and takes back changes.
 */
public final class ClickTrack {
    public static final int NONE = -9;

    private static final int MAX_TEXT = 160;
    private static final int MAX_BARS = 24;
    private static final int MAX_BEATS = 9;
    private static final int MAX_STRETCH = 4;
    private static final int MAX_PASSES = 4;
    private static final int MAX_SECTIONS = 4;
    private static final int MAX_PLACES = MAX_BARS * MAX_PASSES;
    private static final int MAX_CLICKS = MAX_PLACES * MAX_BEATS;
    private static final int MIN_TEMPO = 30;
    private static final int MAX_TEMPO = 240;
    private static final int USUAL_TEMPO = 120;
    private static final int MINUTE = 60000000;
    private static final int PLAYERS = 3;
    private static final int SLOTS = 2;
    private static final int MAX_REMEMBERED = 14;
    private static final int MAX_COMMANDS = 3;
    private static final int MAX_REHEARSALS = 50;
    private static final int MIN_PERCENTAGE = 50;
    private static final int MAX_PERCENTAGE = 200;

    private final Text text = new Text();
    private final State present = new State();
    private final History history = new History();
    private final State[] slots = new State[SLOTS];
    private final boolean[] slotFilled = new boolean[SLOTS];
    private final Row row = new Row();
    private final Row otherRow = new Row();
    private final Totals totals = new Totals();
    private final Script commands = new Script();
    private final int[] rehearsedSkips = new int[PLAYERS];

    public ClickTrack() {
        for (int slot = 0; slot < SLOTS; slot++) {
            slots[slot] = new State();
        }
    }

    // ---- text

    public int append(int c) throws IllegalArgumentException, IllegalStateException {
        if (c < 0 || c > 255) {
            throw new IllegalArgumentException("no character has this code");
        }
        if (text.length >= MAX_TEXT) {
            throw new IllegalStateException("the text is full");
        }
        text.put(c);
        return text.length;
    }

    public int clearText() {
        int previous = text.length;
        text.length = 0;
        return previous;
    }

    public int errorPosition() {
        return text.read();
    }

    public int load() throws IllegalStateException {
        if (text.read() != NONE) {
            throw new IllegalStateException("the text is not a score");
        }
        present.copyFrom(text.score);
        history.forget();
        for (int slot = 0; slot < SLOTS; slot++) {
            slotFilled[slot] = false;
        }
        return present.barCount;
    }

    // ---- the score

    public int about(int what) throws IllegalArgumentException {
        switch (what) {
            case 0:
                return present.barCount;
            case 1:
                return present.sectionCount;
            case 2:
                return present.countMarks();
            case 3:
                return present.countStretched();
            case 4:
                return present.countWithPasses();
            default:
                throw new IllegalArgumentException("what is not 0 to 4");
        }
    }

    public int bar(int b, int what) throws IndexOutOfBoundsException, IllegalArgumentException {
        checkBar(b);
        switch (what) {
            case 0:
                return present.beats[b];
            case 1:
                return present.tempoOf(b);
            case 2:
                return present.marks[b] == 0 ? NONE : present.marks[b];
            case 3:
                return present.passSets[b];
            case 4:
                return present.sectionOf(b);
            case 5:
                return present.unitsOf(b) * beatLength(present.tempoOf(b));
            default:
                throw new IllegalArgumentException("what is not 0 to 5");
        }
    }

    public int stretch(int b, int beat) throws IndexOutOfBoundsException, IllegalArgumentException {
        checkBar(b);
        if (!present.hasBeat(b, beat)) {
            throw new IllegalArgumentException("the bar has no such beat");
        }
        return present.stretchOf(b, beat);
    }

    public int section(int s, int what) throws IndexOutOfBoundsException, IllegalArgumentException {
        checkSection(s);
        switch (what) {
            case 0:
                return present.firsts[s];
            case 1:
                return present.lasts[s];
            case 2:
                return present.times[s];
            default:
                throw new IllegalArgumentException("what is not 0 to 2");
        }
    }

    // ---- what is played

    public int places(int p) throws IndexOutOfBoundsException {
        checkPlayer(p);
        row.fill(present, p);
        return row.length;
    }

    public int place(int p, int i, int what) throws IndexOutOfBoundsException, IllegalArgumentException {
        checkPlayer(p);
        if (i < 0) {
            throw new IllegalArgumentException("the place is negative");
        }
        if (what < 0 || what > 2) {
            throw new IllegalArgumentException("what is not 0 to 2");
        }
        row.fill(present, p);
        if (i >= row.length) {
            return NONE;
        }
        switch (what) {
            case 0:
                return row.bars[i];
            case 1:
                return row.passes[i];
            default:
                return row.countSameBarBefore(i);
        }
    }

    public long begins(int p, int i) throws IndexOutOfBoundsException, IllegalArgumentException {
        checkPlayer(p);
        row.fill(present, p);
        if (i < 0 || i > row.length) {
            throw new IllegalArgumentException("the row has no such place");
        }
        return i == row.length ? row.end : row.starts[i];
    }

    public int find(int p, int b, int pass) throws IndexOutOfBoundsException, IllegalArgumentException {
        checkPlayer(p);
        checkBar(b);
        checkPass(pass);
        row.fill(present, p);
        return row.indexOf(b, pass);
    }

    public int at(int p, long moment) throws IndexOutOfBoundsException, IllegalArgumentException {
        checkPlayer(p);
        checkMoment(moment);
        row.fill(present, p);
        return row.beatAt(moment);
    }

    public long nextClick(int p, long moment) throws IndexOutOfBoundsException, IllegalArgumentException {
        checkPlayer(p);
        checkMoment(moment);
        row.fill(present, p);
        return row.clickFrom(moment);
    }

    public int clicks(int p, long from, long to) throws IndexOutOfBoundsException, IllegalArgumentException {
        checkPlayer(p);
        checkMoment(from);
        if (to < from) {
            throw new IllegalArgumentException("to is less than from");
        }
        row.fill(present, p);
        return row.countClicksBefore(to) - row.countClicksBefore(from);
    }

    public int missed(int p) throws IndexOutOfBoundsException {
        checkPlayer(p);
        row.fill(present, p);
        return present.countScheduled() - row.length;
    }

    public int together(int p, int q) throws IndexOutOfBoundsException {
        fillRows(p, q);
        return row.countClicksWith(otherRow);
    }

    public int part(int p, int q) throws IndexOutOfBoundsException {
        fillRows(p, q);
        return row.partingFrom(otherRow);
    }

    public long meet(int p, int q) throws IndexOutOfBoundsException {
        fillRows(p, q);
        return row.meetingWith(otherRow);
    }

    // ---- actions

    public int addBar(int beats) throws IllegalArgumentException, IllegalStateException {
        if (!isBeatCount(beats)) {
            throw new IllegalArgumentException("a bar has 1 to 9 beats");
        }
        if (present.barCount >= MAX_BARS) {
            throw new IllegalStateException("there are 24 bars");
        }
        history.remember(present);
        present.putBar(beats);
        return present.barCount - 1;
    }

    public int setTempo(int b, int tempo) throws IndexOutOfBoundsException, IllegalArgumentException {
        checkBar(b);
        if (!isMark(tempo)) {
            throw new IllegalArgumentException("the tempo is out of range");
        }
        history.remember(present);
        int previous = present.tempoOf(b);
        present.marks[b] = tempo;
        return previous;
    }

    public int setStretch(int b, int beat, int stretch) throws IndexOutOfBoundsException, IllegalArgumentException {
        checkBar(b);
        if (!present.hasBeat(b, beat)) {
            throw new IllegalArgumentException("the bar has no such beat");
        }
        if (!isStretch(stretch)) {
            throw new IllegalArgumentException("the stretch is out of range");
        }
        history.remember(present);
        int previous = present.stretchOf(b, beat);
        present.putStretch(b, beat, stretch);
        return previous;
    }

    public boolean leaveOut(int b, int pass, boolean is) throws IndexOutOfBoundsException, IllegalArgumentException {
        checkBar(b);
        checkPass(pass);
        history.remember(present);
        boolean previous = present.isLeftOut(b, pass);
        present.putLeftOut(b, pass, is);
        return previous;
    }

    public int addSection(int first, int last, int times)
            throws IndexOutOfBoundsException, IllegalArgumentException, IllegalStateException {
        checkBar(first);
        checkBar(last);
        if (last < first) {
            throw new IllegalArgumentException("the last bar is before the first one");
        }
        if (times < 2 || times > MAX_PASSES) {
            throw new IllegalArgumentException("a section is played 2 to 4 times");
        }
        if (present.sectionCount >= MAX_SECTIONS) {
            throw new IllegalStateException("there are 4 sections");
        }
        if (present.hasSectionWithin(first, last)) {
            throw new IllegalStateException("one of the bars is in a section");
        }
        history.remember(present);
        return present.putSection(first, last, times);
    }

    public int removeSection(int s) throws IndexOutOfBoundsException {
        checkSection(s);
        history.remember(present);
        present.dropSection(s);
        return present.sectionCount;
    }

    public int skip(int p, int b, boolean is) throws IndexOutOfBoundsException {
        checkPlayer(p);
        checkBar(b);
        history.remember(present);
        present.putSkipped(p, b, is);
        return Integer.bitCount(present.skipSets[p]);
    }

    public int undo() throws IllegalStateException {
        if (history.count == 0) {
            throw new IllegalStateException("no state is remembered");
        }
        history.takeBack(present);
        return history.count;
    }

    // ---- what would be

    public int percentage(int p, long limit) throws IndexOutOfBoundsException, IllegalArgumentException {
        checkPlayer(p);
        checkMoment(limit);
        totals.fill(present);
        for (int percentage = MIN_PERCENTAGE; percentage <= MAX_PERCENTAGE; percentage++) {
            if (totals.endWithout(present.skipSets[p], percentage) <= limit) {
                return percentage;
            }
        }
        return NONE;
    }

    public int longest(int p) throws IndexOutOfBoundsException {
        checkPlayer(p);
        totals.fill(present);
        return totals.longestWithout(present.skipSets[p]);
    }

    // ---- scripts, simulations

    public int runScript(int n, long script) throws IllegalArgumentException {
        if (n < 1 || n > MAX_COMMANDS) {
            throw new IllegalArgumentException("a script has 1 to 3 commands");
        }
        if (script < 0 || Script.withoutLowest(script, n) != 0) {
            throw new IllegalArgumentException("the script is negative or has too many digits");
        }
        commands.beginFrom(present);
        for (int k = 0; k < n; k++) {
            if (!commands.succeeds(Script.withoutLowest(script, n - 1 - k))) {
                return k;
            }
        }
        return NONE;
    }

    public int simulate(long seed, int m) throws IllegalArgumentException {
        if (m < 1 || m > MAX_REHEARSALS) {
            throw new IllegalArgumentException("there are 1 to 50 rehearsals");
        }
        totals.fill(present);
        long x = seed;
        int together = 0;
        for (int k = 0; k < m; k++) {
            x = rehearse(x);
            if (endTogether()) {
                together++;
            }
        }
        return together;
    }

    // ---- save slots

    public int save(int slot) throws IndexOutOfBoundsException {
        checkSlot(slot);
        slots[slot].copyFrom(present);
        slotFilled[slot] = true;
        return present.barCount;
    }

    public int restore(int slot) throws IndexOutOfBoundsException, IllegalStateException {
        checkSlot(slot);
        if (!slotFilled[slot]) {
            throw new IllegalStateException("the save slot is empty");
        }
        present.copyFrom(slots[slot]);
        history.forget();
        return present.barCount;
    }

    // ---- helpers of the face

    private void checkBar(int b) {
        if (!present.hasBar(b)) {
            throw new IndexOutOfBoundsException("there is no such bar");
        }
    }

    private void checkSection(int s) {
        if (!present.hasSection(s)) {
            throw new IndexOutOfBoundsException("there is no such section");
        }
    }

    private static void checkPlayer(int p) {
        if (!isPlayer(p)) {
            throw new IndexOutOfBoundsException("there is no such player");
        }
    }

    private static void checkSlot(int slot) {
        if (slot < 0 || slot >= SLOTS) {
            throw new IndexOutOfBoundsException("there is no such save slot");
        }
    }

    private static void checkPass(int pass) {
        if (!isPass(pass)) {
            throw new IllegalArgumentException("the pass is not 1 to 4");
        }
    }

    private static void checkMoment(long moment) {
        if (moment < 0) {
            throw new IllegalArgumentException("the moment is negative");
        }
    }

    private void fillRows(int p, int q) {
        checkPlayer(p);
        checkPlayer(q);
        row.fill(present, p);
        otherRow.fill(present, q);
    }

    /** Sets rehearsedSkips to what the players leave out in one rehearsal; answers the next x. */
    private long rehearse(long start) {
        copyNumbers(present.skipSets, rehearsedSkips);
        long x = start;
        for (int b = 0; b < present.barCount; b++) {
            x = x * 6364136223846793005L + 1442695040888963407L;
            int r = (int) (x >>> 33);
            if (r % 8 == 0) {
                rehearsedSkips[r / 8 % PLAYERS] ^= 1 << b;
            }
        }
        return x;
    }

    private boolean endTogether() {
        long end = totals.endWithout(rehearsedSkips[0], 100);
        for (int p = 1; p < PLAYERS; p++) {
            if (totals.endWithout(rehearsedSkips[p], 100) != end) {
                return false;
            }
        }
        return true;
    }

    // ---- ranges

    private static boolean isPlayer(int p) {
        return p >= 0 && p < PLAYERS;
    }

    private static boolean isPass(int pass) {
        return pass >= 1 && pass <= MAX_PASSES;
    }

    private static boolean isBeatCount(int beats) {
        return beats >= 1 && beats <= MAX_BEATS;
    }

    private static boolean isStretch(int stretch) {
        return stretch >= 1 && stretch <= MAX_STRETCH;
    }

    /** A mark of 0 stands for no mark. */
    private static boolean isMark(int tempo) {
        return tempo == 0 || tempo >= MIN_TEMPO && tempo <= MAX_TEMPO;
    }

    private static int beatLength(int tempo) {
        return tempo < 1 ? 0 : MINUTE / tempo;
    }

    private static void copyNumbers(int[] from, int[] to) {
        System.arraycopy(from, 0, to, 0, Math.min(from.length, to.length));
    }

    /** All that an action changes: the score, and what the players leave out of it. */
    private static final class State {
        int barCount;
        int sectionCount;
        final int[] beats = new int[MAX_BARS];
        final int[] marks = new int[MAX_BARS];
        final int[] stretches = new int[MAX_BARS * MAX_BEATS];
        final int[] passSets = new int[MAX_BARS];
        final int[] firsts = new int[MAX_SECTIONS];
        final int[] lasts = new int[MAX_SECTIONS];
        final int[] times = new int[MAX_SECTIONS];
        final int[] skipSets = new int[PLAYERS];

        void copyFrom(State other) {
            barCount = other.barCount;
            sectionCount = other.sectionCount;
            copyNumbers(other.beats, beats);
            copyNumbers(other.marks, marks);
            copyNumbers(other.stretches, stretches);
            copyNumbers(other.passSets, passSets);
            copyNumbers(other.firsts, firsts);
            copyNumbers(other.lasts, lasts);
            copyNumbers(other.times, times);
            copyNumbers(other.skipSets, skipSets);
        }

        void empty() {
            barCount = 0;
            sectionCount = 0;
            Arrays.fill(skipSets, 0);
        }

        boolean hasBar(int b) {
            return b >= 0 && b < barCount;
        }

        boolean hasSection(int s) {
            return s >= 0 && s < sectionCount;
        }

        boolean hasBeat(int b, int beat) {
            return beat >= 1 && beat <= beats[b];
        }

        boolean isLeftOut(int b, int pass) {
            return (passSets[b] >> (pass - 1) & 1) == 1;
        }

        boolean isSkipped(int p, int b) {
            return (skipSets[p] >> b & 1) == 1;
        }

        int stretchOf(int b, int beat) {
            return stretches[b * MAX_BEATS + beat - 1];
        }

        int tempoOf(int b) {
            for (int k = b; k >= 0; k--) {
                if (marks[k] != 0) {
                    return marks[k];
                }
            }
            return USUAL_TEMPO;
        }

        int sectionOf(int b) {
            for (int s = 0; s < sectionCount; s++) {
                if (b >= firsts[s] && b <= lasts[s]) {
                    return s;
                }
            }
            return NONE;
        }

        boolean hasSectionWithin(int first, int last) {
            for (int b = first; b <= last && b < barCount; b++) {
                if (sectionOf(b) != NONE) {
                    return true;
                }
            }
            return false;
        }

        /** The sum of the stretches of all beats of a bar. */
        int unitsOf(int b) {
            int units = 0;
            for (int beat = 1; beat <= beats[b]; beat++) {
                units += stretchOf(b, beat);
            }
            return units;
        }

        /** In how many passes a bar comes up, played or left out. */
        int scheduledPasses(int b) {
            int s = sectionOf(b);
            return s == NONE ? 1 : times[s];
        }

        int countScheduled() {
            int count = 0;
            for (int b = 0; b < barCount; b++) {
                count += scheduledPasses(b);
            }
            return count;
        }

        int countPlayedPasses(int b) {
            int scheduled = scheduledPasses(b);
            int count = 0;
            for (int pass = 1; pass <= scheduled; pass++) {
                if (!isLeftOut(b, pass)) {
                    count++;
                }
            }
            return count;
        }

        int countMarks() {
            int count = 0;
            for (int b = 0; b < barCount; b++) {
                if (marks[b] != 0) {
                    count++;
                }
            }
            return count;
        }

        int countStretched() {
            int count = 0;
            for (int b = 0; b < barCount; b++) {
                for (int beat = 1; beat <= beats[b]; beat++) {
                    if (stretchOf(b, beat) > 1) {
                        count++;
                    }
                }
            }
            return count;
        }

        int countWithPasses() {
            int count = 0;
            for (int b = 0; b < barCount; b++) {
                if (passSets[b] != 0) {
                    count++;
                }
            }
            return count;
        }

        /** Sets every number of the new bar, for those of a bar that is gone may still stand. */
        void putBar(int beatCount) {
            if (barCount >= MAX_BARS) {
                return;
            }
            int b = barCount;
            barCount++;
            beats[b] = beatCount;
            marks[b] = 0;
            passSets[b] = 0;
            for (int beat = 1; beat <= MAX_BEATS; beat++) {
                putStretch(b, beat, 1);
            }
        }

        void putStretch(int b, int beat, int stretch) {
            stretches[b * MAX_BEATS + beat - 1] = stretch;
        }

        void putLeftOut(int b, int pass, boolean is) {
            int bit = 1 << (pass - 1);
            passSets[b] = is ? passSets[b] | bit : passSets[b] & ~bit;
        }

        void putSkipped(int p, int b, boolean is) {
            int bit = 1 << b;
            skipSets[p] = is ? skipSets[p] | bit : skipSets[p] & ~bit;
        }

        /** Keeps the sections ascending by their first bars; answers the number of the new one. */
        int putSection(int first, int last, int count) {
            if (sectionCount >= MAX_SECTIONS) {
                return NONE;
            }
            int s = sectionCount;
            for (; s > 0 && firsts[s - 1] > first; s--) {
                moveSection(s - 1, s);
            }
            firsts[s] = first;
            lasts[s] = last;
            times[s] = count;
            sectionCount++;
            return s;
        }

        void dropSection(int s) {
            for (int k = s + 1; k < sectionCount; k++) {
                moveSection(k, k - 1);
            }
            sectionCount--;
        }

        private void moveSection(int from, int to) {
            firsts[to] = firsts[from];
            lasts[to] = lasts[from];
            times[to] = times[from];
        }
    }

    /** The remembered states: a ring in which the newest one takes the room of the oldest one. */
    private static final class History {
        private final State[] states = new State[MAX_REMEMBERED];
        private int oldest;
        int count;

        History() {
            for (int k = 0; k < MAX_REMEMBERED; k++) {
                states[k] = new State();
            }
        }

        void remember(State state) {
            if (count == MAX_REMEMBERED) {
                oldest = (oldest + 1) % MAX_REMEMBERED;
                count--;
            }
            states[(oldest + count) % MAX_REMEMBERED].copyFrom(state);
            count++;
        }

        void takeBack(State state) {
            if (count == 0) {
                return;
            }
            count--;
            state.copyFrom(states[(oldest + count) % MAX_REMEMBERED]);
        }

        void forget() {
            count = 0;
        }
    }

    /** The text buffer, and the score that it tells. */
    private static final class Text {
        private final int[] signs = new int[MAX_TEXT];
        private int position;
        private boolean inSection;
        private int sectionFirst;
        int length;
        final State score = new State();

        void put(int c) {
            if (length < MAX_TEXT) {
                signs[length] = c;
                length++;
            }
        }

        /** Answers the error position; if that is NONE, score is what the text tells. */
        int read() {
            score.empty();
            inSection = false;
            position = 0;
            if (sign() != 'C') {
                return position;
            }
            position++;
            for (int parts = 0; parts < MAX_TEXT && position < length; parts++) {
                if (!readPart()) {
                    return position;
                }
            }
            return inSection ? position : NONE;
        }

        /** The sign at the position; NONE behind the last one. */
        private int sign() {
            return position >= 0 && position < length ? signs[position] : NONE;
        }

        /** Each reader of a part leaves the position behind the part, or at the sign that is not allowed. */
        private boolean readPart() {
            switch (sign()) {
                case 'b':
                    return readBar();
                case 't':
                    return score.barCount > 0 && readTempo(score.barCount - 1);
                case 'f':
                    return score.barCount > 0 && readStretch(score.barCount - 1);
                case 's':
                    return score.barCount > 0 && readPass(score.barCount - 1);
                case '(':
                    return readOpening();
                case ')':
                    return readClosing();
                default:
                    return false;
            }
        }

        /** Takes the next sign if it is a digit from low to high; NONE if it is not. */
        private int readDigit(int low, int high) {
            int digit = sign() - '0';
            if (digit < low || digit > high) {
                return NONE;
            }
            position++;
            return digit;
        }

        private boolean readBar() {
            if (score.barCount >= MAX_BARS) {
                return false;
            }
            position++;
            int beats = readDigit(1, MAX_BEATS);
            if (beats == NONE) {
                return false;
            }
            score.putBar(beats);
            return true;
        }

        private boolean readTempo(int b) {
            position++;
            int hundreds = readDigit(0, 2);
            if (hundreds == NONE) {
                return false;
            }
            int tens = readDigit(hundreds == 0 ? 3 : 0, hundreds == 2 ? 4 : 9);
            if (tens == NONE) {
                return false;
            }
            int ones = readDigit(0, hundreds == 2 && tens == 4 ? 0 : 9);
            if (ones == NONE) {
                return false;
            }
            score.marks[b] = 100 * hundreds + 10 * tens + ones;
            return true;
        }

        private boolean readStretch(int b) {
            position++;
            int beat = readDigit(1, score.beats[b]);
            if (beat == NONE) {
                return false;
            }
            int stretch = readDigit(2, MAX_STRETCH);
            if (stretch == NONE) {
                return false;
            }
            score.putStretch(b, beat, stretch);
            return true;
        }

        private boolean readPass(int b) {
            position++;
            int pass = readDigit(1, MAX_PASSES);
            if (pass == NONE) {
                return false;
            }
            score.putLeftOut(b, pass, true);
            return true;
        }

        private boolean readOpening() {
            if (inSection || score.sectionCount >= MAX_SECTIONS || score.barCount >= MAX_BARS) {
                return false;
            }
            position++;
            inSection = true;
            sectionFirst = score.barCount;
            return true;
        }

        private boolean readClosing() {
            if (!inSection || score.barCount <= sectionFirst) {
                return false;
            }
            position++;
            int times = readDigit(2, MAX_PASSES);
            if (times == NONE) {
                return false;
            }
            score.putSection(sectionFirst, score.barCount - 1, times);
            inSection = false;
            return true;
        }
    }

    /** All that one player plays, in its order, with the moments of places and clicks. */
    private static final class Row {
        int length;
        long end;
        final int[] bars = new int[MAX_PLACES];
        final int[] passes = new int[MAX_PLACES];
        final long[] starts = new long[MAX_PLACES];
        private int clickCount;
        private final long[] clickMoments = new long[MAX_CLICKS];
        private final int[] clickCodes = new int[MAX_CLICKS];

        void fill(State state, int p) {
            length = 0;
            end = 0;
            clickCount = 0;
            for (int b = 0; b < state.barCount; b++) {
                int s = state.sectionOf(b);
                if (s == NONE) {
                    playBar(state, p, b, 1);
                } else if (state.firsts[s] == b) {
                    playSection(state, p, s);
                }
            }
        }

        private void playSection(State state, int p, int s) {
            for (int pass = 1; pass <= state.times[s]; pass++) {
                for (int b = state.firsts[s]; b <= state.lasts[s] && b < state.barCount; b++) {
                    playBar(state, p, b, pass);
                }
            }
        }

        private void playBar(State state, int p, int b, int pass) {
            if (state.isLeftOut(b, pass) || state.isSkipped(p, b) || length >= MAX_PLACES) {
                return;
            }
            bars[length] = b;
            passes[length] = pass;
            starts[length] = end;
            int unit = beatLength(state.tempoOf(b));
            for (int beat = 1; beat <= state.beats[b] && clickCount < MAX_CLICKS; beat++) {
                clickMoments[clickCount] = end;
                clickCodes[clickCount] = 10 * length + beat;
                clickCount++;
                end += (long) unit * state.stretchOf(b, beat);
            }
            length++;
        }

        int countSameBarBefore(int i) {
            int count = 0;
            for (int k = 0; k < i && i < length; k++) {
                if (bars[k] == bars[i]) {
                    count++;
                }
            }
            return count;
        }

        int indexOf(int b, int pass) {
            for (int i = 0; i < length; i++) {
                if (bars[i] == b && passes[i] == pass) {
                    return i;
                }
            }
            return NONE;
        }

        int countClicksBefore(long moment) {
            int count = 0;
            while (count < clickCount && clickMoments[count] < moment) {
                count++;
            }
            return count;
        }

        long clickFrom(long moment) {
            int index = countClicksBefore(moment);
            return index < clickCount ? clickMoments[index] : NONE;
        }

        /** 10 times the place and the beat of the last click at the moment or before. */
        int beatAt(long moment) {
            int code = NONE;
            for (int k = 0; k < clickCount && moment < end && clickMoments[k] <= moment; k++) {
                code = clickCodes[k];
            }
            return code;
        }

        /** The clicks of each row stand ascending, so the two rows are walked side by side. */
        int countClicksWith(Row other) {
            int count = 0;
            int k = 0;
            for (int i = 0; i < clickCount; i++) {
                while (k < other.clickCount && other.clickMoments[k] < clickMoments[i]) {
                    k++;
                }
                if (k < other.clickCount && other.clickMoments[k] == clickMoments[i]) {
                    count++;
                }
            }
            return count;
        }

        int partingFrom(Row other) {
            int both = Math.min(length, other.length);
            for (int i = 0; i < both; i++) {
                if (!isSame(i, other, i)) {
                    return i;
                }
            }
            return length == other.length ? NONE : both;
        }

        long meetingWith(Row other) {
            int k = 0;
            for (int i = 0; i < length; i++) {
                while (k < other.length && other.starts[k] < starts[i]) {
                    k++;
                }
                if (k < other.length && k != i && other.starts[k] == starts[i] && isSame(i, other, k)) {
                    return starts[i];
                }
            }
            return NONE;
        }

        private boolean isSame(int i, Row other, int k) {
            return bars[i] == other.bars[k] && passes[i] == other.passes[k];
        }
    }

    /** What each bar adds, all its passes together, for a player who does not leave it out. */
    private static final class Totals {
        private int barCount;
        private final int[] units = new int[MAX_BARS];
        private final int[] tempos = new int[MAX_BARS];

        void fill(State state) {
            barCount = state.barCount;
            for (int b = 0; b < barCount; b++) {
                units[b] = state.unitsOf(b) * state.countPlayedPasses(b);
                tempos[b] = state.tempoOf(b);
            }
        }

        /** What the bar adds if all goes at this percentage of its tempo; 0 for a bar of the set. */
        private long timeWithout(int skipSet, int b, int percentage) {
            if ((skipSet >> b & 1) == 1) {
                return 0;
            }
            return (long) units[b] * beatLength(tempos[b] * percentage / 100);
        }

        long endWithout(int skipSet, int percentage) {
            long end = 0;
            for (int b = 0; b < barCount; b++) {
                end += timeWithout(skipSet, b, percentage);
            }
            return end;
        }

        int longestWithout(int skipSet) {
            int longestBar = NONE;
            long longestTime = 0;
            for (int b = 0; b < barCount; b++) {
                long time = timeWithout(skipSet, b, 100);
                if (time > longestTime) {
                    longestTime = time;
                    longestBar = b;
                }
            }
            return longestBar;
        }
    }

    /** Runs the commands of a script on a state of its own; d2 to d5 are the digits of the one that runs. */
    private static final class Script {
        private static final int GROUP = 100000;
        private final State trial = new State();
        private final Row row = new Row();
        private final Row otherRow = new Row();
        private int d2;
        private int d3;
        private int d4;
        private int d5;

        static long withoutLowest(long script, int groups) {
            long rest = script;
            for (int k = 0; k < groups; k++) {
                rest /= GROUP;
            }
            return rest;
        }

        void beginFrom(State state) {
            trial.copyFrom(state);
        }

        /** Runs the command that is the lowest group of the number. */
        boolean succeeds(long groups) {
            int command = (int) (groups % GROUP);
            d2 = command / 1000 % 10;
            d3 = command / 100 % 10;
            d4 = command / 10 % 10;
            d5 = command % 10;
            switch (command / 10000) {
                case 1:
                    return addsBar();
                case 2:
                    return marksTempo(10 * d2 + d3, 10 * (10 * d4 + d5));
                case 3:
                    return stretches(10 * d2 + d3);
                case 4:
                    return leavesOut(10 * d2 + d3);
                case 5:
                    return skips(10 * d3 + d4);
                case 6:
                    return playsEnough();
                case 7:
                    return endsInTime();
                case 8:
                    return removesSection();
                case 9:
                    return neverPart();
                default:
                    return false;
            }
        }

        private boolean addsBar() {
            if (d2 != 0 || d3 != 0 || d4 != 0 || !isBeatCount(d5) || trial.barCount >= MAX_BARS) {
                return false;
            }
            trial.putBar(d5);
            return true;
        }

        private boolean marksTempo(int b, int tempo) {
            if (!trial.hasBar(b) || !isMark(tempo)) {
                return false;
            }
            trial.marks[b] = tempo;
            return true;
        }

        private boolean stretches(int b) {
            if (!trial.hasBar(b) || !trial.hasBeat(b, d4) || !isStretch(d5)) {
                return false;
            }
            trial.putStretch(b, d4, d5);
            return true;
        }

        private boolean leavesOut(int b) {
            if (!trial.hasBar(b) || !isPass(d4) || d5 > 1) {
                return false;
            }
            trial.putLeftOut(b, d4, d5 == 1);
            return true;
        }

        private boolean skips(int b) {
            if (!isPlayer(d2) || !trial.hasBar(b) || d5 > 1) {
                return false;
            }
            trial.putSkipped(d2, b, d5 == 1);
            return true;
        }

        private boolean playsEnough() {
            if (!isPlayer(d2) || d3 != 0) {
                return false;
            }
            row.fill(trial, d2);
            return row.length >= 10 * d4 + d5;
        }

        private boolean endsInTime() {
            if (!isPlayer(d2)) {
                return false;
            }
            row.fill(trial, d2);
            return row.end <= 1000000L * (100 * d3 + 10 * d4 + d5);
        }

        private boolean removesSection() {
            if (!trial.hasSection(d2) || d3 != 0 || d4 != 0 || d5 != 0) {
                return false;
            }
            trial.dropSection(d2);
            return true;
        }

        private boolean neverPart() {
            if (!isPlayer(d2) || !isPlayer(d3) || d4 != 0 || d5 != 0) {
                return false;
            }
            row.fill(trial, d2);
            otherRow.fill(trial, d3);
            return row.partingFrom(otherRow) == NONE;
        }
    }
}
