import java.util.ArrayDeque;
import java.util.ArrayList;
import java.util.Deque;
import java.util.HashSet;
import java.util.List;
import java.util.Set;
import java.util.TreeMap;
import java.util.TreeSet;
import java.util.function.IntPredicate;
import java.util.regex.Matcher;
import java.util.regex.Pattern;

/** The document once more, as slowly and plainly as the Java library allows: what ModelTest compares the class with. */
final class Model {
    static final int NONE = -9;

    private static final class Bar {
        final List<Integer> stretches = new ArrayList<>();
        Integer mark;
        final Set<Integer> passes = new TreeSet<>();

        Bar(int beats) {
            for (int i = 0; i < beats; i++) {
                stretches.add(1);
            }
        }

        Bar copy() {
            Bar bar = new Bar(0);
            bar.stretches.addAll(stretches);
            bar.mark = mark;
            bar.passes.addAll(passes);
            return bar;
        }
    }

    private static final class Score {
        final List<Bar> bars = new ArrayList<>();
        /** By the first bar: the last bar and the times. */
        final TreeMap<Integer, int[]> sections = new TreeMap<>();
        final List<Set<Integer>> skips = List.of(new HashSet<>(), new HashSet<>(), new HashSet<>());

        Score copy() {
            Score score = new Score();
            bars.forEach(bar -> score.bars.add(bar.copy()));
            score.sections.putAll(sections);
            for (int p = 0; p < 3; p++) {
                score.skips.get(p).addAll(skips.get(p));
            }
            return score;
        }
    }

    private record Place(int bar, int pass, long start) {
        boolean isSame(Place other) {
            return bar == other.bar && pass == other.pass;
        }
    }

    private static final Pattern PART =
            Pattern.compile("b([1-9])|t(0[3-9][0-9]|1[0-9][0-9]|2[0-3][0-9]|240)|f([1-9])([2-4])|s([1-4])|(\\()|\\)([2-4])");

    private static final String[] PART_ENDS = {"", "1", "2", "12", "0", "00", "30", "120"};
    private static final String[] SECTION_ENDS = {"", ")2", "b1)2"};

    private String text = "";
    private Score score = new Score();
    private final Deque<Score> remembered = new ArrayDeque<>();
    private final Score[] slots = new Score[2];

    // ---- text

    int append(int c) {
        argument(c >= 0 && c <= 255);
        state(text.length() < 160);
        text += (char) c;
        return text.length();
    }

    int clearText() {
        int length = text.length();
        text = "";
        return length;
    }

    /** The length of the longest beginning of the text that can still become a score. */
    int errorPosition() {
        if (read(text) != null) {
            return NONE;
        }
        int length = text.length();
        while (length > 0 && !canBecomeScore(text.substring(0, length))) {
            length--;
        }
        return length;
    }

    private static boolean canBecomeScore(String beginning) {
        for (String partEnd : PART_ENDS) {
            for (String sectionEnd : SECTION_ENDS) {
                if (read(beginning + partEnd + sectionEnd) != null) {
                    return true;
                }
            }
        }
        return false;
    }

    private static Score read(String whole) {
        if (!whole.startsWith("C")) {
            return null;
        }
        Score score = new Score();
        Matcher part = PART.matcher(whole);
        int position = 1;
        int opened = NONE;
        while (position < whole.length()) {
            if (!part.find(position) || part.start() != position) {
                return null;
            }
            position = part.end();
            int last = score.bars.size() - 1;
            if (part.group(1) != null) {
                score.bars.add(new Bar(number(part, 1)));
            } else if (part.group(6) != null) {
                if (opened != NONE) {
                    return null;
                }
                opened = last + 1;
            } else if (part.group(7) != null) {
                if (opened == NONE || opened > last) {
                    return null;
                }
                score.sections.put(opened, new int[] {last, number(part, 7)});
                opened = NONE;
            } else if (!readMark(part, score)) {
                return null;
            }
        }
        boolean fits = opened == NONE && score.bars.size() <= 24 && score.sections.size() <= 4;
        return fits ? score : null;
    }

    private static boolean readMark(Matcher part, Score score) {
        if (score.bars.isEmpty()) {
            return false;
        }
        Bar bar = score.bars.get(score.bars.size() - 1);
        if (part.group(2) != null) {
            bar.mark = number(part, 2);
        } else if (part.group(3) != null) {
            if (number(part, 3) > bar.stretches.size()) {
                return false;
            }
            bar.stretches.set(number(part, 3) - 1, number(part, 4));
        } else {
            bar.passes.add(number(part, 5));
        }
        return true;
    }

    private static int number(Matcher part, int group) {
        return Integer.parseInt(part.group(group));
    }

    int load() {
        Score told = read(text);
        state(told != null);
        score = told;
        remembered.clear();
        slots[0] = null;
        slots[1] = null;
        return score.bars.size();
    }

    // ---- the score

    int about(int what) {
        argument(what >= 0 && what <= 4);
        return switch (what) {
            case 0 -> score.bars.size();
            case 1 -> score.sections.size();
            case 2 -> (int) score.bars.stream().filter(bar -> bar.mark != null).count();
            case 3 -> (int) score.bars.stream().flatMap(bar -> bar.stretches.stream()).filter(s -> s > 1).count();
            default -> (int) score.bars.stream().filter(bar -> !bar.passes.isEmpty()).count();
        };
    }

    int bar(int b, int what) {
        barExists(b);
        argument(what >= 0 && what <= 5);
        Bar bar = score.bars.get(b);
        return switch (what) {
            case 0 -> bar.stretches.size();
            case 1 -> tempo(b);
            case 2 -> bar.mark == null ? NONE : bar.mark;
            case 3 -> bar.passes.stream().mapToInt(pass -> 1 << (pass - 1)).sum();
            case 4 -> sectionOf(b);
            default -> (int) lasts(b, 100);
        };
    }

    private int tempo(int b) {
        int tempo = 120;
        for (int k = 0; k <= b; k++) {
            if (score.bars.get(k).mark != null) {
                tempo = score.bars.get(k).mark;
            }
        }
        return tempo;
    }

    private int sectionOf(int b) {
        int s = 0;
        for (int first : score.sections.keySet()) {
            if (b >= first && b <= score.sections.get(first)[0]) {
                return s;
            }
            s++;
        }
        return NONE;
    }

    private long lasts(int b, int percentage) {
        long sum = 0;
        for (int stretch : score.bars.get(b).stretches) {
            sum += 60000000L / (tempo(b) * percentage / 100) * stretch;
        }
        return sum;
    }

    int stretch(int b, int beat) {
        barExists(b);
        argument(beat >= 1 && beat <= score.bars.get(b).stretches.size());
        return score.bars.get(b).stretches.get(beat - 1);
    }

    int section(int s, int what) {
        index(s >= 0 && s < score.sections.size());
        argument(what >= 0 && what <= 2);
        int first = new ArrayList<>(score.sections.keySet()).get(s);
        return what == 0 ? first : score.sections.get(first)[what - 1];
    }

    // ---- what is played

    /** The row, and behind it a place without a bar that stands for the end. */
    private List<Place> row(int p) {
        List<Place> row = new ArrayList<>();
        long now = 0;
        int b = 0;
        while (b < score.bars.size()) {
            int[] section = score.sections.getOrDefault(b, new int[] {b, 1});
            for (int pass = 1; pass <= section[1]; pass++) {
                for (int k = b; k <= section[0]; k++) {
                    if (!score.bars.get(k).passes.contains(pass) && !score.skips.get(p).contains(k)) {
                        row.add(new Place(k, pass, now));
                        now += lasts(k, 100);
                    }
                }
            }
            b = section[0] + 1;
        }
        row.add(new Place(NONE, NONE, now));
        return row;
    }

    /** By its moment: 10 times the place and the beat of each click. */
    private TreeMap<Long, Integer> clickMap(int p) {
        TreeMap<Long, Integer> clicks = new TreeMap<>();
        List<Place> row = row(p);
        for (int i = 0; i < row.size() - 1; i++) {
            long now = row.get(i).start;
            int beat = 1;
            for (int stretch : score.bars.get(row.get(i).bar).stretches) {
                clicks.put(now, 10 * i + beat);
                now += 60000000L / tempo(row.get(i).bar) * stretch;
                beat++;
            }
        }
        return clicks;
    }

    private long end(int p) {
        List<Place> row = row(p);
        return row.get(row.size() - 1).start;
    }

    int places(int p) {
        playerExists(p);
        return row(p).size() - 1;
    }

    int place(int p, int i, int what) {
        playerExists(p);
        argument(i >= 0 && what >= 0 && what <= 2);
        List<Place> row = row(p);
        if (i >= row.size() - 1) {
            return NONE;
        }
        Place place = row.get(i);
        return switch (what) {
            case 0 -> place.bar;
            case 1 -> place.pass;
            default -> (int) row.subList(0, i).stream().filter(other -> other.bar == place.bar).count();
        };
    }

    long begins(int p, int i) {
        playerExists(p);
        argument(i >= 0 && i < row(p).size());
        return row(p).get(i).start;
    }

    int find(int p, int b, int pass) {
        playerExists(p);
        barExists(b);
        argument(pass >= 1 && pass <= 4);
        List<Place> row = row(p);
        for (int i = 0; i < row.size(); i++) {
            if (row.get(i).bar == b && row.get(i).pass == pass) {
                return i;
            }
        }
        return NONE;
    }

    int at(int p, long moment) {
        playerExists(p);
        argument(moment >= 0);
        return moment >= end(p) ? NONE : clickMap(p).floorEntry(moment).getValue();
    }

    long nextClick(int p, long moment) {
        playerExists(p);
        argument(moment >= 0);
        Long click = clickMap(p).ceilingKey(moment);
        return click == null ? NONE : click;
    }

    int clicks(int p, long from, long to) {
        playerExists(p);
        argument(from >= 0 && to >= from);
        return clickMap(p).subMap(from, to).size();
    }

    int missed(int p) {
        playerExists(p);
        Set<List<Integer>> due = new HashSet<>();
        for (int b = 0; b < score.bars.size(); b++) {
            int s = sectionOf(b);
            for (int pass = 1; pass <= (s == NONE ? 1 : section(s, 2)); pass++) {
                due.add(List.of(b, pass));
            }
        }
        row(p).forEach(place -> due.remove(List.of(place.bar, place.pass)));
        return due.size();
    }

    int together(int p, int q) {
        playerExists(p);
        playerExists(q);
        Set<Long> both = new HashSet<>(clickMap(p).keySet());
        both.retainAll(clickMap(q).keySet());
        return both.size();
    }

    int part(int p, int q) {
        playerExists(p);
        playerExists(q);
        List<Place> one = row(p);
        List<Place> other = row(q);
        for (int i = 0; i < one.size() && i < other.size(); i++) {
            if (!one.get(i).isSame(other.get(i))) {
                return i;
            }
        }
        return NONE;
    }

    long meet(int p, int q) {
        playerExists(p);
        playerExists(q);
        List<Place> one = row(p);
        List<Place> other = row(q);
        for (int i = 0; i < one.size() - 1; i++) {
            for (int k = 0; k < other.size() - 1; k++) {
                if (i != k && one.get(i).equals(other.get(k))) {
                    return one.get(i).start;
                }
            }
        }
        return NONE;
    }

    // ---- actions

    private void remember() {
        remembered.addLast(score.copy());
        if (remembered.size() > 14) {
            remembered.removeFirst();
        }
    }

    int addBar(int beats) {
        argument(beats >= 1 && beats <= 9);
        state(score.bars.size() < 24);
        remember();
        score.bars.add(new Bar(beats));
        return score.bars.size() - 1;
    }

    int setTempo(int b, int tempo) {
        barExists(b);
        argument(tempo == 0 || tempo >= 30 && tempo <= 240);
        remember();
        int before = tempo(b);
        score.bars.get(b).mark = tempo == 0 ? null : (Integer) tempo;
        return before;
    }

    int setStretch(int b, int beat, int stretch) {
        barExists(b);
        argument(beat >= 1 && beat <= score.bars.get(b).stretches.size() && stretch >= 1 && stretch <= 4);
        remember();
        return score.bars.get(b).stretches.set(beat - 1, stretch);
    }

    boolean leaveOut(int b, int pass, boolean is) {
        barExists(b);
        argument(pass >= 1 && pass <= 4);
        remember();
        Set<Integer> passes = score.bars.get(b).passes;
        return is ? !passes.add(pass) : passes.remove(pass);
    }

    int addSection(int first, int last, int times) {
        barExists(first);
        barExists(last);
        argument(last >= first && times >= 2 && times <= 4);
        for (int b = first; b <= last; b++) {
            state(sectionOf(b) == NONE);
        }
        state(score.sections.size() < 4);
        remember();
        score.sections.put(first, new int[] {last, times});
        return sectionOf(first);
    }

    int removeSection(int s) {
        int first = section(s, 0);
        remember();
        score.sections.remove(first);
        return score.sections.size();
    }

    int skip(int p, int b, boolean is) {
        playerExists(p);
        barExists(b);
        remember();
        Set<Integer> skips = score.skips.get(p);
        if (is) {
            skips.add(b);
        } else {
            skips.remove(b);
        }
        return skips.size();
    }

    int undo() {
        state(!remembered.isEmpty());
        score = remembered.removeLast();
        return remembered.size();
    }

    // ---- what would be

    int percentage(int p, long limit) {
        playerExists(p);
        argument(limit >= 0);
        for (int percentage = 50; percentage <= 200; percentage++) {
            long sum = 0;
            for (Place place : row(p)) {
                sum += place.bar == NONE ? 0 : lasts(place.bar, percentage);
            }
            if (sum <= limit) {
                return percentage;
            }
        }
        return NONE;
    }

    int longest(int p) {
        playerExists(p);
        TreeMap<Integer, Long> sums = new TreeMap<>();
        for (Place place : row(p)) {
            if (place.bar != NONE) {
                sums.merge(place.bar, lasts(place.bar, 100), Long::sum);
            }
        }
        int best = NONE;
        for (int b : sums.keySet()) {
            if (best == NONE || sums.get(b) > sums.get(best)) {
                best = b;
            }
        }
        return best;
    }

    // ---- scripts, simulations

    int runScript(int n, long script) {
        argument(n >= 1 && n <= 3 && script >= 0 && Long.toString(script).length() <= 5 * n);
        String digits = "0".repeat(5 * n - Long.toString(script).length()) + script;
        Model copy = new Model();
        copy.score = score.copy();
        for (int k = 0; k < n; k++) {
            if (!copy.succeeds(digits.substring(5 * k, 5 * k + 5))) {
                return k;
            }
        }
        return NONE;
    }

    private boolean succeeds(String d) {
        IntPredicate flag = i -> d.charAt(i) == '0' || d.charAt(i) == '1';
        try {
            if (d.matches("1000.")) {
                addBar(part(d, 4, 5));
            } else if (d.matches("2....")) {
                setTempo(part(d, 1, 3), 10 * part(d, 3, 5));
            } else if (d.matches("3....")) {
                setStretch(part(d, 1, 3), part(d, 3, 4), part(d, 4, 5));
            } else if (d.matches("4....") && flag.test(4)) {
                leaveOut(part(d, 1, 3), part(d, 3, 4), d.charAt(4) == '1');
            } else if (d.matches("5....") && flag.test(4)) {
                skip(part(d, 1, 2), part(d, 2, 4), d.charAt(4) == '1');
            } else if (d.matches("6.0..")) {
                return places(part(d, 1, 2)) >= part(d, 3, 5);
            } else if (d.matches("7....")) {
                playerExists(part(d, 1, 2));
                return end(part(d, 1, 2)) <= 1000000L * part(d, 2, 5);
            } else if (d.matches("8.000")) {
                removeSection(part(d, 1, 2));
            } else if (d.matches("9..00")) {
                return part(part(d, 1, 2), part(d, 2, 3)) == NONE;
            } else {
                return false;
            }
            return true;
        } catch (IndexOutOfBoundsException | IllegalArgumentException | IllegalStateException e) {
            return false;
        }
    }

    private static int part(String digits, int from, int to) {
        return Integer.parseInt(digits.substring(from, to));
    }

    int simulate(long seed, int m) {
        argument(m >= 1 && m <= 50);
        long x = seed;
        int together = 0;
        for (int k = 0; k < m; k++) {
            Model copy = new Model();
            copy.score = score.copy();
            for (int b = 0; b < score.bars.size(); b++) {
                x = x * 6364136223846793005L + 1442695040888963407L;
                int r = (int) (x >>> 33);
                if (r % 8 == 0) {
                    Set<Integer> skips = copy.score.skips.get(r / 8 % 3);
                    if (!skips.remove(b)) {
                        skips.add(b);
                    }
                }
            }
            if (copy.end(0) == copy.end(1) && copy.end(1) == copy.end(2)) {
                together++;
            }
        }
        return together;
    }

    // ---- save slots

    int save(int slot) {
        index(slot == 0 || slot == 1);
        slots[slot] = score.copy();
        return score.bars.size();
    }

    int restore(int slot) {
        index(slot == 0 || slot == 1);
        state(slots[slot] != null);
        score = slots[slot].copy();
        remembered.clear();
        return score.bars.size();
    }

    // ---- exceptions

    private void barExists(int b) {
        index(b >= 0 && b < score.bars.size());
    }

    private static void playerExists(int p) {
        index(p >= 0 && p <= 2);
    }

    private static void index(boolean holds) {
        if (!holds) {
            throw new IndexOutOfBoundsException();
        }
    }

    private static void argument(boolean holds) {
        if (!holds) {
            throw new IllegalArgumentException();
        }
    }

    private static void state(boolean holds) {
        if (!holds) {
            throw new IllegalStateException();
        }
    }
}
