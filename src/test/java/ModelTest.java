/** Long runs of mixed calls, the same ones in each run of the test: class and Model must answer alike. */
public final class ModelTest {
    private static final int RUNS = 240;
    private static final int CALLS = 340;
    private static final String SIGNS = "Cbtfs()0123456789bs()";
    private static final String ENDING_SIGNS = "\u0000Cbtfs()0123459 ";

    private interface Pair {
        long ofClass();

        long ofModel();
    }

    private final ClickTrack x = new ClickTrack();
    private final Model model = new Model();
    private long seed;
    private String told = "";

    private ModelTest(long seed) {
        this.seed = seed;
    }

    public static void main(String[] args) {
        int wrong = 0;
        for (int run = 1; run <= RUNS; run++) {
            if (!new ModelTest(run).agree(run)) {
                wrong++;
            }
        }
        for (int n = 0; n < 4000; n++) {
            if (!new ModelTest(-n).agreeOnText()) {
                wrong++;
            }
        }
        for (String beginning : new String[] {"", "C", "Cb4", "C(b3", "Cb1(b9)2", "Cb4t", "C(b1)2(b1)2(b1)2(b1"}) {
            wrong += new ModelTest(0).disagreeBehind(beginning);
        }
        wrong += everyCommand();
        System.out.println("ModelTest: " + RUNS + " runs of " + CALLS + " calls, 4000 texts, each short ending of 7 texts, "
                + "each command of a script, " + wrong + " wrong");
        if (wrong != 0) {
            System.exit(1);
        }
    }

    private int below(int bound) {
        seed = seed * 6364136223846793005L + 1442695040888963407L;
        return (int) ((seed >>> 33) % bound);
    }

    private int between(int low, int high) {
        return low + below(high - low + 1);
    }

    private boolean agree(int run) {
        if (run % 3 != 0) {
            Checks.write(x, scoreText());
            x.load();
            copyTextToModel();
            model.load();
        }
        for (int call = 0; call < CALLS; call++) {
            if (!same()) {
                System.out.println("ModelTest run " + run + ", call " + call + ": " + told);
                return false;
            }
        }
        return true;
    }

    private void copyTextToModel() {
        model.clearText();
        lastText.chars().forEach(model::append);
    }

    private String lastText = "";

    /** A score of the document's rules, mostly; now and then one that breaks them. */
    private String scoreText() {
        StringBuilder out = new StringBuilder("C");
        int bars = between(0, below(4) == 0 ? 24 : 9);
        boolean open = false;
        int sections = 0;
        for (int b = 0; b < bars; b++) {
            if (!open && sections < 4 && below(3) == 0) {
                out.append('(');
                open = true;
                sections++;
            }
            int beats = between(1, 9);
            out.append('b').append(beats);
            for (int mark = below(3); mark > 0 && out.length() < 110; mark--) {
                appendMark(out, beats);
            }
            if (open && below(2) == 0) {
                out.append(')').append(between(2, 4));
                open = false;
            }
        }
        if (open) {
            out.append(")2");
        }
        lastText = out.toString();
        return lastText;
    }

    private void appendMark(StringBuilder out, int beats) {
        switch (below(3)) {
            case 0:
                int tempo = below(2) == 0 ? 60 * between(1, 4) : between(30, 240);
                out.append('t').append(tempo / 100).append(tempo / 10 % 10).append(tempo % 10);
                break;
            case 1:
                out.append('f').append(between(1, beats)).append(between(2, 4));
                break;
            default:
                out.append('s').append(between(1, 4));
        }
    }

    /** Each ending of up to three signs; an object for each of its texts keeps it within its 512 calls. */
    private int disagreeBehind(String beginning) {
        int wrong = 0;
        int signs = ENDING_SIGNS.length();
        for (int code = 0; code < signs * signs * signs; code++) {
            StringBuilder text = new StringBuilder(beginning);
            for (int rest = code; rest > 0; rest /= signs) {
                text.append(ENDING_SIGNS.charAt(rest % signs));
            }
            ClickTrack track = Checks.written(text.toString());
            lastText = text.toString();
            copyTextToModel();
            if (track.errorPosition() != model.errorPosition()) {
                System.out.println("ModelTest text " + text + ": " + track.errorPosition());
                wrong++;
            }
        }
        return wrong;
    }

    /** Each group of five digits as a script of its own, on a score with a section and bars of two digits. */
    private static int everyCommand() {
        Model model = new Model();
        "C(b4t060)2b3b9s2b1b1b1b1b1b1b1b5t130".chars().forEach(model::append);
        model.load();
        model.skip(1, 1, true);
        int wrong = 0;
        ClickTrack track = null;
        for (int command = 0; command < 100000; command++) {
            if (command % 400 == 0) {
                track = Checks.loaded("C(b4t060)2b3b9s2b1b1b1b1b1b1b1b5t130");
                track.skip(1, 1, true);
            }
            if (track.runScript(1, command) != model.runScript(1, command)) {
                System.out.println("ModelTest script " + command + ": " + track.runScript(1, command));
                wrong++;
            }
        }
        return wrong;
    }

    private boolean agreeOnText() {
        StringBuilder text = new StringBuilder(scoreText());
        for (int changes = below(3); changes > 0; changes--) {
            int at = below(text.length() + 1);
            char sign = below(20) == 0 ? (char) below(256) : SIGNS.charAt(below(SIGNS.length()));
            if (below(3) == 0 || at == text.length()) {
                text.insert(at, sign);
            } else if (below(2) == 0) {
                text.setCharAt(at, sign);
            } else {
                text.deleteCharAt(at);
            }
        }
        if (below(4) == 0) {
            text.setLength(below(text.length() + 1));
        }
        lastText = text.substring(0, Math.min(160, text.length()));
        Checks.write(x, lastText);
        copyTextToModel();
        told = lastText;
        boolean agrees = x.errorPosition() == model.errorPosition();
        if (agrees && x.errorPosition() == ClickTrack.NONE) {
            x.load();
            model.load();
            agrees = Checks.picture(x).equals(picture());
        }
        if (!agrees) {
            System.out.println("ModelTest text " + told + ": " + x.errorPosition() + ", model " + model.errorPosition());
        }
        return agrees;
    }

    private String picture() {
        StringBuilder out = new StringBuilder();
        for (int b = 0; b < model.about(0); b++) {
            for (int what = 0; what <= 5; what++) {
                out.append(model.bar(b, what)).append(',');
            }
            for (int beat = 1; beat <= model.bar(b, 0); beat++) {
                out.append(model.stretch(b, beat));
            }
            out.append(';');
        }
        for (int s = 0; s < model.about(1); s++) {
            out.append('(').append(model.section(s, 0)).append('-').append(model.section(s, 1));
            out.append('*').append(model.section(s, 2)).append(')');
        }
        for (int p = 0; p < 3; p++) {
            out.append('|');
            for (int i = 0; i < model.places(p); i++) {
                out.append(model.place(p, i, 0)).append('.').append(model.place(p, i, 1)).append(' ');
            }
        }
        return out.toString();
    }

    private interface Made {
        long answer();
    }

    private static String outcome(Made made) {
        try {
            return Long.toString(made.answer());
        } catch (RuntimeException e) {
            return e.getClass().getName();
        }
    }

    private boolean compare(String call, Made ofClass, Made ofModel) {
        String got = outcome(ofClass);
        String want = outcome(ofModel);
        told = call + " answered " + got + ", the model " + want;
        return got.equals(want);
    }

    private int bar() {
        int bars = model.about(0);
        return below(16) == 0 ? between(-2, bars + 1) : below(Math.max(1, bars));
    }

    private int player() {
        return below(24) == 0 ? between(-1, 3) : below(3);
    }

    /** Near the begin of a place or a click, or anywhere. */
    private long moment(int p) {
        if (p < 0 || p > 2 || below(24) == 0) {
            return between(-2, 2);
        }
        long near = model.begins(p, below(model.places(p) + 1));
        switch (below(3)) {
            case 0:
                return near + between(-1, 1);
            case 1:
                return Math.max(near, model.nextClick(p, Math.max(0, near - between(0, 3000000)))) + between(-1, 1);
            default:
                return near + between(0, 2000000);
        }
    }

    private boolean same() {
        switch (below(10)) {
            case 0:
                return sameText();
            case 1:
                return sameScore();
            case 2:
            case 3:
                return samePlayed();
            case 4:
                return sameMoment();
            case 5:
                return samePair();
            case 6:
            case 7:
                return sameAction();
            case 8:
                return sameWouldBe();
            default:
                return sameSlot();
        }
    }

    private boolean sameText() {
        switch (below(12)) {
            case 0:
                return compare("clearText()", () -> x.clearText(), () -> model.clearText());
            case 1:
                return compare("load()", () -> x.load(), () -> model.load());
            case 2:
            case 3:
                return compare("errorPosition()", () -> x.errorPosition(), () -> model.errorPosition());
            case 4:
                int any = between(-2, 257);
                return compare("append(" + any + ")", () -> x.append(any), () -> model.append(any));
            default:
                char sign = SIGNS.charAt(below(SIGNS.length()));
                return compare("append(" + sign + ")", () -> x.append(sign), () -> model.append(sign));
        }
    }

    private boolean sameScore() {
        int b = bar();
        switch (below(4)) {
            case 0:
                int a = between(-1, 5);
                return compare("about(" + a + ")", () -> x.about(a), () -> model.about(a));
            case 1:
                int what = between(-1, 6);
                return compare("bar(" + b + ", " + what + ")", () -> x.bar(b, what), () -> model.bar(b, what));
            case 2:
                int beat = between(0, 10);
                return compare("stretch(" + b + ", " + beat + ")", () -> x.stretch(b, beat), () -> model.stretch(b, beat));
            default:
                int s = between(-1, 4);
                int w = between(-1, 3);
                return compare("section(" + s + ", " + w + ")", () -> x.section(s, w), () -> model.section(s, w));
        }
    }

    private boolean samePlayed() {
        int p = player();
        int i = between(-1, p < 0 || p > 2 ? 9 : model.places(p) + 1);
        switch (below(6)) {
            case 0:
                return compare("places(" + p + ")", () -> x.places(p), () -> model.places(p));
            case 1:
                int what = between(below(9) == 0 ? -1 : 0, below(9) == 0 ? 3 : 2);
                return compare("place(" + p + ", " + i + ", " + what + ")", () -> x.place(p, i, what),
                        () -> model.place(p, i, what));
            case 2:
                return compare("begins(" + p + ", " + i + ")", () -> x.begins(p, i), () -> model.begins(p, i));
            case 3:
                int b = bar();
                int pass = between(0, 5);
                return compare("find(" + p + ", " + b + ", " + pass + ")", () -> x.find(p, b, pass),
                        () -> model.find(p, b, pass));
            case 4:
                return compare("missed(" + p + ")", () -> x.missed(p), () -> model.missed(p));
            default:
                return compare("longest(" + p + ")", () -> x.longest(p), () -> model.longest(p));
        }
    }

    private boolean sameMoment() {
        int p = player();
        long from = moment(p);
        long to = moment(p);
        switch (below(3)) {
            case 0:
                return compare("at(" + p + ", " + from + ")", () -> x.at(p, from), () -> model.at(p, from));
            case 1:
                return compare("nextClick(" + p + ", " + from + ")", () -> x.nextClick(p, from),
                        () -> model.nextClick(p, from));
            default:
                return compare("clicks(" + p + ", " + from + ", " + to + ")", () -> x.clicks(p, from, to),
                        () -> model.clicks(p, from, to));
        }
    }

    private boolean samePair() {
        int p = player();
        int q = player();
        String players = "(" + p + ", " + q + ")";
        switch (below(3)) {
            case 0:
                return compare("together" + players, () -> x.together(p, q), () -> model.together(p, q));
            case 1:
                return compare("part" + players, () -> x.part(p, q), () -> model.part(p, q));
            default:
                return compare("meet" + players, () -> x.meet(p, q), () -> model.meet(p, q));
        }
    }

    private boolean sameAction() {
        int b = bar();
        boolean is = below(3) != 0;
        switch (below(9)) {
            case 0:
                int beats = below(9) == 0 ? between(-1, 11) : between(1, 9);
                return compare("addBar(" + beats + ")", () -> x.addBar(beats), () -> model.addBar(beats));
            case 1:
                int tempo = below(3) == 0 ? 0 : below(2) == 0 ? 30 * between(1, 8) : between(28, 242);
                return compare("setTempo(" + b + ", " + tempo + ")", () -> x.setTempo(b, tempo),
                        () -> model.setTempo(b, tempo));
            case 2:
                int beat = between(0, 10);
                int stretch = between(0, 5);
                return compare("setStretch(" + b + ", " + beat + ", " + stretch + ")",
                        () -> x.setStretch(b, beat, stretch), () -> model.setStretch(b, beat, stretch));
            case 3:
                int pass = below(9) == 0 ? between(-1, 6) : between(1, 4);
                return compare("leaveOut(" + b + ", " + pass + ", " + is + ")",
                        () -> Checks.bit(x.leaveOut(b, pass, is)), () -> Checks.bit(model.leaveOut(b, pass, is)));
            case 4:
            case 5:
                int last = below(2) == 0 ? bar() : b + below(3);
                int times = below(9) == 0 ? between(0, 6) : between(2, 4);
                return compare("addSection(" + b + ", " + last + ", " + times + ")",
                        () -> x.addSection(b, last, times), () -> model.addSection(b, last, times));
            case 6:
                int s = below(2) == 0 ? between(-1, 4) : 4;
                return compare("removeSection(" + s + ")", () -> x.removeSection(s), () -> model.removeSection(s));
            case 7:
                int p = player();
                return compare("skip(" + p + ", " + b + ", " + is + ")", () -> x.skip(p, b, is),
                        () -> model.skip(p, b, is));
            default:
                return compare("undo()", () -> x.undo(), () -> model.undo());
        }
    }

    private boolean sameWouldBe() {
        switch (below(4)) {
            case 0:
                long from = below(2) == 0 ? between(-9, 9) : seed;
                int m = below(9) == 0 ? between(-1, 52) : between(1, 12);
                return compare("simulate(" + from + ", " + m + ")", () -> x.simulate(from, m), () -> model.simulate(from, m));
            case 1:
                int p = player();
                long end = p < 0 || p > 2 ? 0 : model.begins(p, model.places(p));
                long limit = below(9) == 0 ? between(-1, 1) : end / 100 * between(45, 210) + between(-1, 1);
                return compare("percentage(" + p + ", " + limit + ")", () -> x.percentage(p, limit),
                        () -> model.percentage(p, limit));
            default:
                int n = below(12) == 0 ? between(-1, 5) : between(1, 3);
                long script = 0;
                for (int k = 0; k < n + (below(20) == 0 ? 1 : 0); k++) {
                    script = script * 100000 + command();
                }
                long whole = below(30) == 0 ? -script : script;
                return compare("runScript(" + n + ", " + whole + ")", () -> x.runScript(n, whole),
                        () -> model.runScript(n, whole));
        }
    }

    private int command() {
        int b = Math.max(0, bar());
        int kind = between(0, 9);
        if (below(12) == 0) {
            return 10000 * kind + below(10000);
        }
        switch (kind) {
            case 1:
                return 10000 + between(0, 9);
            case 2:
                return 20000 + 100 * b + (below(3) == 0 ? 0 : between(0, 26));
            case 3:
                return 30000 + 100 * b + 10 * between(0, 9) + between(0, 5);
            case 4:
                return 40000 + 100 * b + 10 * between(0, 5) + between(0, 2);
            case 5:
                return 50000 + 1000 * between(0, 3) + 10 * b + between(0, 2);
            case 6:
                return 60000 + 1000 * between(0, 2) + Math.min(99, Math.max(0, model.places(0) + between(-2, 2)));
            case 7:
                int seconds = (int) (model.begins(0, model.places(0)) / 1000000) + between(-3, 3);
                return 70000 + 1000 * between(0, 2) + Math.min(999, Math.max(0, seconds));
            case 8:
                return 80000 + 1000 * between(0, 4);
            case 9:
                return 90000 + 1000 * between(0, 3) + 100 * between(0, 3);
            default:
                return below(10000);
        }
    }

    private boolean sameSlot() {
        int slot = below(9) == 0 ? between(-1, 2) : below(2);
        switch (below(6)) {
            case 0:
                return compare("restore(" + slot + ")", () -> x.restore(slot), () -> model.restore(slot));
            case 1:
                return compare("save(" + slot + ")", () -> x.save(slot), () -> model.save(slot));
            default:
                return compare("undo()", () -> x.undo(), () -> model.undo());
        }
    }
}
