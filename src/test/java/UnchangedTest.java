import java.util.ArrayList;
import java.util.List;
import java.util.function.Consumer;
import java.util.function.Function;
import java.util.function.Supplier;
import java.util.function.ToLongFunction;

/**
 * "A call that throws an exception changes nothing", and neither does a call that only tells something:
 * each of them is made on an object of its own, which must then tell the same as one without the call.
 * Also "If several exceptions apply to a call, the one that its description names first is thrown".
 */
public final class UnchangedTest {
    private static final Checks CHECKS = new Checks("UnchangedTest");
    private static final int MIN = Integer.MIN_VALUE;
    private static final int MAX = Integer.MAX_VALUE;

    private record Call(String name, Class<? extends RuntimeException> refusal, ToLongFunction<ClickTrack> made) {
    }

    private record Aspect(String name, Function<ClickTrack, String> told) {
    }

    /** An object that is made anew for each call and aspect, and the calls that are made on it. */
    private static final class Scene {
        final String name;
        final Supplier<ClickTrack> made;
        final List<Call> calls = new ArrayList<>();

        Scene(String name, Supplier<ClickTrack> made) {
            this.name = name;
            this.made = made;
        }

        void index(String call, ToLongFunction<ClickTrack> answer) {
            calls.add(new Call(call, Checks.INDEX, answer));
        }

        void argument(String call, ToLongFunction<ClickTrack> answer) {
            calls.add(new Call(call, Checks.ARGUMENT, answer));
        }

        void state(String call, ToLongFunction<ClickTrack> answer) {
            calls.add(new Call(call, Checks.STATE, answer));
        }

        void tells(String call, ToLongFunction<ClickTrack> answer) {
            calls.add(new Call(call, null, answer));
        }
    }

    public static void main(String[] args) {
        compare(emptyScene());
        compare(workedScene());
        compare(fullTextScene());
        compare(fullScoreScene());
        CHECKS.end();
    }

    // ---- the scenes

    private static Scene emptyScene() {
        Scene scene = new Scene("a new object", ClickTrack::new);
        textCalls(scene);
        anyScoreCalls(scene, 0);
        scene.state("load() of no text", x -> x.load());
        scene.state("undo() of nothing", x -> x.undo());
        scene.state("restore(0) of nothing", x -> x.restore(0));
        scene.state("restore(1) of nothing", x -> x.restore(1));
        scene.tells("simulate(5, 50)", x -> x.simulate(5, 50));
        scene.tells("percentage(0, 0)", x -> x.percentage(0, 0));
        return scene;
    }

    /** Bars of 4, 3, 2, 1, 2 beats; the section 0 is the bars 1 and 2; slot 1 is empty; the text ends too soon. */
    private static ClickTrack worked() {
        ClickTrack x = Checks.loaded("Cb4t060f42s3(b3b2s1)3b1t240");
        x.skip(0, 1, true);
        x.skip(2, 3, true);
        x.save(0);
        x.setStretch(1, 3, 4);
        x.addBar(2);
        x.append('t');
        return x;
    }

    private static Scene workedScene() {
        Scene scene = new Scene("five bars", UnchangedTest::worked);
        textCalls(scene);
        anyScoreCalls(scene, 5);
        barCalls(scene);
        severalOfBarCalls(scene);
        sectionCalls(scene);
        scene.state("load() of a text that ends too soon", x -> x.load());
        scene.state("restore(1) of nothing", x -> x.restore(1));
        readings(scene);
        wouldBe(scene);
        return scene;
    }

    private static Scene fullTextScene() {
        Scene scene = new Scene("160 signs", () -> {
            ClickTrack x = Checks.loaded("Cb9f12s1" + "t120".repeat(38));
            x.addBar(3);
            return x;
        });
        textCalls(scene);
        scene.state("append(C) to 160 signs", x -> x.append('C'));
        scene.state("append(0) to 160 signs", x -> x.append(0));
        scene.state("append(255) to 160 signs", x -> x.append(255));
        return scene;
    }

    /** 24 bars, the first four in sections of their own, 14 states remembered, both slots saved. */
    private static ClickTrack fullScore() {
        ClickTrack x = Checks.loaded("C(b1)2(b1)2(b1)2(b1)2" + "b1".repeat(20));
        x.save(1);
        for (int b = 0; b < 15; b++) {
            x.setTempo(b, 100 + b);
        }
        x.save(0);
        return x;
    }

    private static Scene fullScoreScene() {
        Scene scene = new Scene("24 bars", UnchangedTest::fullScore);
        anyScoreCalls(scene, 24);
        scene.state("addBar(1) to 24 bars", x -> x.addBar(1));
        scene.state("addBar(9) to 24 bars", x -> x.addBar(9));
        scene.argument("several: addBar(0) to 24 bars", x -> x.addBar(0));
        scene.argument("several: addBar(10) to 24 bars", x -> x.addBar(10));
        scene.state("addSection(5, 5, 2) to 4 sections", x -> x.addSection(5, 5, 2));
        scene.state("addSection(4, 23, 4) to 4 sections", x -> x.addSection(4, 23, 4));
        scene.state("addSection(3, 4, 2) to 4 sections", x -> x.addSection(3, 4, 2));
        scene.argument("several: addSection(5, 5, 1) to 4 sections", x -> x.addSection(5, 5, 1));
        scene.argument("several: addSection(5, 5, 5) to 4 sections", x -> x.addSection(5, 5, 5));
        scene.argument("several: addSection(6, 5, 2) to 4 sections", x -> x.addSection(6, 5, 2));
        scene.index("several: addSection(5, 24, 2) to 4 sections", x -> x.addSection(5, 24, 2));
        scene.index("several: addSection(-1, 5, 2) to 4 sections", x -> x.addSection(-1, 5, 2));
        scene.index("section(4, 0)", x -> x.section(4, 0));
        scene.index("removeSection(4)", x -> x.removeSection(4));
        scene.tells("runScript that takes a section away", x -> x.runScript(3, 800008000083000L));
        scene.tells("simulate(9, 50)", x -> x.simulate(9, 50));
        return scene;
    }

    // ---- the calls

    private static void textCalls(Scene scene) {
        for (int c : new int[] {-1, 256, MIN, MAX}) {
            scene.argument("append(" + c + ")", x -> x.append(c));
        }
        scene.tells("errorPosition()", x -> x.errorPosition());
    }

    /** The calls that any score refuses, also one without bars. */
    private static void anyScoreCalls(Scene scene, int bars) {
        for (int what : new int[] {-1, 5, MIN, MAX}) {
            scene.argument("about(" + what + ")", x -> x.about(what));
        }
        for (int b : new int[] {-1, bars, MIN, MAX}) {
            noSuchBar(scene, b, bars);
        }
        for (int p : new int[] {-1, 3, MIN, MAX}) {
            noSuchPlayer(scene, p, bars);
            noSuchPlayerOfTwo(scene, p);
        }
        for (int slot : new int[] {-1, 2, MIN, MAX}) {
            scene.index("save(" + slot + ")", x -> x.save(slot));
            scene.index("restore(" + slot + ")", x -> x.restore(slot));
        }
        placeCalls(scene);
        momentCalls(scene);
        scene.argument("addBar(-1)", x -> x.addBar(-1));
        scene.argument("addBar(0)", x -> x.addBar(0));
        scene.argument("addBar(10)", x -> x.addBar(10));
        scriptCalls(scene);
    }

    private static void noSuchBar(Scene scene, int b, int bars) {
        scene.index("bar(" + b + ", 0)", x -> x.bar(b, 0));
        scene.index("several: bar(" + b + ", 6)", x -> x.bar(b, 6));
        scene.index("stretch(" + b + ", 1)", x -> x.stretch(b, 1));
        scene.index("several: stretch(" + b + ", 0)", x -> x.stretch(b, 0));
        scene.index("find(0, " + b + ", 1)", x -> x.find(0, b, 1));
        scene.index("several: find(0, " + b + ", 5)", x -> x.find(0, b, 5));
        scene.index("setTempo(" + b + ", 60)", x -> x.setTempo(b, 60));
        scene.index("several: setTempo(" + b + ", 29)", x -> x.setTempo(b, 29));
        scene.index("setStretch(" + b + ", 1, 2)", x -> x.setStretch(b, 1, 2));
        scene.index("several: setStretch(" + b + ", 0, 5)", x -> x.setStretch(b, 0, 5));
        scene.index("leaveOut(" + b + ", 1, true)", x -> Checks.bit(x.leaveOut(b, 1, true)));
        scene.index("several: leaveOut(" + b + ", 0, true)", x -> Checks.bit(x.leaveOut(b, 0, true)));
        scene.index("addSection(" + b + ", " + b + ", 2)", x -> x.addSection(b, b, 2));
        scene.index("addSection(0, " + b + ", 2)", x -> x.addSection(0, b, 2));
        scene.index("several: addSection(0, " + b + ", 1)", x -> x.addSection(0, b, 1));
        scene.index("several: addSection(" + b + ", 0, 5)", x -> x.addSection(b, 0, 5));
        scene.index("skip(0, " + b + ", true)", x -> x.skip(0, b, true));
        scene.index("skip(2, " + b + ", false)", x -> x.skip(2, b, false));
    }

    private static void noSuchPlayer(Scene scene, int p, int bars) {
        String of = "(" + p + ", ";
        scene.index("places(" + p + ")", x -> x.places(p));
        scene.index("place" + of + "0, 0)", x -> x.place(p, 0, 0));
        scene.index("several: place" + of + "-1, 0)", x -> x.place(p, -1, 0));
        scene.index("several: place" + of + "0, 3)", x -> x.place(p, 0, 3));
        scene.index("begins" + of + "0)", x -> x.begins(p, 0));
        scene.index("several: begins" + of + "-1)", x -> x.begins(p, -1));
        scene.index("several: begins" + of + "97)", x -> x.begins(p, 97));
        scene.index("find" + of + "0, 1)", x -> x.find(p, 0, 1));
        scene.index("several: find" + of + "0, 0)", x -> x.find(p, 0, 0));
        scene.index("find" + of + bars + ", 1)", x -> x.find(p, bars, 1));
        scene.index("at" + of + "0)", x -> x.at(p, 0));
        scene.index("several: at" + of + "-1)", x -> x.at(p, -1));
        scene.index("nextClick" + of + "0)", x -> x.nextClick(p, 0));
        scene.index("several: nextClick" + of + "-1)", x -> x.nextClick(p, -1));
        scene.index("clicks" + of + "0, 1)", x -> x.clicks(p, 0, 1));
        scene.index("several: clicks" + of + "-1, 1)", x -> x.clicks(p, -1, 1));
        scene.index("several: clicks" + of + "1, 0)", x -> x.clicks(p, 1, 0));
        scene.index("missed(" + p + ")", x -> x.missed(p));
        scene.index("skip" + of + "0, true)", x -> x.skip(p, 0, true));
        scene.index("skip" + of + bars + ", true)", x -> x.skip(p, bars, true));
        scene.index("percentage" + of + "0)", x -> x.percentage(p, 0));
        scene.index("several: percentage" + of + "-1)", x -> x.percentage(p, -1));
        scene.index("longest(" + p + ")", x -> x.longest(p));
    }

    private static void noSuchPlayerOfTwo(Scene scene, int p) {
        for (int q : new int[] {0, 2, p}) {
            scene.index("together(" + p + ", " + q + ")", x -> x.together(p, q));
            scene.index("together(" + q + ", " + p + ")", x -> x.together(q, p));
            scene.index("part(" + p + ", " + q + ")", x -> x.part(p, q));
            scene.index("part(" + q + ", " + p + ")", x -> x.part(q, p));
            scene.index("meet(" + p + ", " + q + ")", x -> x.meet(p, q));
            scene.index("meet(" + q + ", " + p + ")", x -> x.meet(q, p));
        }
    }

    private static void placeCalls(Scene scene) {
        scene.argument("place(0, -1, 0)", x -> x.place(0, -1, 0));
        scene.argument("place(0, MIN, 0)", x -> x.place(0, MIN, 0));
        scene.argument("place(2, 0, -1)", x -> x.place(2, 0, -1));
        scene.argument("place(2, 0, 3)", x -> x.place(2, 0, 3));
        scene.argument("place(1, MAX, 3)", x -> x.place(1, MAX, 3));
        scene.argument("begins(0, -1)", x -> x.begins(0, -1));
        scene.argument("begins(0, 97)", x -> x.begins(0, 97));
        scene.argument("begins(1, MIN)", x -> x.begins(1, MIN));
        scene.argument("begins(2, MAX)", x -> x.begins(2, MAX));
    }

    private static void momentCalls(Scene scene) {
        for (long moment : new long[] {-1, Integer.MIN_VALUE, Long.MIN_VALUE}) {
            scene.argument("at(0, " + moment + ")", x -> x.at(0, moment));
            scene.argument("nextClick(0, " + moment + ")", x -> x.nextClick(0, moment));
            scene.argument("clicks(0, " + moment + ", 5)", x -> x.clicks(0, moment, 5));
            scene.argument("clicks(0, " + moment + ", " + moment + ")", x -> x.clicks(0, moment, moment));
            scene.argument("clicks(0, 0, " + moment + ")", x -> x.clicks(0, 0, moment));
            scene.argument("percentage(0, " + moment + ")", x -> x.percentage(0, moment));
        }
        scene.argument("clicks(0, 1, 0)", x -> x.clicks(0, 1, 0));
        scene.argument("clicks(0, MAX, MAX - 1)", x -> x.clicks(0, Long.MAX_VALUE, Long.MAX_VALUE - 1));
    }

    private static void scriptCalls(Scene scene) {
        for (int n : new int[] {-1, 0, 4, MIN, MAX}) {
            scene.argument("runScript(" + n + ", 10001)", x -> x.runScript(n, 10001));
            scene.argument("runScript(" + n + ", -1)", x -> x.runScript(n, -1));
        }
        scene.argument("runScript(1, -1)", x -> x.runScript(1, -1));
        scene.argument("runScript(3, MIN)", x -> x.runScript(3, Long.MIN_VALUE));
        scene.argument("runScript(1, six digits)", x -> x.runScript(1, 100000));
        scene.argument("runScript(2, eleven digits)", x -> x.runScript(2, 10000000000L));
        scene.argument("runScript(3, sixteen digits)", x -> x.runScript(3, 1000000000000000L));
        for (int m : new int[] {-1, 0, 51, MIN, MAX}) {
            scene.argument("simulate(1, " + m + ")", x -> x.simulate(1, m));
        }
    }

    /** Other wrong arguments for the bars of worked(). */
    private static void barCalls(Scene scene) {
        for (int what : new int[] {-1, 6, MIN, MAX}) {
            scene.argument("bar(4, " + what + ")", x -> x.bar(4, what));
        }
        for (int beat : new int[] {-1, 0, 3, MIN, MAX}) {
            scene.argument("stretch(4, " + beat + ")", x -> x.stretch(4, beat));
            scene.argument("setStretch(4, " + beat + ", 2)", x -> x.setStretch(4, beat, 2));
            scene.argument("setStretch(4, " + beat + ", 5)", x -> x.setStretch(4, beat, 5));
        }
        for (int stretch : new int[] {-1, 0, 5, MIN, MAX}) {
            scene.argument("setStretch(4, 1, " + stretch + ")", x -> x.setStretch(4, 1, stretch));
        }
        for (int pass : new int[] {-1, 0, 5, MIN, MAX}) {
            scene.argument("find(0, 4, " + pass + ")", x -> x.find(0, 4, pass));
            scene.argument("leaveOut(4, " + pass + ", true)", x -> Checks.bit(x.leaveOut(4, pass, true)));
            scene.argument("leaveOut(0, " + pass + ", false)", x -> Checks.bit(x.leaveOut(0, pass, false)));
        }
        for (int tempo : new int[] {-1, 1, 29, 241, MIN, MAX}) {
            scene.argument("setTempo(4, " + tempo + ")", x -> x.setTempo(4, tempo));
        }
        for (int times : new int[] {-1, 0, 1, 5, MIN, MAX}) {
            scene.argument("addSection(3, 4, " + times + ")", x -> x.addSection(3, 4, times));
        }
        scene.argument("addSection(4, 3, 2)", x -> x.addSection(4, 3, 2));
        scene.argument("begins(0, 6), for 5 places", x -> x.begins(0, 6));
    }

    private static void severalOfBarCalls(Scene scene) {
        scene.argument("several: addSection(2, 1, 2), in a section", x -> x.addSection(2, 1, 2));
        scene.argument("several: addSection(1, 2, 1), in a section", x -> x.addSection(1, 2, 1));
        scene.argument("several: addSection(1, 1, 5), in a section", x -> x.addSection(1, 1, 5));
        scene.index("several: addSection(1, 5, 2), in a section", x -> x.addSection(1, 5, 2));
        scene.index("several: addSection(-1, 1, 2), in a section", x -> x.addSection(-1, 1, 2));
        scene.index("several: addSection(6, 5, 2)", x -> x.addSection(6, 5, 2));
        scene.index("several: section(1, 3)", x -> x.section(1, 3));
        scene.index("several: section(-1, -1)", x -> x.section(-1, -1));
    }

    private static void sectionCalls(Scene scene) {
        for (int s : new int[] {-1, 1, MIN, MAX}) {
            scene.index("section(" + s + ", 0)", x -> x.section(s, 0));
            scene.index("removeSection(" + s + ")", x -> x.removeSection(s));
        }
        for (int what : new int[] {-1, 3, MIN, MAX}) {
            scene.argument("section(0, " + what + ")", x -> x.section(0, what));
        }
        for (int[] bars : new int[][] {{1, 1}, {2, 2}, {1, 2}, {0, 1}, {2, 3}, {0, 4}, {0, 2}, {1, 4}}) {
            scene.state("addSection(" + bars[0] + ", " + bars[1] + ", 2), in a section",
                    x -> x.addSection(bars[0], bars[1], 2));
        }
    }

    private static void readings(Scene scene) {
        scene.tells("about(0)", x -> x.about(0));
        scene.tells("bar(4, 5)", x -> x.bar(4, 5));
        scene.tells("stretch(1, 3)", x -> x.stretch(1, 3));
        scene.tells("section(0, 2)", x -> x.section(0, 2));
        scene.tells("places(0)", x -> x.places(0));
        scene.tells("place(0, 4, 2)", x -> x.place(0, 4, 2));
        scene.tells("place(0, 5, 2)", x -> x.place(0, 5, 2));
        scene.tells("begins(0, 5)", x -> x.begins(0, 5));
        scene.tells("find(0, 0, 1)", x -> x.find(0, 0, 1));
        scene.tells("at(0, 0)", x -> x.at(0, 0));
        scene.tells("nextClick(0, 1)", x -> x.nextClick(0, 1));
        scene.tells("clicks(0, 0, MAX)", x -> x.clicks(0, 0, Long.MAX_VALUE));
        scene.tells("missed(0)", x -> x.missed(0));
        scene.tells("together(0, 2)", x -> x.together(0, 2));
        scene.tells("part(0, 2)", x -> x.part(0, 2));
        scene.tells("meet(0, 2)", x -> x.meet(0, 2));
    }

    private static void wouldBe(Scene scene) {
        scene.tells("percentage(0, 1)", x -> x.percentage(0, 1));
        scene.tells("percentage(0, 5000000)", x -> x.percentage(0, 5000000));
        scene.tells("longest(2)", x -> x.longest(2));
        scene.tells("simulate(-3, 50)", x -> x.simulate(-3, 50));
        for (int command : new int[] {10003, 20024, 20000, 30044, 40011, 40030, 50001, 50010, 60000, 70999, 80000, 90200}) {
            scene.tells("runScript(1, " + command + ")", x -> x.runScript(1, command));
        }
        scene.tells("runScript of three that succeed", x -> x.runScript(3, 800001000950051L));
        scene.tells("runScript of which the last fails", x -> x.runScript(3, 800001000999999L));
    }

    // ---- what an object tells

    private static List<Aspect> aspects() {
        List<Aspect> all = new ArrayList<>();
        all.add(new Aspect("the state", Checks::picture));
        all.add(new Aspect("the players' sets", UnchangedTest::setSizes));
        for (int count : new int[] {1, 2, 4, 13, 14, 15}) {
            all.add(new Aspect("the state " + count + " actions ago", x -> undone(x, count)));
        }
        all.add(new Aspect("slot 0", x -> tried(x, y -> y.restore(0)) + Checks.picture(x)));
        all.add(new Aspect("slot 1", x -> tried(x, y -> y.restore(1)) + Checks.picture(x)));
        all.add(new Aspect("the text", x -> x.errorPosition() + " " + x.clearText() + " " + x.errorPosition()));
        all.add(new Aspect("the text with 100 behind it", UnchangedTest::loadedWith100));
        return all;
    }

    private static String tried(ClickTrack x, Consumer<ClickTrack> call) {
        try {
            call.accept(x);
            return "done ";
        } catch (RuntimeException e) {
            return e.getClass().getSimpleName() + " ";
        }
    }

    /** How many bars each player leaves out; this shows also those that the score leaves out. */
    private static String setSizes(ClickTrack x) {
        if (x.about(0) == 0) {
            return "no bars";
        }
        return x.skip(0, 0, true) + " " + x.skip(1, 0, true) + " " + x.skip(2, 0, true);
    }

    private static String undone(ClickTrack x, int count) {
        StringBuilder out = new StringBuilder();
        for (int k = 0; k < count; k++) {
            out.append(tried(x, y -> out.append(y.undo()).append(' ')));
        }
        return out.append(Checks.picture(x)).toString();
    }

    private static String loadedWith100(ClickTrack x) {
        String appended = tried(x, y -> Checks.extend(y, "100"));
        return appended + tried(x, y -> y.load()) + x.errorPosition() + Checks.picture(x);
    }

    // ---- comparing

    private static void compare(Scene scene) {
        List<Aspect> aspects = aspects();
        List<String> due = new ArrayList<>();
        for (Aspect aspect : aspects) {
            due.add(aspect.told().apply(scene.made.get()));
        }
        for (Call call : scene.calls) {
            String name = scene.name + ": " + call.name();
            for (int k = 0; k < due.size(); k++) {
                ClickTrack x = scene.made.get();
                make(name, call, x);
                CHECKS.same(name + ": " + aspects.get(k).name(), due.get(k), aspects.get(k).told().apply(x));
            }
        }
    }

    private static void make(String name, Call call, ClickTrack x) {
        if (call.refusal() == null) {
            call.made().applyAsLong(x);
        } else {
            CHECKS.refused(name, call.refusal(), () -> call.made().applyAsLong(x));
        }
    }
}
