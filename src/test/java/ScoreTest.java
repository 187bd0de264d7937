/** Promises 6 to 9: what the score is. */
public final class ScoreTest {
    private static final Checks CHECKS = new Checks("ScoreTest");

    public static void main(String[] args) {
        promise6();
        promise6Full();
        promise7();
        promise7Lengths();
        promise8();
        promise9();
        CHECKS.end();
    }

    private static void promise6() {
        ClickTrack x = Checks.loaded("Cb4t120f12f23(b5)2b6f64s1s2(b7t100)3b1s4");
        CHECKS.due("6: bars", 5, () -> x.about(0));
        CHECKS.due("6: sections", 2, () -> x.about(1));
        CHECKS.due("6: marks", 2, () -> x.about(2));
        CHECKS.due("6: stretched beats", 3, () -> x.about(3));
        CHECKS.due("6: bars with passes", 2, () -> x.about(4));
        CHECKS.refused("6: about(-1)", Checks.ARGUMENT, () -> x.about(-1));
        CHECKS.refused("6: about(5)", Checks.ARGUMENT, () -> x.about(5));
        x.setStretch(0, 1, 1);
        CHECKS.due("6: a stretch of 1 is none", 2, () -> x.about(3));
        x.leaveOut(2, 1, false);
        CHECKS.due("6: one pass is left", 2, () -> x.about(4));
        x.leaveOut(2, 2, false);
        CHECKS.due("6: no pass is left", 1, () -> x.about(4));
        x.setTempo(0, 0);
        CHECKS.due("6: the mark is away", 1, () -> x.about(2));
    }

    private static void promise6Full() {
        ClickTrack x = Checks.loaded("C" + "b9".repeat(24));
        for (int b = 0; b < 24; b++) {
            x.setTempo(b, 30 + b);
            x.setStretch(b, 9, 2);
            x.setStretch(b, 1, 3);
            x.leaveOut(b, 4, true);
        }
        int[] due = {24, 0, 24, 48, 24};
        for (int what = 0; what <= 4; what++) {
            int w = what;
            CHECKS.due("6: about(" + w + ") of 24 bars", due[w], () -> x.about(w));
        }
    }

    private static void promise7() {
        ClickTrack x = Checks.loaded("Cb9b4t060(b3b2t240s2s4)2b1");
        CHECKS.due("7: beats", 9, () -> x.bar(0, 0));
        CHECKS.due("7: tempo without a mark ahead", 120, () -> x.bar(0, 1));
        CHECKS.due("7: no mark", -9, () -> x.bar(0, 2));
        CHECKS.due("7: no passes", 0, () -> x.bar(0, 3));
        CHECKS.due("7: no section", -9, () -> x.bar(0, 4));
        CHECKS.due("7: lasts", 4500000, () -> x.bar(0, 5));
        CHECKS.due("7: tempo of the mark at it", 60, () -> x.bar(1, 1));
        CHECKS.due("7: mark", 60, () -> x.bar(1, 2));
        CHECKS.due("7: tempo of the mark before it", 60, () -> x.bar(2, 1));
        CHECKS.due("7: no mark", -9, () -> x.bar(2, 2));
        CHECKS.due("7: section", 0, () -> x.bar(2, 4));
        CHECKS.due("7: last tempo", 240, () -> x.bar(4, 1));
        CHECKS.due("7: passes", 10, () -> x.bar(3, 3));
        CHECKS.due("7: section of the last bar in it", 0, () -> x.bar(3, 4));
        CHECKS.due("7: behind the section", -9, () -> x.bar(4, 4));
        CHECKS.refused("7: bar(-1, 0)", Checks.INDEX, () -> x.bar(-1, 0));
        CHECKS.refused("7: bar(5, 0)", Checks.INDEX, () -> x.bar(5, 0));
        CHECKS.refused("7: bar(5, 9)", Checks.INDEX, () -> x.bar(5, 9));
        CHECKS.refused("7: bar(MIN, 0)", Checks.INDEX, () -> x.bar(Integer.MIN_VALUE, 0));
        CHECKS.refused("7: bar(4, -1)", Checks.ARGUMENT, () -> x.bar(4, -1));
        CHECKS.refused("7: bar(4, 6)", Checks.ARGUMENT, () -> x.bar(4, 6));
    }

    private static void promise7Lengths() {
        ClickTrack x = Checks.loaded("Cb7t070b9t030f14f24f34f44f54f64f74f84f94b1t240b3t090f32");
        CHECKS.due("7: the beat is rounded down, not the bar", 5999994, () -> x.bar(0, 5));
        CHECKS.due("7: the longest bar", 72000000, () -> x.bar(1, 5));
        CHECKS.due("7: the shortest bar", 250000, () -> x.bar(2, 5));
        CHECKS.due("7: rounded down ahead of the stretch", 2666664, () -> x.bar(3, 5));
        ClickTrack full = Checks.loaded("C" + "b1".repeat(24));
        CHECKS.due("7: bar 23", 500000, () -> full.bar(23, 5));
        CHECKS.refused("7: bar 24", Checks.INDEX, () -> full.bar(24, 5));
    }

    private static void promise8() {
        ClickTrack x = Checks.loaded("Cb4f23f44b9f92");
        CHECKS.due("8: stretch(0, 1)", 1, () -> x.stretch(0, 1));
        CHECKS.due("8: stretch(0, 2)", 3, () -> x.stretch(0, 2));
        CHECKS.due("8: stretch(0, 4)", 4, () -> x.stretch(0, 4));
        CHECKS.due("8: stretch(1, 1)", 1, () -> x.stretch(1, 1));
        CHECKS.due("8: stretch(1, 9)", 2, () -> x.stretch(1, 9));
        CHECKS.refused("8: stretch(0, 0)", Checks.ARGUMENT, () -> x.stretch(0, 0));
        CHECKS.refused("8: stretch(0, 5)", Checks.ARGUMENT, () -> x.stretch(0, 5));
        CHECKS.refused("8: stretch(1, 10)", Checks.ARGUMENT, () -> x.stretch(1, 10));
        CHECKS.refused("8: stretch(0, MIN)", Checks.ARGUMENT, () -> x.stretch(0, Integer.MIN_VALUE));
        CHECKS.refused("8: stretch(2, 1)", Checks.INDEX, () -> x.stretch(2, 1));
        CHECKS.refused("8: stretch(-1, 0)", Checks.INDEX, () -> x.stretch(-1, 0));
    }

    private static void promise9() {
        ClickTrack x = Checks.loaded("Cb4(b4)2b4(b4b4b4)4(b3)3b1");
        int[][] due = {{1, 1, 2}, {3, 5, 4}, {6, 6, 3}};
        for (int s = 0; s < 3; s++) {
            for (int what = 0; what < 3; what++) {
                int section = s;
                int w = what;
                CHECKS.due("9: section(" + s + ", " + what + ")", due[s][what], () -> x.section(section, w));
            }
        }
        CHECKS.refused("9: section(0, -1)", Checks.ARGUMENT, () -> x.section(0, -1));
        CHECKS.refused("9: section(2, 3)", Checks.ARGUMENT, () -> x.section(2, 3));
        CHECKS.refused("9: section(3, 0)", Checks.INDEX, () -> x.section(3, 0));
        CHECKS.refused("9: section(-1, 0)", Checks.INDEX, () -> x.section(-1, 0));
        CHECKS.refused("9: section(3, 3)", Checks.INDEX, () -> x.section(3, 3));
        ClickTrack four = Checks.loaded("C(b4)2(b4)2(b4)2(b4)2");
        CHECKS.due("9: section 3", 3, () -> four.section(3, 0));
        CHECKS.refused("9: section 4", Checks.INDEX, () -> four.section(4, 0));
    }
}
