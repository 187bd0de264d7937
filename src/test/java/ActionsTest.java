/** Promises 21 to 28: the actions, and undo. */
public final class ActionsTest {
    private static final Checks CHECKS = new Checks("ActionsTest");

    public static void main(String[] args) {
        promise21();
        promise22();
        promise23();
        promise24();
        promise25();
        promise25Refused();
        promise26();
        promise27();
        promise28();
        promise28Limit();
        refusedIsNoAction();
        CHECKS.end();
    }

    private static void promise21() {
        ClickTrack x = Checks.loaded("C(b4t060)2");
        CHECKS.refused("21: addBar(0)", Checks.ARGUMENT, () -> x.addBar(0));
        CHECKS.refused("21: addBar(10)", Checks.ARGUMENT, () -> x.addBar(10));
        CHECKS.refused("21: addBar(-1)", Checks.ARGUMENT, () -> x.addBar(-1));
        CHECKS.due("21: addBar(9)", 1, () -> x.addBar(9));
        CHECKS.due("21: beats", 9, () -> x.bar(1, 0));
        CHECKS.due("21: no mark", -9, () -> x.bar(1, 2));
        CHECKS.due("21: tempo", 60, () -> x.bar(1, 1));
        CHECKS.due("21: no section", -9, () -> x.bar(1, 4));
        CHECKS.due("21: no passes", 0, () -> x.bar(1, 3));
        CHECKS.due("21: lasts", 9000000, () -> x.bar(1, 5));
        CHECKS.due("21: played behind the others", 2, () -> x.find(0, 1, 1));
        for (int b = 2; b < 24; b++) {
            int bar = b;
            CHECKS.due("21: addBar(1)", bar, () -> x.addBar(1));
        }
        CHECKS.refused("21: addBar(1) to 24", Checks.STATE, () -> x.addBar(1));
        CHECKS.refused("21: addBar(0) to 24", Checks.ARGUMENT, () -> x.addBar(0));
        CHECKS.due("21: 24 bars", 24, () -> x.about(0));
        freshAfterUndo();
    }

    private static void freshAfterUndo() {
        ClickTrack x = new ClickTrack();
        x.addBar(3);
        x.setTempo(0, 33);
        x.setStretch(0, 3, 4);
        x.leaveOut(0, 1, true);
        x.skip(2, 0, true);
        for (int i = 0; i < 5; i++) {
            x.undo();
        }
        CHECKS.due("21: addBar(5) behind undo", 0, () -> x.addBar(5));
        CHECKS.due("21: a fresh bar has no mark", -9, () -> x.bar(0, 2));
        CHECKS.due("21: nor stretch", 1, () -> x.stretch(0, 3));
        CHECKS.due("21: nor passes", 0, () -> x.bar(0, 3));
        CHECKS.due("21: nor a player who leaves it out", 1, () -> x.places(2));
        ClickTrack y = Checks.loaded("Cb3t033f34s1");
        y.skip(1, 0, true);
        Checks.write(y, "C");
        y.load();
        y.addBar(4);
        CHECKS.same("21: a fresh bar behind load", Checks.picture(Checks.loaded("Cb4")), Checks.picture(y));
    }

    private static void promise22() {
        ClickTrack x = Checks.loaded("Cb4b4t060b4");
        CHECKS.due("22: setTempo(0, 30)", 120, () -> x.setTempo(0, 30));
        CHECKS.due("22: the mark", 30, () -> x.bar(0, 2));
        CHECKS.due("22: setTempo(0, 240)", 30, () -> x.setTempo(0, 240));
        CHECKS.due("22: setTempo(2, 100), by another's mark", 60, () -> x.setTempo(2, 100));
        CHECKS.due("22: setTempo(2, 0)", 100, () -> x.setTempo(2, 0));
        CHECKS.due("22: no mark again", -9, () -> x.bar(2, 2));
        CHECKS.due("22: the tempo of the mark before", 60, () -> x.bar(2, 1));
        CHECKS.due("22: setTempo(1, 0)", 60, () -> x.setTempo(1, 0));
        CHECKS.due("22: the tempo of the mark before", 240, () -> x.bar(2, 1));
        CHECKS.due("22: setTempo(1, 0) without a mark", 240, () -> x.setTempo(1, 0));
        CHECKS.due("22: setTempo(0, 0)", 240, () -> x.setTempo(0, 0));
        CHECKS.due("22: the usual tempo", 120, () -> x.bar(2, 1));
        for (int tempo : new int[] {-1, 1, 29, 241, Integer.MIN_VALUE, Integer.MAX_VALUE}) {
            CHECKS.refused("22: setTempo(0, " + tempo + ")", Checks.ARGUMENT, () -> x.setTempo(0, tempo));
        }
        CHECKS.refused("22: setTempo(3, 60)", Checks.INDEX, () -> x.setTempo(3, 60));
        CHECKS.refused("22: setTempo(-1, 29)", Checks.INDEX, () -> x.setTempo(-1, 29));
        CHECKS.due("22: nothing changed", 0, () -> x.about(2));
    }

    private static void promise23() {
        ClickTrack x = Checks.loaded("Cb4b9");
        CHECKS.due("23: setStretch(0, 4, 4)", 1, () -> x.setStretch(0, 4, 4));
        CHECKS.due("23: setStretch(0, 4, 2)", 4, () -> x.setStretch(0, 4, 2));
        CHECKS.due("23: stretch(0, 4)", 2, () -> x.stretch(0, 4));
        CHECKS.due("23: lasts", 2500000, () -> x.bar(0, 5));
        CHECKS.due("23: setStretch(0, 4, 1)", 2, () -> x.setStretch(0, 4, 1));
        CHECKS.due("23: lasts", 2000000, () -> x.bar(0, 5));
        CHECKS.due("23: setStretch(1, 9, 3)", 1, () -> x.setStretch(1, 9, 3));
        CHECKS.due("23: setStretch(1, 1, 2)", 1, () -> x.setStretch(1, 1, 2));
        CHECKS.due("23: lasts", 6000000, () -> x.bar(1, 5));
        CHECKS.refused("23: setStretch(0, 0, 1)", Checks.ARGUMENT, () -> x.setStretch(0, 0, 1));
        CHECKS.refused("23: setStretch(0, 5, 1)", Checks.ARGUMENT, () -> x.setStretch(0, 5, 1));
        CHECKS.refused("23: setStretch(0, 1, 0)", Checks.ARGUMENT, () -> x.setStretch(0, 1, 0));
        CHECKS.refused("23: setStretch(0, 1, 5)", Checks.ARGUMENT, () -> x.setStretch(0, 1, 5));
        CHECKS.refused("23: setStretch(0, MAX, 1)", Checks.ARGUMENT, () -> x.setStretch(0, Integer.MAX_VALUE, 1));
        CHECKS.refused("23: setStretch(2, 1, 1)", Checks.INDEX, () -> x.setStretch(2, 1, 1));
        CHECKS.refused("23: setStretch(-1, 0, 0)", Checks.INDEX, () -> x.setStretch(-1, 0, 0));
    }

    private static void promise24() {
        ClickTrack x = Checks.loaded("C(b4b4)2");
        CHECKS.due("24: leaveOut(1, 2, true)", 0, () -> Checks.bit(x.leaveOut(1, 2, true)));
        CHECKS.due("24: the passes", 2, () -> x.bar(1, 3));
        CHECKS.due("24: places", 3, () -> x.places(0));
        CHECKS.due("24: leaveOut(1, 2, true)", 1, () -> Checks.bit(x.leaveOut(1, 2, true)));
        CHECKS.due("24: leaveOut(1, 1, true)", 0, () -> Checks.bit(x.leaveOut(1, 1, true)));
        CHECKS.due("24: leaveOut(1, 4, true)", 0, () -> Checks.bit(x.leaveOut(1, 4, true)));
        CHECKS.due("24: the passes", 11, () -> x.bar(1, 3));
        CHECKS.due("24: leaveOut(1, 2, false)", 1, () -> Checks.bit(x.leaveOut(1, 2, false)));
        CHECKS.due("24: leaveOut(1, 2, false)", 0, () -> Checks.bit(x.leaveOut(1, 2, false)));
        CHECKS.due("24: the passes", 9, () -> x.bar(1, 3));
        CHECKS.due("24: another bar", 0, () -> x.bar(0, 3));
        CHECKS.refused("24: leaveOut(0, 0, true)", Checks.ARGUMENT, () -> Checks.bit(x.leaveOut(0, 0, true)));
        CHECKS.refused("24: leaveOut(0, 5, true)", Checks.ARGUMENT, () -> Checks.bit(x.leaveOut(0, 5, true)));
        CHECKS.refused("24: leaveOut(2, 1, true)", Checks.INDEX, () -> Checks.bit(x.leaveOut(2, 1, true)));
        CHECKS.refused("24: leaveOut(-1, 0, true)", Checks.INDEX, () -> Checks.bit(x.leaveOut(-1, 0, true)));
    }

    private static void promise25() {
        ClickTrack x = Checks.loaded("C" + "b1".repeat(8));
        CHECKS.due("25: addSection(4, 5, 3)", 0, () -> x.addSection(4, 5, 3));
        CHECKS.due("25: addSection(0, 0, 2)", 0, () -> x.addSection(0, 0, 2));
        CHECKS.due("25: addSection(7, 7, 4)", 2, () -> x.addSection(7, 7, 4));
        CHECKS.due("25: addSection(1, 3, 2)", 1, () -> x.addSection(1, 3, 2));
        int[][] due = {{0, 0, 2}, {1, 3, 2}, {4, 5, 3}, {7, 7, 4}};
        for (int s = 0; s < 4; s++) {
            for (int what = 0; what < 3; what++) {
                int section = s;
                int w = what;
                CHECKS.due("25: section(" + s + ", " + what + ")", due[s][what], () -> x.section(section, w));
            }
        }
        CHECKS.due("25: the section of bar 3", 1, () -> x.bar(3, 4));
        CHECKS.due("25: bar 6 is in none", -9, () -> x.bar(6, 4));
        CHECKS.due("25: places", 2 + 6 + 6 + 1 + 4, () -> x.places(0));
        CHECKS.refused("25: a section too many", Checks.STATE, () -> x.addSection(6, 6, 2));
        ClickTrack all = Checks.loaded("C" + "b1".repeat(24));
        CHECKS.due("25: all bars", 0, () -> all.addSection(0, 23, 4));
    }

    private static void promise25Refused() {
        ClickTrack x = Checks.loaded("Cb1b1b1(b1)2b1b1b1");
        CHECKS.refused("25: addSection(7, 7, 2)", Checks.INDEX, () -> x.addSection(7, 7, 2));
        CHECKS.refused("25: addSection(-1, 0, 2)", Checks.INDEX, () -> x.addSection(-1, 0, 2));
        CHECKS.refused("25: addSection(0, 7, 2)", Checks.INDEX, () -> x.addSection(0, 7, 2));
        CHECKS.refused("25: addSection(0, -1, 2)", Checks.INDEX, () -> x.addSection(0, -1, 2));
        CHECKS.refused("25: addSection(9, 8, 9)", Checks.INDEX, () -> x.addSection(9, 8, 9));
        CHECKS.refused("25: addSection(1, 0, 2)", Checks.ARGUMENT, () -> x.addSection(1, 0, 2));
        CHECKS.refused("25: addSection(0, 0, 1)", Checks.ARGUMENT, () -> x.addSection(0, 0, 1));
        CHECKS.refused("25: addSection(0, 0, 5)", Checks.ARGUMENT, () -> x.addSection(0, 0, 5));
        CHECKS.refused("25: addSection(3, 3, 1)", Checks.ARGUMENT, () -> x.addSection(3, 3, 1));
        CHECKS.refused("25: addSection(3, 3, 2)", Checks.STATE, () -> x.addSection(3, 3, 2));
        CHECKS.refused("25: addSection(2, 3, 2)", Checks.STATE, () -> x.addSection(2, 3, 2));
        CHECKS.refused("25: addSection(3, 4, 2)", Checks.STATE, () -> x.addSection(3, 4, 2));
        CHECKS.refused("25: addSection(0, 6, 2)", Checks.STATE, () -> x.addSection(0, 6, 2));
        CHECKS.due("25: one section", 1, () -> x.about(1));
        CHECKS.due("25: beside it", 0, () -> x.addSection(0, 2, 2));
        CHECKS.due("25: behind it", 2, () -> x.addSection(4, 4, 2));
    }

    private static void promise26() {
        ClickTrack x = Checks.loaded("C(b1)2b1(b2b3s2)3(b4)4");
        CHECKS.refused("26: removeSection(3)", Checks.INDEX, () -> x.removeSection(3));
        CHECKS.refused("26: removeSection(-1)", Checks.INDEX, () -> x.removeSection(-1));
        CHECKS.due("26: removeSection(1)", 2, () -> x.removeSection(1));
        CHECKS.due("26: the section behind it", 4, () -> x.section(1, 0));
        CHECKS.due("26: its last bar", 4, () -> x.section(1, 1));
        CHECKS.due("26: its times", 4, () -> x.section(1, 2));
        CHECKS.due("26: the section before it", 0, () -> x.section(0, 0));
        CHECKS.due("26: its bars stay", 5, () -> x.about(0));
        CHECKS.due("26: with their passes", 2, () -> x.bar(3, 3));
        CHECKS.due("26: they are in none", -9, () -> x.bar(2, 4));
        CHECKS.due("26: places", 2 + 1 + 2 + 4, () -> x.places(0));
        CHECKS.refused("26: removeSection(2)", Checks.INDEX, () -> x.removeSection(2));
        CHECKS.due("26: removeSection(0)", 1, () -> x.removeSection(0));
        CHECKS.due("26: removeSection(0)", 0, () -> x.removeSection(0));
        CHECKS.refused("26: removeSection(0)", Checks.INDEX, () -> x.removeSection(0));
        CHECKS.due("26: places", 5, () -> x.places(0));
        for (int s = 0; s < 4; s++) {
            ClickTrack four = Checks.loaded("C(b1)2(b2)3(b3)4(b4)2");
            int gone = s;
            CHECKS.due("26: removeSection(" + gone + ") of four", 3, () -> four.removeSection(gone));
            for (int k = 0; k < 3; k++) {
                int left = k;
                CHECKS.due("26: first bar", left < gone ? left : left + 1, () -> four.section(left, 0));
            }
        }
    }

    private static void promise27() {
        ClickTrack x = Checks.loaded("C" + "b1".repeat(24));
        CHECKS.due("27: skip(0, 23, true)", 1, () -> x.skip(0, 23, true));
        CHECKS.due("27: skip(0, 23, true)", 1, () -> x.skip(0, 23, true));
        CHECKS.due("27: skip(0, 0, true)", 2, () -> x.skip(0, 0, true));
        CHECKS.due("27: another player", 0, () -> x.skip(1, 0, false));
        CHECKS.due("27: places", 22, () -> x.places(0));
        CHECKS.due("27: places", 24, () -> x.places(1));
        CHECKS.due("27: skip(0, 23, false)", 1, () -> x.skip(0, 23, false));
        CHECKS.due("27: skip(0, 5, false)", 1, () -> x.skip(0, 5, false));
        CHECKS.due("27: places", 23, () -> x.places(0));
        CHECKS.refused("27: skip(3, 0, true)", Checks.INDEX, () -> x.skip(3, 0, true));
        CHECKS.refused("27: skip(-1, 0, true)", Checks.INDEX, () -> x.skip(-1, 0, true));
        CHECKS.refused("27: skip(0, 24, true)", Checks.INDEX, () -> x.skip(0, 24, true));
        CHECKS.refused("27: skip(0, -1, true)", Checks.INDEX, () -> x.skip(0, -1, true));
    }

    private static void promise28() {
        ClickTrack x = Checks.loaded("Cb4t060(b3s1)2b2f13");
        String[] before = new String[8];
        before[0] = Checks.picture(x);
        x.addBar(5);
        before[1] = Checks.picture(x);
        x.setTempo(1, 200);
        before[2] = Checks.picture(x);
        x.setStretch(0, 4, 2);
        before[3] = Checks.picture(x);
        x.leaveOut(0, 1, true);
        before[4] = Checks.picture(x);
        x.addSection(2, 3, 4);
        before[5] = Checks.picture(x);
        x.removeSection(0);
        before[6] = Checks.picture(x);
        x.skip(1, 2, true);
        for (int k = 6; k >= 0; k--) {
            int left = k;
            CHECKS.due("28: undo()", left, () -> x.undo());
            CHECKS.same("28: the state before action " + k, before[k], Checks.picture(x));
        }
        CHECKS.refused("28: undo() without an action", Checks.STATE, () -> x.undo());
        x.setTempo(0, 60);
        x.skip(0, 0, false);
        CHECKS.due("28: actions that change nothing count", 1, () -> x.undo());
        CHECKS.due("28: undo is none", 0, () -> x.undo());
        CHECKS.same("28: the state is as before", before[0], Checks.picture(x));
    }

    private static void promise28Limit() {
        ClickTrack x = Checks.loaded("C");
        for (int i = 0; i < 20; i++) {
            x.addBar(1);
        }
        for (int left = 13; left >= 0; left--) {
            int k = left;
            CHECKS.due("28: undo()", k, () -> x.undo());
            CHECKS.due("28: bars", 6 + k, () -> x.about(0));
        }
        CHECKS.refused("28: the oldest ones are forgotten", Checks.STATE, () -> x.undo());
        CHECKS.due("28: bars", 6, () -> x.about(0));
        for (int i = 0; i < 10; i++) {
            x.addBar(2);
        }
        CHECKS.due("28: undo() in a new row", 9, () -> x.undo());
        CHECKS.due("28: bars", 15, () -> x.about(0));
        ClickTrack text = Checks.loaded("Cb4");
        text.addBar(1);
        text.append('b');
        CHECKS.due("28: undo()", 0, () -> text.undo());
        CHECKS.due("28: the text stays", 4, () -> text.clearText());
        text.save(0);
        text.addBar(1);
        text.save(1);
        CHECKS.due("28: save is no action", 0, () -> text.undo());
        CHECKS.due("28: the slots stay", 2, () -> text.restore(1));
    }

    private static void refusedIsNoAction() {
        ClickTrack x = Checks.loaded("C(b4)2b4");
        String before = Checks.picture(x);
        CHECKS.refused("21: addBar(0)", Checks.ARGUMENT, () -> x.addBar(0));
        CHECKS.refused("22: setTempo(0, 1)", Checks.ARGUMENT, () -> x.setTempo(0, 1));
        CHECKS.refused("23: setStretch(0, 1, 9)", Checks.ARGUMENT, () -> x.setStretch(0, 1, 9));
        CHECKS.refused("24: leaveOut(0, 9, true)", Checks.ARGUMENT, () -> Checks.bit(x.leaveOut(0, 9, true)));
        CHECKS.refused("25: addSection(0, 1, 2)", Checks.STATE, () -> x.addSection(0, 1, 2));
        CHECKS.refused("26: removeSection(1)", Checks.INDEX, () -> x.removeSection(1));
        CHECKS.refused("27: skip(0, 2, true)", Checks.INDEX, () -> x.skip(0, 2, true));
        CHECKS.refused("28: a call that throws is no action", Checks.STATE, () -> x.undo());
        CHECKS.same("28: nothing changed", before, Checks.picture(x));
    }
}
