/** Promises 33 and 34: the save slots. */
public final class SlotsTest {
    private static final Checks CHECKS = new Checks("SlotsTest");

    public static void main(String[] args) {
        promise33();
        promise34();
        promise34Whole();
        CHECKS.end();
    }

    private static void promise33() {
        ClickTrack x = new ClickTrack();
        CHECKS.refused("33: save(-1)", Checks.INDEX, () -> x.save(-1));
        CHECKS.refused("33: save(2)", Checks.INDEX, () -> x.save(2));
        CHECKS.refused("33: save(MAX)", Checks.INDEX, () -> x.save(Integer.MAX_VALUE));
        CHECKS.due("33: save(0) of no bars", 0, () -> x.save(0));
        x.addBar(4);
        x.addBar(3);
        CHECKS.due("33: save(1)", 2, () -> x.save(1));
        CHECKS.due("33: it forgets nothing", 1, () -> x.undo());
        CHECKS.due("33: slot 0 has its own", 0, () -> x.restore(0));
        CHECKS.due("33: slot 1 has its own", 2, () -> x.restore(1));
        x.addBar(1);
        CHECKS.due("33: save(1) again", 3, () -> x.save(1));
        x.addBar(1);
        CHECKS.due("33: the later one", 3, () -> x.restore(1));
    }

    private static void promise34() {
        ClickTrack x = Checks.loaded("Cb4");
        CHECKS.refused("34: restore(-1)", Checks.INDEX, () -> x.restore(-1));
        CHECKS.refused("34: restore(2)", Checks.INDEX, () -> x.restore(2));
        CHECKS.refused("34: restore(0) of nothing", Checks.STATE, () -> x.restore(0));
        x.save(0);
        CHECKS.refused("34: restore(1) of nothing", Checks.STATE, () -> x.restore(1));
        x.addBar(2);
        CHECKS.refused("34: restore(1) of nothing", Checks.STATE, () -> x.restore(1));
        CHECKS.due("34: what is thrown changes nothing", 2, () -> x.about(0));
        CHECKS.due("34: restore(0)", 1, () -> x.restore(0));
        CHECKS.refused("34: nothing is remembered", Checks.STATE, () -> x.undo());
        x.addBar(1);
        CHECKS.due("34: restore(0) again", 1, () -> x.restore(0));
        x.addBar(1);
        CHECKS.due("34: it is no action", 0, () -> x.undo());
        CHECKS.due("34: the text stays", 3, () -> x.clearText());
        Checks.write(x, "Cb");
        CHECKS.refused("34: load of no score", Checks.STATE, () -> x.load());
        CHECKS.due("34: the slot stays", 1, () -> x.restore(0));
        Checks.write(x, "Cb1b1");
        x.load();
        CHECKS.refused("34: restore(0) since the last load", Checks.STATE, () -> x.restore(0));
        x.save(0);
        CHECKS.due("34: restore(0)", 2, () -> x.restore(0));
    }

    private static void promise34Whole() {
        ClickTrack x = Checks.loaded("Cb4t060f42s3(b3b2s1)3b1t240");
        x.skip(0, 1, true);
        x.skip(2, 3, true);
        String saved = Checks.picture(x);
        x.save(1);
        x.setTempo(0, 100);
        x.setStretch(0, 4, 4);
        x.leaveOut(0, 3, false);
        x.removeSection(0);
        x.addSection(3, 3, 2);
        x.skip(0, 1, false);
        x.addBar(9);
        CHECKS.due("34: restore(1)", 4, () -> x.restore(1));
        CHECKS.same("34: all of the state", saved, Checks.picture(x));
        x.setTempo(0, 90);
        x.skip(1, 0, true);
        CHECKS.due("34: the slot keeps it", 4, () -> x.restore(1));
        CHECKS.same("34: all of the state", saved, Checks.picture(x));
    }
}
