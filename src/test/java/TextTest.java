/** Promises 1 to 5: a new object, the text, load. */
public final class TextTest {
    private static final Checks CHECKS = new Checks("TextTest");

    public static void main(String[] args) {
        promise1();
        promise2();
        promise2Codes();
        promise3();
        promise4Endings();
        promise4Letters();
        promise4Again();
        promise4Digits();
        promise4Sections();
        promise4Limits();
        promise5();
        promise5Forgets();
        CHECKS.end();
    }

    private static void promise1() {
        ClickTrack x = new ClickTrack();
        for (int what = 0; what <= 4; what++) {
            int w = what;
            CHECKS.due("1: about(" + w + ")", 0, () -> x.about(w));
        }
        for (int p = 0; p < 3; p++) {
            int player = p;
            CHECKS.due("1: places", 0, () -> x.places(player));
            CHECKS.due("1: begins", 0, () -> x.begins(player, 0));
        }
        CHECKS.refused("1: bar(0, 0)", Checks.INDEX, () -> x.bar(0, 0));
        CHECKS.refused("1: section(0, 0)", Checks.INDEX, () -> x.section(0, 0));
        CHECKS.refused("1: undo()", Checks.STATE, () -> x.undo());
        CHECKS.refused("1: restore(0)", Checks.STATE, () -> x.restore(0));
        CHECKS.refused("1: restore(1)", Checks.STATE, () -> x.restore(1));
        CHECKS.due("1: clearText()", 0, () -> x.clearText());
        CHECKS.due("1: NONE", -9, () -> ClickTrack.NONE);
        x.addBar(4);
        CHECKS.due("1: another object has no bars", 0, () -> new ClickTrack().about(0));
    }

    private static void promise2() {
        ClickTrack x = new ClickTrack();
        CHECKS.refused("2: append(-1)", Checks.ARGUMENT, () -> x.append(-1));
        CHECKS.refused("2: append(256)", Checks.ARGUMENT, () -> x.append(256));
        CHECKS.refused("2: append(MIN)", Checks.ARGUMENT, () -> x.append(Integer.MIN_VALUE));
        CHECKS.refused("2: append(MAX)", Checks.ARGUMENT, () -> x.append(Integer.MAX_VALUE));
        CHECKS.due("2: append(0)", 1, () -> x.append(0));
        CHECKS.due("2: append(255)", 2, () -> x.append(255));
        for (int i = 2; i < 160; i++) {
            int length = i + 1;
            CHECKS.due("2: append", length, () -> x.append('C'));
        }
        CHECKS.refused("2: append to 160", Checks.STATE, () -> x.append('C'));
        CHECKS.refused("2: append(256) to 160", Checks.ARGUMENT, () -> x.append(256));
        CHECKS.due("2: the length is kept", 160, () -> x.clearText());
        CHECKS.due("2: there is room again", 1, () -> x.append('C'));
        ClickTrack y = Checks.written("Cb4" + "t120".repeat(39));
        CHECKS.due("2: the 160th sign", 160, () -> y.append('s'));
        CHECKS.refused("2: the 161st sign", Checks.STATE, () -> y.append('1'));
        CHECKS.due("2: it is not in the text", 160, () -> y.errorPosition());
    }

    /** Each code is kept as it is: only 67 makes a score of one sign. */
    private static void promise2Codes() {
        for (int code = 0; code <= 255; code++) {
            int c = code;
            ClickTrack x = new ClickTrack();
            CHECKS.due("2: append(" + c + ")", 1, () -> x.append(c));
            CHECKS.due("2: the text of " + c, c == 'C' ? -9 : 0, () -> x.errorPosition());
            ClickTrack y = Checks.written("Cb1");
            y.append(c);
            boolean begins = "btfs(".indexOf(c) >= 0;
            CHECKS.due("2: Cb1 and " + c, begins ? 4 : 3, () -> y.errorPosition());
        }
    }

    private static void promise3() {
        ClickTrack x = Checks.written("Cb4");
        CHECKS.due("3: clearText()", 3, () -> x.clearText());
        CHECKS.due("3: clearText() again", 0, () -> x.clearText());
        CHECKS.due("3: append after it", 1, () -> x.append('C'));
        CHECKS.due("3: nothing is left", -9, () -> x.errorPosition());
        x.load();
        CHECKS.due("3: no bars", 0, () -> x.about(0));
        Checks.write(x, "Cb4b5");
        x.load();
        CHECKS.due("3: clearText() after load", 5, () -> x.clearText());
        CHECKS.due("3: the score stays", 2, () -> x.about(0));
    }

    private static void position(String text, int want) {
        ClickTrack x = Checks.written(text);
        CHECKS.due("4: " + text, want, () -> x.errorPosition());
        if (want != ClickTrack.NONE) {
            CHECKS.refused("5: load of " + text, Checks.STATE, () -> x.load());
        } else {
            CHECKS.due("5: load of " + text, count(text, 'b'), () -> x.load());
        }
    }

    private static long count(String text, char sign) {
        return text.chars().filter(c -> c == sign).count();
    }

    private static void promise4Endings() {
        position("", 0);
        position("C", -9);
        position("Cb", 2);
        position("Cb4", -9);
        position("Cb4t", 4);
        position("Cb4t0", 5);
        position("Cb4t12", 6);
        position("Cb4f", 4);
        position("Cb4f1", 5);
        position("Cb4s", 4);
        position("Cb4(", 4);
        position("Cb4(b4", 6);
        position("Cb4(b4)", 7);
        position("Cb4(b4)2", -9);
        position("(", 0);
        position("c", 0);
        position(" C", 0);
        position("C ", 1);
        position("CC", 1);
        position("Cb4 ", 3);
        position("C\u00ff", 1);
        position("C\u0000", 1);
        position("b4", 0);
    }

    private static void promise4Letters() {
        position("Ct120", 1);
        position("Cf12", 1);
        position("Cs1", 1);
        position("C(t120", 2);
        position("C(f12", 2);
        position("C(s1", 2);
        position("C)2", 1);
        position("CB4", 1);
        position("C4", 1);
        position("Cb4b", 4);
        position("Cb4x", 3);
        position("Cb44", 3);
        position("Cb4t1204", 7);
        position("Cb4s12", 5);
        position("Cb4f122", 6);
        position("Cb4(t060f12s1b3)2", -9);
        position("Cb4(b3)2t060f12s1b4", -9);
        position("Cb4(b3t060f12s1)2", -9);
        position("Cb4s1s1t060t070f12f13", -9);
        position("Cbb4", 2);
        position("Cb4tt120", 4);
        position("Cb4t1t120", 5);
        position("Cb4t12t120", 6);
        position("Cb4ff12", 4);
        position("Cb4f1f12", 5);
        position("Cb4ss1", 4);
        position("C(b4))2", 5);
        position("C(b4)(b4)2", 5);
    }

    /** Nothing of a text that was read before may stay. */
    private static void promise4Again() {
        ClickTrack x = Checks.written("C(b4");
        CHECKS.due("4: an open section", 4, () -> x.errorPosition());
        CHECKS.due("4: the same once more", 4, () -> x.errorPosition());
        Checks.write(x, "Cb4");
        CHECKS.due("4: behind an open section", -9, () -> x.errorPosition());
        Checks.write(x, "Cb1b1t100f12s3");
        CHECKS.due("4: two bars", -9, () -> x.errorPosition());
        Checks.write(x, "Ct100");
        CHECKS.due("4: no bar is told ahead", 1, () -> x.errorPosition());
        Checks.write(x, "C(b1)2(b1)2(b1)2(b1)2");
        CHECKS.due("4: four sections", -9, () -> x.errorPosition());
        CHECKS.due("4: the same once more", -9, () -> x.errorPosition());
        CHECKS.due("4: it loads nothing", 0, () -> x.about(0));
        x.append('b');
        CHECKS.due("4: a bar more", 22, () -> x.errorPosition());
        x.append('2');
        CHECKS.due("4: a bar more", -9, () -> x.errorPosition());
    }

    private static void promise4Digits() {
        for (char d = '0' - 1; d <= '9' + 1; d++) {
            position("Cb" + d, d >= '1' && d <= '9' ? -9 : 2);
            position("Cb4s" + d, d >= '1' && d <= '4' ? -9 : 4);
            position("Cb4f1" + d, d >= '2' && d <= '4' ? -9 : 5);
            position("Cb4f" + d + "2", d >= '1' && d <= '4' ? -9 : 4);
            position("Cb9f" + d + "2", d >= '1' && d <= '9' ? -9 : 4);
            position("Cb9b1f" + d + "2", d == '1' ? -9 : 6);
            position("C(b4)" + d, d >= '2' && d <= '4' ? -9 : 5);
            position("Cb4t" + d + "30", d >= '0' && d <= '2' ? -9 : 4);
            position("Cb4t0" + d + "9", d >= '3' && d <= '9' ? -9 : 5);
            position("Cb4t1" + d + "9", d >= '0' && d <= '9' ? -9 : 5);
            position("Cb4t2" + d + "0", d >= '0' && d <= '4' ? -9 : 5);
            position("Cb4t03" + d, d >= '0' && d <= '9' ? -9 : 6);
            position("Cb4t19" + d, d >= '0' && d <= '9' ? -9 : 6);
            position("Cb4t23" + d, d >= '0' && d <= '9' ? -9 : 6);
            position("Cb4t24" + d, d == '0' ? -9 : 6);
        }
        position("Cb4t-30", 4);
        position("Cb4t 30", 4);
        position("Cb4t30", 4);
        position("Cb4(t3", 5);
        position("Cb4t029", 5);
        position("Cb4t241", 6);
        position("Cb4t250", 5);
    }

    private static void promise4Sections() {
        position("C()2", 2);
        position("Cb4()2", 4);
        position("C((b4)2)2", 2);
        position("C(b4(b4)2)2", 4);
        position("C(b4)2)2", 6);
        position("C(b4)2(b4)3(b4)4(b4)2", -9);
        position("C(b4)2(b4)3(b4)4(b4)2(", 21);
        position("C(b4)2(b4)3(b4)4(b4)2b4", -9);
        position("C(b4b5b6)2b3(b2)4", -9);
        position("C(b4)2(b4)2()2", 12);
    }

    private static void promise4Limits() {
        String full = "C" + "b1".repeat(24);
        position(full, -9);
        position(full + "b", 49);
        position(full + "b1", 49);
        position(full + "(", 49);
        position(full + "t120f12s1", -9);
        position("C" + "b1".repeat(23) + "(b1)2", -9);
        position("C" + "b1".repeat(23) + "(b1)2(", 52);
        position("C" + "b1".repeat(23) + "(b1b1)2", 50);
        position("C(" + "b1".repeat(24) + ")4", -9);
        position("C(" + "b1".repeat(24), 50);
        String long160 = "Cb4" + "t120".repeat(39) + " ";
        position(long160, 159);
        position("Cb4" + "t120".repeat(39) + "b", 160);
        position("Cb44" + "t120".repeat(39), 3);
        position("Cb9b9s1" + "t120".repeat(38) + "f", 160);
        position("Cb9f12s1" + "t120".repeat(38), -9);
        String open = "C(" + "b9".repeat(24) + "t030".repeat(27);
        position(open, 158);
        position(open + ")", 159);
        position(open + ")4", -9);
        position(open + ")5", 159);
        position(open + "t0", 160);
        position(open + "s1", 160);
    }

    private static void promise5() {
        ClickTrack x = Checks.written("Cb4t060f42s3(b3b2s1)3b1t240");
        CHECKS.due("5: load()", 4, () -> x.load());
        CHECKS.due("5: bars", 4, () -> x.about(0));
        CHECKS.due("5: sections", 1, () -> x.about(1));
        CHECKS.due("5: marks", 2, () -> x.about(2));
        CHECKS.due("5: stretched", 1, () -> x.about(3));
        CHECKS.due("5: with passes", 2, () -> x.about(4));
        CHECKS.due("5: beats", 3, () -> x.bar(1, 0));
        CHECKS.due("5: passes of bar 0", 4, () -> x.bar(0, 3));
        CHECKS.due("5: passes of bar 2", 1, () -> x.bar(2, 3));
        CHECKS.due("5: stretch", 2, () -> x.stretch(0, 4));
        CHECKS.due("5: section first", 1, () -> x.section(0, 0));
        CHECKS.due("5: section last", 2, () -> x.section(0, 1));
        CHECKS.due("5: section times", 3, () -> x.section(0, 2));
        CHECKS.due("5: the text is kept", 27, () -> x.clearText());
        Checks.write(x, "Cb1b2t030t031f13f12f24s1s1s4(t200b3)2s2");
        CHECKS.due("5: load() of another", 3, () -> x.load());
        CHECKS.due("5: the later mark, behind a ( too", 200, () -> x.bar(1, 2));
        CHECKS.due("5: no mark in the section", -9, () -> x.bar(2, 2));
        CHECKS.due("5: the later stretch", 2, () -> x.stretch(1, 1));
        CHECKS.due("5: another beat", 4, () -> x.stretch(1, 2));
        CHECKS.due("5: bar 0 has no stretch", 1, () -> x.stretch(0, 1));
        CHECKS.due("5: both passes", 9, () -> x.bar(1, 3));
        CHECKS.due("5: s behind a ) is about the last bar", 2, () -> x.bar(2, 3));
        CHECKS.due("5: the section", 0, () -> x.bar(2, 4));
        CHECKS.due("5: bar 1 is in none", -9, () -> x.bar(1, 4));
    }

    private static void promise5Forgets() {
        ClickTrack x = Checks.loaded("Cb4b3");
        x.skip(0, 0, true);
        x.skip(2, 1, true);
        x.save(0);
        x.save(1);
        String before = Checks.picture(x);
        x.append('x');
        CHECKS.refused("5: load of no score", Checks.STATE, () -> x.load());
        CHECKS.same("5: nothing changed", before, Checks.picture(x));
        CHECKS.due("5: what is remembered stays", 1, () -> x.undo());
        CHECKS.due("5: the slots stay", 2, () -> x.restore(1));
        x.addBar(1);
        Checks.write(x, "Cb4b3");
        CHECKS.due("5: load()", 2, () -> x.load());
        CHECKS.due("5: no player leaves out", 2, () -> x.places(0));
        CHECKS.due("5: no player leaves out", 2, () -> x.places(2));
        CHECKS.refused("5: nothing is remembered", Checks.STATE, () -> x.undo());
        CHECKS.refused("5: slot 0 is empty", Checks.STATE, () -> x.restore(0));
        CHECKS.refused("5: slot 1 is empty", Checks.STATE, () -> x.restore(1));
        x.skip(1, 0, true);
        CHECKS.due("5: load() once more", 2, () -> x.load());
        CHECKS.due("5: no player leaves out", 2, () -> x.places(1));
        CHECKS.refused("5: load is no action", Checks.STATE, () -> x.undo());
        Checks.write(x, "C(b3t033f34s1)2");
        x.load();
        Checks.write(x, "C");
        x.load();
        for (int what = 0; what <= 4; what++) {
            int w = what;
            CHECKS.due("5: nothing is left", 0, () -> x.about(w));
        }
    }
}
