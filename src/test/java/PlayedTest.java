/** Promises 10 to 20: what is played. */
public final class PlayedTest {
    private static final Checks CHECKS = new Checks("PlayedTest");

    /** Bars of 2, 1, 2, 3 beats at 120, 60, 60, 240; the bars 1 and 2 are played three times, bar 2 not in the pass 2. */
    private static final String SCORE = "Cb2(b1t060b2s2)3b3t240";

    public static void main(String[] args) {
        promise10();
        promise11();
        promise12();
        promise13();
        promise14();
        promise15();
        promise16();
        promise17();
        promise18();
        promise19();
        promise20();
        players();
        full();
        fresh();
        freshOfTwo();
        nothingPlayed("no bars", "C", new int[0]);
        nothingPlayed("all left out by the score", "Cb4s1(b9s1s2)2", new int[0]);
        nothingPlayed("all left out by the players", "Cb4(b9s1)2", new int[] {0, 1});
        CHECKS.end();
    }

    /** A row without places, by each player. */
    private static void nothingPlayed(String what, String text, int[] skipped) {
        ClickTrack x = Checks.loaded(text);
        for (int p = 0; p < 3; p++) {
            for (int b : skipped) {
                x.skip(p, b, true);
            }
        }
        long due = x.about(0) == 0 ? 0 : 3;
        for (int k = 0; k < 3; k++) {
            int p = k;
            CHECKS.due("10: " + what, 0, () -> x.places(p));
            for (int w = 0; w < 3; w++) {
                int of = w;
                CHECKS.due("11: " + what, -9, () -> x.place(p, 0, of));
            }
            CHECKS.due("12: " + what, 0, () -> x.begins(p, 0));
            CHECKS.refused("12: place 1, " + what, Checks.ARGUMENT, () -> x.begins(p, 1));
            CHECKS.due("14: " + what, -9, () -> x.at(p, 0));
            CHECKS.due("15: " + what, -9, () -> x.nextClick(p, 0));
            CHECKS.due("16: " + what, 0, () -> x.clicks(p, 0, Long.MAX_VALUE));
            CHECKS.due("17: " + what, due, () -> x.missed(p));
            CHECKS.due("29: " + what, 50, () -> x.percentage(p, 0));
            CHECKS.due("30: " + what, -9, () -> x.longest(p));
            for (int other = 0; other < 3; other++) {
                int q = other;
                CHECKS.due("18: " + what, 0, () -> x.together(p, q));
                CHECKS.due("19: " + what, -9, () -> x.part(p, q));
                CHECKS.due("20: " + what, -9, () -> x.meet(p, q));
            }
        }
    }

    /** Nothing of the longer row that was asked for before may stay. */
    private static void freshOfTwo() {
        ClickTrack x = Checks.loaded("Cb2b1b1b4");
        x.skip(0, 0, true);
        x.skip(1, 1, true);
        x.skip(1, 2, true);
        CHECKS.due("20: they meet in bar 3", 1000000, () -> x.meet(0, 1));
        CHECKS.due("18: at 0, 500000 and all of bar 3", 6, () -> x.together(0, 1));
        x.skip(1, 3, true);
        CHECKS.due("20: bar 3 is gone", -9, () -> x.meet(0, 1));
        CHECKS.due("18: at 0 and 500000", 2, () -> x.together(0, 1));
        CHECKS.due("18: the other way round", 2, () -> x.together(1, 0));
        CHECKS.due("20: the other way round", -9, () -> x.meet(1, 0));
        x.skip(1, 0, true);
        CHECKS.due("18: with nobody", 0, () -> x.together(0, 1));
        CHECKS.due("19: with nobody", 0, () -> x.part(0, 1));
    }

    /** The longest rows: 96 places with 864 clicks. */
    private static void full() {
        ClickTrack x = longest();
        x.undo();
        CHECKS.due("11: the last place", 23, () -> x.place(0, 95, 0));
        CHECKS.due("11: behind it", -9, () -> x.place(0, 96, 0));
        CHECKS.due("13: the last place", 95, () -> x.find(0, 23, 4));
        CHECKS.due("17: nothing", 0, () -> x.missed(0));
        CHECKS.due("18: all clicks", 864, () -> x.together(0, 1));
        CHECKS.due("19: nowhere", -9, () -> x.part(0, 1));
        CHECKS.due("20: nowhere", -9, () -> x.meet(0, 1));
        x.leaveOut(23, 4, true);
        CHECKS.due("13: the place is gone", -9, () -> x.find(0, 23, 4));
        x.skip(1, 22, true);
        CHECKS.due("18: at half of the clicks of 3 passes", x.together(1, 0), () -> x.together(0, 1));
        CHECKS.due("19: at bar 22", 22, () -> x.part(0, 1));
    }

    /** Each call asks anew what the player plays. */
    private static void fresh() {
        ClickTrack x = Checks.loaded("Cb2b1b3");
        x.skip(1, 0, true);
        long[][] due = {{0, 500000, 0, 2, 500000, 6, 0}, {1, 500000, -9, 11, 500000, 4, 1}};
        for (int round = 0; round < 4; round++) {
            long[] d = due[round % 2];
            int p = (int) d[0];
            CHECKS.due("11: place(" + p + ", 0, 0)", d[0], () -> x.place(p, 0, 0));
            x.places(1 - p);
            CHECKS.due("12: begins(" + p + ", 1)", p == 0 ? 1000000 : 500000, () -> x.begins(p, 1));
            x.places(1 - p);
            CHECKS.due("13: find(" + p + ", 0, 1)", d[2], () -> x.find(p, 0, 1));
            x.places(1 - p);
            CHECKS.due("14: at(" + p + ", 500000)", d[3], () -> x.at(p, 500000));
            x.places(1 - p);
            CHECKS.due("15: nextClick(" + p + ", 2000001)", p == 0 ? 2500000 : -9, () -> x.nextClick(p, 2000001));
            x.places(1 - p);
            CHECKS.due("16: clicks(" + p + ", ..)", d[5], () -> x.clicks(p, 0, 9000000));
            x.places(1 - p);
            CHECKS.due("17: missed(" + p + ")", d[6], () -> x.missed(p));
            x.places(1 - p);
        }
    }

    private interface OfPlayer {
        long answer(int p);
    }

    private static void noSuchPlayer(String call, OfPlayer made) {
        for (int p : new int[] {-1, 3, Integer.MIN_VALUE, Integer.MAX_VALUE}) {
            CHECKS.refused(call + " of player " + p, Checks.INDEX, () -> made.answer(p));
        }
    }

    private static void players() {
        ClickTrack x = Checks.loaded(SCORE);
        noSuchPlayer("10: places", p -> x.places(p));
        noSuchPlayer("11: place", p -> x.place(p, -1, 9));
        noSuchPlayer("12: begins", p -> x.begins(p, -1));
        noSuchPlayer("13: find", p -> x.find(p, 0, 9));
        noSuchPlayer("14: at", p -> x.at(p, -1));
        noSuchPlayer("15: nextClick", p -> x.nextClick(p, -1));
        noSuchPlayer("16: clicks", p -> x.clicks(p, -1, -2));
        noSuchPlayer("17: missed", p -> x.missed(p));
        noSuchPlayer("18: together", p -> x.together(p, 0));
        noSuchPlayer("18: together", p -> x.together(0, p));
        noSuchPlayer("19: part", p -> x.part(p, 0));
        noSuchPlayer("19: part", p -> x.part(0, p));
        noSuchPlayer("20: meet", p -> x.meet(p, 0));
        noSuchPlayer("20: meet", p -> x.meet(0, p));
    }

    private static void promise10() {
        ClickTrack x = Checks.loaded(SCORE);
        CHECKS.due("10: places", 7, () -> x.places(0));
        x.skip(1, 1, true);
        CHECKS.due("10: without a bar of the section", 4, () -> x.places(1));
        CHECKS.due("10: the others play on", 7, () -> x.places(2));
        x.leaveOut(0, 2, true);
        CHECKS.due("10: a pass that never comes", 7, () -> x.places(0));
        x.leaveOut(0, 1, true);
        CHECKS.due("10: left out in the pass 1", 6, () -> x.places(0));
        for (int b = 0; b < 4; b++) {
            x.skip(0, b, true);
        }
        CHECKS.due("10: nothing", 0, () -> x.places(0));
        ClickTrack most = Checks.loaded("C(" + "b1".repeat(24) + ")4");
        CHECKS.due("10: the most", 96, () -> most.places(2));
    }

    private static void row(String name, ClickTrack x, int p, int[][] due) {
        CHECKS.due(name + " places", due.length, () -> x.places(p));
        for (int k = 0; k < due.length; k++) {
            int i = k;
            for (int w = 0; w < 3; w++) {
                int what = w;
                CHECKS.due(name + " place(" + p + ", " + i + ", " + what + ")", due[i][what],
                        () -> x.place(p, i, what));
            }
        }
        for (int w = 0; w < 3; w++) {
            int what = w;
            CHECKS.due(name + " behind the last", -9, () -> x.place(p, due.length, what));
            CHECKS.due(name + " far behind", -9, () -> x.place(p, Integer.MAX_VALUE, what));
        }
    }

    private static void promise11() {
        ClickTrack x = Checks.loaded(SCORE);
        row("11: all", x, 0, new int[][] {
            {0, 1, 0}, {1, 1, 0}, {2, 1, 0}, {1, 2, 1}, {1, 3, 2}, {2, 3, 1}, {3, 1, 0}});
        x.skip(1, 1, true);
        row("11: without bar 1", x, 1, new int[][] {{0, 1, 0}, {2, 1, 0}, {2, 3, 1}, {3, 1, 0}});
        CHECKS.refused("11: place(0, -1, 0)", Checks.ARGUMENT, () -> x.place(0, -1, 0));
        CHECKS.refused("11: place(0, 0, -1)", Checks.ARGUMENT, () -> x.place(0, 0, -1));
        CHECKS.refused("11: place(0, 0, 3)", Checks.ARGUMENT, () -> x.place(0, 0, 3));
        CHECKS.refused("11: place(0, 99, 3)", Checks.ARGUMENT, () -> x.place(0, 99, 3));
        ClickTrack two = Checks.loaded("C(b1)2(b1b1)2");
        row("11: two sections", two, 2, new int[][] {
            {0, 1, 0}, {0, 2, 1}, {1, 1, 0}, {2, 1, 0}, {1, 2, 1}, {2, 2, 1}});
        row("11: no bars", new ClickTrack(), 0, new int[][] {});
    }

    private static void promise12() {
        ClickTrack x = Checks.loaded(SCORE);
        long[] due = {0, 1000000, 2000000, 4000000, 5000000, 6000000, 8000000, 8750000};
        for (int k = 0; k < due.length; k++) {
            int i = k;
            CHECKS.due("12: begins(0, " + i + ")", due[i], () -> x.begins(0, i));
        }
        CHECKS.refused("12: begins(0, 8)", Checks.ARGUMENT, () -> x.begins(0, 8));
        CHECKS.refused("12: begins(0, -1)", Checks.ARGUMENT, () -> x.begins(0, -1));
        x.skip(0, 0, true);
        CHECKS.due("12: the first begins at 0", 0, () -> x.begins(0, 0));
        CHECKS.due("12: the end", 7750000, () -> x.begins(0, 6));
        CHECKS.refused("12: begins(0, 7)", Checks.ARGUMENT, () -> x.begins(0, 7));
        ClickTrack most = longest();
        CHECKS.due("12: the latest end", 6912000000L, () -> most.begins(0, 96));
        CHECKS.due("12: the latest begin", 6840000000L, () -> most.begins(0, 95));
    }

    private static ClickTrack longest() {
        ClickTrack x = Checks.loaded("C(" + "b9".repeat(24) + ")4");
        x.setTempo(0, 30);
        for (int b = 0; b < 24; b++) {
            for (int beat = 1; beat <= 9; beat++) {
                x.setStretch(b, beat, 4);
            }
        }
        return x;
    }

    private static void promise13() {
        ClickTrack x = Checks.loaded(SCORE);
        CHECKS.due("13: find(0, 0, 1)", 0, () -> x.find(0, 0, 1));
        CHECKS.due("13: find(0, 1, 2)", 3, () -> x.find(0, 1, 2));
        CHECKS.due("13: find(0, 2, 3)", 5, () -> x.find(0, 2, 3));
        CHECKS.due("13: find(0, 3, 1)", 6, () -> x.find(0, 3, 1));
        CHECKS.due("13: left out", -9, () -> x.find(0, 2, 2));
        CHECKS.due("13: no such pass", -9, () -> x.find(0, 1, 4));
        CHECKS.due("13: in no section", -9, () -> x.find(0, 3, 2));
        x.skip(2, 1, true);
        CHECKS.due("13: skipped", -9, () -> x.find(2, 1, 1));
        CHECKS.due("13: behind a skipped one", 1, () -> x.find(2, 2, 1));
        CHECKS.refused("13: find(0, 4, 1)", Checks.INDEX, () -> x.find(0, 4, 1));
        CHECKS.refused("13: find(0, -1, 1)", Checks.INDEX, () -> x.find(0, -1, 1));
        CHECKS.refused("13: find(0, 4, 0)", Checks.INDEX, () -> x.find(0, 4, 0));
        CHECKS.refused("13: find(0, 0, 0)", Checks.ARGUMENT, () -> x.find(0, 0, 0));
        CHECKS.refused("13: find(0, 0, 5)", Checks.ARGUMENT, () -> x.find(0, 0, 5));
    }

    private static void promise14() {
        ClickTrack x = Checks.loaded(SCORE);
        long[][] due = {{0, 1}, {499999, 1}, {500000, 2}, {999999, 2}, {1000000, 11}, {1999999, 11}, {2000000, 21},
            {3000000, 22}, {4000000, 31}, {5000000, 41}, {7999999, 52}, {8000000, 61}, {8250000, 62}, {8749999, 63},
            {8750000, -9}, {8750001, -9}, {Long.MAX_VALUE, -9}};
        for (long[] d : due) {
            CHECKS.due("14: at(0, " + d[0] + ")", d[1], () -> x.at(0, d[0]));
        }
        CHECKS.refused("14: at(0, -1)", Checks.ARGUMENT, () -> x.at(0, -1));
        CHECKS.refused("14: at(0, MIN)", Checks.ARGUMENT, () -> x.at(0, Long.MIN_VALUE));
        ClickTrack held = Checks.loaded("Cb3f24");
        CHECKS.due("14: a stretched beat still lasts", 2, () -> held.at(0, 2499999));
        CHECKS.due("14: the beat behind it", 3, () -> held.at(0, 2500000));
        ClickTrack most = longest();
        CHECKS.due("14: the last moment", 959, () -> most.at(0, 6911999999L));
        CHECKS.due("14: no bars", -9, () -> new ClickTrack().at(0, 0));
    }

    private static void promise15() {
        ClickTrack x = Checks.loaded(SCORE);
        long[][] due = {{0, 0}, {1, 500000}, {500000, 500000}, {500001, 1000000}, {2000001, 3000000}, {7000001, 8000000},
            {8250001, 8500000}, {8500000, 8500000}, {8500001, -9}, {8750000, -9}, {Long.MAX_VALUE, -9}};
        for (long[] d : due) {
            CHECKS.due("15: nextClick(0, " + d[0] + ")", d[1], () -> x.nextClick(0, d[0]));
        }
        CHECKS.refused("15: nextClick(0, -1)", Checks.ARGUMENT, () -> x.nextClick(0, -1));
        CHECKS.due("15: beyond an int", 6904000000L, () -> longest().nextClick(0, 6896000001L));
        CHECKS.due("15: no bars", -9, () -> new ClickTrack().nextClick(0, 0));
    }

    private static void promise16() {
        ClickTrack x = Checks.loaded(SCORE);
        long[][] due = {{0, 0, 0}, {0, 1, 1}, {0, 500000, 1}, {0, 500001, 2}, {1, 500000, 0}, {500000, 500000, 0},
            {500000, 1000000, 1}, {0, 8750000, 12}, {0, Long.MAX_VALUE, 12}, {8500000, Long.MAX_VALUE, 1},
            {8500001, Long.MAX_VALUE, 0}, {Long.MAX_VALUE, Long.MAX_VALUE, 0}, {2000000, 4000000, 2}};
        for (long[] d : due) {
            CHECKS.due("16: clicks(0, " + d[0] + ", " + d[1] + ")", d[2], () -> x.clicks(0, d[0], d[1]));
        }
        CHECKS.refused("16: clicks(0, -1, 5)", Checks.ARGUMENT, () -> x.clicks(0, -1, 5));
        CHECKS.refused("16: clicks(0, 5, 4)", Checks.ARGUMENT, () -> x.clicks(0, 5, 4));
        CHECKS.refused("16: clicks(0, 0, -1)", Checks.ARGUMENT, () -> x.clicks(0, 0, -1));
        CHECKS.due("16: the most clicks", 864, () -> longest().clicks(1, 0, 6912000000L));
    }

    private static void promise17() {
        ClickTrack x = Checks.loaded(SCORE);
        CHECKS.due("17: left out by the score", 1, () -> x.missed(0));
        x.skip(0, 2, true);
        CHECKS.due("17: left out by both is counted once", 3, () -> x.missed(0));
        CHECKS.due("17: another player", 1, () -> x.missed(1));
        x.skip(1, 3, true);
        CHECKS.due("17: a bar without a section, once", 2, () -> x.missed(1));
        x.leaveOut(3, 2, true);
        CHECKS.due("17: a pass that never comes", 1, () -> x.missed(2));
        x.leaveOut(1, 4, true);
        CHECKS.due("17: the pass 4 of three", 1, () -> x.missed(2));
        x.removeSection(0);
        CHECKS.due("17: without the section", 0, () -> x.missed(2));
        CHECKS.due("17: no bars", 0, () -> new ClickTrack().missed(0));
    }

    private static void promise18() {
        ClickTrack x = Checks.loaded("Cb2b4t240b1t120");
        CHECKS.due("18: with itself", 7, () -> x.together(0, 0));
        CHECKS.due("18: two that play the same", 7, () -> x.together(0, 1));
        x.skip(1, 0, true);
        CHECKS.due("18: at 0, 500000 and 1000000", 3, () -> x.together(0, 1));
        CHECKS.due("18: the other way round", 3, () -> x.together(1, 0));
        x.skip(2, 0, true);
        x.skip(2, 1, true);
        CHECKS.due("18: at 0 alone", 1, () -> x.together(0, 2));
        x.skip(2, 2, true);
        CHECKS.due("18: with nobody", 0, () -> x.together(0, 2));
        CHECKS.due("18: nobody with nobody", 0, () -> x.together(2, 2));
        ClickTrack odd = Checks.loaded("Cb4t090b5t120");
        odd.skip(0, 1, true);
        odd.skip(1, 0, true);
        CHECKS.due("18: near is not together", 1, () -> odd.together(0, 1));
    }

    private static void promise19() {
        ClickTrack x = Checks.loaded(SCORE);
        CHECKS.due("19: the same", -9, () -> x.part(0, 1));
        CHECKS.due("19: with itself", -9, () -> x.part(2, 2));
        x.skip(1, 3, true);
        CHECKS.due("19: only one of them plays", 6, () -> x.part(0, 1));
        CHECKS.due("19: the other way round", 6, () -> x.part(1, 0));
        x.skip(2, 0, true);
        CHECKS.due("19: at once", 0, () -> x.part(0, 2));
        x.skip(2, 0, false);
        x.skip(2, 2, true);
        CHECKS.due("19: another bar", 2, () -> x.part(0, 2));
        ClickTrack pass = Checks.loaded("C(b1b1s2)2");
        pass.skip(1, 1, true);
        CHECKS.due("19: the same bar in another pass parts", 1, () -> pass.part(0, 1));
        ClickTrack same = Checks.loaded("C(b1b1s1s2)2");
        same.skip(1, 1, true);
        CHECKS.due("19: left out by the score anyway", -9, () -> same.part(0, 1));
        ClickTrack passes = Checks.loaded("C(b1s1b1)2");
        passes.skip(0, 1, true);
        CHECKS.due("19: nothing against something", 0, () -> {
            passes.skip(1, 0, true);
            passes.skip(1, 1, true);
            return passes.part(0, 1);
        });
    }

    private static void promise20() {
        ClickTrack x = Checks.loaded("Cb2b1b1b4");
        CHECKS.due("20: the same places", -9, () -> x.meet(0, 1));
        x.skip(0, 0, true);
        x.skip(1, 1, true);
        x.skip(1, 2, true);
        CHECKS.due("20: bar 3 at places 2 and 1", 1000000, () -> x.meet(0, 1));
        CHECKS.due("20: the other way round", 1000000, () -> x.meet(1, 0));
        x.skip(2, 0, true);
        CHECKS.due("20: the same places", -9, () -> x.meet(0, 2));
        x.skip(1, 2, false);
        CHECKS.due("20: never at the same moment", -9, () -> x.meet(0, 1));
        CHECKS.due("20: with itself", -9, () -> x.meet(1, 1));
        ClickTrack pass = Checks.loaded("C(b1)3b1");
        pass.leaveOut(0, 1, true);
        CHECKS.due("20: only places that differ", -9, () -> pass.meet(0, 1));
        ClickTrack first = Checks.loaded("Cb2b1b1b4b4");
        first.skip(0, 0, true);
        first.skip(1, 1, true);
        first.skip(1, 2, true);
        CHECKS.due("20: the first of several", 1000000, () -> first.meet(0, 1));
        ClickTrack at0 = Checks.loaded("C(b1b1)2b2");
        at0.skip(0, 0, true);
        at0.skip(1, 1, true);
        CHECKS.due("20: bar 2 at the same place", -9, () -> at0.meet(0, 1));
        ClickTrack passes = Checks.loaded("Cb2(b1b1)2");
        passes.skip(0, 0, true);
        CHECKS.due("20: the same bar in another pass", -9, () -> passes.meet(0, 1));
        CHECKS.due("20: the other way round", -9, () -> passes.meet(1, 0));
        CHECKS.due("20: no bars", -9, () -> new ClickTrack().meet(0, 1));
        ClickTrack end = Checks.loaded("Cb2b1b1");
        end.skip(0, 0, true);
        end.skip(1, 1, true);
        end.skip(1, 2, true);
        CHECKS.due("20: the end is no place", -9, () -> end.meet(0, 1));
    }
}
