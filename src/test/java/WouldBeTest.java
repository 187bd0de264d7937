/** Promises 29 to 32: what would be, scripts, simulations. */
public final class WouldBeTest {
    private static final Checks CHECKS = new Checks("WouldBeTest");

    public static void main(String[] args) {
        promise29();
        promise30();
        full();
        promise31Actions();
        promise31Questions();
        promise31Bars();
        promise31Order();
        promise31Refused();
        promise32();
        promise32Seeds();
        CHECKS.end();
    }

    private static void promise29() {
        ClickTrack x = Checks.loaded("Cb4");
        CHECKS.due("29: at 50 percent", 50, () -> x.percentage(0, 4000000));
        CHECKS.due("29: no more than 50", 50, () -> x.percentage(0, Long.MAX_VALUE));
        CHECKS.due("29: a little less", 51, () -> x.percentage(0, 3999999));
        CHECKS.due("29: at 61 of 120 beats", 51, () -> x.percentage(0, 4 * (60000000L / 61)));
        CHECKS.due("29: rounding down the tempo", 52, () -> x.percentage(0, 4 * (60000000L / 61) - 1));
        CHECKS.due("29: as it is", 100, () -> x.percentage(0, 2000000));
        CHECKS.due("29: a little faster", 101, () -> x.percentage(0, 1999999));
        CHECKS.due("29: twice as fast", 200, () -> x.percentage(0, 1000000));
        CHECKS.due("29: too fast", -9, () -> x.percentage(0, 999999));
        CHECKS.due("29: at once", -9, () -> x.percentage(0, 0));
        CHECKS.refused("29: percentage(0, -1)", Checks.ARGUMENT, () -> x.percentage(0, -1));
        CHECKS.refused("29: percentage(3, -1)", Checks.INDEX, () -> x.percentage(3, -1));
        CHECKS.refused("29: percentage(-1, 0)", Checks.INDEX, () -> x.percentage(-1, 0));
        x.skip(1, 0, true);
        CHECKS.due("29: a player who plays nothing", 50, () -> x.percentage(1, 0));
        ClickTrack y = Checks.loaded("Cb1t031(b1f14s1)3b1t033");
        CHECKS.due("29: of 31 are 15, of 33 are 16", 50, () -> y.percentage(2, 9 * 4000000L + 3750000));
        CHECKS.due("29: at 51 it lasts as long as at 50", 52, () -> y.percentage(2, 9 * 4000000L + 3749999));
        CHECKS.due("29: rounded down beats", 200, () -> y.percentage(2, 9 * 967741L + 909090));
        CHECKS.due("29: too fast", -9, () -> y.percentage(2, 9 * 967741L + 909089));
        CHECKS.due("29: it changes nothing", 0, () -> y.bar(0, 1) - 31);
    }

    private static void promise30() {
        ClickTrack x = Checks.loaded("Cb4t060(b2s2)3b4b9t240");
        CHECKS.due("30: among several the smallest", 0, () -> x.longest(0));
        x.leaveOut(1, 2, false);
        CHECKS.due("30: all places together", 1, () -> x.longest(0));
        x.skip(0, 1, true);
        CHECKS.due("30: not a bar that is skipped", 0, () -> x.longest(0));
        x.skip(0, 0, true);
        CHECKS.due("30: the next one", 2, () -> x.longest(0));
        x.skip(0, 2, true);
        CHECKS.due("30: the last one", 3, () -> x.longest(0));
        x.skip(0, 3, true);
        CHECKS.due("30: nothing is played", -9, () -> x.longest(0));
        CHECKS.due("30: another player", 1, () -> x.longest(2));
        x.setStretch(3, 9, 4);
        x.setTempo(3, 60);
        CHECKS.due("30: by a stretch", 3, () -> x.longest(2));
        CHECKS.refused("30: longest(3)", Checks.INDEX, () -> x.longest(3));
        CHECKS.refused("30: longest(-1)", Checks.INDEX, () -> x.longest(-1));
        ClickTrack alike = Checks.loaded("Cb2t120b1t060");
        CHECKS.due("30: of two alike the first one", 0, () -> alike.longest(0));
        CHECKS.due("30: no bars", -9, () -> new ClickTrack().longest(1));
        ClickTrack out = Checks.loaded("Cb4s1b1s1");
        CHECKS.due("30: all left out", -9, () -> out.longest(1));
    }

    private static void full() {
        ClickTrack x = Checks.loaded("C(" + "b9".repeat(24) + ")4");
        CHECKS.due("29: 24 bars", 100, () -> x.percentage(0, 432000000));
        CHECKS.due("29: 24 bars in less", 101, () -> x.percentage(0, 431999999));
        CHECKS.due("30: 24 bars", 0, () -> x.longest(0));
        x.setStretch(23, 9, 2);
        CHECKS.due("30: bar 23", 23, () -> x.longest(0));
        int want = rehearsed(Checks.loaded("C(" + "b9".repeat(24) + ")4"), new boolean[3][24], 3, 50);
        x.undo();
        CHECKS.due("32: 24 bars", want, () -> x.simulate(3, 50));
    }

    private static void script(ClickTrack x, String commands, int want) {
        int n = commands.length() / 5;
        String before = Checks.picture(x);
        CHECKS.due("31: " + commands, want, () -> x.runScript(n, Long.parseLong(commands)));
        CHECKS.same("31: nothing changed by " + commands, before, Checks.picture(x));
    }

    private static final int OK = ClickTrack.NONE;

    private static void promise31Actions() {
        ClickTrack x = Checks.loaded("Cb4t060(b3)3b2");
        script(x, "10001", OK);
        script(x, "10009", OK);
        script(x, "10000", 0);
        script(x, "11001", 0);
        script(x, "10101", 0);
        script(x, "10011", 0);
        script(x, "20003", OK);
        script(x, "20024", OK);
        script(x, "20000", OK);
        script(x, "20002", 0);
        script(x, "20001", 0);
        script(x, "20025", 0);
        script(x, "20206", OK);
        script(x, "20306", 0);
        script(x, "21006", 0);
        script(x, "30044", OK);
        script(x, "30054", 0);
        script(x, "30004", 0);
        script(x, "30040", 0);
        script(x, "30045", 0);
        script(x, "30341", 0);
        script(x, "40010", OK);
        script(x, "40041", OK);
        script(x, "40001", 0);
        script(x, "40051", 0);
        script(x, "40012", 0);
        script(x, "40311", 0);
        script(x, "52021", OK);
        script(x, "50020", OK);
        script(x, "53021", 0);
        script(x, "50031", 0);
        script(x, "50022", 0);
        script(x, "50109", 0);
        script(x, "80000", OK);
        script(x, "81000", 0);
        script(x, "80001", 0);
        script(x, "80010", 0);
        script(x, "80100", 0);
    }

    private static void promise31Questions() {
        ClickTrack x = Checks.loaded("Cb4t060(b3)3b2");
        script(x, "60005", OK);
        script(x, "60006", 0);
        script(x, "60000", OK);
        script(x, "60105", 0);
        script(x, "63000", 0);
        script(x, "60099", 0);
        script(x, "70015", OK);
        script(x, "70014", 0);
        script(x, "72999", OK);
        script(x, "73015", 0);
        script(x, "90100", OK);
        script(x, "90000", OK);
        script(x, "90300", 0);
        script(x, "93000", 0);
        script(x, "90110", 0);
        script(x, "90101", 0);
        script(x, "00000", 0);
        script(x, "09999", 0);
        x.skip(1, 2, true);
        script(x, "90100", 0);
        script(x, "90200", OK);
        script(x, "61005", 0);
        script(x, "71013", OK);
        ClickTrack many = Checks.loaded("C(" + "b9".repeat(24) + ")4");
        script(many, "60096", OK);
        script(many, "60097", 0);
        script(many, "70432", OK);
        script(many, "70431", 0);
        script(many, "10001", 0);
        ClickTrack four = Checks.loaded("C(b1)2(b1)2(b1)2(b1)2");
        script(four, "83000", OK);
        script(four, "84000", 0);
        script(four, "89000", 0);
        script(four, "8300083000", 1);
        script(four, "800008000080000", OK);
        script(four, "800008000060006", OK);
        script(four, "800008000060007", 2);
        ClickTrack none = new ClickTrack();
        script(none, "60000", OK);
        script(none, "70000", OK);
        script(none, "91200", OK);
        ClickTrack odd = Checks.loaded("Cb2t119");
        script(odd, "70001", 0);
        odd.setTempo(0, 121);
        script(odd, "70001", OK);
    }

    private static void promise31Bars() {
        ClickTrack x = Checks.loaded("C" + "b1".repeat(12) + "b5" + "b1".repeat(9) + "b7b3");
        script(x, "3121470019", 1);
        script(x, "3121470020", OK);
        script(x, "31251", OK);
        script(x, "31261", 0);
        script(x, "32271", OK);
        script(x, "32281", 0);
        script(x, "32331", OK);
        script(x, "32341", 0);
        script(x, "32411", 0);
        script(x, "22303", OK);
        script(x, "22403", 0);
        script(x, "2120370053", 1);
        script(x, "2120370054", OK);
        script(x, "42341", OK);
        script(x, "42441", 0);
        script(x, "52231", OK);
        script(x, "52241", 0);
        script(x, "501215122170015", 2);
        script(x, "501215122170016", OK);
        script(x, "501215122171014", 2);
        script(x, "501215122171015", OK);
        script(x, "412114221160022", OK);
        script(x, "412114221160023", 2);
        x.skip(1, 12, true);
        script(x, "6000091200", 1);
        script(x, "6100090200", OK);
        script(x, "700999020090000", OK);
    }

    private static void promise31Order() {
        ClickTrack x = Checks.loaded("Cb4t060(b3)3b2");
        script(x, "100055000160006", 2);
        script(x, "100025000160004", OK);
        script(x, "1000120306", OK);
        script(x, "2030610001", 0);
        script(x, "5002160004", OK);
        script(x, "5002160005", 1);
        script(x, "5002190100", 1);
        script(x, "500215102190100", OK);
        script(x, "8000080000", 1);
        script(x, "8000060003", OK);
        script(x, "8000060004", 1);
        script(x, "2000370029", 1);
        script(x, "2000370021", 1);
        script(x, "2000370030", OK);
        script(x, "2000070008", OK);
        script(x, "3004270016", OK);
        script(x, "3004270015", 1);
        script(x, "4000160005", 0);
        script(x, "4001160004", OK);
        script(x, "4001160005", 1);
        script(x, "400114001060005", OK);
        script(x, "600056000660005", 1);
        CHECKS.due("31: zeros before it", 0, () -> x.runScript(2, 60005));
        CHECKS.due("31: zeros before it", 0, () -> x.runScript(3, 6000560005L));
        CHECKS.due("31: zero", 0, () -> x.runScript(1, 0));
        x.addBar(1);
        script(x, "1000110001", OK);
        CHECKS.due("31: a script is no action", 0, () -> x.undo());
    }

    private static void promise31Refused() {
        ClickTrack x = Checks.loaded("Cb4");
        CHECKS.refused("31: runScript(0, 0)", Checks.ARGUMENT, () -> x.runScript(0, 0));
        CHECKS.refused("31: runScript(4, 0)", Checks.ARGUMENT, () -> x.runScript(4, 0));
        CHECKS.refused("31: runScript(MIN, 0)", Checks.ARGUMENT, () -> x.runScript(Integer.MIN_VALUE, 0));
        CHECKS.refused("31: runScript(MAX, 0)", Checks.ARGUMENT, () -> x.runScript(Integer.MAX_VALUE, 0));
        CHECKS.refused("31: runScript(1, -1)", Checks.ARGUMENT, () -> x.runScript(1, -1));
        CHECKS.refused("31: runScript(3, MIN)", Checks.ARGUMENT, () -> x.runScript(3, Long.MIN_VALUE));
        CHECKS.refused("31: six digits", Checks.ARGUMENT, () -> x.runScript(1, 100000));
        CHECKS.refused("31: eleven digits", Checks.ARGUMENT, () -> x.runScript(2, 10000000000L));
        CHECKS.refused("31: sixteen digits", Checks.ARGUMENT, () -> x.runScript(3, 1000000000000000L));
        CHECKS.refused("31: runScript(3, MAX)", Checks.ARGUMENT, () -> x.runScript(3, Long.MAX_VALUE));
        CHECKS.due("31: five nines", 0, () -> x.runScript(1, 99999));
        CHECKS.due("31: ten nines", 0, () -> x.runScript(2, 9999999999L));
        CHECKS.due("31: fifteen nines", 0, () -> x.runScript(3, 999999999999999L));
    }

    private static void promise32() {
        ClickTrack x = new ClickTrack();
        CHECKS.due("32: no bars", 50, () -> x.simulate(7, 50));
        CHECKS.refused("32: simulate(0, 0)", Checks.ARGUMENT, () -> x.simulate(0, 0));
        CHECKS.refused("32: simulate(0, 51)", Checks.ARGUMENT, () -> x.simulate(0, 51));
        CHECKS.refused("32: simulate(0, -1)", Checks.ARGUMENT, () -> x.simulate(0, -1));
        ClickTrack y = Checks.loaded("Cb4s1");
        CHECKS.due("32: a bar that is never played", 50, () -> y.simulate(7, 50));
        ClickTrack z = Checks.loaded("C(b4)2b4b4t060");
        z.skip(0, 0, true);
        z.skip(1, 1, true);
        z.skip(1, 2, true);
        String before = Checks.picture(z);
        z.simulate(5, 50);
        CHECKS.same("32: nothing changed", before, Checks.picture(z));
        CHECKS.due("32: it is no action", 2, () -> z.undo());
    }

    /** Plays the rehearsals with the actions of a second object that is put back after each one. */
    private static int rehearsed(ClickTrack x, boolean[][] skips, long seed, int m) {
        long r = seed;
        int together = 0;
        for (int k = 0; k < m; k++) {
            boolean[][] now = {skips[0].clone(), skips[1].clone(), skips[2].clone()};
            for (int b = 0; b < x.about(0); b++) {
                r = r * 6364136223846793005L + 1442695040888963407L;
                int high = (int) (r >>> 33);
                if (high % 8 == 0) {
                    now[high / 8 % 3][b] ^= true;
                }
            }
            long[] ends = new long[3];
            for (int p = 0; p < 3; p++) {
                for (int b = 0; b < x.about(0); b++) {
                    x.skip(p, b, now[p][b]);
                }
                ends[p] = x.begins(p, x.places(p));
            }
            if (ends[0] == ends[1] && ends[1] == ends[2]) {
                together++;
            }
        }
        return together;
    }

    private static void promise32Seeds() {
        String[] scores = {"Cb4b4b4", "C(b4s2)3b2b2t060b1", "Cb1(b9t030f94b2)4b3(b1t240)2", "Cb4b4b4b4b4b4b4b4b4b4"};
        long[] seeds = {0, 1, -1, 8, 12345678901L, Long.MIN_VALUE, Long.MAX_VALUE};
        for (String score : scores) {
            for (long seed : seeds) {
                for (int m : new int[] {1, 2, 7, 50}) {
                    ClickTrack x = Checks.loaded(score);
                    boolean[][] skips = new boolean[3][24];
                    int bars = x.about(0);
                    for (int k = 0; k < bars; k++) {
                        if ((k + m) % 3 == 0) {
                            skips[k % 3][k] = true;
                            x.skip(k % 3, k, true);
                        }
                    }
                    int want = rehearsed(Checks.loaded(score), skips, seed, m);
                    CHECKS.due("32: simulate(" + seed + ", " + m + ") of " + score, want, () -> x.simulate(seed, m));
                }
            }
        }
    }
}
