import java.util.ArrayList;
import java.util.List;
import java.util.function.Consumer;

/**
 * The sentences of "Terms" that name a boundary case, from the score to actions and undo, each with a test of
 * its own. Those about the text are in TextTest, those about exceptions in UnchangedTest.
 */
public final class TermsTest {
    private static final Checks CHECKS = new Checks("TermsTest");
    private static final int MIN = Integer.MIN_VALUE;
    private static final int MAX = Integer.MAX_VALUE;

    public static void main(String[] args) {
        theScore();
        theSections();
        playing();
        actionsAndUndo();
        CHECKS.end();
    }

    private static void theScore() {
        atMost24Bars();
        barsFrom0();
        oneTo9Beats();
        stretchAtFirst1();
        stretch1To4();
        mark30To240();
        tempoOfTheLastMark();
        beatRoundedDownAheadOfTheStretch();
        setOfPasses1To4();
    }

    private static void theSections() {
        atMost4Sections();
        sectionsNumberedByFirstBars();
        firstAndLastMayBeTheSame();
        played2To4Times();
        noBarInTwoSections();
    }

    private static void playing() {
        passByPass();
        firstAndLastBarInASection();
        inNoSectionPass1Alone();
        leftOutInThePassesOfItsSet();
        threePlayersFrom0();
        setsAtFirstEmpty();
        firstBeginsAt0OthersAtTheEnd();
        clickAtTheBeginningOfEachBeat();
        momentsBeyondAnInt();
    }

    private static void actionsAndUndo() {
        everyActionIsRemembered();
        alsoIfNothingBecomesDifferent();
        whatThrowsIsNoAction();
        undoIsNone();
        atMost14Remembered();
        newActionsBehindUndo();
        fullOnceMore();
        stateWithoutTextAndSlots();
        loadAndRestoreAreNoActions();
        noSuchResult();
    }

    // ---- the score

    /** "There are at most 24 bars": the 24th is allowed, the 25th is not, by addBar, by a text and by a script. */
    private static void atMost24Bars() {
        ClickTrack x = Checks.loaded("C" + "b1".repeat(22));
        CHECKS.due("the 23rd bar", 22, () -> x.addBar(1));
        CHECKS.due("two more by a script", 1, () -> x.runScript(2, 1000110001));
        CHECKS.due("one more by a script", -9, () -> x.runScript(1, 10001));
        CHECKS.due("the 24th bar", 23, () -> x.addBar(9));
        CHECKS.due("one more by a script", 0, () -> x.runScript(1, 10001));
        CHECKS.refused("the 25th bar", Checks.STATE, () -> x.addBar(1));
        CHECKS.due("24 bars", 24, () -> x.about(0));
        CHECKS.due("the 24 are played", 24, () -> x.places(0));
        x.undo();
        CHECKS.due("the 24th bar once more", 23, () -> x.addBar(1));
        CHECKS.due("a text of 24 bars", 24, () -> Checks.loaded("C" + "b1".repeat(24)).about(0));
        CHECKS.due("a text of 25 bars", 49, () -> Checks.written("C" + "b1".repeat(25)).errorPosition());
    }

    /** "numbered from 0" */
    private static void barsFrom0() {
        ClickTrack x = Checks.loaded("Cb3b5");
        CHECKS.due("bar 0", 3, () -> x.bar(0, 0));
        CHECKS.due("bar 1", 5, () -> x.bar(1, 0));
        CHECKS.refused("bar 2", Checks.INDEX, () -> x.bar(2, 0));
        CHECKS.refused("bar -1", Checks.INDEX, () -> x.bar(-1, 0));
        CHECKS.due("the next bar is 2", 2, () -> x.addBar(1));
        CHECKS.due("bar 2", 1, () -> x.bar(2, 0));
    }

    /** "A bar has 1 to 9 beats, numbered from 1" */
    private static void oneTo9Beats() {
        for (int beats = 1; beats <= 9; beats++) {
            int n = beats;
            ClickTrack x = new ClickTrack();
            CHECKS.due("addBar(" + n + ")", 0, () -> x.addBar(n));
            CHECKS.due("its beats", n, () -> x.bar(0, 0));
            CHECKS.due("its clicks", n, () -> x.clicks(0, 0, Long.MAX_VALUE));
            CHECKS.due("beat 1", 1, () -> x.stretch(0, 1));
            CHECKS.due("beat " + n, 1, () -> x.stretch(0, n));
            CHECKS.due("the first that sounds", 1, () -> x.at(0, 0));
            CHECKS.due("the last that sounds", n, () -> x.at(0, 500000 * n - 1));
            CHECKS.refused("beat 0 of " + n, Checks.ARGUMENT, () -> x.stretch(0, 0));
            CHECKS.refused("beat behind " + n, Checks.ARGUMENT, () -> x.stretch(0, n + 1));
            CHECKS.refused("set beat 0 of " + n, Checks.ARGUMENT, () -> x.setStretch(0, 0, 2));
            CHECKS.refused("set beat behind " + n, Checks.ARGUMENT, () -> x.setStretch(0, n + 1, 2));
            CHECKS.due("set beat 1", 1, () -> x.setStretch(0, 1, 2));
            CHECKS.due("set beat " + n, n == 1 ? 2 : 1, () -> x.setStretch(0, n, 4));
            CHECKS.due("by a script", -9, () -> new ClickTrack().runScript(1, 10000 + n));
        }
        for (int beats : new int[] {0, 10, -1, MIN, MAX}) {
            CHECKS.refused("addBar(" + beats + ")", Checks.ARGUMENT, () -> new ClickTrack().addBar(beats));
        }
        CHECKS.due("no beats by a script", 0, () -> new ClickTrack().runScript(1, 10000));
        CHECKS.due("ten beats by a script", 0, () -> new ClickTrack().runScript(1, 10010));
    }

    /** "each beat has a stretch from 1 to 4, at first 1": of a bar by addBar, by a text, and in the place of another */
    private static void stretchAtFirst1() {
        ClickTrack x = Checks.loaded("Cb9");
        x.addBar(9);
        for (int beat = 1; beat <= 9; beat++) {
            int k = beat;
            CHECKS.due("by a text", 1, () -> x.stretch(0, k));
            CHECKS.due("by addBar", 1, () -> x.stretch(1, k));
            x.setStretch(1, k, 4);
        }
        CHECKS.due("nine stretched", 9, () -> x.about(3));
        for (int k = 0; k < 9; k++) {
            x.undo();
        }
        CHECKS.due("bar 1 goes", 0, () -> x.undo());
        x.addBar(9);
        CHECKS.due("nothing of the bar that was there", 0, () -> x.about(3));
    }

    private static void stretch1To4() {
        ClickTrack x = Checks.loaded("Cb2");
        int before = 1;
        for (int stretch : new int[] {1, 2, 3, 4, 1, 4, 1}) {
            int due = before;
            CHECKS.due("setStretch(0, 2, " + stretch + ")", due, () -> x.setStretch(0, 2, stretch));
            CHECKS.due("the stretch", stretch, () -> x.stretch(0, 2));
            CHECKS.due("the bar lasts", 500000 + 500000 * stretch, () -> x.bar(0, 5));
            CHECKS.due("beats above 1", stretch > 1 ? 1 : 0, () -> x.about(3));
            before = stretch;
        }
        for (int stretch : new int[] {0, 5, -1, MIN, MAX}) {
            CHECKS.refused("setStretch(0, 2, " + stretch + ")", Checks.ARGUMENT, () -> x.setStretch(0, 2, stretch));
        }
        for (int stretch = 0; stretch <= 9; stretch++) {
            int k = stretch;
            CHECKS.due("by a script", k >= 1 && k <= 4 ? -9 : 0, () -> x.runScript(1, 30020 + k));
        }
    }

    /** "A bar may have a tempo mark from 30 to 240" */
    private static void mark30To240() {
        ClickTrack x = Checks.loaded("Cb1");
        CHECKS.due("none at first", -9, () -> x.bar(0, 2));
        for (int tempo : new int[] {30, 31, 239, 240}) {
            x.setTempo(0, tempo);
            CHECKS.due("the mark " + tempo, tempo, () -> x.bar(0, 2));
            CHECKS.due("the tempo " + tempo, tempo, () -> x.bar(0, 1));
            CHECKS.due("one mark", 1, () -> x.about(2));
        }
        for (int tempo : new int[] {29, 241, 1, -1, -30, MIN, MAX}) {
            CHECKS.refused("the mark " + tempo, Checks.ARGUMENT, () -> x.setTempo(0, tempo));
        }
        CHECKS.due("the last one stays", 240, () -> x.setTempo(0, 0));
        CHECKS.due("0 takes it away", -9, () -> x.bar(0, 2));
        CHECKS.due("no mark", 0, () -> x.about(2));
        for (int xy = 0; xy <= 99; xy++) {
            int k = xy;
            CHECKS.due("by a script, " + k, k == 0 || k >= 3 && k <= 24 ? -9 : 0, () -> x.runScript(1, 20000 + k));
        }
    }

    /** "that of the last mark that stands at it or at a bar before it, 120 if there is none" */
    private static void tempoOfTheLastMark() {
        ClickTrack x = Checks.loaded("Cb1b1t200b1b1t040b1");
        int[] due = {120, 200, 200, 40, 40};
        for (int b = 0; b < due.length; b++) {
            int bar = b;
            CHECKS.due("the tempo of bar " + b, due[b], () -> x.bar(bar, 1));
        }
        x.setTempo(3, 0);
        CHECKS.due("of a mark far before it", 200, () -> x.bar(4, 1));
        x.setTempo(1, 0);
        CHECKS.due("of none", 120, () -> x.bar(4, 1));
        x.setTempo(4, 90);
        CHECKS.due("of the last bar alone", 90, () -> x.bar(4, 1));
        CHECKS.due("not of one behind it", 120, () -> x.bar(3, 1));
        ClickTrack far = Checks.loaded("Cb1t030" + "b1".repeat(23));
        CHECKS.due("of bar 0 for bar 23", 30, () -> far.bar(23, 1));
        ClickTrack section = Checks.loaded("C(b1b1t060)2");
        CHECKS.due("the score counts, not what is played before it", 120, () -> section.bar(0, 1));
        CHECKS.due("so in the pass 2 too", 2000000, () -> section.begins(0, 3));
    }

    /** "(60000000 / tempo, rounded down) * (its stretch)", for every tempo */
    private static void beatRoundedDownAheadOfTheStretch() {
        for (int tempo = 30; tempo <= 240; tempo++) {
            ClickTrack x = Checks.loaded("Cb2f24");
            x.setTempo(0, tempo);
            int beat = 60000000 / tempo;
            CHECKS.due("beats at " + tempo, 5 * beat, () -> x.bar(0, 5));
            CHECKS.due("the second click at " + tempo, beat, () -> x.nextClick(0, 1));
            CHECKS.due("the end at " + tempo, 5 * beat, () -> x.begins(0, 1));
        }
        ClickTrack near = Checks.loaded("Cb1t151f14");
        CHECKS.due("397350 and 150 of 151", 4 * 397350, () -> near.bar(0, 5));
    }

    /** "A bar has a set of passes, of 1 to 4" */
    private static void setOfPasses1To4() {
        ClickTrack x = Checks.loaded("Cb1");
        CHECKS.due("at first none", 0, () -> x.bar(0, 3));
        int set = 0;
        for (int pass = 1; pass <= 4; pass++) {
            int k = pass;
            CHECKS.due("leaveOut(0, " + k + ", true)", 0, () -> Checks.bit(x.leaveOut(0, k, true)));
            set |= 1 << (k - 1);
            int due = set;
            CHECKS.due("the set", due, () -> x.bar(0, 3));
            CHECKS.due("one bar with passes", 1, () -> x.about(4));
        }
        for (int pass : new int[] {0, 5, -1, 33, MIN, MAX}) {
            CHECKS.refused("leaveOut(0, " + pass + ", false)", Checks.ARGUMENT,
                    () -> Checks.bit(x.leaveOut(0, pass, false)));
        }
        CHECKS.due("all four", 15, () -> x.bar(0, 3));
        for (int pass = 1; pass <= 4; pass++) {
            int k = pass;
            CHECKS.due("leaveOut(0, " + k + ", false)", 1, () -> Checks.bit(x.leaveOut(0, k, false)));
        }
        CHECKS.due("none again", 0, () -> x.bar(0, 3));
        CHECKS.due("no bar with passes", 0, () -> x.about(4));
        for (int pass = 0; pass <= 9; pass++) {
            int k = pass;
            CHECKS.due("by a script", k >= 1 && k <= 4 ? -9 : 0, () -> x.runScript(1, 40001 + 10 * k));
        }
    }

    // ---- the sections

    /** "There are at most 4 sections": the 4th is allowed, the 5th is not, but is once one is gone */
    private static void atMost4Sections() {
        ClickTrack x = Checks.loaded("C" + "b1".repeat(6));
        for (int s = 0; s < 4; s++) {
            int k = s;
            CHECKS.due("section " + k, k, () -> x.addSection(k, k, 2));
        }
        CHECKS.due("4 sections", 4, () -> x.about(1));
        CHECKS.refused("a 5th one", Checks.STATE, () -> x.addSection(5, 5, 2));
        CHECKS.due("still 4 sections", 4, () -> x.about(1));
        CHECKS.due("one goes", 3, () -> x.removeSection(1));
        CHECKS.due("so another one comes", 3, () -> x.addSection(5, 5, 2));
        CHECKS.refused("and no other", Checks.STATE, () -> x.addSection(1, 1, 2));
        CHECKS.due("a text with 4", -9, () -> Checks.written("C" + "(b1)2".repeat(4)).errorPosition());
        CHECKS.due("a text with 5", 21, () -> Checks.written("C" + "(b1)2".repeat(5)).errorPosition());
    }

    /** "numbered from 0 by their first bars": whichever is made first, in all orders of four */
    private static void sectionsNumberedByFirstBars() {
        for (int order = 0; order < 256; order++) {
            int[] of = {order % 4, order / 4 % 4, order / 16 % 4, order / 64};
            List<Integer> made = new ArrayList<>();
            ClickTrack x = Checks.loaded("Cb1b1b1b1b1b1b1b1");
            for (int k : of) {
                if (made.contains(k)) {
                    continue;
                }
                made.add(k);
                long due = made.stream().filter(other -> other < k).count();
                CHECKS.due("the section of bar " + 2 * k, due, () -> x.addSection(2 * k, 2 * k + 1, 2 + k % 3));
                CHECKS.due("so does bar", due, () -> x.bar(2 * k, 4));
            }
            List<Integer> sorted = made.stream().sorted().toList();
            for (int s = 0; s < sorted.size(); s++) {
                int section = s;
                int k = sorted.get(s);
                CHECKS.due("its first bar", 2 * k, () -> x.section(section, 0));
                CHECKS.due("its last bar", 2 * k + 1, () -> x.section(section, 1));
                CHECKS.due("how often", 2 + k % 3, () -> x.section(section, 2));
                CHECKS.due("the section of its last bar", section, () -> x.bar(2 * k + 1, 4));
            }
            CHECKS.refused("no more of them", Checks.INDEX, () -> x.section(sorted.size(), 0));
        }
    }

    /** "a first and a last bar (which may be the same)" */
    private static void firstAndLastMayBeTheSame() {
        ClickTrack x = Checks.loaded("Cb1b1b1");
        CHECKS.due("addSection(1, 1, 3)", 0, () -> x.addSection(1, 1, 3));
        CHECKS.due("first", 1, () -> x.section(0, 0));
        CHECKS.due("last", 1, () -> x.section(0, 1));
        CHECKS.due("bar 0 is in none", -9, () -> x.bar(0, 4));
        CHECKS.due("bar 1 is in it", 0, () -> x.bar(1, 4));
        CHECKS.due("bar 2 is in none", -9, () -> x.bar(2, 4));
        CHECKS.due("places", 5, () -> x.places(0));
        CHECKS.refused("last less than first", Checks.ARGUMENT, () -> x.addSection(2, 1, 2));
        CHECKS.due("last one more than first", 0, () -> Checks.loaded("Cb1b1").addSection(0, 1, 2));
    }

    /** "is played 2 to 4 times" */
    private static void played2To4Times() {
        for (int times = 2; times <= 4; times++) {
            int n = times;
            ClickTrack x = Checks.loaded("Cb1b1");
            CHECKS.due("addSection(0, 1, " + n + ")", 0, () -> x.addSection(0, 1, n));
            CHECKS.due("how often", n, () -> x.section(0, 2));
            CHECKS.due("places", 2 * n, () -> x.places(0));
            CHECKS.due("the last pass", n, () -> x.place(0, 2 * n - 1, 1));
            CHECKS.due("bar 0 in the last pass", 2 * n - 2, () -> x.find(0, 0, n));
            if (n < 4) {
                CHECKS.due("bar 0 in a pass more", -9, () -> x.find(0, 0, n + 1));
            }
        }
        for (int times : new int[] {1, 5, 0, -1, MIN, MAX}) {
            CHECKS.refused("addSection(0, 0, " + times + ")", Checks.ARGUMENT,
                    () -> Checks.loaded("Cb1").addSection(0, 0, times));
        }
    }

    /** "No bar is in two sections": beside one is allowed, one bar of it is not */
    private static void noBarInTwoSections() {
        for (int first = 0; first < 7; first++) {
            for (int last = first; last < 7; last++) {
                int f = first;
                int l = last;
                ClickTrack x = Checks.loaded("Cb1b1(b1b1b1)2b1b1");
                String call = "addSection(" + f + ", " + l + ", 2) beside 2 to 4";
                if (l < 2 || f > 4) {
                    CHECKS.due(call, f < 2 ? 0 : 1, () -> x.addSection(f, l, 2));
                } else {
                    CHECKS.refused(call, Checks.STATE, () -> x.addSection(f, l, 2));
                }
            }
        }
        ClickTrack two = Checks.loaded("C(b1)2b1(b1)2");
        CHECKS.due("between two", 1, () -> two.addSection(1, 1, 2));
        ClickTrack gone = Checks.loaded("C(b1b1)2");
        gone.removeSection(0);
        CHECKS.due("where one was", 0, () -> gone.addSection(1, 1, 2));
    }

    // ---- playing

    private static void row(String what, ClickTrack x, int p, String due) {
        StringBuilder out = new StringBuilder();
        int places = x.places(p);
        for (int i = 0; i < places; i++) {
            out.append(x.place(p, i, 0)).append('.').append(x.place(p, i, 1)).append(' ');
        }
        CHECKS.same(what, due, out.toString().trim());
    }

    /** "all bars of a section are played in the pass 1 first, from its first bar to its last one, then in the pass 2" */
    private static void passByPass() {
        ClickTrack x = Checks.loaded("Cb1(b1b1)3b1");
        row("a section of two bars", x, 0, "0.1 1.1 2.1 1.2 2.2 1.3 2.3 3.1");
        x.addSection(3, 3, 4);
        row("two sections side by side", x, 1, "0.1 1.1 2.1 1.2 2.2 1.3 2.3 3.1 3.2 3.3 3.4");
        x.removeSection(0);
        row("the other one alone", x, 2, "0.1 1.1 2.1 3.1 3.2 3.3 3.4");
    }

    private static void firstAndLastBarInASection() {
        row("all bars in one", Checks.loaded("C(b1b1)2"), 0, "0.1 1.1 0.2 1.2");
        row("one bar alone", Checks.loaded("C(b1)4"), 0, "0.1 0.2 0.3 0.4");
        ClickTrack most = Checks.loaded("C(" + "b1".repeat(24) + ")4");
        CHECKS.due("the first of 96", 0, () -> most.place(0, 0, 0));
        CHECKS.due("the pass 1 ends with bar 23", 23, () -> most.place(0, 23, 0));
        CHECKS.due("the pass 2 begins with bar 0", 0, () -> most.place(0, 24, 0));
        CHECKS.due("in the pass 2", 2, () -> most.place(0, 24, 1));
        CHECKS.due("the last of 96", 23, () -> most.place(0, 95, 0));
        CHECKS.due("in the pass 4", 4, () -> most.place(0, 95, 1));
        CHECKS.due("with three before it", 3, () -> most.place(0, 95, 2));
        CHECKS.due("no 97th", -9, () -> most.place(0, 96, 0));
    }

    /** "Bars in no section are played in the pass 1 alone": the other passes of their sets do not matter */
    private static void inNoSectionPass1Alone() {
        ClickTrack x = Checks.loaded("Cb1s2s3s4b1s1(b1)2");
        row("without a section", x, 0, "0.1 2.1 2.2");
        for (int pass = 2; pass <= 4; pass++) {
            int k = pass;
            CHECKS.due("find(0, 0, " + k + ")", -9, () -> x.find(0, 0, k));
        }
        CHECKS.due("missed: bar 1 once", 1, () -> x.missed(0));
    }

    /** "A bar is left out in the passes of its set", for every set, in a section of each kind */
    private static void leftOutInThePassesOfItsSet() {
        for (int set = 0; set < 16; set++) {
            for (int times = 2; times <= 4; times++) {
                ClickTrack x = Checks.loaded("C(b1b1)" + times);
                StringBuilder due = new StringBuilder();
                for (int pass = 1; pass <= 4; pass++) {
                    boolean isLeftOut = (set >> (pass - 1) & 1) == 1;
                    x.leaveOut(0, pass, isLeftOut);
                    if (pass <= times) {
                        due.append(isLeftOut ? "" : "0." + pass + " ").append("1.").append(pass).append(' ');
                    }
                }
                row("the set " + set + " in " + times + " passes", x, 2, due.toString().trim());
            }
        }
    }

    /** "There are 3 players, numbered from 0" */
    private static void threePlayersFrom0() {
        ClickTrack x = Checks.loaded("Cb1b1b1");
        for (int p = 0; p < 3; p++) {
            int k = p;
            CHECKS.due("skip(" + k + ", " + k + ", true)", 1, () -> x.skip(k, k, true));
        }
        row("player 0", x, 0, "1.1 2.1");
        row("player 1", x, 1, "0.1 2.1");
        row("player 2", x, 2, "0.1 1.1");
        CHECKS.refused("player 3", Checks.INDEX, () -> x.places(3));
        CHECKS.refused("player -1", Checks.INDEX, () -> x.places(-1));
        for (int p = 0; p <= 9; p++) {
            int k = p;
            CHECKS.due("6 in a script", k < 3 ? -9 : 0, () -> x.runScript(1, 60002 + 1000 * k));
            CHECKS.due("7 in a script", k < 3 ? -9 : 0, () -> x.runScript(1, 70001 + 1000 * k));
            CHECKS.due("5 in a script", k < 3 ? -9 : 0, () -> x.runScript(1, 50001 + 1000 * k));
            CHECKS.due("9 in a script", k < 3 ? -9 : 0, () -> x.runScript(1, 90000 + 1100 * k));
        }
    }

    /** "Each has a set of bars that this player leaves out in all passes, at first none" */
    private static void setsAtFirstEmpty() {
        ClickTrack x = new ClickTrack();
        x.addBar(1);
        x.addBar(1);
        x.addSection(0, 1, 4);
        for (int p = 0; p < 3; p++) {
            int k = p;
            CHECKS.due("the set of player " + k, 0, () -> x.skip(k, 0, false));
            CHECKS.due("the set of player " + k, 1, () -> x.skip(k, 1, true));
            row("in all passes", x, k, "0.1 0.2 0.3 0.4");
        }
        for (int b = 2; b < 24; b++) {
            x.addBar(1);
            int bar = b;
            CHECKS.due("the new bar is in no set", 1, () -> x.skip(0, bar, false));
        }
        ClickTrack all = Checks.loaded("C" + "b1".repeat(24));
        for (int b = 0; b < 24; b++) {
            int bar = b;
            CHECKS.due("skip(1, " + bar + ", true)", bar + 1, () -> all.skip(1, bar, true));
        }
        CHECKS.due("all bars are left out", 0, () -> all.places(1));
        CHECKS.due("by this player alone", 24, () -> all.places(2));
    }

    /** "The first one begins at the moment 0, each other one at the end of the one before" */
    private static void firstBeginsAt0OthersAtTheEnd() {
        ClickTrack x = Checks.loaded("Cb2s1b1t060(b3t090b1s2)2");
        long[] due = {0, 1000000, 2999998, 3666664, 5666662};
        for (int i = 0; i < due.length; i++) {
            int k = i;
            CHECKS.due("begins(0, " + k + ")", due[k], () -> x.begins(0, k));
        }
        CHECKS.refused("begins(0, 5)", Checks.ARGUMENT, () -> x.begins(0, 5));
        for (int b = 0; b < 4; b++) {
            x.skip(1, b, true);
        }
        CHECKS.due("a player who plays nothing ends at 0", 0, () -> x.begins(1, 0));
        CHECKS.refused("and has no place 0", Checks.ARGUMENT, () -> x.begins(1, 1));
        CHECKS.due("nothing sounds", -9, () -> x.at(1, 0));
        CHECKS.due("no click comes", -9, () -> x.nextClick(1, 0));
        CHECKS.due("no click came", 0, () -> x.clicks(1, 0, Long.MAX_VALUE));
        CHECKS.due("all is missed", 6, () -> x.missed(1));
    }

    /** "A click sounds at the beginning of each beat that is played": not at the end, nor within a stretched beat */
    private static void clickAtTheBeginningOfEachBeat() {
        ClickTrack x = Checks.loaded("Cb2f14b1");
        long[] clicks = {0, 2000000, 2500000};
        for (long click : clicks) {
            CHECKS.due("at " + click, click, () -> x.nextClick(0, click));
            CHECKS.due("at " + click + " alone", 1, () -> x.clicks(0, click, click + 1));
            CHECKS.due("not behind " + click, 0, () -> x.clicks(0, click + 1, click + 500000));
        }
        CHECKS.due("three clicks", 3, () -> x.clicks(0, 0, 3000000));
        CHECKS.due("none at the end", -9, () -> x.nextClick(0, 3000000));
        CHECKS.due("none at the end", 0, () -> x.clicks(0, 3000000, Long.MAX_VALUE));
    }

    /** "Moments are told in microseconds": the latest ones are no ints, and long arguments are not cut */
    private static void momentsBeyondAnInt() {
        ClickTrack x = Checks.loaded("C(b9t030" + "b9".repeat(23) + ")4");
        for (int b = 0; b < 6; b++) {
            for (int beat = 1; beat <= 9; beat++) {
                x.setStretch(b, beat, 4);
            }
        }
        long pass = 6 * 72000000L + 18 * 18000000L;
        CHECKS.due("the end", 4 * pass, () -> x.begins(0, 96));
        CHECKS.due("the last place", 4 * pass - 18000000, () -> x.begins(0, 95));
        CHECKS.due("the last click", 4 * pass - 2000000, () -> x.nextClick(0, 4 * pass - 3999999));
        CHECKS.due("the last moment", 959, () -> x.at(0, 4 * pass - 1));
        CHECKS.due("all has ended", -9, () -> x.at(0, 4 * pass));
        long none = 1L << 32;
        CHECKS.due("at(0, 2^32)", -9, () -> x.at(0, none));
        CHECKS.due("nextClick(0, 2^32)", -9, () -> x.nextClick(0, none));
        CHECKS.due("clicks(0, 0, 2^32)", 864, () -> x.clicks(0, 0, none));
        CHECKS.due("clicks(0, 2^32, 2^33)", 0, () -> x.clicks(0, none, 2 * none));
        CHECKS.due("percentage(0, the end)", 100, () -> x.percentage(0, 4 * pass));
        CHECKS.due("percentage(0, 2^33)", 50, () -> x.percentage(0, 2 * none));
    }

    // ---- actions and undo

    private static void takenBack(String what, String text, Consumer<ClickTrack> action) {
        ClickTrack x = Checks.loaded(text);
        String before = Checks.picture(x);
        action.accept(x);
        CHECKS.due(what + " is remembered", 0, () -> x.undo());
        CHECKS.same(what + " is taken back", before, Checks.picture(x));
        CHECKS.refused(what + " is remembered once", Checks.STATE, () -> x.undo());
    }

    /** "Before each action, the state is remembered": each of the seven actions, alone */
    private static void everyActionIsRemembered() {
        String text = "Cb4t060s1(b3f12)2b1t100";
        takenBack("addBar", text, x -> x.addBar(9));
        takenBack("setTempo", text, x -> x.setTempo(1, 30));
        takenBack("setTempo to 0", text, x -> x.setTempo(0, 0));
        takenBack("setStretch", text, x -> x.setStretch(0, 4, 4));
        takenBack("leaveOut", text, x -> x.leaveOut(1, 2, true));
        takenBack("leaveOut of none", text, x -> x.leaveOut(0, 1, false));
        takenBack("addSection", text, x -> x.addSection(0, 0, 3));
        takenBack("removeSection", text, x -> x.removeSection(0));
        takenBack("skip", text, x -> x.skip(2, 2, true));
    }

    /** "also if nothing becomes different" */
    private static void alsoIfNothingBecomesDifferent() {
        String text = "Cb4t060s1(b3f12)2b1t100";
        takenBack("the same tempo", text, x -> x.setTempo(0, 60));
        takenBack("no tempo as before", text, x -> x.setTempo(1, 0));
        takenBack("the same stretch", text, x -> x.setStretch(1, 1, 2));
        takenBack("the stretch 1 as before", text, x -> x.setStretch(0, 1, 1));
        takenBack("left out as before", text, x -> x.leaveOut(0, 1, true));
        takenBack("not left out as before", text, x -> x.leaveOut(0, 2, false));
        takenBack("not skipped as before", text, x -> x.skip(0, 0, false));
        ClickTrack x = Checks.loaded(text);
        x.skip(1, 1, true);
        CHECKS.due("skipped as before", 1, () -> x.skip(1, 1, true));
        CHECKS.due("both are remembered", 1, () -> x.undo());
        CHECKS.due("the first one stands", 1, () -> x.places(1));
    }

    private static void whatThrowsIsNoAction() {
        ClickTrack x = Checks.loaded("Cb1");
        x.addBar(2);
        CHECKS.refused("addBar(0)", Checks.ARGUMENT, () -> x.addBar(0));
        CHECKS.refused("setTempo(0, 1)", Checks.ARGUMENT, () -> x.setTempo(0, 1));
        CHECKS.due("what is taken back is addBar(2)", 0, () -> x.undo());
        CHECKS.due("one bar", 1, () -> x.about(0));
    }

    /** "undo is none": undo cannot be undone */
    private static void undoIsNone() {
        ClickTrack x = new ClickTrack();
        x.addBar(1);
        x.addBar(2);
        CHECKS.due("undo()", 1, () -> x.undo());
        CHECKS.due("undo() goes further back", 0, () -> x.undo());
        CHECKS.due("no bars", 0, () -> x.about(0));
        CHECKS.refused("undo() of nothing", Checks.STATE, () -> x.undo());
    }

    /** "At most 14 states are remembered; when one more is remembered, the oldest one is forgotten." */
    private static void atMost14Remembered() {
        for (int actions = 1; actions <= 43; actions++) {
            ClickTrack x = Checks.loaded("Cb1");
            for (int k = 1; k <= actions; k++) {
                x.setTempo(0, 100 + k);
            }
            int remembered = Math.min(actions, 14);
            for (int k = 1; k <= remembered; k++) {
                int left = remembered - k;
                CHECKS.due("undo() of " + actions + " actions", left, () -> x.undo());
                int mark = actions - k == 0 ? -9 : 100 + actions - k;
                CHECKS.due("the state before the action", mark, () -> x.bar(0, 2));
            }
            int oldest = actions <= 14 ? -9 : 100 + actions - 14;
            CHECKS.refused("undo() of none of " + actions, Checks.STATE, () -> x.undo());
            CHECKS.due("the oldest state that is remembered", oldest, () -> x.bar(0, 2));
        }
    }

    /** What undo took back is forgotten, what was before it is not. */
    private static void newActionsBehindUndo() {
        for (int undone = 1; undone <= 14; undone++) {
            ClickTrack x = Checks.loaded("Cb1");
            for (int k = 1; k <= 16; k++) {
                x.setTempo(0, 100 + k);
            }
            for (int k = 0; k < undone; k++) {
                x.undo();
            }
            x.setTempo(0, 240);
            int last = 116 - undone;
            CHECKS.due("undo() behind " + undone, 14 - undone, () -> x.undo());
            CHECKS.due("the state before the new action", last, () -> x.bar(0, 2));
            for (int left = 13 - undone; left >= 0; left--) {
                int due = left;
                CHECKS.due("undo() further", due, () -> x.undo());
            }
            CHECKS.refused("undo() of none", Checks.STATE, () -> x.undo());
            CHECKS.due("the oldest of 16", 102, () -> x.bar(0, 2));
        }
    }

    /** Full, emptied by load or restore, and full once more. */
    private static void fullOnceMore() {
        for (boolean isLoad : new boolean[] {true, false}) {
            ClickTrack x = Checks.loaded("Cb1");
            x.save(0);
            for (int k = 1; k <= 17; k++) {
                x.setTempo(0, 100 + k);
            }
            CHECKS.due("load or restore", 1, () -> isLoad ? x.load() : x.restore(0));
            CHECKS.refused("undo() behind it", Checks.STATE, () -> x.undo());
            CHECKS.due("no mark behind it", -9, () -> x.bar(0, 2));
            for (int k = 1; k <= 15; k++) {
                x.setTempo(0, 200 + k);
            }
            CHECKS.due("undo() of 15", 13, () -> x.undo());
            for (int left = 12; left >= 0; left--) {
                int due = left;
                CHECKS.due("undo() further", due, () -> x.undo());
            }
            CHECKS.refused("undo() of none", Checks.STATE, () -> x.undo());
            CHECKS.due("the first of 15 is forgotten", 201, () -> x.bar(0, 2));
        }
    }

    /** "the state, which consists of everything but the text and the save slots" */
    private static void stateWithoutTextAndSlots() {
        ClickTrack x = Checks.loaded("Cb4");
        x.addBar(1);
        x.save(0);
        x.append('b');
        x.undo();
        CHECKS.due("undo takes no slot back", 2, () -> x.restore(0));
        CHECKS.due("undo takes no text back", 4, () -> x.clearText());
        x.addBar(3);
        x.clearText();
        CHECKS.due("restore brings no text", 2, () -> x.restore(0));
        CHECKS.due("the text is empty still", 0, () -> x.clearText());
    }

    /** "load and restore are not actions", nor are save and the calls of the text */
    private static void loadAndRestoreAreNoActions() {
        ClickTrack x = Checks.loaded("Cb4");
        CHECKS.refused("undo() of load", Checks.STATE, () -> x.undo());
        x.save(1);
        CHECKS.refused("undo() of save", Checks.STATE, () -> x.undo());
        x.restore(1);
        CHECKS.refused("undo() of restore", Checks.STATE, () -> x.undo());
        x.append('b');
        x.errorPosition();
        x.clearText();
        CHECKS.refused("undo() of the text", Checks.STATE, () -> x.undo());
        x.addBar(1);
        x.save(0);
        x.append('C');
        CHECKS.due("undo() of the action before them", 0, () -> x.undo());
        CHECKS.due("one bar", 1, () -> x.about(0));
    }

    /** "NONE = -9: There is no such result": wherever a call answers it */
    private static void noSuchResult() {
        CHECKS.due("NONE", -9, () -> ClickTrack.NONE);
        ClickTrack x = Checks.loaded("Cb1");
        CHECKS.due("errorPosition()", -9, () -> x.errorPosition());
        CHECKS.due("bar(0, 2)", -9, () -> x.bar(0, 2));
        CHECKS.due("bar(0, 4)", -9, () -> x.bar(0, 4));
        CHECKS.due("place(0, 1, 0)", -9, () -> x.place(0, 1, 0));
        CHECKS.due("find(0, 0, 2)", -9, () -> x.find(0, 0, 2));
        CHECKS.due("at(0, 500000)", -9, () -> x.at(0, 500000));
        CHECKS.due("nextClick(0, 1)", -9, () -> x.nextClick(0, 1));
        CHECKS.due("part(0, 1)", -9, () -> x.part(0, 1));
        CHECKS.due("meet(0, 1)", -9, () -> x.meet(0, 1));
        CHECKS.due("percentage(0, 0)", -9, () -> x.percentage(0, 0));
        CHECKS.due("longest(0)", -9, () -> new ClickTrack().longest(0));
        CHECKS.due("runScript(1, 10001)", -9, () -> x.runScript(1, 10001));
    }
}
