/** Counts and prints the answers of one test that are not the ones that are due. */
final class Checks {
    static final Class<IndexOutOfBoundsException> INDEX = IndexOutOfBoundsException.class;
    static final Class<IllegalArgumentException> ARGUMENT = IllegalArgumentException.class;
    static final Class<IllegalStateException> STATE = IllegalStateException.class;

    /** A call of the class; a boolean answer counts 1 or 0. */
    interface Call {
        long answer();
    }

    private final String test;
    private int checked;
    private int wrong;

    Checks(String test) {
        this.test = test;
    }

    void due(String call, long want, Call made) {
        checked++;
        try {
            long got = made.answer();
            if (got != want) {
                tell(call + " answered " + got + ", due is " + want);
            }
        } catch (RuntimeException e) {
            tell(call + " threw " + e + ", due is " + want);
        }
    }

    /** The class must be the very one: a subclass of it is one that the machine throws. */
    void refused(String call, Class<? extends RuntimeException> want, Call made) {
        checked++;
        try {
            tell(call + " answered " + made.answer() + ", due is " + want.getSimpleName());
        } catch (RuntimeException e) {
            if (e.getClass() != want) {
                tell(call + " threw " + e + ", due is " + want.getSimpleName());
            }
        }
    }

    void same(String what, Object want, Object got) {
        checked++;
        if (!want.equals(got)) {
            tell(what + " is " + got + ", due is " + want);
        }
    }

    private void tell(String text) {
        wrong++;
        if (wrong <= 40) {
            System.out.println(test + ": " + text);
        }
    }

    void end() {
        System.out.println(test + ": " + checked + " checks, " + wrong + " wrong");
        if (wrong != 0 || checked == 0) {
            System.exit(1);
        }
    }

    static ClickTrack written(String text) {
        ClickTrack track = new ClickTrack();
        write(track, text);
        return track;
    }

    static ClickTrack loaded(String text) {
        ClickTrack track = written(text);
        track.load();
        return track;
    }

    static void write(ClickTrack track, String text) {
        track.clearText();
        extend(track, text);
    }

    static void extend(ClickTrack track, String text) {
        for (int i = 0; i < text.length(); i++) {
            track.append(text.charAt(i));
        }
    }

    static long bit(boolean is) {
        return is ? 1 : 0;
    }

    /** All that the face tells of the state but what is remembered or saved; for 24 bars in under 400 calls. */
    static String picture(ClickTrack track) {
        StringBuilder out = new StringBuilder();
        int bars = track.about(0);
        for (int b = 0; b < bars; b++) {
            int beats = track.bar(b, 0);
            out.append(beats).append(',');
            for (int what = 1; what <= 5; what++) {
                out.append(track.bar(b, what)).append(',');
            }
            for (int beat = 1; beat <= beats; beat++) {
                out.append(track.stretch(b, beat));
            }
            out.append(';');
        }
        int sections = track.about(1);
        for (int s = 0; s < sections; s++) {
            out.append('(').append(track.section(s, 0)).append('-').append(track.section(s, 1));
            out.append('*').append(track.section(s, 2)).append(')');
        }
        for (int p = 0; p < 3; p++) {
            out.append('|');
            int places = track.places(p);
            for (int i = 0; i < places; i++) {
                out.append(track.place(p, i, 0)).append('.').append(track.place(p, i, 1)).append(' ');
            }
        }
        return out.toString();
    }
}
