/** All that an object shows, as a text; a look spends the object, for some of it shows only in calls that change it. */
enum Look {
    NOW {
        @Override
        void take(Caller on, StringBuilder to) {
            add(to, on, "count", 0);
            add(to, on, "count", 1);
            add(to, on, "count", 3);
            add(to, on, "at", 0);
            add(to, on, "at", 1);
            for (int s = 0; s < 20; s++) {
                add(to, on, "of", s, 1);
            }
            tale(on, to);
            states(on, to);
            play(on, to);
        }
    },
    KEPT {
        @Override
        void take(Caller on, StringBuilder to) {
            for (int i = 0; i < 3; i++) {
                add(to, on, "clash", i);
            }
            for (int which = 0; which < 2; which++) {
                add(to, on, "back", which);
                tale(on, to);
            }
            sheets(on, to);
        }
    };

    abstract void take(Caller on, StringBuilder to);

    String at(Caller on) {
        StringBuilder to = new StringBuilder();
        take(on, to);
        return to.toString();
    }

    private static long add(StringBuilder to, Caller on, String name, long... args) {
        long answer = on.call(name, args);
        to.append(name).append(java.util.Arrays.toString(args)).append(' ').append(answer).append('\n');
        return answer;
    }

    private static void tale(Caller on, StringBuilder to) {
        add(to, on, "count", 5);
        for (int s = 0; s < 20; s++) {
            if (add(to, on, "of", s, 0) == -1) {
                continue;
            }
            for (int what = 2; what < 5; what++) {
                add(to, on, "of", s, what);
            }
            long bits = add(to, on, "of", s, 5);
            for (int k = 0; k < 6; k++) {
                for (int what = 0; what < 7 && (bits >> k & 1) != 0; what++) {
                    add(to, on, "about", s, k, what);
                }
            }
        }
    }

    private static void states(Caller on, StringBuilder to) {
        for (int what = 0; what < 5; what++) {
            add(to, on, "states", what);
        }
        for (int s = 0; s < 6; s++) {
            add(to, on, "reached", s);
            add(to, on, "live", s);
            add(to, on, "open", s, s % 3);
            add(to, on, "way", s);
            add(to, on, "step", s, 0);
            add(to, on, "step", s, 1);
            add(to, on, "ways", s);
            add(to, on, "trap", s);
        }
        for (int voice = 0; voice < 4; voice++) {
            add(to, on, "sessions", voice, 50);
        }
        add(to, on, "mend");
    }

    /** What waits, and what the tape says. */
    private static void play(Caller on, StringBuilder to) {
        add(to, on, "cut", 0, 0);
        add(to, on, "play");
        add(to, on, "at", 0);
        add(to, on, "at", 1);
        add(to, on, "scene", 19, 1);
        add(to, on, "of", 19, 2);
        add(to, on, "of", 19, 3);
    }

    /** The second of two numbers written to a place shows how the first was narrowed. */
    private static void sheets(Caller on, StringBuilder to) {
        for (int s = 0; s < 4; s++) {
            for (int i : new int[] {0, 1, 2, 3, 29, 30}) {
                add(to, on, "write", s, i, 70000);
                add(to, on, "write", s, i, 0);
            }
        }
    }
}
