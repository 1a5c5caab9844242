/** Counts the answers of one test, and prints those that are not due. */
final class Check {
    private int right = 0;
    private int wrong = 0;

    void due(String call, long want, long got) {
        if (got == want) {
            right++;
        } else {
            wrong++;
            System.out.println("  " + call + " answered " + got + ", due is " + want);
        }
    }

    void holds(String claim, boolean isSo) {
        due(claim, 1, isSo ? 1 : 0);
    }

    void finish(String test) {
        System.out.println(test + ": " + right + " right, " + wrong + " wrong");
        if (wrong != 0) {
            System.exit(1);
        }
    }

    static EndedByOthers typed(String text) {
        EndedByOthers x = new EndedByOthers();
        type(x, text);
        return x;
    }

    static void type(EndedByOthers x, String text) {
        for (int i = 0; i < text.length(); i++) {
            x.letter(text.charAt(i));
        }
    }

    static EndedByOthers inRoom(String text) {
        EndedByOthers x = typed(text);
        if (x.room() < 2) {
            throw new IllegalStateException("no ROOM: " + text);
        }
        return x;
    }
}
