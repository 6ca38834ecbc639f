/** Counts the answers that are not as due, and tells them. */
final class Checks {
    private int wrong;
    private int looked;

    void due(String what, long got, long want) {
        looked++;
        if (got != want) {
            wrong++;
            System.out.println(what + " answered " + got + ", due is " + want);
        }
    }

    void holds(String what, boolean is) {
        due(what, is ? 1 : 0, 1);
    }

    /** Ends the machine with exit code 1 if an answer was wrong. */
    void end() {
        System.out.println(wrong + " of " + looked + " answers are not as due");
        if (wrong != 0) {
            System.exit(1);
        }
    }

    static int write(SpeltByFriends x, String text) {
        int length = 0;
        for (int i = 0; i < text.length(); i++) {
            length = x.letter(text.charAt(i));
        }
        return length;
    }

    static SpeltByFriends townOf(String text) {
        SpeltByFriends x = new SpeltByFriends();
        write(x, text);
        if (x.town() < 0) {
            throw new IllegalArgumentException("no town: " + text);
        }
        return x;
    }
}
