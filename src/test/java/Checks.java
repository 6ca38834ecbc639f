import java.util.function.Supplier;
import java.util.function.ToLongFunction;

/** Counts the answers that are not as due, and tells them. */
final class Checks {
    private int wrong;
    private int looked;

    void due(String what, long got, long want) {
        looked++;
        if (got != want) {
            wrong++;
            System.out.println(what + " answered " + got + ", due is " + want);
        }
    }

    void holds(String what, boolean is) {
        due(what, is ? 1 : 0, 1);
    }

    /** That a call is answered so, and that all is then as in a like object without that call. */
    void dueUnchanged(String what, Supplier<SpeltByFriends> made, ToLongFunction<SpeltByFriends> call, long want) {
        SpeltByFriends with = made.get();
        due(what, call.applyAsLong(with), want);
        alike(what + " changes nothing", with, made.get());
    }

    /** That two objects tell the same of all, the image and the page too: they are used up by it. */
    void alike(String what, SpeltByFriends x, SpeltByFriends y) {
        for (int i = 0; i <= 9; i++) {
            due(what + ": count(" + i + ")", x.count(i), y.count(i));
        }
        due(what + ": fault", x.fault(), y.fault());
        due(what + ": digest", x.digest(), y.digest());
        due(what + ": years", x.years(9, 5, 0), y.years(9, 5, 0));
        due(what + ": moves", x.moves(0, 0), y.moves(0, 0));
        due(what + ": days", x.days(1, 0), y.days(1, 0));
        due(what + ": restore", x.restore(), y.restore());
        due(what + ": digest of the image", x.digest(), y.digest());
        due(what + ": forget", x.forget(), y.forget());
        due(what + ": blank", x.blank(), y.blank());
        due(what + ": digest of the rest", x.digest(), y.digest());
    }

    /** Ends the machine with exit code 1 if an answer was wrong. */
    void end() {
        System.out.println(wrong + " of " + looked + " answers are not as due");
        if (wrong != 0) {
            System.exit(1);
        }
    }

    /** What a digest of these numbers is. */
    static long mixed(long... numbers) {
        long h = 983;
        for (long number : numbers) {
            h = 31 * h + number;
        }
        return h;
    }

    static int write(SpeltByFriends x, String text) {
        int length = 0;
        for (int i = 0; i < text.length(); i++) {
            length = x.letter(text.charAt(i));
        }
        return length;
    }

    static SpeltByFriends townOf(String text) {
        SpeltByFriends x = new SpeltByFriends();
        write(x, text);
        if (x.town() < 0) {
            throw new IllegalArgumentException("no town: " + text);
        }
        return x;
    }
}
