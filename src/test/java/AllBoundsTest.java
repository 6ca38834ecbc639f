import java.math.BigInteger;
import java.util.ArrayList;
import java.util.List;

/** The boundary cases of the promises 19 to 22: the image, counts and the digest. */
public final class AllBoundsTest {
    private static final int NONE = -1, OUTSIDE = -102, STATE = -103;
    private static final Checks is = new Checks();

    public static void main(String[] args) {
        promise19NoTown();
        promise19HowOften();
        promise19LatestAlone();
        promise19ChangesNothingElse();
        promise20NoneKept();
        promise20AnotherTownSince();
        promise20RefusedTownIsNoOther();
        promise20KeepsWhatIsToldAndNoMore();
        promise20FullAndEmpty();
        promise20AgainAndAgain();
        promise21What();
        promise21NoneAndMost();
        promise21ChangesNothing();
        promise22OfNone();
        promise22OfThePage();
        promise22Wraps();
        promise22NumbersBelow0();
        promise22ChangesNothing();
        is.end();
    }

    private static void promise19NoTown() {
        is.dueUnchanged("promise 19: no town", SpeltByFriends::new, x -> x.image(), STATE);
        is.dueUnchanged("promise 19: a page is no town", () -> States.newWithPage("p10,p01"), x -> x.image(), STATE);
        SpeltByFriends x = new SpeltByFriends();
        x.image();
        Checks.write(x, "p10,p01");
        x.town();
        is.due("promise 19: a refused one keeps nothing", x.restore(), STATE);
    }

    private static void promise19HowOften() {
        SpeltByFriends x = Checks.townOf("p10,p01");
        is.due("promise 19: none", x.image(), 0);
        x.go(0, 0);
        is.due("promise 19: went", x.image(), 1);
        x.sell(0, 0, 1);
        x.sell(0, 1, 0);
        is.due("promise 19: and sold", x.image(), 3);
        x.go(0, 4);
        x.sell(0, 2, 0);
        x.quarrel(0, 1, true);
        x.hear(0, 1, true);
        x.moves(0, 0);
        x.years(60, 1, 0);
        is.due("promise 19: refused and others are not counted", x.image(), 3);
    }

    private static void promise19LatestAlone() {
        SpeltByFriends x = Checks.townOf("p10,p01");
        x.image();
        x.go(0, 1);
        x.image();
        x.go(0, 2);
        is.due("promise 19: the latest", x.restore(), 1);
        is.due("promise 19: its room", x.about(0, 3), 1);
        is.due("promise 19: there is no earlier one", x.restore(), 1);
        is.due("promise 19: its room again", x.about(0, 3), 1);
    }

    private static void promise19ChangesNothingElse() {
        for (int size = 2; size <= 5; size++) {
            SpeltByFriends x = States.busy(size);
            long then = x.digest();
            is.due("promise 19: so often", x.image(), 6);
            is.due("promise 19: nothing told changes", x.digest(), then);
            x.go(0, 2);
            x.restore();
            is.due("promise 19: it is all kept", x.digest(), then);
        }
    }

    private static void promise20NoneKept() {
        is.dueUnchanged("promise 20: no town", SpeltByFriends::new, x -> x.restore(), STATE);
        is.dueUnchanged("promise 20: none kept", () -> Checks.townOf("p10,p01"), x -> x.restore(), STATE);
    }

    private static SpeltByFriends anotherTown(String text) {
        SpeltByFriends x = States.withPage(4, text);
        x.town();
        x.go(0, 2);
        return x;
    }

    private static void promise20AnotherTownSince() {
        for (int size = 2; size <= 5; size++) {
            String text = States.townText(size);
            is.dueUnchanged("promise 20: another since", () -> anotherTown(text), x -> x.restore(), STATE);
        }
        SpeltByFriends x = anotherTown("p10,p01");
        is.due("promise 20: one of this", x.image(), 1);
        x.go(0, 3);
        is.due("promise 20: goes on", x.restore(), 1);
        is.due("promise 20: in this", x.about(0, 3), 2);
    }

    private static void promise20RefusedTownIsNoOther() {
        SpeltByFriends x = States.withPage(4, "p10,p02");
        is.due("promise 20: none", x.town(), STATE);
        is.due("promise 20: goes on", x.restore(), 2);
        x.blank();
        is.due("promise 20: nor an empty page", x.town(), STATE);
        is.due("promise 20: goes on still", x.restore(), 2);
        Checks.write(x, "p10,p01");
        is.due("promise 20: nor one that is not read", x.restore(), 2);
        is.due("promise 20: which stays", x.count(6), 7);
    }

    private static void promise20KeepsWhatIsToldAndNoMore() {
        for (int size = 2; size <= 5; size++) {
            SpeltByFriends then = Checks.townOf(States.townText(size));
            then.go(0, 1);
            then.sell(1, 1, 1);
            then.quarrel(0, 1, true);
            then.hear(0, States.all(size), true);
            then.hear(1, States.all(size), false);
            SpeltByFriends x = States.busy(size);
            is.due("promise 20: so often", x.restore(), 2);
            for (int person = 0; person < size; person++) {
                for (int what = 0; what <= 8; what++) {
                    is.due("promise 20: about", x.about(person, what), then.about(person, what));
                }
                is.due("promise 20: holders", x.holders(person, 0), then.holders(person, 0));
            }
            int[] counts = {size, then.count(1), 1, 1, 1, 2, 2, 1, 1, 1};
            for (int what = 0; what <= 9; what++) {
                is.due("promise 20: count(" + what + ")", x.count(what), counts[what]);
            }
        }
    }

    private static void promise20FullAndEmpty() {
        SpeltByFriends x = Checks.townOf("p10,p01");
        x.image();
        for (int i = 0; i < 6; i++) {
            x.hear(0, 3, true);
        }
        is.due("promise 20: of an empty one", x.restore(), 0);
        is.due("promise 20: nothing is heard", x.count(5), 0);
        for (int i = 0; i < 6; i++) {
            x.hear(0, 3, false);
        }
        x.image();
        x.forget();
        x.hear(0, 3, true);
        is.due("promise 20: of a full one", x.restore(), 0);
        is.due("promise 20: all is heard", x.count(5), 6);
        is.due("promise 20: no more", x.hear(0, 3, true), -104);
        is.due("promise 20: as it was", x.holders(0, 0), 0);
    }

    private static void promise20AgainAndAgain() {
        SpeltByFriends x = States.busy(5);
        x.restore();
        long then = x.digest();
        for (int i = 0; i < 3; i++) {
            x.go(0, i);
            x.sell(4, 1, i);
            x.quarrel(i, 4, true);
            x.hear(4, 31, i == 1);
            is.due("promise 20: again", x.restore(), 2);
            is.due("promise 20: the same", x.digest(), then);
        }
        is.dueUnchanged("promise 20: behind itself", () -> {
            SpeltByFriends y = States.busy(5);
            y.restore();
            return y;
        }, y -> y.restore(), 2);
    }

    private static void promise21What() {
        SpeltByFriends x = States.busy(5);
        for (int what = 0; what <= 9; what++) {
            is.due("promise 21: count(" + what + ")", Math.min(0, x.count(what)), 0);
        }
        for (int what : new int[] {Integer.MIN_VALUE, -1, 10, 11, Integer.MAX_VALUE}) {
            is.dueUnchanged("promise 21: count(" + what + ")", () -> States.busy(5), y -> y.count(what), OUTSIDE);
            is.dueUnchanged("promise 21: of none", SpeltByFriends::new, y -> y.count(what), OUTSIDE);
        }
    }

    private static void promise21NoneAndMost() {
        SpeltByFriends none = States.allLost(5);
        is.due("promise 21: none can be written", none.count(1), 0);
        SpeltByFriends x = States.allOwn(5);
        is.due("promise 21: most people", x.count(0), 5);
        is.due("promise 21: all can be written", x.count(1), 5);
        for (int a = 0; a < 5; a++) {
            for (int b = 0; b < 5; b++) {
                x.quarrel(a, b, true);
            }
        }
        is.due("promise 21: all pairs", x.count(2), 10);
        is.due("promise 21: all can be written still", x.count(1), 5);
        for (int i = 0; i < 100; i++) {
            x.go(i % 5, i % 4);
            x.sell(i % 5, 1, i % 3);
        }
        is.due("promise 21: went", x.count(3), 100);
        is.due("promise 21: sold", x.count(4), 100);
        for (int i = 0; i < 30; i++) {
            x.hear(0, 1, true);
            x.letter('p');
        }
        is.due("promise 21: most is heard", x.count(5), 6);
        is.due("promise 21: a full page", x.count(6), 21);
        for (int i = 0; i < 41; i++) {
            x.moves(0, 0);
            x.days(0, 0);
        }
        is.due("promise 21: towns", x.count(7), 1);
        is.due("promise 21: moves", x.count(8), 40);
        is.due("promise 21: days", x.count(9), 40);
    }

    private static void promise21ChangesNothing() {
        for (int what = 0; what <= 9; what++) {
            int w = what;
            is.dueUnchanged("promise 21: asked", () -> States.busy(4), x -> Math.min(0, x.count(w)), 0);
        }
    }

    /** The digest by numbers without an end, cut to a long afterwards. */
    private static BigInteger uncut(SpeltByFriends x, String page) {
        List<Integer> numbers = new ArrayList<>();
        for (int person = 0; person < x.count(0); person++) {
            for (int what = 0; what <= 8; what++) {
                numbers.add(x.about(person, what));
            }
            numbers.add(x.holders(person, 0));
            numbers.add(x.holders(person, 1));
            numbers.add(x.invite(person));
        }
        for (char letter : page.toCharArray()) {
            numbers.add((int) letter);
        }
        for (int what = 0; what <= 9; what++) {
            numbers.add(x.count(what));
        }
        BigInteger h = BigInteger.valueOf(983);
        for (int number : numbers) {
            h = h.multiply(BigInteger.valueOf(31)).add(BigInteger.valueOf(number));
        }
        return h;
    }

    private static void promise22OfNone() {
        SpeltByFriends x = new SpeltByFriends();
        is.due("promise 22: of none", x.digest(), Checks.mixed(0, 0, 0, 0, 0, 0, 0, 0, 0, 0));
        is.holds("promise 22: this does not wrap", uncut(x, "").bitLength() < 64);
    }

    private static void promise22OfThePage() {
        String full = "~ p00,p01,zZaA09:/;<>";
        for (int length = 0; length <= 21; length++) {
            String text = full.substring(0, length);
            SpeltByFriends x = States.newWithPage(text);
            is.due("promise 22: of '" + text + "'", x.digest(), uncut(x, text).longValue());
            SpeltByFriends y = States.withPage(3, text);
            is.due("promise 22: of a town and '" + text + "'", y.digest(), uncut(y, text).longValue());
        }
        SpeltByFriends x = States.newWithPage("abc");
        x.blank();
        x.letter('d');
        is.due("promise 22: of none that are gone", x.digest(), Checks.mixed('d', 0, 0, 0, 0, 0, 0, 1, 0, 0, 0));
    }

    private static void promise22Wraps() {
        for (int size = 2; size <= 5; size++) {
            SpeltByFriends x = States.busy(size);
            BigInteger whole = uncut(x, "h1");
            is.holds("promise 22: this wraps", whole.bitLength() > 64);
            is.due("promise 22: of " + size, x.digest(), whole.longValue());
        }
    }

    private static void promise22NumbersBelow0() {
        SpeltByFriends x = Checks.townOf("p11,p00");
        x.hear(0, 3, true);
        x.hear(0, 3, false);
        is.due("promise 22: no least", x.holders(0, 1), NONE);
        is.due("promise 22: of none", x.digest(), Checks.mixed(
            0, 1, 1, 0, 0, 1, 3, 2, 2, 0, NONE, NONE,
            0, 0, 0, 0, 0, 1, 3, 2, 1, 4, 0, 2,
            2, 2, 0, 0, 0, 2, 0, 1, 0, 0));
    }

    private static void promise22ChangesNothing() {
        for (int size = 2; size <= 5; size++) {
            SpeltByFriends x = States.busy(size);
            long first = x.digest();
            is.due("promise 22: the same again", x.digest(), first);
            is.alike("promise 22: digest", x, States.busy(size));
        }
    }
}
