import java.util.function.Supplier;

/** The boundary cases of the promises 14 to 18: what is heard, who may hold what, and the years. */
public final class HeardBoundsTest {
    private static final int NONE = -1, UNKNOWN = -101, OUTSIDE = -102, STATE = -103, FULL = -104;
    private static final int[] NO_SEEDS = {Integer.MIN_VALUE, Integer.MIN_VALUE + 1, -2, -1};
    private static final Checks is = new Checks();

    public static void main(String[] args) {
        promise14SixAtMost();
        promise14LikeOnesAndContraries();
        promise14Companies();
        promise14Who();
        promise15NothingAndAll();
        promise15AllElseStays();
        promise16AllAndNone();
        promise16LeastAndLast();
        promise16OfHimAlone();
        promise16ByQuarrelsOfNow();
        promise16WhoAndWhat();
        promise17FromHimAloneToMost();
        promise17OneIsLeft();
        promise17NoneIsLeft();
        promise17Who();
        promise18Times1To60();
        promise18SeedsFrom0();
        promise18DrawsWrap();
        promise18WhoAndWhere();
        promise18OthersAreOutside();
        promise18NoTown();
        promise18ChangesNothing();
        is.end();
    }

    private static void promise14SixAtMost() {
        SpeltByFriends x = Checks.townOf("p00,p00");
        for (int round = 0; round < 2; round++) {
            for (int i = 1; i <= 6; i++) {
                is.due("promise 14: the " + i + "th", x.hear(i & 1, 3, true), i);
            }
            is.due("promise 14: the 7th", x.hear(0, 3, true), FULL);
            is.due("promise 14: of another", x.hear(1, 2, false), FULL);
            is.due("promise 14: room again behind forget", x.forget(), 6);
        }
        for (int size = 2; size <= 5; size++) {
            int n = size;
            Supplier<SpeltByFriends> full = () -> States.heardFull(n);
            is.dueUnchanged("promise 14: full", full, y -> y.hear(n - 1, States.all(n), false), FULL);
            is.dueUnchanged("promise 14: outside ahead of full", full, y -> y.hear(0, 1 << n, true), OUTSIDE);
            is.dueUnchanged("promise 14: not in it ahead of full", full, y -> y.hear(0, 2, true), OUTSIDE);
            is.dueUnchanged("promise 14: unknown ahead of full", full, y -> y.hear(n, 1, true), UNKNOWN);
        }
    }

    private static void promise14LikeOnesAndContraries() {
        SpeltByFriends x = Checks.townOf("p01,p00");
        is.due("promise 14: first", x.hear(0, 1, true), 1);
        is.due("promise 14: the same again is more", x.hear(0, 1, true), 2);
        is.due("promise 14: by the same holders", x.holders(0, 0), 1);
        is.due("promise 14: the contrary, too", x.hear(0, 1, false), 3);
        is.due("promise 14: by none", x.holders(0, 0), 0);
    }

    private static void promise14Companies() {
        for (int size = 2; size <= 5; size++) {
            for (int person = 0; person < size; person++) {
                for (int company = -1; company <= 2 << size; company++) {
                    boolean such = company >= 0 && company < 1 << size && (company >> person & 1) == 1;
                    is.due("promise 14: hear(" + person + ", " + company + ") of " + size,
                        Checks.townOf(States.townText(size)).hear(person, company, true), such ? 1 : OUTSIDE);
                }
            }
            int n = size;
            Supplier<SpeltByFriends> busy = () -> States.busy(n);
            is.dueUnchanged("promise 14: one more than all", busy, x -> x.hear(0, (1 << n) + 1, true), OUTSIDE);
            is.dueUnchanged("promise 14: nobody is in it", busy, x -> x.hear(0, 0, false), OUTSIDE);
            is.dueUnchanged("promise 14: all but him", busy, x -> x.hear(0, States.all(n) - 1, false), OUTSIDE);
        }
        for (int company : new int[] {Integer.MIN_VALUE, Integer.MIN_VALUE + 1, -1, 65537, Integer.MAX_VALUE}) {
            is.dueUnchanged("promise 14: company " + company, () -> States.busy(5), x -> x.hear(0, company, true), OUTSIDE);
        }
    }

    private static void promise14Who() {
        for (int size = 2; size <= 5; size++) {
            int n = size;
            is.dueUnchanged("promise 14: behind the last", () -> States.busy(n), x -> x.hear(n, States.all(n), true), UNKNOWN);
            is.dueUnchanged("promise 14: unknown ahead of outside", () -> States.busy(n), x -> x.hear(n, -1, true), UNKNOWN);
        }
        for (int nobody : States.NOBODIES) {
            is.dueUnchanged("promise 14: nobody " + nobody, () -> States.busy(5), x -> x.hear(nobody, 31, true), UNKNOWN);
        }
    }

    private static void promise15NothingAndAll() {
        is.dueUnchanged("promise 15: no town", SpeltByFriends::new, x -> x.forget(), 0);
        is.dueUnchanged("promise 15: nothing", () -> Checks.townOf("p10,p01"), x -> x.forget(), 0);
        for (int much = 0; much <= 6; much++) {
            SpeltByFriends x = Checks.townOf("p10,h01");
            for (int i = 0; i < much; i++) {
                x.hear(0, 1, (i & 1) == 0);
            }
            is.due("promise 15: so much was", x.forget(), much);
            is.due("promise 15: nothing is", x.count(5), 0);
            is.due("promise 15: nothing was then", x.forget(), 0);
            is.alike("promise 15: as if nothing was", x, Checks.townOf("p10,h01"));
        }
    }

    private static void promise15AllElseStays() {
        SpeltByFriends x = States.busy(4);
        is.due("promise 15: was", x.forget(), 3);
        SpeltByFriends y = States.busy(4);
        for (int person = 0; person < 4; person++) {
            for (int what = 0; what <= 8; what++) {
                is.due("promise 15: about stays", x.about(person, what), y.about(person, what));
            }
        }
        for (int what = 0; what <= 9; what++) {
            is.due("promise 15: count stays", x.count(what), what == 5 ? 0 : y.count(what));
        }
        is.due("promise 15: the image keeps what was heard", x.restore(), y.restore());
        is.alike("promise 15: and all else", x, y);
    }

    private static void promise16AllAndNone() {
        for (int size = 2; size <= 5; size++) {
            SpeltByFriends x = Checks.townOf(States.townText(size));
            for (int person = 0; person < size; person++) {
                is.due("promise 16: all of " + size, x.holders(person, 0), size * size);
                is.due("promise 16: the least of all", x.holders(person, 1), 0);
            }
            x.hear(size - 1, States.all(size), true);
            x.hear(size - 1, States.all(size), false);
            is.due("promise 16: none", x.holders(size - 1, 0), 0);
            is.due("promise 16: no least", x.holders(size - 1, 1), NONE);
            is.due("promise 16: of another all", x.holders(0, 0), size * size);
        }
    }

    private static void promise16LeastAndLast() {
        for (int person = 0; person < 5; person++) {
            SpeltByFriends x = Checks.townOf("p00,p00,p00,p00,p00");
            x.hear(person, 1 << person, true);
            is.due("promise 16: his own alone", x.holders(person, 0), 1);
            is.due("promise 16: that", x.holders(person, 1), 11 * person);
        }
        SpeltByFriends x = Checks.townOf("p00,p00,p00,p00,t00");
        x.hear(4, 19, false);
        x.hear(4, 20, false);
        is.due("promise 16: the first by person 3", x.holders(4, 0), 5);
        is.due("promise 16: with the least last", x.holders(4, 1), 30);
        SpeltByFriends y = Checks.townOf("p00,p00,p00,p00,p00");
        y.hear(0, 15, false);
        y.hear(0, 17, false);
        y.hear(0, 25, true);
        is.due("promise 16: 3 and 4 in either order", y.holders(0, 0), 2);
        is.due("promise 16: the lesser order", y.holders(0, 1), 34);
    }

    private static void promise16OfHimAlone() {
        SpeltByFriends x = Checks.townOf("p01,p01,p01");
        x.hear(0, 1, true);
        is.due("promise 16: of him", x.holders(0, 0), 1);
        is.due("promise 16: not of 1", x.holders(1, 0), 9);
        is.due("promise 16: not of 2", x.holders(2, 0), 9);
        x.sell(0, 0, 2);
        x.go(0, 3);
        is.due("promise 16: who holds them is not known of", x.holders(0, 1), 0);
        is.due("promise 16: nor told", x.holders(0, 0), 1);
    }

    private static void promise16ByQuarrelsOfNow() {
        SpeltByFriends x = Checks.townOf("p00,p00");
        x.hear(0, 3, true);
        is.due("promise 16: any", x.holders(0, 0), 4);
        x.quarrel(0, 1, true);
        is.due("promise 16: his own alone", x.holders(0, 0), 1);
        x.quarrel(0, 1, false);
        is.due("promise 16: any again", x.holders(0, 0), 4);
    }

    private static void promise16WhoAndWhat() {
        Supplier<SpeltByFriends> busy = () -> States.busy(3);
        for (int what : new int[] {Integer.MIN_VALUE, -1, 2, 3, 10, Integer.MAX_VALUE}) {
            is.dueUnchanged("promise 16: what " + what, busy, x -> x.holders(0, what), OUTSIDE);
            is.dueUnchanged("promise 16: unknown ahead of outside", busy, x -> x.holders(3, what), UNKNOWN);
        }
        for (int nobody : States.NOBODIES) {
            is.dueUnchanged("promise 16: nobody " + nobody, busy, x -> x.holders(nobody, 0), UNKNOWN);
        }
        for (int size = 2; size <= 5; size++) {
            int n = size;
            is.dueUnchanged("promise 16: behind the last", () -> States.busy(n), x -> x.holders(n, 0), UNKNOWN);
            is.dueUnchanged("promise 16: asked", () -> States.busy(n), x -> Math.min(0, x.holders(n - 1, 0)), 0);
            is.dueUnchanged("promise 16: the least asked", () -> States.busy(n), x -> Math.min(-1, x.holders(n - 1, 1)), -1);
        }
    }

    private static void inviteIs(String town, int person, int company) {
        is.due("promise 17: invite(" + person + ") of " + town, Checks.townOf(town).invite(person), company);
    }

    /** Of four: alone a person splits 1 and 3, a hermit not at all, a forger 3 and 1, a twin 2 and 2. */
    private static void promise17FromHimAloneToMost() {
        inviteIs("p00,p00", 0, 1);
        inviteIs("p00,p00", 1, 2);
        inviteIs("f00,f00", 1, 2);
        inviteIs("t00,t00", 1, 2);
        SpeltByFriends hermits = Checks.townOf("h00,h00");
        is.due("promise 17: a hermit tells nothing, or all: the least", hermits.invite(1), 2);
        hermits.quarrel(0, 1, true);
        is.due("promise 17: but with whom he quarrels", hermits.invite(1), 3);
        is.due("promise 17: and so the other", hermits.invite(0), 3);
        inviteIs("p00,p00,p00", 0, 3);
        // of 25 three people split 9 and 16, four 16 and 9: the least of both sorts.
        inviteIs("p00,p00,p00,p00,p00", 0, 7);
        inviteIs("p00,p00,p00,p00,p00", 4, 19);
    }

    private static void promise17OneIsLeft() {
        for (int size = 2; size <= 5; size++) {
            for (int person = 0; person < size; person++) {
                SpeltByFriends x = Checks.townOf("p00,p00,p00,p00,p00".substring(0, 4 * size - 1).replace('0', '1'));
                x.hear(person, 1 << person, true);
                is.due("promise 17: one", x.holders(person, 0), 1);
                is.due("promise 17: all are alike: him alone", x.invite(person), 1 << person);
            }
        }
    }

    private static void promise17NoneIsLeft() {
        for (int size = 2; size <= 5; size++) {
            for (int person = 0; person < size; person++) {
                SpeltByFriends x = Checks.townOf(States.townText(size));
                x.hear(person, States.all(size), true);
                x.hear(person, States.all(size), false);
                is.due("promise 17: none", x.invite(person), NONE);
                is.due("promise 17: of another", Math.min(0, x.invite((person + 1) % size)), 0);
                x.forget();
                is.due("promise 17: behind forget", Math.min(0, x.invite(person)), 0);
            }
        }
    }

    private static void promise17Who() {
        for (int size = 2; size <= 5; size++) {
            int n = size;
            Supplier<SpeltByFriends> busy = () -> States.busy(n);
            is.dueUnchanged("promise 17: behind the last", busy, x -> x.invite(n), UNKNOWN);
            is.dueUnchanged("promise 17: asked", busy, x -> Math.min(-1, x.invite(n - 1)), -1);
            for (int nobody : States.NOBODIES) {
                is.dueUnchanged("promise 17: nobody " + nobody, busy, x -> x.invite(nobody), UNKNOWN);
            }
        }
    }

    private static void promise18Times1To60() {
        for (int size = 2; size <= 5; size++) {
            SpeltByFriends own = States.allOwn(size);
            SpeltByFriends lost = States.allLost(size);
            for (int times : new int[] {1, 2, 59, 60}) {
                is.due("promise 18: all, each time", own.years(times, 7, 0), size * times);
                is.due("promise 18: all in the end", own.years(times, 7, 1), size);
                is.due("promise 18: none, each time", lost.years(times, 7, 0), 0);
                is.due("promise 18: none in the end", lost.years(times, 7, 1), 0);
                is.due("promise 18: seed then", own.years(times, 7, 2), seedBehind(7, 2 * times));
            }
        }
    }

    private static int seedBehind(int seed, int draws) {
        java.math.BigInteger next = java.math.BigInteger.valueOf(seed);
        for (int i = 0; i < draws; i++) {
            next = next.multiply(java.math.BigInteger.valueOf(1103515245)).add(java.math.BigInteger.valueOf(12345))
                .mod(java.math.BigInteger.TWO.pow(31));
        }
        return next.intValueExact();
    }

    private static void promise18SeedsFrom0() {
        SpeltByFriends x = States.lived(5);
        for (int seed : new int[] {0, 1, 2, 65535, 65536, 1 << 30, Integer.MAX_VALUE - 1, Integer.MAX_VALUE}) {
            for (int times : new int[] {1, 2, 60}) {
                is.due("promise 18: seed behind " + seed, x.years(times, seed, 2), seedBehind(seed, 2 * times));
            }
        }
        is.due("promise 18: of the least", x.years(1, 0, 2), 1406932606);
        is.due("promise 18: of the most", x.years(1, Integer.MAX_VALUE, 2), 288979989);
    }

    /** The next seed is 0 behind one whose product and 12345 are a multiple of 2 to the 31. */
    private static void promise18DrawsWrap() {
        java.math.BigInteger end = java.math.BigInteger.TWO.pow(31);
        java.math.BigInteger back = java.math.BigInteger.valueOf(1103515245).modInverse(end);
        int ahead = java.math.BigInteger.valueOf(-12345).multiply(back).mod(end).intValueExact();
        int ahead2 = java.math.BigInteger.valueOf(ahead - 12345L).multiply(back).mod(end).intValueExact();
        is.due("promise 18: the draw behind wraps to 0", seedBehind(ahead, 1), 0);
        SpeltByFriends x = Checks.townOf("p11,p00");
        is.due("promise 18: to 0 and on", x.years(1, ahead, 2), 12345);
        is.due("promise 18: to 0 by two", x.years(1, ahead2, 2), 0);
        int most = java.math.BigInteger.valueOf(Integer.MAX_VALUE - 12345L).multiply(back).mod(end).intValueExact();
        is.due("promise 18: the draw behind is the most", seedBehind(most, 1), Integer.MAX_VALUE);
        is.due("promise 18: over the most and on", x.years(1, most, 2), seedBehind(Integer.MAX_VALUE, 1));
    }

    /** Each seed's one who goes, and where to, told by who is no more with person 0 or 1. */
    private static void promise18WhoAndWhere() {
        for (int seed = 0; seed < 200; seed++) {
            for (int size = 2; size <= 5; size++) {
                int who = seedBehind(seed, 1) / 65536 % size;
                int room = seedBehind(seed, 2) / 65536 % 4;
                SpeltByFriends x = Checks.townOf("p11,p00,p00,p00,p00".substring(0, 4 * size - 1));
                int went = room == 0 ? size : who == 0 ? 0 : who == 1 ? size - 2 : size - 1;
                is.due("promise 18: seed " + seed + " of " + size, x.years(1, seed, 0), went);
                x.go(who, room);
                is.due("promise 18: as if he went", x.count(1), went);
            }
        }
    }

    private static void promise18OthersAreOutside() {
        Supplier<SpeltByFriends> busy = () -> States.busy(4);
        for (int times : new int[] {Integer.MIN_VALUE, -1, 0, 61, 62, Integer.MAX_VALUE}) {
            is.dueUnchanged("promise 18: times " + times, busy, x -> x.years(times, 1, 0), OUTSIDE);
            is.dueUnchanged("promise 18: no town, times " + times, SpeltByFriends::new, x -> x.years(times, 1, 0), OUTSIDE);
        }
        for (int seed : NO_SEEDS) {
            is.dueUnchanged("promise 18: seed " + seed, busy, x -> x.years(60, seed, 2), OUTSIDE);
            is.dueUnchanged("promise 18: no town, seed " + seed, SpeltByFriends::new, x -> x.years(1, seed, 0), OUTSIDE);
        }
        for (int what : new int[] {Integer.MIN_VALUE, -1, 3, 4, 10, Integer.MAX_VALUE}) {
            is.dueUnchanged("promise 18: what " + what, busy, x -> x.years(1, 0, what), OUTSIDE);
            is.dueUnchanged("promise 18: no town, what " + what, SpeltByFriends::new, x -> x.years(1, 0, what), OUTSIDE);
        }
    }

    private static void promise18NoTown() {
        for (int what = 0; what <= 2; what++) {
            int w = what;
            is.dueUnchanged("promise 18: no town", SpeltByFriends::new, x -> x.years(1, 0, w), STATE);
            is.dueUnchanged("promise 18: no town, most", SpeltByFriends::new,
                x -> x.years(60, Integer.MAX_VALUE, w), STATE);
        }
    }

    private static void promise18ChangesNothing() {
        for (int size = 2; size <= 5; size++) {
            int n = size;
            is.dueUnchanged("promise 18: asked", () -> States.busy(n), x -> x.years(60, 1, 2), seedBehind(1, 120));
            is.dueUnchanged("promise 18: asked once", () -> States.busy(n), x -> Math.min(0, x.years(1, 1, 0)), 0);
            SpeltByFriends x = States.busy(size);
            is.due("promise 18: the same again", x.years(60, 1, 0), x.years(60, 1, 0));
        }
    }
}
