import java.util.function.Supplier;

/** The boundary cases of the promises 6 to 11: what is told of people, and what they do. */
public final class PeopleBoundsTest {
    private static final int NONE = -1, UNKNOWN = -101, OUTSIDE = -102;
    private static final Checks is = new Checks();

    public static void main(String[] args) {
        promise6WhoAndWhat();
        promise6WrittenOrNot();
        promise6LeastAndMost();
        promise6Wants();
        promise7EachKindAsEach();
        promise7WhoAndWhichKind();
        promise8Rooms0To3();
        promise8WhoAndWhichRoom();
        promise9EachLetterToEach();
        promise9WhoAndWhich();
        promise10PairsOfNoneAndAll();
        promise10SameAgainChangesNothing();
        promise10Who();
        promise11Companies();
        promise11PersonAndHermit();
        promise11ForgerAndTwin();
        promise11Proud();
        promise11QuarrelsOfOthers();
        promise11AllThatCanBe();
        promise11ChangesNothing();
        is.end();
    }

    private static void promise6WhoAndWhat() {
        for (int size = 2; size <= 5; size++) {
            int n = size;
            Supplier<SpeltByFriends> busy = () -> States.busy(n);
            SpeltByFriends x = States.busy(size);
            is.due("promise 6: the first", x.about(0, 0), 0);
            is.due("promise 6: the last", x.about(size - 1, 0), size - 1);
            is.dueUnchanged("promise 6: behind the last", busy, y -> y.about(n, 0), UNKNOWN);
            for (int nobody : States.NOBODIES) {
                is.dueUnchanged("promise 6: nobody " + nobody, busy, y -> y.about(nobody, 0), UNKNOWN);
                is.dueUnchanged("promise 6: unknown ahead of outside", busy, y -> y.about(nobody, 9), UNKNOWN);
            }
            for (int what : new int[] {Integer.MIN_VALUE, -1, 9, 10, Integer.MAX_VALUE}) {
                is.dueUnchanged("promise 6: what " + what, busy, y -> y.about(n - 1, what), OUTSIDE);
            }
            for (int what = 0; what <= 8; what++) {
                int w = what;
                is.dueUnchanged("promise 6: asked", busy, y -> Math.min(0, y.about(0, w)), 0);
            }
        }
    }

    private static void promise6WrittenOrNot() {
        for (int size = 2; size <= 5; size++) {
            SpeltByFriends own = States.allOwn(size);
            SpeltByFriends lost = States.allLost(size);
            for (int person = 0; person < size; person++) {
                is.due("promise 6: can be written", own.about(person, 5), 1);
                is.due("promise 6: can not", lost.about(person, 5), 0);
            }
        }
        SpeltByFriends x = Checks.townOf("p11,r00,h00");
        is.due("promise 6: with his holder in the room", x.about(0, 5), 1);
        is.due("promise 6: one too many for a proud one", x.about(1, 5), 0);
        x.go(2, 3);
        is.due("promise 6: none too many", x.about(1, 5), 1);
        is.due("promise 6: a hermit alone in the last room", x.about(2, 5), 1);
        x.go(1, 3);
        is.due("promise 6: his holder has left", x.about(0, 5), 0);
        is.due("promise 6: a hermit with another", x.about(2, 5), 0);
    }

    private static void promise6LeastAndMost() {
        SpeltByFriends x = Checks.townOf("p40,p44,p44,p44,t44");
        is.due("promise 6: holds none", x.about(1, 7), 0);
        is.due("promise 6: his own are not of others", x.about(4, 7), 7);
        x.sell(0, 1, 4);
        is.due("promise 6: holds all of others", x.about(4, 7), 8);
        is.due("promise 6: his own are no others' either", x.about(0, 7), 0);
        is.due("promise 6: quarrels with nobody", x.about(2, 4), 0);
        for (int other = 0; other < 5; other++) {
            x.quarrel(2, other, true);
        }
        is.due("promise 6: with all others", x.about(2, 4), 27);
        is.due("promise 6: all are with him", x.about(2, 6), 31);
        x.go(2, 3);
        is.due("promise 6: the last room", x.about(2, 3), 3);
        is.due("promise 6: alone", x.about(2, 6), 4);
        is.due("promise 6: without him", x.about(4, 6), 27);
        x.go(2, 0);
        is.due("promise 6: the first room", x.about(2, 3), 0);
    }

    private static void wantsAre(String town, int person, int wants) {
        is.due("promise 6: wants of " + person + " in " + town, Checks.townOf(town).about(person, 8), wants);
    }

    private static void promise6Wants() {
        wantsAre("p00,p00", 0, 0);
        wantsAre("p00,p00", 1, 1);
        wantsAre("p12,p00,p00,p00,p00", 0, 6);
        wantsAre("p00,p00,p00,p00,p03", 4, 9);
        wantsAre("h12,p00,p00", 0, 0);
        wantsAre("f12,p00,p00", 0, 0);
        wantsAre("f22,p00,p00", 0, 4);
        wantsAre("f02,p00,p00", 0, 0);
        wantsAre("r12,p00,p00,p00", 0, 6);
        wantsAre("t12,p00,p00", 0, 2);
        wantsAre("t02,p00,p00", 0, 0);
        for (int size = 2; size <= 5; size++) {
            SpeltByFriends lost = States.allLost(size);
            for (int person = 0; person < size; person++) {
                is.due("promise 6: all others, if there is none", lost.about(person, 8), States.all(size) - (1 << person));
            }
        }
    }

    private static void promise7EachKindAsEach() {
        SpeltByFriends x = Checks.townOf("p00,h00,f00,r00,t00");
        String[] kinds = {"0", "01", "02", "03", "024"};
        for (int person = 0; person < 5; person++) {
            for (int kind = 0; kind < 5; kind++) {
                boolean such = kinds[person].indexOf((char) ('0' + kind)) >= 0;
                is.due("promise 7: as(" + person + ", " + kind + ")", x.as(person, kind), such ? person : NONE);
            }
        }
        SpeltByFriends twins = Checks.townOf("t00,t00");
        is.due("promise 7: the first as a forger", twins.as(0, 2), 0);
        is.due("promise 7: a forger is no twin", Checks.townOf("f00,f00").as(1, 4), NONE);
    }

    private static void promise7WhoAndWhichKind() {
        Supplier<SpeltByFriends> busy = () -> States.busy(4);
        for (int kind : new int[] {Integer.MIN_VALUE, -1, 5, 6, 32, Integer.MAX_VALUE}) {
            is.dueUnchanged("promise 7: kind " + kind, busy, x -> x.as(0, kind), OUTSIDE);
            is.dueUnchanged("promise 7: unknown ahead of outside", busy, x -> x.as(4, kind), UNKNOWN);
        }
        for (int nobody : States.NOBODIES) {
            is.dueUnchanged("promise 7: nobody " + nobody, busy, x -> x.as(nobody, 0), UNKNOWN);
        }
        for (int size = 2; size <= 5; size++) {
            int n = size;
            is.due("promise 7: the last", States.busy(size).as(size - 1, 0), size - 1);
            is.dueUnchanged("promise 7: behind the last", () -> States.busy(n), x -> x.as(n, 0), UNKNOWN);
        }
        is.dueUnchanged("promise 7: taken", busy, x -> x.as(3, 3), 3);
        is.dueUnchanged("promise 7: none such", busy, x -> x.as(3, 4), NONE);
    }

    private static void promise8Rooms0To3() {
        for (int from = 0; from < 4; from++) {
            for (int to = 0; to < 4; to++) {
                SpeltByFriends x = Checks.townOf("p00,p00,p00,p00,p00");
                x.go(4, from);
                is.due("promise 8: from " + from + " to " + to, x.go(4, to), from);
                is.due("promise 8: is there", x.about(4, 3), to);
                is.due("promise 8: alone, or with all", x.about(4, 6), to == 0 ? 31 : 16);
                is.due("promise 8: the others stay", x.about(3, 3), 0);
                is.due("promise 8: went, if to the same, too", x.count(3), 2);
            }
        }
    }

    private static void promise8WhoAndWhichRoom() {
        Supplier<SpeltByFriends> busy = () -> States.busy(3);
        for (int room : new int[] {Integer.MIN_VALUE, -4, -1, 4, 5, 65536, Integer.MAX_VALUE}) {
            is.dueUnchanged("promise 8: room " + room, busy, x -> x.go(0, room), OUTSIDE);
            is.dueUnchanged("promise 8: unknown ahead of outside", busy, x -> x.go(3, room), UNKNOWN);
        }
        for (int nobody : States.NOBODIES) {
            is.dueUnchanged("promise 8: nobody " + nobody, busy, x -> x.go(nobody, 3), UNKNOWN);
        }
        for (int size = 2; size <= 5; size++) {
            int n = size;
            is.due("promise 8: the last", States.busy(size).go(size - 1, 0), 2);
            is.dueUnchanged("promise 8: behind the last", () -> States.busy(n), x -> x.go(n, 0), UNKNOWN);
        }
    }

    private static void promise9EachLetterToEach() {
        for (int which = 0; which < 2; which++) {
            for (int to = 0; to < 5; to++) {
                SpeltByFriends x = Checks.townOf("p00,p00,p00,p00,p32");
                is.due("promise 9: held it", x.sell(4, which, to), 3 - which);
                is.due("promise 9: holds it", x.about(4, 1 + which), to);
                is.due("promise 9: the other is as it was", x.about(4, 2 - which), 2 + which);
                is.due("promise 9: to the same, too", x.sell(4, which, to), to);
                is.due("promise 9: so often", x.count(4), 2);
            }
        }
    }

    private static void promise9WhoAndWhich() {
        Supplier<SpeltByFriends> busy = () -> States.busy(3);
        for (int which : new int[] {Integer.MIN_VALUE, -1, 2, 3, Integer.MAX_VALUE}) {
            is.dueUnchanged("promise 9: which " + which, busy, x -> x.sell(0, which, 2), OUTSIDE);
            is.dueUnchanged("promise 9: unknown ahead of outside", busy, x -> x.sell(3, which, 2), UNKNOWN);
            is.dueUnchanged("promise 9: unknown to ahead of outside", busy, x -> x.sell(0, which, 3), UNKNOWN);
        }
        for (int nobody : States.NOBODIES) {
            is.dueUnchanged("promise 9: nobody's, " + nobody, busy, x -> x.sell(nobody, 0, 2), UNKNOWN);
            is.dueUnchanged("promise 9: to nobody, " + nobody, busy, x -> x.sell(0, 1, nobody), UNKNOWN);
        }
        for (int size = 2; size <= 5; size++) {
            int n = size;
            is.due("promise 9: of and to the last", Math.min(0, States.busy(size).sell(size - 1, 1, size - 1)), 0);
            is.dueUnchanged("promise 9: behind the last", () -> States.busy(n), x -> x.sell(n, 0, 0), UNKNOWN);
            is.dueUnchanged("promise 9: to behind the last", () -> States.busy(n), x -> x.sell(0, 0, n), UNKNOWN);
        }
    }

    private static void promise10PairsOfNoneAndAll() {
        for (int size = 2; size <= 5; size++) {
            SpeltByFriends x = Checks.townOf(States.townText(size));
            int pairs = 0;
            for (int a = 0; a < size; a++) {
                for (int b = 0; b < a; b++) {
                    is.due("promise 10: did not", x.quarrel(a, b, true), 0);
                    pairs++;
                    is.due("promise 10: pairs", x.count(2), pairs);
                }
                is.due("promise 10: with all ahead of him", x.about(a, 4), (1 << a) - 1);
            }
            for (int a = 0; a < size; a++) {
                is.due("promise 10: with all", x.about(a, 4), States.all(size) - (1 << a));
            }
            for (int a = 0; a < size; a++) {
                for (int b = a + 1; b < size; b++) {
                    is.due("promise 10: did", x.quarrel(a, b, false), 1);
                    pairs--;
                    is.due("promise 10: pairs left", x.count(2), pairs);
                }
                is.due("promise 10: with nobody", x.about(a, 4), 0);
            }
        }
    }

    private static void promise10SameAgainChangesNothing() {
        for (int size = 2; size <= 5; size++) {
            int n = size;
            Supplier<SpeltByFriends> busy = () -> States.busy(n);
            is.dueUnchanged("promise 10: do already", busy, x -> x.quarrel(0, n - 1, true), 1);
            is.dueUnchanged("promise 10: the other way round", busy, x -> x.quarrel(n - 1, 0, true), 1);
        }
        is.dueUnchanged("promise 10: do not anyhow", () -> States.busy(3), x -> x.quarrel(0, 1, false), 0);
        is.dueUnchanged("promise 10: do not, the other way round", () -> States.busy(3), x -> x.quarrel(1, 0, false), 0);
    }

    private static void promise10Who() {
        Supplier<SpeltByFriends> busy = () -> States.busy(3);
        for (int nobody : States.NOBODIES) {
            is.dueUnchanged("promise 10: nobody a " + nobody, busy, x -> x.quarrel(nobody, 1, true), UNKNOWN);
            is.dueUnchanged("promise 10: nobody b " + nobody, busy, x -> x.quarrel(1, nobody, true), UNKNOWN);
            is.dueUnchanged("promise 10: nobody both " + nobody, busy, x -> x.quarrel(nobody, nobody, false), UNKNOWN);
        }
        for (int size = 2; size <= 5; size++) {
            int n = size;
            for (boolean yes : new boolean[] {true, false}) {
                is.dueUnchanged("promise 10: a behind the last", () -> States.busy(n), x -> x.quarrel(n, 0, yes), UNKNOWN);
                is.dueUnchanged("promise 10: b behind the last", () -> States.busy(n), x -> x.quarrel(0, n, yes), UNKNOWN);
                is.dueUnchanged("promise 10: the first with himself", () -> States.busy(n), x -> x.quarrel(0, 0, yes), UNKNOWN);
                is.dueUnchanged("promise 10: the last with himself", () -> States.busy(n),
                    x -> x.quarrel(n - 1, n - 1, yes), UNKNOWN);
            }
        }
    }

    private static void promise11Companies() {
        for (int size = 2; size <= 5; size++) {
            int n = size;
            Supplier<SpeltByFriends> busy = () -> States.busy(n);
            SpeltByFriends own = States.allOwn(size);
            for (int person = 0; person < size; person++) {
                for (int company = -1; company <= 2 << size; company++) {
                    boolean such = company >= 0 && company < 1 << size && (company >> person & 1) == 1;
                    is.due("promise 11: written(" + person + ", " + company + ") of " + size,
                        own.written(person, company), such ? 1 : OUTSIDE);
                }
                own = States.allOwn(size);
            }
            is.dueUnchanged("promise 11: one more than all", busy, x -> x.written(0, (1 << n) + 1), OUTSIDE);
            is.dueUnchanged("promise 11: nobody is in it", busy, x -> x.written(0, 0), OUTSIDE);
            is.dueUnchanged("promise 11: all but him", busy, x -> x.written(0, States.all(n) - 1), OUTSIDE);
            is.dueUnchanged("promise 11: behind the last", busy, x -> x.written(n, States.all(n)), UNKNOWN);
            is.dueUnchanged("promise 11: unknown ahead of outside", busy, x -> x.written(n, -1), UNKNOWN);
        }
        for (int company : new int[] {Integer.MIN_VALUE, Integer.MIN_VALUE + 1, -1, 65537, Integer.MAX_VALUE}) {
            is.dueUnchanged("promise 11: company " + company, () -> States.busy(5), x -> x.written(0, company), OUTSIDE);
        }
        for (int nobody : States.NOBODIES) {
            is.dueUnchanged("promise 11: nobody " + nobody, () -> States.busy(5), x -> x.written(nobody, 31), UNKNOWN);
        }
    }

    private static void writtenIs(SpeltByFriends x, int person, int company, int due) {
        is.due("promise 11: written(" + person + ", " + company + ")", x.written(person, company), due);
    }

    private static void promise11PersonAndHermit() {
        SpeltByFriends x = Checks.townOf("p12,p11,h12,h22,p12");
        writtenIs(x, 0, 1, 0);
        writtenIs(x, 0, 3, 0);
        writtenIs(x, 0, 5, 0);
        writtenIs(x, 0, 7, 1);
        writtenIs(x, 0, 31, 1);
        writtenIs(x, 1, 2, 1);
        writtenIs(x, 1, 31, 1);
        writtenIs(x, 2, 4, 1);
        writtenIs(x, 2, 5, 0);
        writtenIs(x, 2, 6, 1);
        writtenIs(x, 2, 31, 1);
        writtenIs(x, 3, 8, 1);
        writtenIs(x, 3, 24, 0);
        writtenIs(x, 3, 12, 1);
        x.quarrel(3, 2, true);
        writtenIs(x, 3, 8, 1);
        writtenIs(x, 3, 12, 0);
    }

    private static void promise11ForgerAndTwin() {
        SpeltByFriends x = Checks.townOf("f12,f00,t10,t33,p00");
        writtenIs(x, 0, 1, 0);
        writtenIs(x, 0, 25, 0);
        writtenIs(x, 0, 3, 1);
        writtenIs(x, 0, 5, 1);
        writtenIs(x, 0, 7, 1);
        writtenIs(x, 1, 2, 0);
        writtenIs(x, 1, 3, 1);
        writtenIs(x, 2, 4, 0);
        writtenIs(x, 2, 5, 0);
        writtenIs(x, 2, 6, 1);
        writtenIs(x, 2, 31, 1);
        writtenIs(x, 3, 8, 1);
        x.quarrel(0, 1, true);
        writtenIs(x, 0, 3, 0);
        writtenIs(x, 0, 7, 1);
        x.quarrel(0, 2, true);
        writtenIs(x, 0, 31, 0);
        x.quarrel(2, 1, true);
        writtenIs(x, 2, 31, 0);
    }

    private static void promise11Proud() {
        SpeltByFriends x = Checks.townOf("r12,r11,r22,r32,r00");
        writtenIs(x, 0, 7, 1);
        writtenIs(x, 0, 15, 0);
        writtenIs(x, 0, 23, 0);
        writtenIs(x, 0, 3, 0);
        writtenIs(x, 1, 2, 1);
        writtenIs(x, 1, 3, 0);
        writtenIs(x, 3, 12, 1);
        writtenIs(x, 3, 8, 0);
        writtenIs(x, 3, 13, 0);
        writtenIs(x, 4, 17, 1);
        writtenIs(x, 4, 16, 0);
        writtenIs(x, 4, 19, 0);
        x.quarrel(4, 0, true);
        writtenIs(x, 4, 17, 0);
    }

    private static void promise11QuarrelsOfOthers() {
        SpeltByFriends x = Checks.townOf("p12,r12,p11,p00");
        x.quarrel(1, 2, true);
        writtenIs(x, 0, 7, 1);
        writtenIs(x, 1, 6, 0);
        x.quarrel(0, 3, true);
        writtenIs(x, 0, 15, 1);
        writtenIs(x, 3, 9, 0);
    }

    /** One in the middle of three, of each kind, with all holders, quarrels and companies. */
    private static void promise11AllThatCanBe() {
        for (int i = 0; i < 5 * 9 * 4; i++) {
            String text = "p00," + "phfrt".charAt(i / 36) + i / 12 % 3 + i / 4 % 3 + ",p00";
            SpeltByFriends x = Checks.townOf(text);
            x.quarrel(1, 0, (i & 1) == 1);
            x.quarrel(1, 2, (i & 2) == 2);
            for (int company : new int[] {2, 3, 6, 7}) {
                int friends = company - (i & 1 & company) - ((i & 2) * 2 & company);
                int first = friends >> i / 12 % 3 & 1;
                int last = friends >> i / 4 % 3 & 1;
                int with = 2 | 1 << i / 12 % 3 | 1 << i / 4 % 3;
                int[] due = {first & last, company == 2 ? 1 : first & last, first | last,
                    (company | with) == with ? first & last : 0, first};
                is.due("promise 11: in " + company + " of " + text + " with quarrels " + (i & 3),
                    x.written(1, company), due[i / 36]);
            }
        }
    }

    private static void promise11ChangesNothing() {
        is.dueUnchanged("promise 11: asked", () -> States.busy(4), x -> x.written(1, 2), 1);
        is.dueUnchanged("promise 11: asked of none", () -> States.busy(4), x -> x.written(3, 8), 0);
    }
}
