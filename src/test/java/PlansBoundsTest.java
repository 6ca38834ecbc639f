import java.util.function.Supplier;

/** The boundary cases of the promises 12 and 13: moves and days. */
public final class PlansBoundsTest {
    private static final int NONE = -1, UNKNOWN = -101, OUTSIDE = -102, STATE = -103;
    private static final int[] NO_MOVES = {Integer.MIN_VALUE, -10, -1, 1, 2, 9, 15, 16, Integer.MAX_VALUE};
    private static final int[] NO_DAYS = {Integer.MIN_VALUE, -10, -1, 1, 2, 3, 9, 13, 14, Integer.MAX_VALUE};
    private static final Checks is = new Checks();

    public static void main(String[] args) {
        promise12NobodyMustGo();
        promise12MostMustGo();
        promise12ToTheLastRoom();
        promise12FirstByNumbers();
        promise12RoomsOfWhoIsNotThere();
        promise12NoneThere();
        promise12WhoAndWhat();
        promise12FortyTimes();
        promise12FortyStayDone();
        promise12NothingElseChanges();
        promise13ForNobody();
        promise13OneToThree();
        promise13LargestCompany();
        promise13FirstByNumbers();
        promise13FourAreNone();
        promise13NoneThere();
        promise13PeopleAndWhat();
        promise13NoTown();
        promise13FortyTimes();
        promise13FortyStayDone();
        promise13NothingElseChanges();
        is.end();
    }

    private static void movesAre(String what, SpeltByFriends x, int person, int few, int... rooms) {
        is.due("promise 12: " + what + ", how few for " + person, x.moves(person, 0), few);
        for (int i = 0; i < 5; i++) {
            is.due("promise 12: " + what + ", room of " + i, x.moves(person, 10 + i), i < rooms.length ? rooms[i] : NONE);
        }
    }

    private static SpeltByFriends inRooms(String town, int... rooms) {
        SpeltByFriends x = Checks.townOf(town);
        for (int person = 0; person < rooms.length; person++) {
            x.go(person, rooms[person]);
        }
        return x;
    }

    private static void promise12NobodyMustGo() {
        movesAre("as all are", inRooms("p00,p11", 3, 2), 0, 0, 3, 2);
        movesAre("as all are", inRooms("p00,p11", 3, 2), 1, 0, 3, 2);
        movesAre("as all are", inRooms("p12,p00,p00,p00,p00", 3, 3, 3, 3, 3), 0, 0, 3, 3, 3, 3, 3);
    }

    private static void promise12MostMustGo() {
        movesAre("two", inRooms("r20,r22,r01", 0, 2, 1), 2, 2, 0, 0, 0);
        movesAre("two of five", inRooms("r44,p00,p00,p00,p00"), 0, 2, 1, 0, 0, 0, 1);
        movesAre("one of two", inRooms("p11,p00", 0, 3), 0, 1, 0, 0);
    }

    private static void promise12ToTheLastRoom() {
        movesAre("to room 3", inRooms("r00,p00,p00,p00,p00", 0, 0, 1, 2, 0), 0, 1, 3, 0, 1, 2, 0);
        movesAre("to room 3, the last", inRooms("p00,p00,p00,p00,r44", 0, 0, 1, 2, 0), 4, 1, 0, 0, 1, 2, 3);
        movesAre("to room 0", inRooms("r00,p00,p00,p00,p00", 3, 3, 1, 2, 3), 0, 1, 0, 3, 1, 2, 3);
    }

    private static void promise12FirstByNumbers() {
        movesAre("person 0 stays in room 0", inRooms("p11,p00", 0, 1), 0, 1, 0, 0);
        movesAre("person 0 goes to room 0", inRooms("p11,p00", 1, 0), 0, 1, 0, 0);
        movesAre("person 0 goes to the lesser", inRooms("p11,p00", 3, 2), 1, 1, 2, 2);
        movesAre("person 0 stays in the lesser", inRooms("p11,p00", 2, 3), 1, 1, 2, 2);
        movesAre("a lesser room of 1 before one of 2", inRooms("r22,p00,p00", 0, 0, 0), 0, 1, 0, 1, 0);
        movesAre("other rooms stay", inRooms("p11,p00,p00,p00,p00", 2, 1, 3, 2, 1), 0, 1, 1, 1, 3, 2, 1);
    }

    private static void promise12RoomsOfWhoIsNotThere() {
        for (int size = 2; size <= 5; size++) {
            SpeltByFriends x = States.allOwn(size);
            for (int person = 0; person < 5; person++) {
                is.due("promise 12: room of " + person + " of " + size, x.moves(0, 10 + person), person < size ? 0 : NONE);
            }
            is.due("promise 12: these are done", x.count(8), 5);
        }
    }

    private static void promise12NoneThere() {
        for (int size = 2; size <= 5; size++) {
            SpeltByFriends x = States.allLost(size);
            for (int person = 0; person < size; person++) {
                movesAre("none", x, person, NONE);
            }
            is.due("promise 12: none is done, too", x.count(8), 6 * size);
        }
    }

    private static void promise12WhoAndWhat() {
        Supplier<SpeltByFriends> busy = () -> States.busy(3);
        for (int what : NO_MOVES) {
            is.dueUnchanged("promise 12: what " + what, busy, x -> x.moves(2, what), OUTSIDE);
            is.dueUnchanged("promise 12: unknown ahead of outside", busy, x -> x.moves(3, what), UNKNOWN);
        }
        for (int nobody : States.NOBODIES) {
            is.dueUnchanged("promise 12: nobody " + nobody, busy, x -> x.moves(nobody, 0), UNKNOWN);
        }
        for (int size = 2; size <= 5; size++) {
            int n = size;
            is.due("promise 12: the last", States.allOwn(size).moves(size - 1, 0), 0);
            is.dueUnchanged("promise 12: behind the last", () -> States.busy(n), x -> x.moves(n, 0), UNKNOWN);
        }
    }

    private static void promise12FortyTimes() {
        SpeltByFriends x = States.allOwn(2);
        for (int i = 1; i <= 40; i++) {
            is.due("promise 12: time " + i, x.moves(1, 0), 0);
            is.due("promise 12: refused ones are not done", x.moves(1, 1), OUTSIDE);
            is.due("promise 12: so often", x.count(8), i);
        }
        is.due("promise 12: time 41", x.moves(1, 0), STATE);
        Supplier<SpeltByFriends> done = () -> States.movesDone(3, 40);
        is.due("promise 12: the 40th", States.movesDone(3, 39).moves(0, 10), 1);
        is.dueUnchanged("promise 12: the 41st", done, y -> y.moves(0, 0), STATE);
        is.dueUnchanged("promise 12: the 41st of a room", done, y -> y.moves(2, 14), STATE);
        is.dueUnchanged("promise 12: outside ahead of state", done, y -> y.moves(0, 15), OUTSIDE);
        is.dueUnchanged("promise 12: unknown ahead of state", done, y -> y.moves(3, 0), UNKNOWN);
        is.dueUnchanged("promise 12: unknown ahead of both", done, y -> y.moves(-1, 15), UNKNOWN);
        is.due("promise 12: days are counted by themselves", States.movesDone(3, 40).days(0, 0), 0);
    }

    private static void promise12FortyStayDone() {
        SpeltByFriends x = States.movesDone(3, 40);
        is.due("promise 12: an image goes on", x.restore(), 2);
        is.due("promise 12: the image keeps no such number", x.moves(0, 0), STATE);
        x.blank();
        Checks.write(x, "p00,p00");
        is.due("promise 12: another town", x.town(), 2);
        is.due("promise 12: does not set it back", x.moves(0, 0), STATE);
        is.due("promise 12: counted", x.count(8), 40);
    }

    /** Different ones of the same number leave the same behind. */
    private static void promise12NothingElseChanges() {
        for (int size = 2; size <= 5; size++) {
            SpeltByFriends x = States.busy(size);
            SpeltByFriends y = States.busy(size);
            x.moves(0, 0);
            y.moves(size - 1, 14);
            is.alike("promise 12: moves", x, y);
        }
    }

    private static void daysAre(String what, SpeltByFriends x, int people, int few, int... companies) {
        is.due("promise 13: " + what + ", how few for " + people, x.days(people, 0), few);
        for (int i = 0; i < 3; i++) {
            is.due("promise 13: " + what + ", company " + i + " for " + people,
                x.days(people, 10 + i), i < companies.length ? companies[i] : NONE);
        }
    }

    private static void promise13ForNobody() {
        for (int size = 2; size <= 5; size++) {
            daysAre("nobody of " + size, States.allOwn(size), 0, 0);
            daysAre("nobody of lost ones", States.allLost(size), 0, 0);
        }
    }

    private static void promise13OneToThree() {
        SpeltByFriends x = Checks.townOf("r00,r11,r22,r33,r44");
        daysAre("one", x, 16, 1, 16);
        daysAre("two", x, 17, 2, 1, 16);
        daysAre("three", x, 21, 3, 1, 4, 16);
        SpeltByFriends y = Checks.townOf("t00,t11,t22,t33,t44");
        daysAre("all in one", y, 31, 1, 31);
        daysAre("no more than these", y, 20, 1, 20);
    }

    private static void promise13LargestCompany() {
        daysAre("all five", Checks.townOf("p12,p34,p00,p00,p00"), 3, 1, 31);
        daysAre("all five for one", Checks.townOf("p12,p34,p01,p00,p00"), 7, 1, 31);
        daysAre("both", Checks.townOf("p11,p00"), 3, 1, 3);
        daysAre("two share one of three", Checks.townOf("r12,r22,r11,r00"), 15, 3, 6, 7, 9);
        daysAre("large ones", Checks.townOf("p44,p44,r32,p44,p44"), 28, 2, 12, 24);
    }

    private static void promise13FirstByNumbers() {
        SpeltByFriends x = Checks.townOf("f12,r11,p00,p00,p00");
        daysAre("the least of like ones", x, 1, 1, 3);
        daysAre("the least first", x, 3, 2, 2, 3);
        SpeltByFriends y = Checks.townOf("r11,r00,r33,r22");
        daysAre("one company for both", y, 3, 1, 3);
        daysAre("in order", y, 15, 2, 3, 12);
        SpeltByFriends z = Checks.townOf("h12,h00,h00");
        daysAre("alone first", z, 1, 1, 1);
        daysAre("two alone, or both in one", z, 3, 1, 7);
        z.quarrel(0, 1, true);
        daysAre("not in one", z, 3, 2, 1, 2);
        daysAre("three", Checks.townOf("r11,r22,r00"), 7, 3, 3, 5, 6);
    }

    private static void promise13FourAreNone() {
        SpeltByFriends x = Checks.townOf("r00,r11,r22,r33,r44");
        is.due("promise 13: three", x.days(28, 0), 3);
        daysAre("four", x, 15, NONE);
        daysAre("five", x, 31, NONE);
    }

    private static void promise13NoneThere() {
        for (int size = 2; size <= 5; size++) {
            SpeltByFriends x = States.allLost(size);
            daysAre("none of all", x, States.all(size), NONE);
            daysAre("none of one", x, 1, NONE);
            is.due("promise 13: none is done, too", x.count(9), 8);
        }
        SpeltByFriends one = Checks.townOf("p00,p22,p22");
        one.quarrel(1, 2, true);
        daysAre("one can, one can not", one, 3, NONE);
        daysAre("the one who can", one, 1, 1, 1);
    }

    private static void promise13PeopleAndWhat() {
        for (int size = 2; size <= 5; size++) {
            int n = size;
            is.due("promise 13: all", States.allOwn(size).days(States.all(size), 0), 1);
            is.dueUnchanged("promise 13: one more", () -> States.busy(n), x -> x.days(1 << n, 0), OUTSIDE);
            is.dueUnchanged("promise 13: all and one more", () -> States.busy(n), x -> x.days((2 << n) - 1, 0), OUTSIDE);
        }
        Supplier<SpeltByFriends> busy = () -> States.busy(5);
        for (int people : new int[] {Integer.MIN_VALUE, Integer.MIN_VALUE + 1, -1, 32, 33, 65536, Integer.MAX_VALUE}) {
            is.dueUnchanged("promise 13: people " + people, busy, x -> x.days(people, 0), OUTSIDE);
        }
        for (int what : NO_DAYS) {
            is.dueUnchanged("promise 13: what " + what, busy, x -> x.days(1, what), OUTSIDE);
            is.dueUnchanged("promise 13: for nobody, what " + what, busy, x -> x.days(0, what), OUTSIDE);
        }
    }

    private static void promise13NoTown() {
        is.dueUnchanged("promise 13: no town", SpeltByFriends::new, x -> x.days(0, 0), STATE);
        is.dueUnchanged("promise 13: no town, company", SpeltByFriends::new, x -> x.days(0, 12), STATE);
        is.dueUnchanged("promise 13: people ahead of no town", SpeltByFriends::new, x -> x.days(1, 0), OUTSIDE);
        is.dueUnchanged("promise 13: people below", SpeltByFriends::new, x -> x.days(-1, 0), OUTSIDE);
        is.dueUnchanged("promise 13: what ahead of no town", SpeltByFriends::new, x -> x.days(0, 13), OUTSIDE);
    }

    private static void promise13FortyTimes() {
        SpeltByFriends x = States.allOwn(2);
        for (int i = 1; i <= 40; i++) {
            is.due("promise 13: time " + i, x.days(i & 3, 0), Math.min(1, i & 3));
            is.due("promise 13: refused ones are not done", x.days(4, 0), OUTSIDE);
            is.due("promise 13: so often", x.count(9), i);
        }
        is.due("promise 13: time 41", x.days(1, 0), STATE);
        Supplier<SpeltByFriends> done = () -> States.daysDone(3, 40);
        is.due("promise 13: the 40th", States.daysDone(3, 39).days(0, 0), 0);
        is.dueUnchanged("promise 13: the 41st", done, y -> y.days(1, 0), STATE);
        is.dueUnchanged("promise 13: the 41st for nobody", done, y -> y.days(0, 12), STATE);
        is.dueUnchanged("promise 13: people ahead of state", done, y -> y.days(8, 0), OUTSIDE);
        is.dueUnchanged("promise 13: what ahead of state", done, y -> y.days(0, 13), OUTSIDE);
        is.due("promise 13: moves are counted by themselves", States.daysDone(3, 40).moves(0, 0), 1);
    }

    private static void promise13FortyStayDone() {
        SpeltByFriends x = States.daysDone(3, 40);
        is.due("promise 13: an image goes on", x.restore(), 2);
        is.due("promise 13: the image keeps no such number", x.days(1, 0), STATE);
        x.blank();
        Checks.write(x, "p00,p00");
        is.due("promise 13: another town", x.town(), 2);
        is.due("promise 13: does not set it back", x.days(1, 0), STATE);
        is.due("promise 13: counted", x.count(9), 40);
    }

    private static void promise13NothingElseChanges() {
        for (int size = 2; size <= 5; size++) {
            SpeltByFriends x = States.busy(size);
            SpeltByFriends y = States.busy(size);
            x.days(0, 0);
            y.days(States.all(size), 12);
            is.alike("promise 13: days", x, y);
        }
    }
}
