/** Objects in states in which a change of any part would show. */
final class States {
    private static final String[] TOWNS = {"p10,h01", "p12,h02,f10", "p12,h33,f20,r30", "p12,h33,f20,r30,t44"};

    /** Numbers that name nobody in any town; 32 and 65536 would be 0, if bits or signs fell off. */
    static final int[] NOBODIES = {Integer.MIN_VALUE, -32, -2, -1, 5, 31, 32, 33, 65536, Integer.MAX_VALUE};

    private States() {
    }

    static String townText(int size) {
        return TOWNS[size - 2];
    }

    static int all(int size) {
        return (1 << size) - 1;
    }

    /** What an image keeps differs from a new town's and from the image; the page is empty. */
    static SpeltByFriends lived(int size) {
        SpeltByFriends x = Checks.townOf(townText(size));
        x.go(0, 1);
        x.sell(1, 1, 1);
        x.quarrel(0, 1, true);
        x.hear(0, all(size), true);
        x.hear(1, all(size), false);
        x.image();
        x.go(1, 3);
        x.go(size - 1, 2);
        x.sell(0, 0, 0);
        x.sell(0, 1, 1);
        x.quarrel(0, 1, false);
        x.quarrel(size - 1, 0, true);
        x.forget();
        x.hear(0, 1, false);
        x.hear(size - 1, 1 << size - 1, true);
        x.hear(0, all(size), false);
        x.moves(0, 0);
        x.days(1, 0);
        return x;
    }

    /** As lived, and a page is begun. */
    static SpeltByFriends busy(int size) {
        SpeltByFriends x = lived(size);
        Checks.write(x, "h1");
        return x;
    }

    static SpeltByFriends withPage(int size, String text) {
        SpeltByFriends x = lived(size);
        Checks.write(x, text);
        return x;
    }

    static SpeltByFriends newWithPage(String text) {
        SpeltByFriends x = new SpeltByFriends();
        Checks.write(x, text);
        return x;
    }

    static SpeltByFriends heardFull(int size) {
        SpeltByFriends x = busy(size);
        for (int i = x.count(5); i < 6; i++) {
            x.hear(0, all(size), true);
        }
        return x;
    }

    static SpeltByFriends movesDone(int size, int times) {
        SpeltByFriends x = busy(size);
        for (int i = x.count(8); i < times; i++) {
            x.moves(0, 0);
        }
        return x;
    }

    static SpeltByFriends daysDone(int size, int times) {
        SpeltByFriends x = busy(size);
        for (int i = x.count(9); i < times; i++) {
            x.days(0, 0);
        }
        return x;
    }

    /** All can be written there in any company they are in. */
    static SpeltByFriends allOwn(int size) {
        return Checks.townOf("t00,t11,t22,t33,t44".substring(0, 4 * size - 1));
    }

    /** Each but the last wants the last one's letters, and quarrels with him; so does he with the first. */
    static SpeltByFriends allLost(int size) {
        int last = size - 1;
        StringBuilder text = new StringBuilder();
        for (int i = 0; i < last; i++) {
            text.append('p').append(last).append(last).append(',');
        }
        SpeltByFriends x = Checks.townOf(text.append("p00").toString());
        for (int i = 0; i < last; i++) {
            x.quarrel(i, last, true);
        }
        return x;
    }
}
