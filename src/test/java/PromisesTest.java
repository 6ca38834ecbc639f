/** For each promise of the document: ordinary inputs, the edges it names, and wrong inputs. */
public final class PromisesTest {
    private static final int NONE = -1, UNKNOWN = -101, OUTSIDE = -102, STATE = -103, FULL = -104;
    private static final int[] FAR = {Integer.MIN_VALUE, -1, Integer.MAX_VALUE};
    private static final Checks is = new Checks();

    public static void main(String[] args) {
        newObject();
        letter();
        blank();
        fault();
        faultOfDigits();
        town();
        townEndsAllThatWas();
        about();
        wants();
        as();
        go();
        sell();
        quarrel();
        writtenByKind();
        writtenRefusals();
        moves();
        movesRefusals();
        days();
        daysRefusals();
        hear();
        forget();
        holders();
        holdersByEachHeard();
        holdersByKind();
        invite();
        years();
        image();
        restore();
        count();
        digest();
        is.end();
    }

    private static void newObject() {
        SpeltByFriends x = new SpeltByFriends();
        for (int what = 0; what <= 9; what++) {
            is.due("1: count of a new one " + what, x.count(what), 0);
        }
        is.due("1: nobody", x.about(0, 0), UNKNOWN);
        is.due("1: as", x.as(0, 0), UNKNOWN);
        is.due("1: go", x.go(0, 0), UNKNOWN);
        is.due("1: sell", x.sell(0, 0, 0), UNKNOWN);
        is.due("1: quarrel", x.quarrel(0, 1, true), UNKNOWN);
        is.due("1: written", x.written(0, 1), UNKNOWN);
        is.due("1: moves", x.moves(0, 0), UNKNOWN);
        is.due("1: days for nobody", x.days(0, 0), STATE);
        is.due("1: days for somebody", x.days(1, 0), OUTSIDE);
        is.due("1: hear", x.hear(0, 1, true), UNKNOWN);
        is.due("1: forget", x.forget(), 0);
        is.due("1: holders", x.holders(0, 0), UNKNOWN);
        is.due("1: invite", x.invite(0), UNKNOWN);
        is.due("1: years", x.years(1, 0, 0), STATE);
        is.due("1: years of none", x.years(0, 0, 0), OUTSIDE);
        is.due("1: image", x.image(), STATE);
        is.due("1: restore", x.restore(), STATE);
        is.due("1: blank", x.blank(), 0);
        is.due("1: fault", x.fault(), 0);
        is.due("1: town", x.town(), STATE);
    }

    private static void letter() {
        SpeltByFriends x = new SpeltByFriends();
        is.due("2: below", x.letter(31), OUTSIDE);
        is.due("2: above", x.letter(127), OUTSIDE);
        for (int far : FAR) {
            is.due("2: far", x.letter(far), OUTSIDE);
        }
        is.due("2: least", x.letter(32), 1);
        is.due("2: most", x.letter(126), 2);
        for (int i = 3; i <= 21; i++) {
            is.due("2: one more", x.letter('p'), i);
        }
        is.due("2: full", x.letter('p'), FULL);
        is.due("2: outside ahead of full", x.letter(31), OUTSIDE);
        is.due("2: still full", x.count(6), 21);
    }

    private static void blank() {
        SpeltByFriends x = new SpeltByFriends();
        Checks.write(x, "p10,p0");
        is.due("3: had", x.blank(), 6);
        is.due("3: has none", x.blank(), 0);
        is.due("3: count", x.count(6), 0);
        is.due("3: from the start", x.letter('r'), 1);
        is.due("3: and fits", x.fault(), 1);
        SpeltByFriends full = new SpeltByFriends();
        Checks.write(full, "~~~~~~~~~~~~~~~~~~~~~");
        is.due("3: full one", full.blank(), 21);
        is.due("3: room again", full.letter(' '), 1);
    }

    private static void faultIs(String text, int place) {
        SpeltByFriends x = new SpeltByFriends();
        Checks.write(x, text);
        is.due("4: fault of '" + text + "'", x.fault(), place);
        is.due("4: page stays", x.count(6), text.length());
    }

    private static void fault() {
        faultIs("", 0);
        for (char kind : "phfrt".toCharArray()) {
            faultIs(String.valueOf(kind), 1);
        }
        for (char no : "PHFRTaqsu0, ~".toCharArray()) {
            faultIs(String.valueOf(no), 0);
            faultIs("p00," + no, 4);
        }
        for (char no : "5/:9p, ~".toCharArray()) {
            faultIs("p" + no, 1);
            faultIs("p0" + no, 2);
        }
        for (char no : "04p;.+-".toCharArray()) {
            faultIs("p00" + no, 3);
        }
        faultIs("p00", 3);
        faultIs("p00,", 4);
        faultIs("p44,p44,p44,p44,p44", 19);
        faultIs("p44,p44,p44,p44,p44,", 19);
        faultIs("p44,p44,p44,p44,p44,p", 19);
        faultIs("p44,p44,p44,p44,p44p", 19);
        faultIs("p44,p44,p44,p44,p4x,,", 18);
    }

    private static void faultOfDigits() {
        faultIs("p44", 3);
        faultIs("p44,p4", 6);
        faultIs("p01,p10", 7);
        faultIs("p20,p00", 1);
        faultIs("p02,p00", 2);
        faultIs("p00,p20", 5);
        faultIs("p00,p02", 6);
        faultIs("p22,p22,p22", 11);
        faultIs("p22,p22,p23", 10);
        faultIs("p33,p33,p33,p34", 14);
        faultIs("p43,p33,p33,p34", 1);
        faultIs("p44,p00,p00,p00,p00", 19);
        faultIs("p44,p00,", 8);
        faultIs("p44,p0x", 6);
    }

    private static void townIs(String text, int people) {
        SpeltByFriends x = new SpeltByFriends();
        Checks.write(x, text);
        is.due("5: town '" + text + "'", x.town(), people);
        is.due("5: page then", x.count(6), people < 0 ? text.length() : 0);
        is.due("5: towns read", x.count(7), people < 0 ? 0 : 1);
        is.due("5: people", x.count(0), Math.max(people, 0));
    }

    private static void town() {
        townIs("", STATE);
        townIs("p00", STATE);
        townIs("p00,", STATE);
        townIs("p00,p0", STATE);
        townIs("p10,h01", 2);
        townIs("p10,h02", STATE);
        townIs("p10,h01,", STATE);
        townIs("p10,h01,f22", 3);
        townIs("p10,h01,f22,r33", 4);
        townIs("p10,h01,f22,r33,t44", 5);
        townIs("p10,h01,f22,r33,t44,", STATE);
        townIs("p10,h01,f22,r33,x44", STATE);
        townIs("p10;h01", STATE);
    }

    private static void townEndsAllThatWas() {
        SpeltByFriends x = Checks.townOf("p10,h01,f22");
        x.go(1, 3);
        x.sell(0, 0, 2);
        x.quarrel(0, 1, true);
        x.hear(0, 1, true);
        x.moves(0, 0);
        x.days(1, 0);
        x.image();
        Checks.write(x, "p1");
        is.due("5: refused", x.town(), STATE);
        is.due("5: a refused one leaves the town", x.count(0), 3);
        is.due("5: and the page", x.count(6), 2);
        Checks.write(x, "0,r10");
        is.due("5: another", x.town(), 2);
        int[] counts = {2, 2, 0, 0, 0, 0, 0, 2, 1, 1};
        for (int what = 0; what <= 9; what++) {
            is.due("5: count then " + what, x.count(what), counts[what]);
        }
        is.due("5: room then", x.about(1, 3), 0);
        is.due("5: holder then", x.about(0, 1), 1);
        is.due("5: kind then", x.about(1, 0), 3);
        is.due("5: gone", x.about(2, 0), UNKNOWN);
        is.due("5: image of another", x.restore(), STATE);
    }

    private static void aboutIs(SpeltByFriends x, int person, int... due) {
        for (int what = 0; what < due.length; what++) {
            is.due("6: about(" + person + ", " + what + ")", x.about(person, what), due[what]);
        }
    }

    private static void about() {
        SpeltByFriends x = Checks.townOf("p12,h33,f20,r30,t44");
        aboutIs(x, 0, 0, 1, 2, 0, 0, 1, 31, 2, 6);
        aboutIs(x, 1, 1, 3, 3, 0, 0, 1, 31, 1, 0);
        aboutIs(x, 2, 2, 2, 0, 0, 0, 1, 31, 1, 0);
        aboutIs(x, 3, 3, 3, 0, 0, 0, 0, 31, 2, 1);
        aboutIs(x, 4, 4, 4, 4, 0, 0, 1, 31, 0, 0);
        x.go(3, 2);
        x.go(0, 2);
        x.quarrel(1, 3, true);
        x.quarrel(0, 1, true);
        aboutIs(x, 0, 0, 1, 2, 2, 2, 0, 9, 2, 30);
        aboutIs(x, 1, 1, 3, 3, 0, 9, 0, 22, 1, 0);
        aboutIs(x, 3, 3, 3, 0, 2, 2, 1, 9, 2, 1);
        is.due("6: what below", x.about(0, -1), OUTSIDE);
        is.due("6: what above", x.about(0, 9), OUTSIDE);
        is.due("6: nobody", x.about(5, 0), UNKNOWN);
        is.due("6: unknown first", x.about(5, 9), UNKNOWN);
        for (int far : FAR) {
            is.due("6: far", x.about(far, 0), UNKNOWN);
            is.due("6: far what", x.about(0, far), OUTSIDE);
        }
    }

    private static void wants() {
        SpeltByFriends x = Checks.townOf("p11,h11,f12,t12");
        is.due("6: wants of a person", x.about(0, 8), 2);
        is.due("6: wants of a hermit of his own", x.about(1, 8), 0);
        is.due("6: wants of a forger of two", x.about(2, 8), 0);
        is.due("6: wants of a twin", x.about(3, 8), 2);
        x.quarrel(3, 1, true);
        is.due("6: wants, if there is none", x.about(3, 8), 7);
        x.sell(2, 0, 1);
        x.sell(2, 1, 1);
        is.due("6: wants of a forger of one", x.about(2, 8), 2);
    }

    private static void as() {
        SpeltByFriends x = Checks.townOf("p00,h11,f22,r33,t44");
        int[][] due = {
            {0, NONE, NONE, NONE, NONE},
            {1, 1, NONE, NONE, NONE},
            {2, NONE, 2, NONE, NONE},
            {3, NONE, NONE, 3, NONE},
            {4, NONE, 4, NONE, 4},
        };
        for (int person = 0; person < 5; person++) {
            for (int kind = 0; kind < 5; kind++) {
                is.due("7: as(" + person + ", " + kind + ")", x.as(person, kind), due[person][kind]);
            }
        }
        is.due("7: kind below", x.as(0, -1), OUTSIDE);
        is.due("7: kind above", x.as(0, 5), OUTSIDE);
        is.due("7: nobody", x.as(5, 0), UNKNOWN);
        is.due("7: unknown first", x.as(-1, 5), UNKNOWN);
    }

    private static void go() {
        SpeltByFriends x = Checks.townOf("p10,p01,p22");
        is.due("8: from 0", x.go(2, 3), 0);
        is.due("8: from 3", x.go(2, 1), 3);
        is.due("8: to where he is", x.go(2, 1), 1);
        is.due("8: there", x.about(2, 3), 1);
        is.due("8: back to 0", x.go(1, 0), 0);
        is.due("8: others stay", x.about(0, 6), 3);
        is.due("8: often", x.count(3), 4);
        is.due("8: room below", x.go(0, -1), OUTSIDE);
        is.due("8: room above", x.go(0, 4), OUTSIDE);
        is.due("8: nobody", x.go(3, 0), UNKNOWN);
        is.due("8: unknown first", x.go(3, 4), UNKNOWN);
        for (int far : FAR) {
            is.due("8: far", x.go(far, 0), UNKNOWN);
            is.due("8: far room", x.go(0, far), OUTSIDE);
        }
        is.due("8: refused ones are not counted", x.count(3), 4);
    }

    private static void sell() {
        SpeltByFriends x = Checks.townOf("p12,p01,p22");
        is.due("9: first", x.sell(0, 0, 2), 1);
        is.due("9: last", x.sell(0, 1, 0), 2);
        is.due("9: to the same", x.sell(0, 1, 0), 0);
        is.due("9: first then", x.about(0, 1), 2);
        is.due("9: last then", x.about(0, 2), 0);
        is.due("9: often", x.count(4), 3);
        is.due("9: nobody's", x.sell(3, 0, 0), UNKNOWN);
        is.due("9: to nobody", x.sell(0, 0, 3), UNKNOWN);
        is.due("9: which below", x.sell(0, -1, 0), OUTSIDE);
        is.due("9: which above", x.sell(0, 2, 0), OUTSIDE);
        is.due("9: unknown first", x.sell(0, 2, 3), UNKNOWN);
        for (int far : FAR) {
            is.due("9: far", x.sell(far, 0, 0), UNKNOWN);
            is.due("9: far to", x.sell(0, 0, far), UNKNOWN);
            is.due("9: far which", x.sell(0, far, 0), OUTSIDE);
        }
        is.due("9: refused ones are not counted", x.count(4), 3);
    }

    private static void quarrel() {
        SpeltByFriends x = Checks.townOf("p12,p01,p22");
        is.due("10: did not", x.quarrel(0, 2, true), 0);
        is.due("10: did", x.quarrel(2, 0, true), 1);
        is.due("10: of the one", x.about(0, 4), 4);
        is.due("10: of the other", x.about(2, 4), 1);
        is.due("10: pairs", x.count(2), 1);
        is.due("10: another pair", x.quarrel(1, 2, true), 0);
        is.due("10: two pairs", x.count(2), 2);
        is.due("10: no more", x.quarrel(2, 0, false), 1);
        is.due("10: no more again", x.quarrel(0, 2, false), 0);
        is.due("10: left", x.about(2, 4), 2);
        is.due("10: one pair", x.count(2), 1);
        is.due("10: same", x.quarrel(1, 1, true), UNKNOWN);
        is.due("10: nobody a", x.quarrel(3, 0, true), UNKNOWN);
        is.due("10: nobody b", x.quarrel(0, 3, true), UNKNOWN);
        is.due("10: same nobody", x.quarrel(-1, -1, false), UNKNOWN);
        is.due("10: not counted as going", x.count(3) + x.count(4), 0);
    }

    private static void writtenIn(String kinds, int person, String companies) {
        SpeltByFriends x = Checks.townOf(kinds);
        int place = 0;
        for (int company = 0; company < 1 << x.count(0); company++) {
            if ((company >> person & 1) == 1) {
                is.due("11: written(" + person + ", " + company + ") of " + kinds,
                    x.written(person, company), companies.charAt(place) - '0');
                place++;
            }
        }
    }

    /** The answers stand for the companies with that person, the least first. */
    private static void writtenByKind() {
        writtenIn("p12,p00,p00", 0, "0001");
        writtenIn("h12,p00,p00", 0, "1001");
        writtenIn("f12,p00,p00", 0, "0111");
        writtenIn("r12,p00,p00", 0, "0001");
        writtenIn("t12,p00,p00", 0, "0101");
        writtenIn("p01,p00,p00", 0, "0101");
        writtenIn("h10,p00,p00", 0, "1101");
        writtenIn("f01,p00,p00", 0, "1111");
        writtenIn("r01,p00,p00", 0, "0100");
        writtenIn("r00,p00,p00", 0, "1000");
        writtenIn("t01,p00,p00", 0, "1111");
        writtenIn("t10,p00,p00", 0, "0101");
        writtenIn("p00,p00,r02,p00", 2, "01000000");
        SpeltByFriends x = Checks.townOf("p12,h12,f12,r12,t12");
        x.quarrel(0, 1, true);
        is.due("11: a quarrel loses a letter", x.written(0, 7), 0);
        x.quarrel(2, 1, true);
        is.due("11: a forger needs one alone", x.written(2, 4), 1);
        x.sell(2, 1, 0);
        is.due("11: not of whom he quarrels with", x.written(2, 6), 0);
        is.due("11: a cousin will do", x.written(2, 7), 1);
        x.quarrel(3, 4, true);
        is.due("11: proud with who holds", x.written(3, 14), 1);
        is.due("11: proud, one more", x.written(3, 30), 0);
        x.quarrel(4, 2, true);
        is.due("11: a twin needs no last", x.written(4, 22), 1);
        x.quarrel(4, 1, true);
        is.due("11: a twin needs the first", x.written(4, 22), 0);
    }

    private static void writtenRefusals() {
        SpeltByFriends x = Checks.townOf("p00,p00,p00");
        is.due("11: all", x.written(0, 7), 1);
        is.due("11: company above", x.written(0, 9), OUTSIDE);
        is.due("11: nobody's company", x.written(0, 0), OUTSIDE);
        is.due("11: not in it", x.written(0, 6), OUTSIDE);
        is.due("11: nobody", x.written(3, 8), UNKNOWN);
        for (int far : FAR) {
            is.due("11: far", x.written(far, 1), UNKNOWN);
            is.due("11: far company", x.written(0, far), OUTSIDE);
        }
    }

    private static void movesAre(SpeltByFriends x, int person, int few, int... rooms) {
        is.due("12: how few for " + person, x.moves(person, 0), few);
        for (int i = 0; i < 5; i++) {
            is.due("12: room of " + i, x.moves(person, 10 + i), i < rooms.length ? rooms[i] : NONE);
        }
    }

    private static void moves() {
        SpeltByFriends x = Checks.townOf("p12,p00,r00");
        movesAre(x, 0, 0, 0, 0, 0);
        movesAre(x, 2, 1, 0, 1, 0);
        SpeltByFriends y = Checks.townOf("p12,h00,r00,p44,p00");
        y.go(0, 3);
        y.go(1, 2);
        y.go(2, 1);
        movesAre(y, 0, 2, 1, 1, 1, 0, 0);
        is.due("12: nothing went", y.about(0, 3), 3);
        movesAre(y, 2, 1, 1, 2, 1, 0, 0);
        SpeltByFriends v = Checks.townOf("r44,p00,p00,p00,p00");
        v.go(4, 2);
        v.go(0, 3);
        movesAre(v, 0, 1, 2, 0, 0, 0, 2);
        v.go(1, 2);
        movesAre(v, 0, 1, 3, 2, 0, 0, 3);
        SpeltByFriends w = Checks.townOf("p22,p00,p00");
        w.go(2, 3);
        w.quarrel(1, 2, true);
        movesAre(w, 0, 1, 0, 0, 0);
        SpeltByFriends z = Checks.townOf("p11,p00");
        z.quarrel(0, 1, true);
        movesAre(z, 0, NONE);
        movesAre(z, 1, NONE);
    }

    private static void movesRefusals() {
        SpeltByFriends x = Checks.townOf("p12,p00,r00");
        is.due("12: nobody", x.moves(3, 0), UNKNOWN);
        for (int what : new int[] {-1, 1, 9, 15, Integer.MIN_VALUE, Integer.MAX_VALUE}) {
            is.due("12: what " + what, x.moves(0, what), OUTSIDE);
            is.due("12: unknown first", x.moves(-1, what), UNKNOWN);
        }
        for (int i = 0; i < 40; i++) {
            is.due("12: so often done", x.count(8), i);
            is.due("12: done", x.moves(0, 14 * (i & 1)), i % 2 == 0 ? 0 : NONE);
        }
        is.due("12: done 40 times", x.moves(0, 0), STATE);
        is.due("12: outside ahead of state", x.moves(0, 1), OUTSIDE);
        is.due("12: unknown ahead of state", x.moves(3, 0), UNKNOWN);
        is.due("12: counted", x.count(8), 40);
        is.due("12: days are others", x.days(1, 0), 1);
    }

    private static void daysAre(SpeltByFriends x, int people, int few, int... companies) {
        is.due("13: how few for " + people, x.days(people, 0), few);
        for (int i = 0; i < 3; i++) {
            is.due("13: company " + i + " for " + people,
                x.days(people, 10 + i), i < companies.length ? companies[i] : NONE);
        }
    }

    private static void days() {
        SpeltByFriends x = Checks.townOf("p12,r11,r00,p03");
        daysAre(x, 0, 0);
        daysAre(x, 1, 1, 7);
        daysAre(x, 9, 1, 15);
        daysAre(x, 2, 1, 2);
        daysAre(x, 6, 2, 2, 5);
        daysAre(x, 7, 3, 2, 5, 7);
        daysAre(x, 15, 3, 2, 5, 15);
        x.quarrel(1, 0, true);
        daysAre(x, 15, NONE);
        SpeltByFriends y = Checks.townOf("r00,r11,r22,r33,r44");
        daysAre(y, 1, 1, 1);
        daysAre(y, 3, 2, 1, 2);
        daysAre(y, 19, 3, 1, 2, 16);
        daysAre(y, 28, 3, 4, 8, 16);
        is.due("13: four are too many", y.days(15, 0), NONE);
        is.due("13: company of none", y.days(15, 10), NONE);
    }

    private static void daysRefusals() {
        SpeltByFriends x = Checks.townOf("p00,p00,p00");
        is.due("13: people above", x.days(8, 0), OUTSIDE);
        for (int what : new int[] {-1, 1, 9, 13, Integer.MIN_VALUE, Integer.MAX_VALUE}) {
            is.due("13: what " + what, x.days(1, what), OUTSIDE);
        }
        for (int far : FAR) {
            is.due("13: far", x.days(far, 0), OUTSIDE);
        }
        for (int i = 0; i < 40; i++) {
            is.due("13: so often done", x.count(9), i);
            is.due("13: done", x.days(i & 1, 0), i & 1);
        }
        is.due("13: done 40 times", x.days(1, 0), STATE);
        is.due("13: outside ahead of state", x.days(8, 0), OUTSIDE);
        is.due("13: counted", x.count(9), 40);
        Checks.write(x, "p00,p00");
        x.town();
        is.due("13: in another town, too", x.days(1, 0), STATE);
        is.due("13: moves are others", x.moves(1, 0), 0);
    }

    private static void hear() {
        SpeltByFriends x = Checks.townOf("p12,p00,p00");
        is.due("14: nobody", x.hear(3, 1, true), UNKNOWN);
        is.due("14: company above", x.hear(0, 9, true), OUTSIDE);
        is.due("14: not in it", x.hear(0, 6, true), OUTSIDE);
        for (int far : FAR) {
            is.due("14: far", x.hear(far, 1, true), UNKNOWN);
            is.due("14: far company", x.hear(0, far, true), OUTSIDE);
        }
        for (int i = 1; i <= 6; i++) {
            is.due("14: heard", x.hear(i % 3, 7, i % 2 == 0), i);
        }
        is.due("14: full", x.hear(0, 7, true), FULL);
        is.due("14: outside ahead of full", x.hear(0, 8, true), OUTSIDE);
        is.due("14: unknown ahead of full", x.hear(3, 7, true), UNKNOWN);
        is.due("14: counted", x.count(5), 6);
    }

    private static void forget() {
        SpeltByFriends x = Checks.townOf("p12,p00,p00");
        is.due("15: nothing", x.forget(), 0);
        x.hear(0, 1, true);
        x.hear(1, 2, true);
        is.due("15: how much was", x.forget(), 2);
        is.due("15: nothing then", x.count(5), 0);
        is.due("15: all may be again", x.holders(0, 0), 9);
        is.due("15: heard again", x.hear(2, 4, true), 1);
    }

    private static void holders() {
        SpeltByFriends x = Checks.townOf("p12,p00,p00");
        is.due("16: all", x.holders(0, 0), 9);
        is.due("16: the least of all", x.holders(0, 1), 0);
        x.hear(0, 7, true);
        x.hear(0, 3, false);
        is.due("16: one is person 2", x.holders(0, 0), 5);
        is.due("16: least of these", x.holders(0, 1), 2);
        is.due("16: of others nothing is heard", x.holders(1, 0), 9);
        x.hear(0, 5, false);
        is.due("16: both", x.holders(0, 0), 2);
        is.due("16: least of both", x.holders(0, 1), 12);
        x.quarrel(0, 1, true);
        is.due("16: none with a quarrel", x.holders(0, 0), 0);
        is.due("16: least of none", x.holders(0, 1), NONE);
        is.due("16: nobody", x.holders(3, 0), UNKNOWN);
        is.due("16: unknown first", x.holders(3, 2), UNKNOWN);
        is.due("16: what below", x.holders(0, -1), OUTSIDE);
        is.due("16: what above", x.holders(0, 2), OUTSIDE);
    }

    private static void holdersByEachHeard() {
        for (int place = 0; place < 6; place++) {
            SpeltByFriends x = Checks.townOf("p12,p00,p00");
            for (int i = 0; i < 6; i++) {
                // With all in the room any holders will do, so this tells nothing of the other.
                x.hear(i == place ? 0 : 1, i == place ? 1 : 7, true);
            }
            is.due("16: alone he was written, as heard at place " + place, x.holders(0, 0), 1);
            is.due("16: so he holds both", x.holders(0, 1), 0);
            is.due("16: all holders of the other would do", x.holders(1, 0), 9);
        }
    }

    private static void holdersByKind() {
        SpeltByFriends x = Checks.townOf("h11,f11,r11,t11");
        x.hear(0, 1, true);
        is.due("16: of a hermit alone nothing is known", x.holders(0, 0), 16);
        x.hear(1, 2, false);
        is.due("16: of a forger without any", x.holders(1, 0), 9);
        is.due("16: least of these", x.holders(1, 1), 0);
        x.hear(2, 14, true);
        is.due("16: of a proud one with both", x.holders(2, 0), 2);
        is.due("16: the least", x.holders(2, 1), 13);
        x.hear(3, 12, true);
        is.due("16: of a twin the first alone", x.holders(3, 0), 8);
        is.due("16: least of a twin", x.holders(3, 1), 20);
    }

    private static void invite() {
        SpeltByFriends x = Checks.townOf("p12,p00,p00");
        is.due("17: of nine", x.invite(0), 3);
        x.hear(0, 7, true);
        x.hear(0, 3, false);
        is.due("17: of five", x.invite(0), 5);
        x.hear(0, 5, false);
        is.due("17: of two, like ones: the least", x.invite(0), 1);
        x.hear(0, 7, false);
        is.due("17: of none", x.invite(0), NONE);
        is.due("17: of another", x.invite(2), 5);
        is.due("17: nobody", x.invite(3), UNKNOWN);
        for (int far : FAR) {
            is.due("17: far", x.invite(far), UNKNOWN);
        }
    }

    private static void years() {
        SpeltByFriends x = Checks.townOf("p10,p01");
        // seed 0: 12345 (0 by 65536), 1406932606 (21468): person 0 to room 0; then 654583775, 1449466924.
        is.due("18: seed", x.years(1, 0, 2), 1406932606);
        is.due("18: both", x.years(1, 0, 0), 2);
        is.due("18: in the end", x.years(1, 0, 1), 2);
        // 654583775 by 65536 is 9988, person 0; 1449466924 is 22117, room 1: nobody is written then.
        is.due("18: seed of two", x.years(2, 0, 2), 1449466924);
        is.due("18: together", x.years(2, 0, 0), 2);
        is.due("18: in the end of two", x.years(2, 0, 1), 0);
        is.due("18: nobody went", x.count(3), 0);
        is.due("18: all are where they were", x.about(0, 6), 3);
        x.go(0, 1);
        is.due("18: he goes back to room 0", x.years(1, 0, 1), 2);
        x.go(1, 1);
        is.due("18: from where they are, the other is elsewhere", x.years(1, 0, 1), 0);
        is.due("18: from where they are, he goes to the other", x.years(2, 0, 1), 2);
        is.due("18: from where they are, together", x.years(2, 0, 0), 2);
        is.due("18: the last seed", x.years(1, Integer.MAX_VALUE, 2), 288979989);
        is.due("18: 60", Math.min(0, x.years(60, 1, 0)), 0);
        is.due("18: times below", x.years(0, 1, 0), OUTSIDE);
        is.due("18: times above", x.years(61, 1, 0), OUTSIDE);
        is.due("18: seed below", x.years(1, -1, 0), OUTSIDE);
        is.due("18: what below", x.years(1, 1, -1), OUTSIDE);
        is.due("18: what above", x.years(1, 1, 3), OUTSIDE);
        for (int far : FAR) {
            is.due("18: far times", x.years(far, 1, 0), OUTSIDE);
            is.due("18: far what", x.years(1, 1, far), OUTSIDE);
        }
    }

    private static void image() {
        SpeltByFriends x = Checks.townOf("p12,p00,p00");
        is.due("19: nothing yet", x.image(), 0);
        x.go(0, 1);
        x.go(0, 2);
        x.sell(0, 0, 2);
        is.due("19: went or sold", x.image(), 3);
        x.go(1, 1);
        is.due("19: the latest is kept", x.image(), 4);
        x.go(1, 2);
        is.due("19: and gone on from", x.restore(), 4);
        is.due("19: so it is there", x.about(1, 3), 1);
    }

    private static void restore() {
        SpeltByFriends x = Checks.townOf("p12,p00,p00");
        is.due("20: none kept", x.restore(), STATE);
        x.go(0, 1);
        x.sell(0, 1, 0);
        x.quarrel(0, 1, true);
        x.hear(0, 1, true);
        x.hear(1, 3, true);
        x.image();
        long then = x.digest();
        x.go(0, 2);
        x.go(2, 3);
        x.sell(0, 0, 0);
        x.sell(0, 1, 1);
        x.quarrel(0, 1, false);
        x.quarrel(0, 2, true);
        x.forget();
        x.hear(2, 5, false);
        x.hear(1, 7, false);
        is.due("20: so often then", x.restore(), 2);
        is.due("20: all is as then", x.digest(), then);
        x.moves(0, 0);
        x.days(1, 0);
        x.letter('p');
        x.go(0, 3);
        is.due("20: again", x.restore(), 2);
        is.due("20: moves() stay done", x.count(8), 1);
        is.due("20: days() stay done", x.count(9), 1);
        is.due("20: the page stays", x.blank(), 1);
        is.due("20: but for these", x.count(3), 1);
        Checks.write(x, "p12,p00,p00");
        x.town();
        is.due("20: a like town is another", x.restore(), STATE);
        is.due("20: image of that", x.image(), 0);
        is.due("20: which goes on", x.restore(), 0);
    }

    private static void count() {
        SpeltByFriends x = Checks.townOf("p12,p00,r00,t33");
        is.due("21: written", x.count(1), 3);
        x.go(2, 1);
        is.due("21: by rooms", x.count(1), 2);
        x.quarrel(2, 3, true);
        x.quarrel(0, 3, true);
        x.sell(2, 0, 2);
        x.sell(2, 1, 2);
        x.hear(1, 2, true);
        Checks.write(x, "abcd");
        x.moves(0, 0);
        x.days(0, 0);
        x.days(0, 0);
        int[] due = {4, 3, 2, 1, 2, 1, 4, 1, 1, 2};
        for (int what = 0; what <= 9; what++) {
            is.due("21: count(" + what + ")", x.count(what), due[what]);
        }
        is.due("21: below", x.count(-1), OUTSIDE);
        is.due("21: above", x.count(10), OUTSIDE);
        for (int far : FAR) {
            is.due("21: far", x.count(far), OUTSIDE);
        }
    }

    private static void digest() {
        SpeltByFriends x = new SpeltByFriends();
        is.due("22: of a new one", x.digest(), Checks.mixed(0, 0, 0, 0, 0, 0, 0, 0, 0, 0));
        Checks.write(x, "h1");
        is.due("22: with a page", x.digest(), Checks.mixed('h', '1', 0, 0, 0, 0, 0, 0, 2, 0, 0, 0));
        Checks.write(x, "1,t00");
        x.town();
        x.quarrel(0, 1, true);
        x.go(1, 2);
        x.hear(1, 3, true);
        x.letter('~');
        is.due("22: of a town", x.digest(), Checks.mixed(
            1, 1, 1, 0, 2, 1, 1, 2, 0, 4, 0, 3,
            4, 0, 0, 2, 1, 0, 2, 2, 1, 2, 10, 2,
            '~',
            2, 1, 1, 1, 0, 1, 1, 1, 0, 0));
    }
}
