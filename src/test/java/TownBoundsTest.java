/** The boundary cases of the promises 1 to 5: a new object, the page, and the town that is read from it. */
public final class TownBoundsTest {
    private static final int UNKNOWN = -101, OUTSIDE = -102, STATE = -103, FULL = -104;
    private static final String LONGEST = "p44,h33,f22,r11,t00";
    private static final Checks is = new Checks();

    public static void main(String[] args) {
        promise1NothingIsThere();
        promise1RefusesAndChangesNothing();
        promise1ObjectsShareNothing();
        promise1Lasts512Calls();
        promise2CodesFrom32To126();
        promise2OtherCodesAreOutside();
        promise2PageTakes21();
        promise3BlankOfEmptyAndFull();
        promise3BlankLeavesAllElse();
        promise4EmptyPage();
        promise4EachSignAtEachPlace();
        promise4BehindTheLongestTown();
        promise4FirstOfSeveral();
        promise4DigitsThatNameNobody();
        promise4DigitsOfWhatIsNotWhole();
        promise4ChangesNothing();
        promise5TwoToFivePeople();
        promise5HoldersThatThereAre();
        promise5NoneIsState();
        promise5PageIsEmptyThen();
        promise5AllThatWasIsGone();
        promise5AllAreInRoom0AndNobodyQuarrels();
        is.end();
    }

    private static void promise1NothingIsThere() {
        SpeltByFriends x = new SpeltByFriends();
        for (int what = 0; what <= 9; what++) {
            is.due("promise 1: count(" + what + ")", x.count(what), 0);
        }
        is.due("promise 1: blank", x.blank(), 0);
        is.due("promise 1: fault", x.fault(), 0);
        is.due("promise 1: forget", x.forget(), 0);
    }

    private static void promise1RefusesAndChangesNothing() {
        is.dueUnchanged("promise 1: town", SpeltByFriends::new, x -> x.town(), STATE);
        is.dueUnchanged("promise 1: about", SpeltByFriends::new, x -> x.about(0, 0), UNKNOWN);
        is.dueUnchanged("promise 1: as", SpeltByFriends::new, x -> x.as(0, 0), UNKNOWN);
        is.dueUnchanged("promise 1: go", SpeltByFriends::new, x -> x.go(0, 0), UNKNOWN);
        is.dueUnchanged("promise 1: sell", SpeltByFriends::new, x -> x.sell(0, 0, 0), UNKNOWN);
        is.dueUnchanged("promise 1: quarrel", SpeltByFriends::new, x -> x.quarrel(0, 1, true), UNKNOWN);
        is.dueUnchanged("promise 1: written", SpeltByFriends::new, x -> x.written(0, 1), UNKNOWN);
        is.dueUnchanged("promise 1: moves", SpeltByFriends::new, x -> x.moves(0, 0), UNKNOWN);
        is.dueUnchanged("promise 1: days", SpeltByFriends::new, x -> x.days(0, 0), STATE);
        is.dueUnchanged("promise 1: hear", SpeltByFriends::new, x -> x.hear(0, 1, true), UNKNOWN);
        is.dueUnchanged("promise 1: forget", SpeltByFriends::new, x -> x.forget(), 0);
        is.dueUnchanged("promise 1: holders", SpeltByFriends::new, x -> x.holders(0, 0), UNKNOWN);
        is.dueUnchanged("promise 1: invite", SpeltByFriends::new, x -> x.invite(0), UNKNOWN);
        is.dueUnchanged("promise 1: years", SpeltByFriends::new, x -> x.years(1, 0, 0), STATE);
        is.dueUnchanged("promise 1: image", SpeltByFriends::new, x -> x.image(), STATE);
        is.dueUnchanged("promise 1: restore", SpeltByFriends::new, x -> x.restore(), STATE);
    }

    private static void promise1ObjectsShareNothing() {
        SpeltByFriends x = new SpeltByFriends();
        States.busy(5);
        is.alike("promise 1: beside another", x, new SpeltByFriends());
        is.alike("promise 1: made behind another", new SpeltByFriends(), new SpeltByFriends());
    }

    private static void promise1Lasts512Calls() {
        SpeltByFriends x = Checks.townOf("p10,p01");
        for (int i = 9; i < 512; i++) {
            is.due("promise 1: call " + i, x.go(0, i & 3), i == 9 ? 0 : i - 1 & 3);
        }
        is.due("promise 1: call 512", x.count(3), 503);
    }

    private static void promise2CodesFrom32To126() {
        for (int code = 32; code <= 126; code++) {
            SpeltByFriends x = new SpeltByFriends();
            is.due("promise 2: code " + code, x.letter(code), 1);
            is.due("promise 2: stands", x.digest(), Checks.mixed(code, 0, 0, 0, 0, 0, 0, 1, 0, 0, 0));
        }
    }

    private static void promise2OtherCodesAreOutside() {
        int[] codes = {Integer.MIN_VALUE, -112, -1, 0, 9, 10, 31, 127, 128, 255, 256 + 'p', 65536 + 'p', Integer.MAX_VALUE};
        for (int code : codes) {
            is.dueUnchanged("promise 2: code " + code, () -> States.busy(3), x -> x.letter(code), OUTSIDE);
        }
    }

    private static void promise2PageTakes21() {
        SpeltByFriends x = new SpeltByFriends();
        for (int i = 1; i <= 21; i++) {
            is.due("promise 2: letter " + i, x.letter('a' + i), i);
        }
        is.due("promise 2: the 22nd", x.letter('z'), FULL);
        String full = "p10,p01,p00,p00,p00,~~";
        is.dueUnchanged("promise 2: full", () -> States.withPage(4, full), y -> y.letter('z'), FULL);
        is.dueUnchanged("promise 2: full of a code", () -> States.withPage(4, full), y -> y.letter(32), FULL);
        is.dueUnchanged("promise 2: full, code below", () -> States.withPage(4, full), y -> y.letter(31), OUTSIDE);
        is.dueUnchanged("promise 2: full, code above", () -> States.withPage(4, full), y -> y.letter(127), OUTSIDE);
        x.blank();
        is.due("promise 2: behind blank", x.letter('p'), 1);
    }

    private static void promise3BlankOfEmptyAndFull() {
        for (int length = 0; length <= 21; length++) {
            SpeltByFriends x = States.newWithPage("~~~~~~~~~~~~~~~~~~~~~".substring(0, length));
            is.due("promise 3: of " + length, x.blank(), length);
            is.alike("promise 3: empty then", x, new SpeltByFriends());
        }
        is.dueUnchanged("promise 3: of none", () -> States.lived(3), x -> x.blank(), 0);
        SpeltByFriends x = States.newWithPage("p10,p01");
        x.blank();
        is.due("promise 3: no town is left", x.town(), STATE);
    }

    private static void promise3BlankLeavesAllElse() {
        for (int size = 2; size <= 5; size++) {
            SpeltByFriends x = States.busy(size);
            is.due("promise 3: had", x.blank(), 2);
            is.alike("promise 3: all else stays", x, States.lived(size));
        }
    }

    private static void faultIs(String text, int place) {
        is.due("promise 4: fault of '" + text + "'", States.newWithPage(text).fault(), place);
    }

    private static void promise4EmptyPage() {
        faultIs("", 0);
        is.due("promise 4: empty beside a town", States.lived(2).fault(), 0);
    }

    private static void promise4EachSignAtEachPlace() {
        String[] signs = {"phfrt", "01234", "01234", ","};
        for (int place = 0; place < 19; place++) {
            for (char sign = 32; sign <= 126; sign++) {
                boolean fits = signs[place % 4].indexOf(sign) >= 0;
                String text = "p00,p00,p00,p00,p00".substring(0, place) + sign;
                SpeltByFriends x = States.newWithPage(text);
                int fault = x.fault();
                boolean whole = place == 6 || place == 10 || place == 14 || place == 18;
                boolean nobody = fits && whole && sign - '0' > place / 4;
                is.due("promise 4: fault of '" + text + "'", fault, fits && !nobody ? place + 1 : place);
            }
        }
    }

    private static void promise4BehindTheLongestTown() {
        faultIs(LONGEST, 19);
        for (char sign = 32; sign <= 126; sign++) {
            faultIs(LONGEST + sign, 19);
        }
        faultIs(LONGEST + ",p", 19);
        faultIs(LONGEST + "pp", 19);
    }

    private static void promise4FirstOfSeveral() {
        faultIs("x99;", 0);
        faultIs("p99;", 1);
        faultIs("p09;", 2);
        faultIs("p00;;", 3);
        faultIs("p00,,,", 4);
        faultIs("p44,x", 4);
        faultIs("p44,p0x", 6);
        faultIs("p44,p44;", 7);
        faultIs("p34,p43", 1);
        faultIs("p14,p43", 2);
        faultIs("p11,p43", 5);
        faultIs("p44,p44,p44,p44,p44,", 19);
    }

    /** Of a whole page with so many people each digit below that names somebody, and no other. */
    private static void promise4DigitsThatNameNobody() {
        for (int size = 2; size <= 5; size++) {
            String good = "p00,p00,p00,p00,p00".substring(0, 4 * size - 1);
            for (int place = 1; place < good.length(); place += place % 4 == 1 ? 1 : 3) {
                for (int digit = 0; digit <= 4; digit++) {
                    String text = good.substring(0, place) + digit + good.substring(place + 1);
                    faultIs(text, digit < size ? text.length() : place);
                }
            }
        }
    }

    private static void promise4DigitsOfWhatIsNotWhole() {
        faultIs("p4", 2);
        faultIs("p44", 3);
        faultIs("p44,", 4);
        faultIs("p44,p", 5);
        faultIs("p44,p4", 6);
        faultIs("p44,p44", 1);
        faultIs("p44,p44,", 8);
        faultIs("p44,p44,p4", 10);
        faultIs("p44,p44,p44", 1);
        faultIs("p44,p44,p44,", 12);
        faultIs("p44,p44,p44,p4", 14);
        faultIs("p44,p44,p44,p44", 1);
        faultIs("p44,p44,p44,p44,", 16);
        faultIs("p44,p44,p44,p44,p4", 18);
        faultIs("p44,p44,p44,p44,p44", 19);
    }

    private static void promise4ChangesNothing() {
        is.dueUnchanged("promise 4: fault", () -> States.withPage(4, "p10,p05"), x -> x.fault(), 6);
        is.dueUnchanged("promise 4: no fault", () -> States.withPage(4, "p10,p01"), x -> x.fault(), 7);
        is.dueUnchanged("promise 4: full", () -> States.withPage(4, LONGEST + "~~"), x -> x.fault(), 19);
    }

    private static void promise5TwoToFivePeople() {
        for (int size = 1; size <= 5; size++) {
            SpeltByFriends x = States.newWithPage("p00,h00,f00,r00,t00".substring(0, 4 * size - 1));
            is.due("promise 5: of " + size, x.town(), size < 2 ? STATE : size);
            is.due("promise 5: people of " + size, x.count(0), size < 2 ? 0 : size);
        }
        SpeltByFriends six = States.newWithPage("p00,p00,p00,p00,p00,p00");
        is.due("promise 5: six are more than a page has", six.count(6), 21);
        is.due("promise 5: and none", six.town(), STATE);
    }

    private static void promise5HoldersThatThereAre() {
        for (int size = 2; size <= 5; size++) {
            String good = "p00,p00,p00,p00,p00".substring(0, 4 * size - 1);
            for (int place = 1; place < good.length(); place += place % 4 == 1 ? 1 : 3) {
                for (int digit = 0; digit <= 5; digit++) {
                    String text = good.substring(0, place) + digit + good.substring(place + 1);
                    SpeltByFriends x = States.newWithPage(text);
                    is.due("promise 5: town '" + text + "'", x.town(), digit < size ? size : STATE);
                    is.due("promise 5: holds in '" + text + "'", x.about(place / 4, place % 4),
                        digit < size ? digit : UNKNOWN);
                }
            }
        }
        SpeltByFriends own = Checks.townOf("p00,p11,p22,p33,p44");
        for (int person = 0; person < 5; person++) {
            is.due("promise 5: of oneself, too", 10 * own.about(person, 1) + own.about(person, 2), 11 * person);
        }
    }

    private static void promise5NoneIsState() {
        String[] none = {"", "p", "p0", "p00", "p00,", "p00,p", "p00,p0", "p00,p00,", "p20,p00", "p00,p02", "x00,p00",
            "p00;p00", "p00,p00,p00,p00,p05", LONGEST + ",", LONGEST + ",p", LONGEST + "pp", LONGEST + " ",
            " p00,p00", "p00, p00", "P00,p00", "p000,p00", ",p00,p00", "p00,,p00"};
        for (String text : none) {
            is.dueUnchanged("promise 5: '" + text + "'", () -> States.newWithPage(text), x -> x.town(), STATE);
            is.dueUnchanged("promise 5: '" + text + "' beside a town", () -> States.withPage(4, text), x -> x.town(), STATE);
        }
        is.dueUnchanged("promise 5: twice", () -> States.lived(5), x -> x.town(), STATE);
    }

    private static void promise5PageIsEmptyThen() {
        for (int size = 2; size <= 5; size++) {
            SpeltByFriends x = States.newWithPage(States.townText(size));
            is.due("promise 5: town", x.town(), size);
            is.due("promise 5: page", x.count(6), 0);
            is.due("promise 5: none is left", x.town(), STATE);
            is.due("promise 5: fault then", x.fault(), 0);
            is.due("promise 5: blank then", x.blank(), 0);
            is.due("promise 5: a letter then", x.letter('p'), 1);
        }
    }

    /** The same is told as of that town in a new object, but for what is of the object: counts 7 to 9. */
    private static void promise5AllThatWasIsGone() {
        for (int before = 2; before <= 5; before++) {
            for (int after = 2; after <= 5; after++) {
                SpeltByFriends x = States.lived(before);
                Checks.write(x, States.townText(after));
                is.due("promise 5: another", x.town(), after);
                SpeltByFriends y = Checks.townOf(States.townText(after));
                for (int person = 0; person < 6; person++) {
                    for (int what = 0; what <= 8; what++) {
                        is.due("promise 5: about then", x.about(person, what), y.about(person, what));
                    }
                    is.due("promise 5: holders then", x.holders(person, 0), y.holders(person, 0));
                    is.due("promise 5: invite then", x.invite(person), y.invite(person));
                }
                for (int what = 0; what <= 6; what++) {
                    is.due("promise 5: count then", x.count(what), y.count(what));
                }
                is.due("promise 5: towns read", x.count(7), 2);
                is.due("promise 5: years then", x.years(20, 3, 0), y.years(20, 3, 0));
                is.due("promise 5: the image is gone", x.restore(), STATE);
                is.due("promise 5: nothing is heard", x.forget(), 0);
            }
        }
    }

    private static void promise5AllAreInRoom0AndNobodyQuarrels() {
        for (int size = 2; size <= 5; size++) {
            SpeltByFriends x = Checks.townOf(States.townText(size));
            for (int person = 0; person < size; person++) {
                is.due("promise 5: room", x.about(person, 3), 0);
                is.due("promise 5: quarrels", x.about(person, 4), 0);
                is.due("promise 5: company", x.about(person, 6), States.all(size));
            }
            is.due("promise 5: pairs", x.count(2), 0);
        }
    }
}
