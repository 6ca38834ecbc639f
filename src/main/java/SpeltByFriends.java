/**
 * A town whose people are spelt by their friends: who holds the letters of each name,
 * who can be written in which company, and what would have to be so that one could be.
 *
 * Sets of people ("as bits") have bit p for person p. Refused calls change nothing.
 */
public final class SpeltByFriends {
    public static final int NONE = -1, UNKNOWN = -101, OUTSIDE = -102, STATE = -103, FULL = -104;

    private static final int MOST_PEOPLE = 5;
    private static final int LEAST_PEOPLE = 2;
    private static final int ROOMS = 4;
    private static final int MOST_LETTERS = 21;
    private static final int MOST_HEARD = 6;
    private static final int MOST_DAYS = 3;
    private static final int MOST_SEARCHES = 40;
    private static final int MOST_YEARS = 60;
    private static final int KINDS = 5;
    private static final int ABOUTS = 9;
    private static final int COUNTS = 10;
    private static final String KIND_LETTERS = "phfrt";

    private final Page page;
    private final Town here;
    private final Ledger kept;
    private final Plans plans;
    private final Guesses guesses;
    private final Lottery lottery;
    private int townsRead;
    private int keptOfTown;
    private int movesDone;
    private int daysDone;

    public SpeltByFriends() {
        page = new Page();
        here = new Town();
        kept = new Ledger();
        plans = new Plans();
        guesses = new Guesses();
        lottery = new Lottery();
    }

    // ---- the town

    public int letter(int code) {
        if (code < 32 || code > 126) {
            return OUTSIDE;
        }
        return page.add(code) ? page.length : FULL;
    }

    public int blank() {
        int had = page.length;
        page.length = 0;
        return had;
    }

    public int fault() {
        return page.firstFault();
    }

    public int town() {
        if (!page.isTown()) {
            return STATE;
        }
        here.settle(page);
        page.length = 0;
        townsRead++;
        return here.size;
    }

    // ---- people

    public int about(int person, int what) {
        if (!here.has(person)) {
            return UNKNOWN;
        }
        if (what < 0 || what >= ABOUTS) {
            return OUTSIDE;
        }
        return tellAbout(person, what);
    }

    public int as(int person, int kind) {
        if (!here.has(person)) {
            return UNKNOWN;
        }
        if (kind < 0 || kind >= KINDS) {
            return OUTSIDE;
        }
        return isOfKind(here.personAt(person), kind) ? person : NONE;
    }

    public int go(int person, int room) {
        if (!here.has(person)) {
            return UNKNOWN;
        }
        if (room < 0 || room >= ROOMS) {
            return OUTSIDE;
        }
        Ledger ledger = here.ledger;
        int was = roomIn(ledger.rooms, person);
        ledger.rooms = withRoom(ledger.rooms, person, room);
        ledger.went++;
        return was;
    }

    public int sell(int person, int which, int to) {
        if (!here.has(person) || !here.has(to)) {
            return UNKNOWN;
        }
        if (which < 0 || which > 1) {
            return OUTSIDE;
        }
        Ledger ledger = here.ledger;
        int[] holder = which == 0 ? ledger.firstHolder : ledger.lastHolder;
        int held = at(holder, person);
        put(holder, person, to);
        ledger.sold++;
        return held;
    }

    public int quarrel(int a, int b, boolean is) {
        if (!here.has(a) || !here.has(b) || a == b) {
            return UNKNOWN;
        }
        Ledger ledger = here.ledger;
        int did = at(ledger.foes, a) >> b & 1;
        ledger.setFoe(a, b, is);
        ledger.setFoe(b, a, is);
        return did;
    }

    public int written(int person, int company) {
        if (!here.has(person)) {
            return UNKNOWN;
        }
        if (!here.isCompanyOf(person, company)) {
            return OUTSIDE;
        }
        return here.canWrite(person, company) ? 1 : 0;
    }

    // ---- what would be

    public int moves(int person, int what) {
        if (!here.has(person)) {
            return UNKNOWN;
        }
        if (what != 0 && (what < 10 || what >= 10 + MOST_PEOPLE)) {
            return OUTSIDE;
        }
        if (movesDone >= MOST_SEARCHES) {
            return STATE;
        }
        movesDone++;
        int few = plans.planMoves(here, person);
        if (few == NONE || what == 0) {
            return few;
        }
        return here.has(what - 10) ? roomIn(plans.bestRooms, what - 10) : NONE;
    }

    public int days(int people, int what) {
        if (!here.isSetOfPeople(people)) {
            return OUTSIDE;
        }
        if (what != 0 && (what < 10 || what >= 10 + MOST_DAYS)) {
            return OUTSIDE;
        }
        if (here.size == 0 || daysDone >= MOST_SEARCHES) {
            return STATE;
        }
        daysDone++;
        int few = plans.planDays(here, people);
        if (few == NONE || what == 0) {
            return few;
        }
        return what - 10 < few ? at(plans.companies, what - 10) : NONE;
    }

    // ---- what is heard

    public int hear(int person, int company, boolean written) {
        if (!here.has(person)) {
            return UNKNOWN;
        }
        if (!here.isCompanyOf(person, company)) {
            return OUTSIDE;
        }
        Ledger ledger = here.ledger;
        if (ledger.heard >= MOST_HEARD) {
            return FULL;
        }
        ledger.addHeard(person, company, written);
        return ledger.heard;
    }

    public int forget() {
        int was = here.ledger.heard;
        here.ledger.heard = 0;
        return was;
    }

    public int holders(int person, int what) {
        if (!here.has(person)) {
            return UNKNOWN;
        }
        if (what < 0 || what > 1) {
            return OUTSIDE;
        }
        guesses.gather(here, person);
        return what == 0 ? guesses.many : guesses.least();
    }

    public int invite(int person) {
        if (!here.has(person)) {
            return UNKNOWN;
        }
        guesses.gather(here, person);
        return guesses.bestCompany(here);
    }

    public int years(int times, int seed, int what) {
        if (times < 1 || times > MOST_YEARS || seed < 0 || what < 0 || what > 2) {
            return OUTSIDE;
        }
        if (here.size == 0) {
            return STATE;
        }
        lottery.play(here, times, seed);
        switch (what) {
            case 0: return lottery.together;
            case 1: return lottery.inTheEnd;
            default: return lottery.seed;
        }
    }

    // ---- what is told of all

    public int image() {
        if (here.size == 0) {
            return STATE;
        }
        kept.copy(here.ledger);
        keptOfTown = townsRead;
        return kept.went + kept.sold;
    }

    public int restore() {
        if (keptOfTown == 0 || keptOfTown != townsRead) {
            return STATE;
        }
        here.ledger.copy(kept);
        return kept.went + kept.sold;
    }

    public int count(int what) {
        switch (what) {
            case 0: return here.size;
            case 1: return here.howManyWritten(here.ledger.rooms);
            case 2: return here.quarrellingPairs();
            case 3: return here.ledger.went;
            case 4: return here.ledger.sold;
            case 5: return here.ledger.heard;
            case 6: return page.length;
            case 7: return townsRead;
            case 8: return movesDone;
            case 9: return daysDone;
            default: return OUTSIDE;
        }
    }

    public long digest() {
        long h = 983;
        for (int person = 0; person < here.size; person++) {
            for (int what = 0; what < ABOUTS; what++) {
                h = 31 * h + tellAbout(person, what);
            }
            guesses.gather(here, person);
            h = 31 * h + guesses.many;
            h = 31 * h + guesses.least();
            h = 31 * h + guesses.bestCompany(here);
        }
        for (int i = 0; i < page.length; i++) {
            h = 31 * h + at(page.letters, i);
        }
        for (int what = 0; what < COUNTS; what++) {
            h = 31 * h + count(what);
        }
        return h;
    }

    private int tellAbout(int person, int what) {
        Ledger ledger = here.ledger;
        switch (what) {
            case 0: return here.kindOf(person);
            case 1: return at(ledger.firstHolder, person);
            case 2: return at(ledger.lastHolder, person);
            case 3: return roomIn(ledger.rooms, person);
            case 4: return at(ledger.foes, person);
            case 5: return here.canWrite(person, here.companyIn(ledger.rooms, person)) ? 1 : 0;
            case 6: return here.companyIn(ledger.rooms, person);
            case 7: return here.lettersOfOthers(person);
            default: return here.wants(person);
        }
    }

    private static boolean isOfKind(Person one, int kind) {
        switch (kind) {
            case 0: return one != null;
            case 1: return one instanceof Hermit;
            case 2: return one instanceof Forger;
            case 3: return one instanceof Proud;
            case 4: return one instanceof Twin;
            default: return false;
        }
    }

    // ---- rows and rooms

    private static int at(int[] row, int index) {
        return row != null && index >= 0 && index < row.length ? row[index] : 0;
    }

    private static void put(int[] row, int index, int value) {
        if (row != null && index >= 0 && index < row.length) {
            row[index] = value;
        }
    }

    /**
     * The rooms of all are one number, two bits for each, person 0 in the highest ones:
     * so a lesser number is what the document calls the first by numbers.
     */
    private static int shiftOf(int person) {
        return 2 * (MOST_PEOPLE - 1 - person);
    }

    private static int roomIn(int rooms, int person) {
        return rooms >> shiftOf(person) & 3;
    }

    private static int withRoom(int rooms, int person, int room) {
        int shift = shiftOf(person);
        return rooms & ~(3 << shift) | room << shift;
    }

    // ---- kinds

    /** One who can be written if both letters are there; other kinds say otherwise. */
    private static class Person {
        final int kind;

        Person(int kind) {
            this.kind = kind;
        }

        /** Others are who else is in the company; strangers those of them who hold none of his letters. */
        boolean isSpelt(boolean first, boolean last, int others, int strangers) {
            return first && last;
        }
    }

    private static final class Hermit extends Person {
        Hermit() {
            super(1);
        }

        boolean isSpelt(boolean first, boolean last, int others, int strangers) {
            return others == 0 || first && last;
        }
    }

    private static class Forger extends Person {
        Forger(int kind) {
            super(kind);
        }

        boolean isSpelt(boolean first, boolean last, int others, int strangers) {
            return first || last;
        }
    }

    private static final class Proud extends Person {
        Proud() {
            super(3);
        }

        boolean isSpelt(boolean first, boolean last, int others, int strangers) {
            return first && last && strangers == 0;
        }
    }

    private static final class Twin extends Forger {
        Twin() {
            super(4);
        }

        boolean isSpelt(boolean first, boolean last, int others, int strangers) {
            return first;
        }
    }

    // ---- the page

    private static final class Page {
        private static final int LONGEST_TOWN = 4 * MOST_PEOPLE - 1;
        private static final int SHORTEST_TOWN = 4 * LEAST_PEOPLE - 1;

        final int[] letters = new int[MOST_LETTERS];
        int length;

        boolean add(int code) {
            if (length >= MOST_LETTERS) {
                return false;
            }
            put(letters, length, code);
            length++;
            return true;
        }

        boolean isTown() {
            return isWhole() && firstFault() == length;
        }

        int people() {
            return (length + 1) / 4;
        }

        int kindAt(int person) {
            return KIND_LETTERS.indexOf((char) at(letters, 4 * person));
        }

        int digitAt(int place) {
            return at(letters, place) - '0';
        }

        int firstFault() {
            for (int place = 0; place < length; place++) {
                if (!fits(place)) {
                    return place;
                }
            }
            return isWhole() ? firstNobody() : length;
        }

        private boolean isWhole() {
            return length >= SHORTEST_TOWN && length <= LONGEST_TOWN && (length & 3) == 3;
        }

        private boolean fits(int place) {
            if (place >= LONGEST_TOWN) {
                return false;
            }
            switch (place & 3) {
                case 0: return kindAt(place / 4) >= 0;
                case 3: return at(letters, place) == ',';
                default: return digitAt(place) >= 0 && digitAt(place) < MOST_PEOPLE;
            }
        }

        private int firstNobody() {
            int people = people();
            for (int place = 0; place < length; place++) {
                boolean isDigit = (place & 3) == 1 || (place & 3) == 2;
                if (isDigit && digitAt(place) >= people) {
                    return place;
                }
            }
            return length;
        }
    }

    // ---- what changes in a town, and what an image keeps

    private static final class Ledger {
        final int[] firstHolder = new int[MOST_PEOPLE];
        final int[] lastHolder = new int[MOST_PEOPLE];
        final int[] foes = new int[MOST_PEOPLE];
        final int[] heardOf = new int[MOST_HEARD];
        final int[] heardIn = new int[MOST_HEARD];
        final int[] heardYes = new int[MOST_HEARD];
        int rooms;
        int heard;
        int went;
        int sold;

        void clear() {
            for (int person = 0; person < MOST_PEOPLE; person++) {
                put(firstHolder, person, 0);
                put(lastHolder, person, 0);
                put(foes, person, 0);
            }
            rooms = 0;
            heard = 0;
            went = 0;
            sold = 0;
        }

        void copy(Ledger other) {
            if (other == null) {
                return;
            }
            for (int person = 0; person < MOST_PEOPLE; person++) {
                put(firstHolder, person, at(other.firstHolder, person));
                put(lastHolder, person, at(other.lastHolder, person));
                put(foes, person, at(other.foes, person));
            }
            for (int i = 0; i < MOST_HEARD; i++) {
                put(heardOf, i, at(other.heardOf, i));
                put(heardIn, i, at(other.heardIn, i));
                put(heardYes, i, at(other.heardYes, i));
            }
            rooms = other.rooms;
            heard = other.heard;
            went = other.went;
            sold = other.sold;
        }

        void setFoe(int of, int foe, boolean is) {
            int without = at(foes, of) & ~(1 << foe);
            put(foes, of, is ? without | 1 << foe : without);
        }

        void addHeard(int person, int company, boolean yes) {
            put(heardOf, heard, person);
            put(heardIn, heard, company);
            put(heardYes, heard, yes ? 1 : 0);
            heard++;
        }
    }

    // ---- the town

    private static final class Town {
        final Ledger ledger = new Ledger();
        /** One of each kind, shared by all of it: what differs between people is in the ledger. */
        private final Person[] kinds = {
            new Person(0), new Hermit(), new Forger(2), new Proud(), new Twin()
        };
        private final Person[] people = new Person[MOST_PEOPLE];
        int size;

        void settle(Page page) {
            ledger.clear();
            size = Math.min(page.people(), MOST_PEOPLE);
            for (int person = 0; person < size && person < people.length; person++) {
                int kind = page.kindAt(person);
                people[person] = kind >= 0 && kind < kinds.length ? kinds[kind] : null;
                put(ledger.firstHolder, person, page.digitAt(4 * person + 1));
                put(ledger.lastHolder, person, page.digitAt(4 * person + 2));
            }
        }

        boolean has(int person) {
            return person >= 0 && person < size;
        }

        boolean isSetOfPeople(int set) {
            return set >= 0 && set < 1 << size;
        }

        boolean isCompanyOf(int person, int company) {
            return isSetOfPeople(company) && (company >> person & 1) == 1;
        }

        Person personAt(int person) {
            return has(person) && person < people.length ? people[person] : null;
        }

        int kindOf(int person) {
            Person one = personAt(person);
            return one == null ? NONE : one.kind;
        }

        int companyIn(int rooms, int person) {
            int room = roomIn(rooms, person);
            int company = 0;
            for (int other = 0; other < size; other++) {
                if (roomIn(rooms, other) == room) {
                    company |= 1 << other;
                }
            }
            return company;
        }

        boolean canWrite(int person, int company) {
            return couldWrite(person, company, at(ledger.firstHolder, person), at(ledger.lastHolder, person));
        }

        /** Whether one could be written in a company, if these two held his letters. */
        boolean couldWrite(int person, int company, int first, int last) {
            Person one = personAt(person);
            if (one == null || (company >> person & 1) == 0) {
                return false;
            }
            int self = 1 << person;
            int friends = company & ~at(ledger.foes, person) | self;
            boolean hasFirst = (friends >> first & 1) == 1;
            boolean hasLast = (friends >> last & 1) == 1;
            int others = company & ~self;
            return one.isSpelt(hasFirst, hasLast, others, others & ~(1 << first | 1 << last));
        }

        int howManyWritten(int rooms) {
            int many = 0;
            for (int person = 0; person < size; person++) {
                if (canWrite(person, companyIn(rooms, person))) {
                    many++;
                }
            }
            return many;
        }

        int quarrellingPairs() {
            int ends = 0;
            for (int person = 0; person < size; person++) {
                ends += Integer.bitCount(at(ledger.foes, person));
            }
            return ends / 2;
        }

        int lettersOfOthers(int person) {
            int many = 0;
            for (int other = 0; other < size; other++) {
                if (other != person) {
                    many += at(ledger.firstHolder, other) == person ? 1 : 0;
                    many += at(ledger.lastHolder, other) == person ? 1 : 0;
                }
            }
            return many;
        }

        /** Who is in every company in which he can be written: all, if there is none such. */
        int wants(int person) {
            int always = (1 << size) - 1;
            for (int company = 0; company < 1 << size; company++) {
                if (canWrite(person, company)) {
                    always &= company;
                }
            }
            return always & ~(1 << person);
        }
    }

    // ---- moves and days

    private static final class Plans {
        private static final int ONE_BIT_OF_EACH_ROOM = 0x155;

        private final int[] writtenIn = new int[1 << MOST_PEOPLE];
        private int companiesEnd;
        final int[] companies = new int[MOST_DAYS];
        int bestRooms;

        /** How few must go so that one can be written, with their rooms left in bestRooms; NONE. */
        int planMoves(Town town, int person) {
            int unused = 2 * (MOST_PEOPLE - town.size);
            int fewest = MOST_PEOPLE + 1;
            for (int i = 0; i < 1 << 2 * town.size; i++) {
                int rooms = i << unused;
                int goers = howManyDiffer(rooms, town.ledger.rooms);
                if (goers < fewest && town.canWrite(person, town.companyIn(rooms, person))) {
                    fewest = goers;
                    bestRooms = rooms;
                }
            }
            return fewest > MOST_PEOPLE ? NONE : fewest;
        }

        private static int howManyDiffer(int rooms, int others) {
            int bits = rooms ^ others;
            return Integer.bitCount((bits | bits >> 1) & ONE_BIT_OF_EACH_ROOM);
        }

        /** How few companies it takes until all of these were written, left in companies; NONE. */
        int planDays(Town town, int people) {
            if (people == 0) {
                return 0;
            }
            companiesEnd = 1 << town.size;
            for (int company = 0; company < companiesEnd; company++) {
                put(writtenIn, company, whoIsWritten(town, company));
            }
            for (int many = 1; many <= MOST_DAYS; many++) {
                if (cover(people, 1, 0, many)) {
                    return many;
                }
            }
            return NONE;
        }

        private int whoIsWritten(Town town, int company) {
            int who = 0;
            for (int person = 0; person < town.size; person++) {
                if (town.canWrite(person, company)) {
                    who |= 1 << person;
                }
            }
            return who;
        }

        /** Goes one level deeper for each day, so never below MOST_DAYS. */
        private boolean cover(int left, int from, int day, int many) {
            if (day >= many || day >= MOST_DAYS) {
                return left == 0;
            }
            for (int company = from; company < companiesEnd; company++) {
                if (cover(left & ~at(writtenIn, company), company + 1, day + 1, many)) {
                    put(companies, day, company);
                    return true;
                }
            }
            return false;
        }
    }

    // ---- holders and invite

    /** Who may hold the letters of one, by what is heard of him. */
    private static final class Guesses {
        private final int[] firsts = new int[MOST_PEOPLE * MOST_PEOPLE];
        private final int[] lasts = new int[MOST_PEOPLE * MOST_PEOPLE];
        private int person;
        int many;

        void gather(Town town, int of) {
            person = of;
            many = 0;
            for (int first = 0; first < town.size; first++) {
                for (int last = 0; last < town.size; last++) {
                    if (agrees(town, first, last)) {
                        put(firsts, many, first);
                        put(lasts, many, last);
                        many++;
                    }
                }
            }
        }

        private boolean agrees(Town town, int first, int last) {
            Ledger ledger = town.ledger;
            for (int i = 0; i < ledger.heard; i++) {
                if (at(ledger.heardOf, i) == person) {
                    boolean would = town.couldWrite(person, at(ledger.heardIn, i), first, last);
                    if (would != (at(ledger.heardYes, i) == 1)) {
                        return false;
                    }
                }
            }
            return true;
        }

        int least() {
            return many == 0 ? NONE : 10 * at(firsts, 0) + at(lasts, 0);
        }

        int bestCompany(Town town) {
            if (many == 0) {
                return NONE;
            }
            int best = NONE;
            int fewestLeft = many + 1;
            for (int company = 0; company < 1 << town.size; company++) {
                if (town.isCompanyOf(person, company)) {
                    int left = leftAtWorst(town, company);
                    if (left < fewestLeft) {
                        fewestLeft = left;
                        best = company;
                    }
                }
            }
            return best;
        }

        private int leftAtWorst(Town town, int company) {
            int would = 0;
            for (int i = 0; i < many; i++) {
                if (town.couldWrite(person, company, at(firsts, i), at(lasts, i))) {
                    would++;
                }
            }
            return Math.max(would, many - would);
        }
    }

    // ---- years

    private static final class Lottery {
        int seed;
        int together;
        int inTheEnd;

        void play(Town town, int times, int firstSeed) {
            seed = firstSeed;
            together = 0;
            int rooms = town.ledger.rooms;
            for (int i = 0; i < times; i++) {
                int person = draw(town.size);
                rooms = withRoom(rooms, person, draw(ROOMS));
                inTheEnd = town.howManyWritten(rooms);
                together += inTheEnd;
            }
        }

        private int draw(int of) {
            seed = (int) (1103515245L * seed + 12345L & 0x7fffffffL);
            return of > 0 ? (seed >> 16) % of : 0;
        }
    }
}
