import java.util.ArrayList;
import java.util.List;
import java.util.Set;
import java.util.TreeSet;

/**
 * The document's words once more, with sets and texts and no care for speed,
 * so that a slip in the class is not likely to be made here as well.
 */
final class Model {
    static final int NONE = -1, UNKNOWN = -101, OUTSIDE = -102, STATE = -103, FULL = -104;

    private record Told(int person, Set<Integer> company, boolean written) {}

    /** What an image keeps. */
    private static final class Kept {
        int[][] holds = new int[0][];
        int[] rooms = new int[0];
        Set<List<Integer>> quarrels = new java.util.HashSet<>();
        List<Told> heard = new ArrayList<>();
        int went;
        int sold;

        Kept copy() {
            Kept other = new Kept();
            other.holds = new int[holds.length][];
            for (int i = 0; i < holds.length; i++) {
                other.holds[i] = holds[i].clone();
            }
            other.rooms = rooms.clone();
            other.quarrels.addAll(quarrels);
            other.heard.addAll(heard);
            other.went = went;
            other.sold = sold;
            return other;
        }
    }

    private String page = "";
    private String kinds = "";
    private Kept now = new Kept();
    private Kept image;
    private int towns, movesDone, daysDone;

    // ---- the town

    int letter(int code) {
        if (code < 32 || code > 126) return OUTSIDE;
        if (page.length() == 21) return FULL;
        page += (char) code;
        return page.length();
    }

    int blank() {
        int had = page.length();
        page = "";
        return had;
    }

    /** Whether some town of the document's form begins with this text, if any digit names somebody. */
    private static boolean begins(String text) {
        String whole = "p00,p00,p00,p00,p00";
        return text.length() <= whole.length()
            && (text + whole.substring(text.length())).matches("[phfrt][0-4][0-4](,[phfrt][0-4][0-4]){4}");
    }

    private boolean whole() {
        return page.matches("[phfrt][0-4][0-4](,[phfrt][0-4][0-4]){1,4}");
    }

    int fault() {
        for (int i = 0; i < page.length(); i++) {
            if (!begins(page.substring(0, i + 1))) return i;
        }
        if (whole()) {
            int people = page.split(",").length;
            for (int i = 0; i < page.length(); i++) {
                if (Character.isDigit(page.charAt(i)) && page.charAt(i) - '0' >= people) return i;
            }
        }
        return page.length();
    }

    int town() {
        if (!whole() || fault() < page.length()) return STATE;
        String[] people = page.split(",");
        now = new Kept();
        now.holds = new int[people.length][];
        now.rooms = new int[people.length];
        kinds = "";
        for (int i = 0; i < people.length; i++) {
            kinds += people[i].charAt(0);
            now.holds[i] = new int[] {people[i].charAt(1) - '0', people[i].charAt(2) - '0'};
        }
        image = null;
        page = "";
        towns++;
        return people.length;
    }

    // ---- words of the document

    private boolean nobody(int person) {
        return person < 0 || person >= kinds.length();
    }

    private boolean noSet(int bits) {
        return bits < 0 || bits >= Math.pow(2, kinds.length());
    }

    private Set<Integer> set(int bits) {
        Set<Integer> result = new TreeSet<>();
        for (int i = 0; i < 31; i++) {
            if ((bits / (1 << i)) % 2 == 1) result.add(i);
        }
        return result;
    }

    private static int bits(Iterable<Integer> people) {
        int result = 0;
        for (int person : people) result += 1 << person;
        return result;
    }

    private boolean quarrels(int a, int b) {
        return now.quarrels.contains(List.of(Math.min(a, b), Math.max(a, b)));
    }

    private boolean there(int person, int holder, Set<Integer> company) {
        return holder == person || company.contains(holder) && !quarrels(holder, person);
    }

    private boolean can(int person, Set<Integer> company, int first, int last) {
        if (!company.contains(person)) return false;
        boolean hasFirst = there(person, first, company);
        boolean hasLast = there(person, last, company);
        switch (kinds.charAt(person)) {
            case 'p': return hasFirst && hasLast;
            case 'h': return hasFirst && hasLast || company.size() == 1;
            case 'f': return hasFirst || hasLast;
            case 'r': return hasFirst && hasLast
                && company.stream().allMatch(one -> one == person || one == first || one == last);
            default: return hasFirst;
        }
    }

    private boolean can(int person, Set<Integer> company) {
        return can(person, company, now.holds[person][0], now.holds[person][1]);
    }

    private Set<Integer> inRoomWith(int person, int[] rooms) {
        Set<Integer> result = new TreeSet<>();
        for (int i = 0; i < rooms.length; i++) {
            if (rooms[i] == rooms[person]) result.add(i);
        }
        return result;
    }

    private int written(int[] rooms) {
        int result = 0;
        for (int i = 0; i < rooms.length; i++) {
            if (can(i, inRoomWith(i, rooms))) result++;
        }
        return result;
    }

    private int wants(int person) {
        Set<Integer> result = new TreeSet<>();
        for (int other = 0; other < kinds.length(); other++) {
            boolean always = other != person;
            for (int company = 0; company < 1 << kinds.length(); company++) {
                if (can(person, set(company)) && !set(company).contains(other)) always = false;
            }
            if (always) result.add(other);
        }
        return bits(result);
    }

    // ---- people

    int about(int person, int what) {
        if (nobody(person)) return UNKNOWN;
        switch (what) {
            case 0: return "phfrt".indexOf(kinds.charAt(person));
            case 1: return now.holds[person][0];
            case 2: return now.holds[person][1];
            case 3: return now.rooms[person];
            case 4: {
                Set<Integer> foes = new TreeSet<>();
                for (int i = 0; i < kinds.length(); i++) {
                    if (quarrels(i, person)) foes.add(i);
                }
                return bits(foes);
            }
            case 5: return can(person, inRoomWith(person, now.rooms)) ? 1 : 0;
            case 6: return bits(inRoomWith(person, now.rooms));
            case 7: {
                int result = 0;
                for (int i = 0; i < kinds.length(); i++) {
                    for (int holder : now.holds[i]) {
                        if (i != person && holder == person) result++;
                    }
                }
                return result;
            }
            case 8: return wants(person);
            default: return OUTSIDE;
        }
    }

    int as(int person, int kind) {
        if (nobody(person)) return UNKNOWN;
        if (kind < 0 || kind > 4) return OUTSIDE;
        String are = new String[] {"phfrt", "h", "ft", "r", "t"}[kind];
        return are.indexOf(kinds.charAt(person)) < 0 ? NONE : person;
    }

    int go(int person, int room) {
        if (nobody(person)) return UNKNOWN;
        if (room < 0 || room > 3) return OUTSIDE;
        int was = now.rooms[person];
        now.rooms[person] = room;
        now.went++;
        return was;
    }

    int sell(int person, int which, int to) {
        if (nobody(person) || nobody(to)) return UNKNOWN;
        if (which != 0 && which != 1) return OUTSIDE;
        int was = now.holds[person][which];
        now.holds[person][which] = to;
        now.sold++;
        return was;
    }

    int quarrel(int a, int b, boolean is) {
        if (nobody(a) || nobody(b) || a == b) return UNKNOWN;
        int did = quarrels(a, b) ? 1 : 0;
        List<Integer> pair = List.of(Math.min(a, b), Math.max(a, b));
        if (is) now.quarrels.add(pair);
        else now.quarrels.remove(pair);
        return did;
    }

    int written(int person, int company) {
        if (nobody(person)) return UNKNOWN;
        if (noSet(company) || !set(company).contains(person)) return OUTSIDE;
        return can(person, set(company)) ? 1 : 0;
    }

    // ---- what would be

    private void allRooms(int[] rooms, int from, List<int[]> into) {
        if (from == rooms.length) {
            into.add(rooms.clone());
            return;
        }
        for (int room = 0; room < 4; room++) {
            rooms[from] = room;
            allRooms(rooms, from + 1, into);
        }
    }

    int moves(int person, int what) {
        if (nobody(person)) return UNKNOWN;
        if (what != 0 && (what < 10 || what > 14)) return OUTSIDE;
        if (movesDone == 40) return STATE;
        movesDone++;
        List<int[]> all = new ArrayList<>();
        allRooms(new int[kinds.length()], 0, all);
        for (int few = 0; few <= kinds.length(); few++) {
            for (int[] rooms : all) {
                int goers = 0;
                for (int i = 0; i < rooms.length; i++) {
                    if (rooms[i] != now.rooms[i]) goers++;
                }
                if (goers == few && can(person, inRoomWith(person, rooms))) {
                    return what == 0 ? few : what - 10 < rooms.length ? rooms[what - 10] : NONE;
                }
            }
        }
        return NONE;
    }

    private boolean allIn(Set<Integer> people, int... companies) {
        for (int person : people) {
            boolean once = false;
            for (int company : companies) once |= can(person, set(company));
            if (!once) return false;
        }
        return true;
    }

    private int[] fewDays(Set<Integer> people) {
        int end = 1 << kinds.length();
        if (people.isEmpty()) return new int[0];
        for (int a = 1; a < end; a++) {
            if (allIn(people, a)) return new int[] {a};
        }
        for (int a = 1; a < end; a++) {
            for (int b = a + 1; b < end; b++) {
                if (allIn(people, a, b)) return new int[] {a, b};
            }
        }
        for (int a = 1; a < end; a++) {
            for (int b = a + 1; b < end; b++) {
                for (int c = b + 1; c < end; c++) {
                    if (allIn(people, a, b, c)) return new int[] {a, b, c};
                }
            }
        }
        return null;
    }

    int days(int people, int what) {
        if (noSet(people) || what != 0 && (what < 10 || what > 12)) return OUTSIDE;
        if (kinds.isEmpty() || daysDone == 40) return STATE;
        daysDone++;
        int[] companies = fewDays(set(people));
        if (companies == null) return NONE;
        if (what == 0) return companies.length;
        return what - 10 < companies.length ? companies[what - 10] : NONE;
    }

    // ---- what is heard

    int hear(int person, int company, boolean written) {
        if (nobody(person)) return UNKNOWN;
        if (noSet(company) || !set(company).contains(person)) return OUTSIDE;
        if (now.heard.size() == 6) return FULL;
        now.heard.add(new Told(person, set(company), written));
        return now.heard.size();
    }

    int forget() {
        int was = now.heard.size();
        now.heard.clear();
        return was;
    }

    private List<Integer> holdersOf(int person) {
        List<Integer> result = new ArrayList<>();
        for (int both = 0; both < 100; both++) {
            int first = both / 10;
            int last = both % 10;
            boolean so = first < kinds.length() && last < kinds.length();
            for (Told told : now.heard) {
                if (so && told.person() == person) so = can(person, told.company(), first, last) == told.written();
            }
            if (so) result.add(both);
        }
        return result;
    }

    int holders(int person, int what) {
        if (nobody(person)) return UNKNOWN;
        if (what != 0 && what != 1) return OUTSIDE;
        List<Integer> all = holdersOf(person);
        if (what == 0) return all.size();
        return all.isEmpty() ? NONE : all.get(0);
    }

    int invite(int person) {
        if (nobody(person)) return UNKNOWN;
        List<Integer> all = holdersOf(person);
        if (all.isEmpty()) return NONE;
        int best = NONE;
        long bestWorst = 1000;
        for (int company = (1 << kinds.length()) - 1; company > 0; company--) {
            Set<Integer> these = set(company);
            if (these.contains(person)) {
                long yes = all.stream().filter(both -> can(person, these, both / 10, both % 10)).count();
                long worst = Math.max(yes, all.size() - yes);
                if (worst <= bestWorst) {
                    bestWorst = worst;
                    best = company;
                }
            }
        }
        return best;
    }

    int years(int times, int seed, int what) {
        if (times < 1 || times > 60 || seed < 0 || what < 0 || what > 2) return OUTSIDE;
        if (kinds.isEmpty()) return STATE;
        java.math.BigInteger next = java.math.BigInteger.valueOf(seed);
        int[] rooms = now.rooms.clone();
        int together = 0;
        for (int i = 0; i < times; i++) {
            next = after(next);
            int who = next.intValueExact() / 65536 % rooms.length;
            next = after(next);
            rooms[who] = next.intValueExact() / 65536 % 4;
            together += written(rooms);
        }
        return what == 0 ? together : what == 1 ? written(rooms) : next.intValueExact();
    }

    private static java.math.BigInteger after(java.math.BigInteger seed) {
        return seed.multiply(java.math.BigInteger.valueOf(1103515245)).add(java.math.BigInteger.valueOf(12345))
            .mod(java.math.BigInteger.TWO.pow(31));
    }

    // ---- what is told of all

    int image() {
        if (kinds.isEmpty()) return STATE;
        image = now.copy();
        return now.went + now.sold;
    }

    int restore() {
        if (image == null) return STATE;
        now = image.copy();
        return now.went + now.sold;
    }

    int count(int what) {
        switch (what) {
            case 0: return kinds.length();
            case 1: return written(now.rooms);
            case 2: return now.quarrels.size();
            case 3: return now.went;
            case 4: return now.sold;
            case 5: return now.heard.size();
            case 6: return page.length();
            case 7: return towns;
            case 8: return movesDone;
            case 9: return daysDone;
            default: return OUTSIDE;
        }
    }

    long digest() {
        List<Integer> numbers = new ArrayList<>();
        for (int person = 0; person < kinds.length(); person++) {
            for (int what = 0; what <= 8; what++) numbers.add(about(person, what));
            numbers.add(holders(person, 0));
            numbers.add(holders(person, 1));
            numbers.add(invite(person));
        }
        for (char code : page.toCharArray()) numbers.add((int) code);
        for (int what = 0; what <= 9; what++) numbers.add(count(what));
        long h = 983;
        for (int number : numbers) h = 31 * h + number;
        return h;
    }
}
