import java.util.Random;

/** Runs of up to 512 calls by fixed seeds: each answer of the class is the model's, and nothing is thrown. */
public final class ModelTest {
    private static final int RUNS = 120;
    /** No more is promised of an object; a step below takes two calls at most, a town's as many as told. */
    private static final int CALLS = 512;
    private static final int CALLS_OF_A_TOWN = 47;
    private static final int[] FAR = {
        Integer.MIN_VALUE, Integer.MIN_VALUE + 1, -101, -2, -1, 5, 9, 15, 31, 32, 33, 63, 64, 65536,
        Integer.MAX_VALUE - 1, Integer.MAX_VALUE
    };
    private static final Checks is = new Checks();

    private final Random random;
    private final SpeltByFriends x = new SpeltByFriends();
    private final Model model = new Model();
    private final String name;
    private int calls;

    private ModelTest(int seed) {
        random = new Random(seed);
        name = "run " + seed;
    }

    public static void main(String[] args) {
        for (int seed = 0; seed < RUNS; seed++) {
            new ModelTest(seed).run();
        }
        is.end();
    }

    private void run() {
        while (calls + 2 <= CALLS) {
            boolean another = random.nextInt(60) == 0 || calls == 0 && random.nextInt(4) > 0;
            if (another && calls + CALLS_OF_A_TOWN <= CALLS) {
                writeTown();
            } else {
                oneCall();
            }
        }
    }

    private void look(String call, long got, long want) {
        calls++;
        is.due(name + ", call " + calls + ": " + call, got, want);
    }

    private void writeTown() {
        look("blank()", x.blank(), model.blank());
        String text = townText();
        for (int i = 0; i < text.length(); i++) {
            int code = text.charAt(i);
            look("letter(" + code + ")", x.letter(code), model.letter(code));
            if (random.nextInt(6) == 0) {
                look("fault()", x.fault(), model.fault());
            }
        }
        look("fault()", x.fault(), model.fault());
        look("town() of " + text, x.town(), model.town());
    }

    private String townText() {
        int people = 2 + random.nextInt(4);
        StringBuilder text = new StringBuilder();
        for (int i = 0; i < people; i++) {
            text.append(i == 0 ? "" : ",").append("phfrt".charAt(random.nextInt(5)))
                .append(random.nextInt(people)).append(random.nextInt(people));
        }
        if (random.nextInt(6) == 0) {
            text.setCharAt(random.nextInt(text.length()), ",phfrt0123456x ~".charAt(random.nextInt(16)));
        }
        if (random.nextInt(12) == 0) {
            text.append(random.nextBoolean() ? "," : ",p0");
        }
        return text.toString();
    }

    /** A number that is mostly below so many, and now and then far off. */
    private int some(int below) {
        return random.nextInt(15) == 0 ? FAR[random.nextInt(FAR.length)] : random.nextInt(Math.max(below, 1));
    }

    private int someone() {
        return some(model.count(0));
    }

    private int companyOf(int person) {
        int company = some(1 << model.count(0));
        return random.nextInt(12) == 0 ? company : company | 1 << person;
    }

    private int from10(int many) {
        return random.nextInt(3) == 0 ? some(2) : 10 + some(many);
    }

    private void oneCall() {
        int a = someone();
        int b = someone();
        boolean yes = random.nextBoolean();
        int n = some(10);
        int company = companyOf(a);
        switch (random.nextInt(22)) {
            case 0: look("letter(" + n + ")", x.letter(n), model.letter(n)); break;
            case 1: look("letter(" + (32 + n) + ")", x.letter(32 + n), model.letter(32 + n)); break;
            case 2: look("town()", x.town(), model.town()); break;
            case 3: look("about(" + a + ", " + n + ")", x.about(a, n), model.about(a, n)); break;
            case 4: look("as(" + a + ", " + n + ")", x.as(a, n), model.as(a, n)); break;
            case 5: case 6: goOne(a); break;
            case 7: sellOne(a, b); break;
            case 8: case 9: quarrelOf(a, b, yes); break;
            case 10: look("written(" + a + ", " + company + ")", x.written(a, company), model.written(a, company)); break;
            case 11: movesOf(a); break;
            case 12: daysOf(some(1 << model.count(0))); break;
            case 13: case 14: case 15: hearOf(a, company, yes); break;
            case 16: look("holders(" + a + ", " + (n & 1) + ")", x.holders(a, n & 1), model.holders(a, n & 1)); break;
            case 17: look("invite(" + a + ")", x.invite(a), model.invite(a)); break;
            case 18: yearsOf(); break;
            case 19: keepOrGoBack(); break;
            case 20: look("count(" + n + ")", x.count(n), model.count(n)); break;
            default: look("digest()", x.digest(), model.digest()); break;
        }
    }

    private void goOne(int person) {
        int room = some(4);
        look("go(" + person + ", " + room + ")", x.go(person, room), model.go(person, room));
    }

    private void sellOne(int person, int to) {
        int which = some(2);
        look("sell(" + person + ", " + which + ", " + to + ")",
            x.sell(person, which, to), model.sell(person, which, to));
    }

    private void quarrelOf(int a, int b, boolean yes) {
        look("quarrel(" + a + ", " + b + ", " + yes + ")", x.quarrel(a, b, yes), model.quarrel(a, b, yes));
    }

    private void movesOf(int person) {
        int what = from10(5);
        look("moves(" + person + ", " + what + ")", x.moves(person, what), model.moves(person, what));
    }

    private void daysOf(int people) {
        int what = from10(3);
        look("days(" + people + ", " + what + ")", x.days(people, what), model.days(people, what));
    }

    /** What is heard is mostly so of some holders, or nearly none would ever be left. */
    private void hearOf(int person, int company, boolean yes) {
        boolean told = random.nextInt(4) > 0 ? model.written(person, company) == 1 : yes;
        look("hear(" + person + ", " + company + ", " + told + ")",
            x.hear(person, company, told), model.hear(person, company, told));
        if (random.nextInt(8) == 0) {
            look("forget()", x.forget(), model.forget());
        }
    }

    private void yearsOf() {
        int times = 1 + some(60);
        int seed = random.nextInt(10) == 0 ? some(2) : random.nextInt(Integer.MAX_VALUE);
        int what = some(3);
        look("years(" + times + ", " + seed + ", " + what + ")",
            x.years(times, seed, what), model.years(times, seed, what));
    }

    private void keepOrGoBack() {
        if (random.nextInt(3) == 0) {
            look("image()", x.image(), model.image());
        } else {
            look("restore()", x.restore(), model.restore());
        }
    }
}
