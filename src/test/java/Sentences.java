import java.util.concurrent.Callable;

/** Tests of the document's sentences that name a boundary case, each sentence with a test of its own. */
final class Sentences {
    static final int MIN = Integer.MIN_VALUE;
    static final int MAX = Integer.MAX_VALUE;

    static final int FULL = 1;
    static final int OUTSIDE = 2;
    static final int BARRED = 3;
    static final int OVERLAP = 4;
    static final int CLASH = 5;

    /** Numbers that oneOfEach() has not given. */
    static final int[] NOT_GIVEN = {
        MIN, MIN + 1000, -7000, -2000, -1000, -1, 0, 1, 7, 999, 1003, 1020, 1999, 2001, 2020, 2999, 3002, 3060,
        3999, 4001, 4060, 4999, 5001, 5010, 5999, 6001, 6010, 6999, 7001, 7008, 7999, 8000, 8001, 9000, 100000, MAX};

    /** A handle of each kind, from 1 on, that oneOfEach() has given. */
    static final int[] GIVEN = {1000, 2000, 3000, 4000, 5000, 6000, 7000};

    private final Answers answers = new Answers();
    private String sentence = "";
    private int tests = 0;

    /** A test of one sentence; one that asks for nothing has failed. */
    void test(String where, String words, Runnable body) {
        sentence = where + " \"" + words + "\": ";
        tests++;
        int before = answers.asked();
        due("the test ran to its end", "done", () -> {
            body.run();
            return "done";
        });
        due("the test asked", true, () -> answers.asked() > before + 2);
    }

    void due(String what, Object want, Callable<?> call) {
        answers.due(sentence + what, want, call);
    }

    void index(String what, Callable<?> call) {
        answers.index(sentence + what, call);
    }

    void argument(String what, Callable<?> call) {
        answers.argument(sentence + what, call);
    }

    void state(String what, Callable<?> call) {
        answers.state(sentence + what, call);
    }

    /** A call that is to be refused, and why. */
    void refused(String what, BoardHouse b, int why, Callable<?> call) {
        String got = Answers.of(call);
        due(what + " refused", true, () -> got.equals("-1") || got.equals("false"));
        due(what + " told", why, b::told);
    }

    void finish(String name) {
        System.out.println(name + ": " + tests + " sentences");
        answers.finish(name);
    }

    /** A house with three nets: 1000, 1001, 1002. */
    static BoardHouse house(int layers, int gap) {
        BoardHouse b = new BoardHouse(layers, gap);
        for (int i = 0; i < 3; i++) {
            b.net();
        }
        return b;
    }

    /** Two layers, gap 0; of kind 3 a pad, 3000, and a via, 3001, of each other kind but nets one; the act is open. */
    static BoardHouse oneOfEach() {
        BoardHouse b = house(2, 0);
        b.part(2, 2, 0, 0, 0);
        b.pad(2000, 1000, 0, 0);
        b.via(1000, 9, 9);
        b.track(1000, 0, 12, 9, 15, 9);
        b.plane(1000, 0);
        b.version();
        b.begin(30, 22, 31, 23);
        return b;
    }

    /** The handles of oneOfEach() that are not of a kind. */
    static int[] ofOtherKind(int kind) {
        return java.util.Arrays.stream(GIVEN).filter(h -> h / 1000 != kind).toArray();
    }

    /** What can be seen of the first things of each kind, and of all together. */
    static String standing(BoardHouse b) {
        StringBuilder text = new StringBuilder();
        for (int kind = 2; kind <= 5; kind++) {
            text.append(b.count(kind)).append(' ');
            for (int n = 0; n < 4; n++) {
                for (int what = 0; what <= 2; what++) {
                    int handle = 1000 * kind + n;
                    int w = what;
                    text.append(Answers.of(() -> b.at(handle, w))).append(' ');
                }
            }
        }
        return text.append(b.check()).append(' ').append(b.islands(1000)).toString();
    }
}
