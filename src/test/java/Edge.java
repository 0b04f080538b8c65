import java.util.function.IntUnaryOperator;

/** One number of one call: what is answered just within its bounds, and just beyond them. */
final class Edge {
    private final Due due;
    private final String name;
    private final IntUnaryOperator call;

    Edge(Due due, String name, IntUnaryOperator call) {
        this.due = due;
        this.name = name;
        this.call = call;
    }

    Edge answers(int number, int answer) {
        due.is(name + " " + number, call.applyAsInt(number), answer);
        return this;
    }

    /** All below least and above most are refused: the next ones are asked, and the farthest. */
    Edge refuses(int least, int most, int answer) {
        for (int far = 1; far <= 3; far++) {
            answers(least - far, answer);
            answers(most + far, answer);
        }
        return answers(Integer.MIN_VALUE, answer).answers(Integer.MAX_VALUE, answer);
    }
}
