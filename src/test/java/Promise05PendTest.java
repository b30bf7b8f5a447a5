/** Promise 5: pend. */
public final class Promise05PendTest {
    private static final String OPEN = """
            init(0) = 0
            begin(0, 0) = 1
            """;

    public static void main(String[] args) {
        name();
        group();
        partition();
        offset();
        notKnown();
        wrongAge();
        notOpen();
        insteadOfWhatWas();
        oneToEight();
        ofTheProducer();
        noMoreThanPending();
        offsetZeroIsPending();
        orderOfExceptions();
        Script.end();
    }

    private static void name() {
        String open = "4 x init(#) = 0\n4 x begin(#, 0)\n";
        Script.checkRange("promise 5: name 0 .. 3", open, "pend(@, 0, 0, 0, 5)", "0 = 1", "3 = 1");
    }

    private static void group() {
        Script.checkRange("promise 5: group 0, 1", OPEN, "pend(0, 0, @, 0, 5)", "0 = 1", "1 = 1");
    }

    private static void partition() {
        Script.checkRange("promise 5: partition 0 .. 3", OPEN, "pend(0, 0, 0, @, 5)", "0 = 1", "3 = 1");
    }

    private static void offset() {
        Script.checkRange("promise 5: offset 0 .. 600", OPEN, "pend(0, 0, 0, 0, @)", "0 = 1", "600 = 1");
    }

    private static void notKnown() {
        Script.check("promise 5: not known", OPEN + """
                pend(1, 0, 0, 0, 0) throws NoSuchElementException
                pend(3, -1, 1, 3, 600) throws NoSuchElementException
                """);
    }

    private static void wrongAge() {
        Script.check("promise 5: an age that is not the AGE", OPEN + """
                pend(0, 1, 0, 0, 0) throws IllegalStateException
                pend(0, -1, 0, 0, 0) throws IllegalStateException
                pend(0, -2147483648, 0, 0, 0) throws IllegalStateException
                pend(0, 2147483647, 0, 0, 0) throws IllegalStateException
                pend(0, 0, 0, 0, 0) = 1
                """);
    }

    private static void notOpen() {
        Script.check("promise 5: it must be OPEN", """
                init(0) = 0
                pend(0, 0, 0, 0, 3) throws IllegalStateException
                begin(0, 0) = 1
                pend(0, 0, 0, 0, 3) = 1
                finish(0, 0, true) = 0
                pend(0, 0, 0, 0, 4) throws IllegalStateException
                pend(0, 0, 0, 1, 4) throws IllegalStateException
                step() = 3
                pend(0, 0, 0, 0, 4) throws IllegalStateException
                edge(0, 4) = 3
                edge(1, 4) = -1
                begin(0, 0) = 2
                finish(0, 0, false) = 0
                pend(0, 0, 0, 0, 4) throws IllegalStateException
                """);
    }

    private static void insteadOfWhatWas() {
        Script.check("promise 5: instead of what was", OPEN + """
                pend(0, 0, 1, 3, 7) = 1
                pend(0, 0, 1, 3, 8) = 1
                pend(0, 0, 1, 3, 8) = 1
                pend(0, 0, 0, 3, 9) = 2
                pend(0, 0, 1, 3, 0) = 2
                finish(0, 0, true) = 0
                step() = 3
                edge(3, 5) = 0
                edge(3, 4) = 9
                """);
    }

    private static void oneToEight() {
        Script.check("promise 5: answers how many are PENDING, up to all eight", OPEN + """
                pend(0, 0, 0, 0, 0) = 1
                pend(0, 0, 1, 0, 600) = 2
                pend(0, 0, 0, 1, 1) = 3
                pend(0, 0, 1, 1, 2) = 4
                pend(0, 0, 0, 2, 3) = 5
                pend(0, 0, 1, 2, 4) = 6
                pend(0, 0, 0, 3, 5) = 7
                pend(0, 0, 1, 3, 6) = 8
                pend(0, 0, 1, 3, 7) = 8
                finish(0, 0, true) = 0
                step() = 3
                edge(0, 4) = 0
                edge(0, 5) = 600
                edge(1, 4) = 1
                edge(1, 5) = 2
                edge(2, 4) = 3
                edge(2, 5) = 4
                edge(3, 4) = 5
                edge(3, 5) = 7
                """);
    }

    private static void ofTheProducer() {
        Script.check("promise 5: each producer has its own", """
                init(0) = 0
                init(3) = 0
                begin(0, 0) = 1
                begin(3, 0) = 2
                pend(0, 0, 0, 0, 1) = 1
                pend(3, 0, 0, 0, 2) = 1
                pend(3, 0, 0, 1, 2) = 2
                finish(0, 0, true) = 0
                step() = 3
                edge(0, 4) = 1
                edge(1, 4) = -1
                """);
    }

    private static void noMoreThanPending() {
        Script.check("promise 5: nothing is COMMITTED yet, and no partition TOUCHED", OPEN + """
                pend(0, 0, 0, 2, 5) = 1
                fact(0, 3) = 0
                edge(2, 4) = -1
                edge(2, 3) = 0
                finish(0, 0, true) = 0
                edge(2, 4) = -1
                """);
    }

    private static void offsetZeroIsPending() {
        Script.check("promise 5: offset 0 goes over a COMMITTED one", OPEN + """
                join(0, 1) = 1
                mark(0, 1, 1, 2, 77) = -1
                pend(0, 0, 0, 2, 0) = 1
                finish(0, 0, true) = 0
                step() = 3
                edge(2, 4) = 0
                """);
    }

    private static void orderOfExceptions() {
        Script.check("promise 5: out of range, not known, then wrong age or not OPEN", """
                pend(0, 5, 2, 0, 0) throws IllegalArgumentException
                pend(0, 5, 0, 4, 0) throws IllegalArgumentException
                pend(0, 5, 0, 0, 601) throws IllegalArgumentException
                pend(0, 5, 0, 0, 600) throws NoSuchElementException
                init(0) = 0
                pend(0, 5, 0, 0, 601) throws IllegalArgumentException
                pend(0, 0, 0, 0, -1) throws IllegalArgumentException
                pend(0, 0, 0, 0, 0) throws IllegalStateException
                """);
    }
}
