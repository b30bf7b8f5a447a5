/** Promise 3: begin. */
public final class Promise03BeginTest {
    public static void main(String[] args) {
        name();
        notKnown();
        wrongAge();
        open();
        committing();
        aborting();
        theFortieth();
        fortyOfSeveralNames();
        refusedOnesAreNotCounted();
        begunNow();
        nothingTouchedOrPending();
        answersItsNumber();
        Script.end();
    }

    private static void name() {
        Script.checkRange("promise 3: name 0 .. 3", "4 x init(#) = 0\n", "begin(@, 0)", "0 = 1", "3 = 1");
        Script.check("promise 3: out of range comes before not known", """
                begin(4, -1) throws IllegalArgumentException
                begin(-1, 0) throws IllegalArgumentException
                """);
    }

    private static void notKnown() {
        Script.check("promise 3: not known comes before a wrong age", """
                init(1) = 0
                begin(0, 0) throws NoSuchElementException
                begin(0, -1) throws NoSuchElementException
                begin(0, 2147483647) throws NoSuchElementException
                """);
    }

    private static void wrongAge() {
        Script.check("promise 3: an age that is not the AGE", """
                init(0) = 0
                begin(0, 1) throws IllegalStateException
                begin(0, -1) throws IllegalStateException
                begin(0, -2147483648) throws IllegalStateException
                begin(0, 2147483647) throws IllegalStateException
                init(0) = 1
                begin(0, 0) throws IllegalStateException
                begin(0, 2) throws IllegalStateException
                begin(0, 1) = 1
                """);
    }

    private static void open() {
        Script.check("promise 3: it is OPEN", """
                init(0) = 0
                begin(0, 0) = 1
                begin(0, 0) throws IllegalStateException
                begin(0, 1) throws IllegalStateException
                fact(0, 0) = 1
                fact(0, 2) = 1
                """);
    }

    private static void committing() {
        Script.check("promise 3: it is COMMITTING", """
                init(0) = 0
                begin(0, 0) = 1
                finish(0, 0, true) = 0
                begin(0, 0) throws IllegalStateException
                step() = 3
                begin(0, 0) = 2
                """);
    }

    private static void aborting() {
        Script.check("promise 3: it is ABORTING", """
                init(0) = 0
                begin(0, 0) = 1
                finish(0, 0, false) = 0
                begin(0, 0) throws IllegalStateException
                step() = 3
                begin(0, 0) = 2
                tick(30) = 1
                begin(0, 0) throws IllegalStateException
                begin(0, 1) throws IllegalStateException
                step() = 3
                begin(0, 0) throws IllegalStateException
                begin(0, 1) = 3
                """);
    }

    private static String thirtyNine() {
        StringBuilder rows = new StringBuilder("init(2) = 0\ninit(1) = 0\n");
        for (int number = 1; number <= 39; number++) {
            rows.append("begin(2, 0) = ").append(number).append("\nfinish(2, 0, ");
            rows.append(number % 2 == 0).append(") = 0\nstep() = 23\n");
        }
        return rows.toString();
    }

    private static void theFortieth() {
        Script.check("promise 3: the 40th TRANSACTION is as any other", thirtyNine() + """
                begin(1, 0) = 40
                fact(1, 0) = 1
                fact(1, 2) = 40
                send(1, 0, 3, 0, 8) = 0
                copy(3, 1) = 1
                edge(3, 1) = 0
                finish(1, 0, true) = 1
                step() = 11
                copy(3, 1) = 2
                step() = 12
                step() = 13
                edge(3, 1) = 2
                fetch(3, 0, true) = 0
                """);
        Script.check("promise 3: the 40th TRANSACTION is aborted as any other", thirtyNine() + """
                begin(1, 0) = 40
                send(1, 0, 0, 0, 8) = 0
                tick(30) = 1
                step() = 11
                copy(0, 2) = 2
                step() = 12
                step() = 13
                fetch(0, 0, true) throws NoSuchElementException
                fetch(0, 0, false) = 0
                """);
        Script.check("promise 3: none after the 40th", thirtyNine() + """
                begin(2, 0) = 40
                begin(1, 0) throws IllegalStateException
                finish(2, 0, true) = 0
                step() = 23
                begin(2, 0) throws IllegalStateException
                begin(1, 0) throws IllegalStateException
                init(1) = 1
                begin(1, 1) throws IllegalStateException
                begin(0, 0) throws NoSuchElementException
                begin(4, 0) throws IllegalArgumentException
                fact(2, 0) = 0
                """);
    }

    private static void fortyOfSeveralNames() {
        StringBuilder rows = new StringBuilder("4 x init(#) = 0\n");
        for (int number = 1; number <= 37; number += 4) {
            for (int name = 0; name < 4; name++) {
                rows.append("begin(").append(name).append(", 0) = ").append(number + name).append('\n');
            }
            rows.append("4 x finish(#, 0, true) = 0\nstep() = 3\nstep() = 13\nstep() = 23\nstep() = 33\n");
        }
        Script.check("promise 3: forty of all names together", rows + """
                begin(0, 0) throws IllegalStateException
                begin(1, 0) throws IllegalStateException
                begin(2, 0) throws IllegalStateException
                begin(3, 0) throws IllegalStateException
                """);
    }

    private static void refusedOnesAreNotCounted() {
        Script.check("promise 3: a refused begin uses no number", thirtyNine() + """
                begin(2, 1) throws IllegalStateException
                begin(0, 0) throws NoSuchElementException
                begin(4, 0) throws IllegalArgumentException
                begin(1, 0) = 40
                """);
    }

    private static void begunNow() {
        Script.check("promise 3: begun now, not when it was known", """
                init(0) = 0
                tick(30) = 0
                begin(0, 0) = 1
                tick(29) = 0
                tick(1) = 1
                """);
        Script.check("promise 3: begun now, not when the one before was", """
                init(0) = 0
                begin(0, 0) = 1
                tick(29) = 0
                finish(0, 0, false) = 0
                step() = 3
                begin(0, 0) = 2
                tick(29) = 0
                tick(1) = 1
                """);
        Script.check("promise 3: a refused begin does not begin it anew", """
                init(0) = 0
                begin(0, 0) = 1
                tick(29) = 0
                begin(0, 0) throws IllegalStateException
                tick(1) = 1
                """);
    }

    private static void nothingTouchedOrPending() {
        Script.check("promise 3: nothing is TOUCHED or PENDING in a new TRANSACTION", """
                init(0) = 0
                begin(0, 0) = 1
                send(0, 0, 3, 0, 1) = 0
                pend(0, 0, 0, 0, 7) = 1
                finish(0, 0, false) = 1
                step() = 1
                copy(3, 2) = 2
                step() = 2
                step() = 3
                begin(0, 0) = 2
                fact(0, 3) = 0
                pend(0, 0, 1, 1, 7) = 1
                finish(0, 0, true) = 0
                step() = 3
                edge(0, 4) = -1
                edge(1, 5) = 7
                """);
    }

    private static void answersItsNumber() {
        Script.check("promise 3: numbers in the order in which they were begun", """
                init(3) = 0
                init(0) = 0
                begin(3, 0) = 1
                begin(0, 0) = 2
                fact(3, 2) = 1
                fact(0, 2) = 2
                finish(3, 0, true) = 0
                step() = 33
                begin(3, 0) = 3
                fact(0, 2) = 2
                """);
    }
}
