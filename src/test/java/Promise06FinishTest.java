/** Promise 6: finish. */
public final class Promise06FinishTest {
    private static final String OPEN = """
            init(0) = 0
            begin(0, 0) = 1
            """;

    public static void main(String[] args) {
        name();
        notKnown();
        wrongAge();
        notOpen();
        commitAtHigh();
        commitInEachPartition();
        commitAmongOthers();
        commitAfterALoss();
        commitOfWhatWasSentAgain();
        abortNeedsNoCopy();
        touchedPartitions();
        commitOrAbort();
        orderOfExceptions();
        Script.end();
    }

    private static void name() {
        String open = "4 x init(#) = 0\n4 x begin(#, 0)\n";
        Script.checkRange("promise 6: name 0 .. 3", open, "finish(@, 0, true)", "0 = 0", "3 = 0");
        Script.checkRange("promise 6: name 0 .. 3", open, "finish(@, 0, false)", "0 = 0", "3 = 0");
    }

    private static void notKnown() {
        Script.check("promise 6: not known", OPEN + """
                finish(1, 0, true) throws NoSuchElementException
                finish(3, -1, false) throws NoSuchElementException
                """);
    }

    private static void wrongAge() {
        Script.check("promise 6: an age that is not the AGE", OPEN + """
                finish(0, 1, true) throws IllegalStateException
                finish(0, -1, false) throws IllegalStateException
                finish(0, -2147483648, true) throws IllegalStateException
                finish(0, 2147483647, false) throws IllegalStateException
                fact(0, 0) = 1
                finish(0, 0, true) = 0
                """);
    }

    private static void notOpen() {
        Script.check("promise 6: it must be OPEN", """
                init(0) = 0
                finish(0, 0, true) throws IllegalStateException
                finish(0, 0, false) throws IllegalStateException
                begin(0, 0) = 1
                finish(0, 0, false) = 0
                finish(0, 0, true) throws IllegalStateException
                finish(0, 0, false) throws IllegalStateException
                fact(0, 0) = 3
                step() = 3
                begin(0, 0) = 2
                finish(0, 0, true) = 0
                finish(0, 0, false) throws IllegalStateException
                finish(0, 0, true) throws IllegalStateException
                fact(0, 0) = 2
                step() = 3
                finish(0, 0, true) throws IllegalStateException
                """);
    }

    private static void commitAtHigh() {
        Script.check("promise 6: commit, and DATA is at HIGH: refused; below it: not", OPEN + """
                3 x send(0, 0, 1, #, 5)
                finish(0, 0, true) throws UnsupportedOperationException
                copy(1, 1) = 1
                finish(0, 0, true) throws UnsupportedOperationException
                copy(1, 1) = 2
                finish(0, 0, true) throws UnsupportedOperationException
                fact(0, 0) = 1
                copy(1, 1) = 3
                finish(0, 0, true) = 1
                """);
    }

    private static void commitInEachPartition() {
        for (int late = 0; late < 4; late++) {
            StringBuilder rows = new StringBuilder(OPEN + "4 x send(0, 0, #, 0, 5) = 0\n");
            for (int partition = 0; partition < 4; partition++) {
                rows.append(partition == late ? "" : "copy(" + partition + ", 1) = 1\n");
            }
            Script.check("promise 6: DATA of any partition hinders a commit", rows + """
                    finish(0, 0, true) throws UnsupportedOperationException
                    copy(LATE, 1) = 1
                    finish(0, 0, true) = 4
                    """.replace("LATE", Integer.toString(late)));
        }
    }

    private static void commitAmongOthers() {
        Script.check("promise 6: DATA of others does not hinder a commit", """
                init(0) = 0
                init(1) = 0
                begin(0, 0) = 1
                begin(1, 0) = 2
                send(0, 0, 3, 0, 5) = 0
                copy(3, 1) = 1
                send(1, 0, 3, 0, 5) = 1
                plain(3, 9) = 2
                plain(0, 9) = 0
                finish(0, 0, true) = 1
                finish(1, 0, true) throws UnsupportedOperationException
                copy(3, 1) = 2
                finish(1, 0, true) = 1
                """);
    }

    private static void commitAfterALoss() {
        Script.check("promise 6: what is lost does not hinder a commit", OPEN + """
                2 x send(0, 0, 0, #, 5)
                copy(0, 1) = 1
                finish(0, 0, true) throws UnsupportedOperationException
                lose(0) = 1
                finish(0, 0, true) = 1
                """);
        Script.check("promise 6: TOUCHED stays when all is lost", OPEN + """
                send(0, 0, 0, 0, 5) = 0
                lose(0) = 1
                fact(0, 3) = 1
                finish(0, 0, true) = 1
                step() = 1
                edge(0, 3) = 1
                """);
    }

    private static void commitOfWhatWasSentAgain() {
        Script.check("promise 6: a MARKER that is not below HIGH does not hinder a commit", """
                init(0) = 0
                init(1) = 0
                begin(0, 0) = 1
                begin(1, 0) = 2
                send(0, 0, 2, 0, 5) = 0
                send(1, 0, 2, 0, 5) = 1
                copy(2, 2) = 2
                finish(0, 0, true) = 1
                step() = 1
                edge(2, 3) = 3
                finish(1, 0, true) = 1
                """);
    }

    private static void abortNeedsNoCopy() {
        Script.check("promise 6: no commit, and DATA is not below HIGH", OPEN + """
                send(0, 0, 0, 0, 5) = 0
                send(0, 0, 3, 0, 5) = 0
                finish(0, 0, false) = 2
                fact(0, 0) = 3
                edge(0, 2) = 0
                """);
    }

    private static void touchedPartitions() {
        Script.check("promise 6: none is TOUCHED", OPEN + "finish(0, 0, true) = 0");
        Script.check("promise 6: one is TOUCHED, by three of DATA", OPEN + """
                3 x send(0, 0, 2, #, 5)
                finish(0, 0, false) = 1
                """);
        Script.check("promise 6: all four are TOUCHED", OPEN + """
                4 x send(0, 0, #, 0, 5) = 0
                finish(0, 0, false) = 4
                fact(0, 3) = 15
                """);
        Script.check("promise 6: one is TOUCHED by what was sent again", OPEN + """
                send(0, 0, 2, 0, 5) = 0
                copy(2, 1) = 1
                finish(0, 0, true) = 1
                step() = 1
                copy(2, 1) = 2
                step() = 2
                step() = 3
                begin(0, 0) = 2
                send(0, 0, 2, 0, 5) = 0
                finish(0, 0, true) = 1
                """);
    }

    private static void commitOrAbort() {
        Script.check("promise 6: it is COMMITTING or ABORTING, with its TRANSACTION and AGE", """
                init(0) = 0
                init(1) = 0
                begin(0, 0) = 1
                begin(1, 0) = 2
                finish(1, 0, true) = 0
                fact(1, 0) = 2
                fact(1, 1) = 0
                fact(1, 2) = 2
                fact(0, 0) = 1
                finish(0, 0, false) = 0
                fact(0, 0) = 3
                fact(0, 1) = 0
                fact(0, 2) = 1
                """);
    }

    private static void orderOfExceptions() {
        Script.check("promise 6: out of range, not known, wrong age or not OPEN, not below HIGH", """
                finish(4, 5, true) throws IllegalArgumentException
                finish(0, 5, true) throws NoSuchElementException
                init(0) = 0
                begin(0, 0) = 1
                send(0, 0, 0, 0, 5) = 0
                finish(0, 5, true) throws IllegalStateException
                finish(0, 0, true) throws UnsupportedOperationException
                finish(0, 0, false) = 1
                finish(0, 0, true) throws IllegalStateException
                """);
    }
}
