/** Promise 19: edge; and STABLE, which it answers. */
public final class Promise19EdgeTest {
    public static void main(String[] args) {
        partition();
        what();
        emptyLog();
        allSix();
        stableWithoutTransactions();
        stableAtHigh();
        stableOfTwoTransactions();
        stableOfMarkers();
        fullLog();
        committed();
        changesNothing();
        Script.end();
    }

    private static void partition() {
        for (int what = 0; what < 6; what++) {
            String none = what < 4 ? " = 0" : " = -1";
            Script.checkRange("promise 19: partition 0 .. 3", "", "edge(@, " + what + ")", "0" + none, "3" + none);
        }
    }

    private static void what() {
        Script.checkRange("promise 19: 4 + g of group g 0, 1", "", "edge(0, @)", "0 = 0", "5 = -1");
    }

    private static void emptyLog() {
        Script.check("promise 19: an empty LOG", """
                edge(0, 0) = 0
                edge(0, 1) = 0
                edge(0, 2) = 0
                edge(0, 3) = 0
                edge(0, 4) = -1
                edge(0, 5) = -1
                """);
    }

    private static void allSix() {
        Script.check("promise 19: 0 START, 1 STABLE, 2 HIGH, 3 the length, 4 and 5 COMMITTED", """
                init(0) = 0
                begin(0, 0) = 1
                2 x plain(3, #)
                send(0, 0, 3, 0, 1) = 2
                2 x plain(3, #)
                copy(3, 4) = 4
                trim(3, 1) = 1
                join(0, 1) = 1
                mark(0, 1, 1, 3, 6) = -1
                join(1, 2) = 1
                mark(1, 2, 1, 3, 7) = -1
                edge(3, 0) = 1
                edge(3, 1) = 2
                edge(3, 2) = 4
                edge(3, 3) = 5
                edge(3, 4) = 6
                edge(3, 5) = 7
                4 x edge(2, #) = 0
                edge(2, 4) = -1
                edge(2, 5) = -1
                """);
    }

    private static void stableWithoutTransactions() {
        Script.check("promise 19: STABLE is HIGH without DATA of a TRANSACTION", """
                3 x plain(0, #)
                edge(0, 1) = 0
                copy(0, 1) = 1
                edge(0, 1) = 1
                copy(0, 2) = 3
                edge(0, 1) = 3
                """);
    }

    private static void stableAtHigh() {
        Script.check("promise 19: STABLE is not above HIGH", """
                init(0) = 0
                begin(0, 0) = 1
                2 x plain(0, #)
                send(0, 0, 0, 0, 5) = 2
                copy(0, 1) = 1
                edge(0, 1) = 1
                copy(0, 1) = 2
                edge(0, 1) = 2
                copy(0, 1) = 3
                edge(0, 1) = 2
                """);
        Script.check("promise 19: STABLE is 0 if DATA at 0 has not ENDED", """
                init(0) = 0
                begin(0, 0) = 1
                send(0, 0, 0, 0, 5) = 0
                plain(0, 1) = 1
                edge(0, 1) = 0
                copy(0, 2) = 2
                edge(0, 1) = 0
                """);
    }

    private static void stableOfTwoTransactions() {
        Script.check("promise 19: STABLE is the least of what has not ENDED", """
                init(0) = 0
                init(1) = 0
                begin(0, 0) = 1
                begin(1, 0) = 2
                send(0, 0, 3, 0, 1) = 0
                send(1, 0, 3, 0, 1) = 1
                send(0, 0, 3, 1, 1) = 2
                copy(3, 9) = 3
                edge(3, 1) = 0
                finish(0, 0, false) = 1
                step() = 1
                edge(3, 1) = 0
                copy(3, 9) = 4
                edge(3, 1) = 1
                finish(1, 0, true) = 1
                step() = 2
                step() = 3
                step() = 11
                edge(3, 1) = 1
                copy(3, 9) = 5
                edge(3, 1) = 5
                """);
    }

    private static void stableOfMarkers() {
        Script.check("promise 19: a MARKER without DATA holds STABLE at no place", """
                init(0) = 0
                begin(0, 0) = 1
                send(0, 0, 3, 0, 1) = 0
                lose(3) = 1
                finish(0, 0, true) = 1
                step() = 1
                plain(3, 1) = 1
                edge(3, 1) = 0
                copy(3, 2) = 2
                edge(3, 1) = 2
                """);
        Script.check("promise 19: DATA that has ENDED in another partition holds STABLE here", """
                init(0) = 0
                begin(0, 0) = 1
                send(0, 0, 0, 0, 1) = 0
                send(0, 0, 1, 0, 1) = 0
                copy(0, 1) = 1
                copy(1, 1) = 1
                finish(0, 0, true) = 2
                step() = 1
                copy(0, 1) = 2
                edge(0, 1) = 2
                edge(1, 1) = 0
                """);
    }

    private static void fullLog() {
        Script.check("promise 19: a FULL LOG", """
                32 x plain(0, #)
                edge(0, 3) = 32
                edge(0, 2) = 0
                copy(0, 40) = 32
                edge(0, 2) = 32
                edge(0, 1) = 32
                trim(0, 32) = 32
                edge(0, 0) = 32
                edge(0, 3) = 32
                """);
    }

    private static void committed() {
        Script.check("promise 19: COMMITTED 0 and 600 are not nothing", """
                join(0, 1) = 1
                mark(0, 1, 1, 0, 0) = -1
                edge(0, 4) = 0
                mark(0, 1, 1, 0, 600) = 0
                edge(0, 4) = 600
                edge(0, 5) = -1
                leave(0, 1) = 2
                edge(0, 4) = 600
                """);
    }

    private static void changesNothing() {
        Script.check("promise 19: asked twice, it answers the same", """
                2 x plain(0, #)
                copy(0, 1) = 1
                2 x edge(0, 2) = 1
                2 x edge(0, 3) = 2
                """);
    }
}
