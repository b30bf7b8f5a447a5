/** Promise 10: lose. */
public final class Promise10LoseTest {
    public static void main(String[] args) {
        partition();
        emptyLog();
        nothingCopied();
        someCopied();
        allCopied();
        offsetsAreUsedAgain();
        fullLog();
        lostMarker();
        lostData();
        startStays();
        Script.end();
    }

    private static void partition() {
        Script.checkRange("promise 10: partition 0 .. 3", "4 x plain(#, 1) = 0\n", "lose(@)", "0 = 1", "3 = 1");
    }

    private static void emptyLog() {
        Script.check("promise 10: an empty LOG", """
                lose(0) = 0
                edge(0, 3) = 0
                """);
    }

    private static void nothingCopied() {
        Script.check("promise 10: nothing is below HIGH", """
                2 x plain(1, #)
                lose(1) = 2
                edge(1, 3) = 0
                edge(1, 2) = 0
                lose(1) = 0
                """);
    }

    private static void someCopied() {
        Script.check("promise 10: what is below HIGH is kept, what is at HIGH is lost", """
                5 x plain(0, #)
                2 x plain(1, #)
                copy(0, 2) = 2
                lose(0) = 3
                edge(0, 3) = 2
                edge(0, 2) = 2
                fetch(0, 1, false) = 1
                last() = 1
                edge(1, 3) = 2
                """);
        Script.check("promise 10: one record is lost", """
                5 x plain(0, #)
                copy(0, 4) = 4
                lose(0) = 1
                edge(0, 3) = 4
                """);
    }

    private static void allCopied() {
        Script.check("promise 10: all is below HIGH", """
                5 x plain(0, #)
                copy(0, 5) = 5
                lose(0) = 0
                edge(0, 3) = 5
                edge(0, 2) = 5
                """);
    }

    private static void offsetsAreUsedAgain() {
        Script.check("promise 10: OFFSETS go on from HIGH", """
                3 x plain(0, #)
                copy(0, 2) = 2
                lose(0) = 1
                plain(0, 77) = 2
                copy(0, 9) = 3
                fetch(0, 2, false) = 2
                last() = 77
                """);
    }

    private static void fullLog() {
        Script.check("promise 10: a FULL LOG is FULL no more", """
                32 x plain(0, #)
                plain(0, 1) throws IllegalStateException
                lose(0) = 32
                plain(0, 1) = 0
                """);
    }

    private static void lostMarker() {
        Script.check("promise 10: a MARKER is lost too, and its DATA below HIGH has not ENDED", """
                init(0) = 0
                begin(0, 0) = 1
                send(0, 0, 3, 0, 5) = 0
                copy(3, 1) = 1
                finish(0, 0, false) = 1
                step() = 1
                plain(3, 6) = 2
                lose(3) = 2
                plain(3, 6) = 1
                copy(3, 1) = 2
                edge(3, 1) = 0
                fetch(3, 0, true) throws NoSuchElementException
                step() = 1
                edge(3, 3) = 3
                """);
        Script.check("promise 10: a lost ABORT is no ABORT, and one that stays is", """
                init(0) = 0
                init(1) = 0
                begin(0, 0) = 1
                begin(1, 0) = 2
                send(0, 0, 3, 0, 5) = 0
                send(1, 0, 3, 0, 6) = 1
                finish(0, 0, false) = 1
                step() = 1
                copy(3, 3) = 3
                copy(3, 40) = 3
                finish(1, 0, true) = 1
                step() = 2
                step() = 3
                step() = 11
                lose(3) = 1
                edge(3, 1) = 1
                step() = 11
                copy(3, 1) = 4
                fetch(3, 0, true) = 1
                """);
    }

    private static void lostData() {
        Script.check("promise 10: NEXT goes back, the TRANSACTION and its TOUCHED partitions stay", """
                init(0) = 0
                begin(0, 0) = 1
                3 x send(0, 0, 1, #, 5)
                copy(1, 1) = 1
                lose(1) = 2
                fact(0, 5) = 1
                fact(0, 3) = 2
                fact(0, 2) = 1
                fact(0, 0) = 1
                edge(1, 1) = 0
                """);
        Script.check("promise 10: lost DATA holds STABLE no more", """
                init(0) = 0
                begin(0, 0) = 1
                plain(1, 5) = 0
                copy(1, 1) = 1
                send(0, 0, 1, 0, 5) = 1
                lose(1) = 1
                plain(1, 6) = 1
                copy(1, 1) = 2
                edge(1, 1) = 2
                fetch(1, 1, true) = 1
                """);
    }

    private static void startStays() {
        Script.check("promise 10: START and HIGH stay", """
                4 x plain(2, #)
                copy(2, 3) = 3
                trim(2, 3) = 3
                lose(2) = 1
                edge(2, 0) = 3
                edge(2, 1) = 3
                edge(2, 2) = 3
                edge(2, 3) = 3
                fetch(2, 3, false) throws NoSuchElementException
                """);
    }
}
