/** Promise 11: fetch; and STABLE, on which it stands. */
public final class Promise11FetchTest {
    private static final String TWO_OPEN = """
            init(0) = 0
            init(1) = 0
            begin(0, 0) = 1
            begin(1, 0) = 2
            """;

    public static void main(String[] args) {
        partition();
        offset();
        emptyLog();
        belowStart();
        startIsHigh();
        belowHigh();
        uncommittedAndAborted();
        markersArePassedOver();
        committedBelowStable();
        committedWithoutHigh();
        abortMarkerAtHigh();
        abortMarkerAmongCommitted();
        abortMarkerElsewhere();
        leastOffsetFromThere();
        lastIsItsValue();
        refusedKeepsLast();
        fullLog();
        orderOfExceptions();
        Script.end();
    }

    private static void partition() {
        String four = "4 x plain(#, 1) = 0\n4 x copy(#, 1) = 1\n";
        Script.checkRange("promise 11: partition 0 .. 3", four, "fetch(@, 0, false)", "0 = 0", "3 = 0");
        Script.checkRange("promise 11: partition 0 .. 3", four, "fetch(@, 0, true)", "0 = 0", "3 = 0");
    }

    private static void offset() {
        String one = "plain(0, 1) = 0\ncopy(0, 1) = 1\n";
        Script.checkRange("promise 11: offset 0 .. 600", one, "fetch(0, @, false)", "0 = 0",
                "600 throws NoSuchElementException");
        Script.checkRange("promise 11: offset 0 .. 600", one, "fetch(0, @, true)", "0 = 0",
                "600 throws NoSuchElementException");
    }

    private static void emptyLog() {
        Script.check("promise 11: an empty LOG", """
                fetch(0, 0, false) throws NoSuchElementException
                fetch(0, 0, true) throws NoSuchElementException
                fetch(0, 1, false) throws NoSuchElementException
                """);
    }

    private static void belowStart() {
        Script.check("promise 11: 1 below START, and START", """
                3 x plain(0, #)
                copy(0, 3) = 3
                trim(0, 2) = 2
                fetch(0, 0, false) throws IndexOutOfBoundsException
                fetch(0, 1, false) throws IndexOutOfBoundsException
                fetch(0, 1, true) throws IndexOutOfBoundsException
                fetch(0, 2, false) = 2
                fetch(0, 2, true) = 2
                """);
    }

    private static void startIsHigh() {
        Script.check("promise 11: START at the LOG's end", """
                2 x plain(0, #)
                copy(0, 2) = 2
                trim(0, 2) = 2
                fetch(0, 1, false) throws IndexOutOfBoundsException
                fetch(0, 2, false) throws NoSuchElementException
                fetch(0, 2, true) throws NoSuchElementException
                fetch(0, 3, false) throws NoSuchElementException
                """);
    }

    private static void belowHigh() {
        Script.check("promise 11: 1 below HIGH, HIGH, and the LOG's end", """
                3 x plain(0, #)
                fetch(0, 0, false) throws NoSuchElementException
                copy(0, 2) = 2
                fetch(0, 1, false) = 1
                fetch(0, 1, true) = 1
                fetch(0, 2, false) throws NoSuchElementException
                fetch(0, 2, true) throws NoSuchElementException
                fetch(0, 3, false) throws NoSuchElementException
                copy(0, 1) = 3
                fetch(0, 2, false) = 2
                fetch(0, 3, false) throws NoSuchElementException
                """);
    }

    private static void uncommittedAndAborted() {
        Script.check("promise 11: not committed: DATA of any TRANSACTION", TWO_OPEN + """
                send(0, 0, 2, 0, 11) = 0
                send(1, 0, 2, 0, 12) = 1
                copy(2, 2) = 2
                fetch(2, 0, false) = 0
                fetch(2, 1, false) = 1
                finish(0, 0, false) = 1
                step() = 1
                copy(2, 1) = 3
                fetch(2, 0, false) = 0
                last() = 11
                """);
    }

    private static void markersArePassedOver() {
        Script.check("promise 11: a MARKER is no DATA", """
                init(0) = 0
                begin(0, 0) = 1
                send(0, 0, 2, 0, 11) = 0
                copy(2, 1) = 1
                finish(0, 0, true) = 1
                step() = 1
                copy(2, 1) = 2
                fetch(2, 1, false) throws NoSuchElementException
                fetch(2, 1, true) throws NoSuchElementException
                plain(2, 5) = 2
                copy(2, 1) = 3
                fetch(2, 1, false) = 2
                fetch(2, 1, true) = 2
                last() = 5
                """);
    }

    private static void committedBelowStable() {
        Script.check("promise 11: committed: 1 below STABLE, and STABLE", TWO_OPEN + """
                plain(2, 10) = 0
                send(0, 0, 2, 0, 11) = 1
                plain(2, 13) = 2
                copy(2, 3) = 3
                edge(2, 1) = 1
                fetch(2, 0, true) = 0
                fetch(2, 1, true) throws NoSuchElementException
                fetch(2, 2, true) throws NoSuchElementException
                fetch(2, 2, false) = 2
                finish(0, 0, true) = 1
                step() = 1
                fetch(2, 1, true) throws NoSuchElementException
                copy(2, 1) = 4
                fetch(2, 1, true) = 1
                last() = 11
                fetch(2, 2, true) = 2
                """);
        Script.check("promise 11: committed: what is ENDED above STABLE is not read", TWO_OPEN + """
                send(0, 0, 2, 0, 11) = 0
                send(1, 0, 2, 0, 12) = 1
                copy(2, 2) = 2
                finish(1, 0, true) = 1
                step() = 11
                copy(2, 1) = 3
                edge(2, 1) = 0
                fetch(2, 1, true) throws NoSuchElementException
                finish(0, 0, true) = 1
                step() = 1
                copy(2, 1) = 4
                fetch(2, 1, true) = 1
                """);
    }

    private static void committedWithoutHigh() {
        Script.check("promise 11: committed: what is above HIGH is not read, nor holds STABLE", TWO_OPEN + """
                2 x plain(2, #)
                send(0, 0, 2, 0, 11) = 2
                copy(2, 1) = 1
                edge(2, 1) = 1
                fetch(2, 0, true) = 0
                fetch(2, 1, true) throws NoSuchElementException
                copy(2, 1) = 2
                edge(2, 1) = 2
                fetch(2, 1, true) = 1
                fetch(2, 2, true) throws NoSuchElementException
                copy(2, 1) = 3
                edge(2, 1) = 2
                fetch(2, 2, true) throws NoSuchElementException
                """);
    }

    private static void abortMarkerAtHigh() {
        Script.check("promise 11: committed: an ABORT at HIGH, and below HIGH", """
                init(0) = 0
                begin(0, 0) = 1
                send(0, 0, 2, 0, 11) = 0
                plain(2, 12) = 1
                finish(0, 0, false) = 1
                step() = 1
                copy(2, 2) = 2
                edge(2, 1) = 0
                fetch(2, 0, true) throws NoSuchElementException
                copy(2, 1) = 3
                edge(2, 1) = 3
                fetch(2, 0, true) = 1
                last() = 12
                """);
    }

    private static void abortMarkerAmongCommitted() {
        Script.check("promise 11: committed: only what was aborted is passed over", TWO_OPEN + """
                send(0, 0, 2, 0, 11) = 0
                send(1, 0, 2, 0, 12) = 1
                send(0, 0, 2, 1, 13) = 2
                plain(2, 14) = 3
                copy(2, 4) = 4
                finish(0, 0, false) = 1
                finish(1, 0, true) = 1
                step() = 1
                step() = 11
                copy(2, 2) = 6
                fetch(2, 0, true) = 1
                last() = 12
                fetch(2, 2, true) = 3
                last() = 14
                fetch(2, 4, true) throws NoSuchElementException
                fetch(2, 0, false) = 0
                fetch(2, 2, false) = 2
                """);
        Script.check("promise 11: committed: a later TRANSACTION of the same NAME and AGE", """
                init(0) = 0
                begin(0, 0) = 1
                send(0, 0, 2, 0, 11) = 0
                finish(0, 0, false) = 1
                step() = 1
                copy(2, 2) = 2
                step() = 2
                step() = 3
                begin(0, 0) = 2
                send(0, 0, 2, 1, 12) = 2
                copy(2, 1) = 3
                fetch(2, 0, true) throws NoSuchElementException
                finish(0, 0, true) = 1
                step() = 1
                copy(2, 1) = 4
                fetch(2, 0, true) = 2
                last() = 12
                """);
    }

    private static void abortMarkerElsewhere() {
        Script.check("promise 11: committed: an ABORT in another partition says nothing of this one", """
                init(0) = 0
                begin(0, 0) = 1
                send(0, 0, 0, 0, 11) = 0
                send(0, 0, 1, 0, 12) = 0
                finish(0, 0, false) = 2
                step() = 1
                copy(0, 9) = 2
                copy(1, 9) = 1
                edge(0, 1) = 2
                edge(1, 1) = 0
                fetch(0, 0, true) throws NoSuchElementException
                fetch(1, 0, true) throws NoSuchElementException
                fetch(1, 0, false) = 0
                step() = 2
                step() = 1
                copy(1, 9) = 2
                edge(1, 1) = 2
                fetch(1, 0, true) throws NoSuchElementException
                """);
    }

    private static void leastOffsetFromThere() {
        Script.check("promise 11: the least OFFSET from there on, not below", """
                3 x plain(0, #)
                copy(0, 3) = 3
                fetch(0, 0, false) = 0
                fetch(0, 1, false) = 1
                fetch(0, 2, false) = 2
                fetch(0, 1, true) = 1
                """);
    }

    private static void lastIsItsValue() {
        Script.check("promise 11: its value is LAST", """
                plain(0, 41) = 0
                plain(0, 42) = 1
                plain(1, 43) = 0
                copy(0, 2) = 2
                copy(1, 1) = 1
                fetch(0, 1, false) = 1
                last() = 42
                fetch(1, 0, true) = 0
                last() = 43
                fetch(0, 0, true) = 0
                last() = 41
                """);
    }

    private static void refusedKeepsLast() {
        Script.check("promise 11: a refused fetch keeps LAST", """
                2 x plain(0, 7)
                plain(0, 8) = 2
                copy(0, 2) = 2
                fetch(0, 0, false) = 0
                trim(0, 1) = 1
                fetch(0, 2, false) throws NoSuchElementException
                fetch(0, 0, false) throws IndexOutOfBoundsException
                fetch(0, 601, false) throws IllegalArgumentException
                last() = 7
                """);
    }

    private static void fullLog() {
        Script.check("promise 11: a FULL LOG, its first and its last record", """
                32 x plain(0, #)
                copy(0, 40) = 32
                fetch(0, 0, true) = 0
                fetch(0, 31, true) = 31
                last() = 31
                fetch(0, 32, true) throws NoSuchElementException
                """);
    }

    private static void orderOfExceptions() {
        Script.check("promise 11: out of range, below START, none", """
                plain(0, 1) = 0
                copy(0, 1) = 1
                trim(0, 1) = 1
                fetch(4, 0, false) throws IllegalArgumentException
                fetch(0, -1, false) throws IllegalArgumentException
                fetch(0, 0, false) throws IndexOutOfBoundsException
                fetch(0, 1, false) throws NoSuchElementException
                """);
    }
}
