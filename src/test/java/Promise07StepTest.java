/** Promise 7: step; and when a TRANSACTION has ENDED. */
public final class Promise07StepTest {
    public static void main(String[] args) {
        nothingToDo();
        markerAtHighAndBelow();
        nothingTouched();
        risingPartitions();
        laterPartitionFirst();
        leastName();
        laterNameFirst();
        lostMarker();
        lostData();
        markersOfOthers();
        fullFromStart();
        fullInAll();
        commitMarker();
        abortMarker();
        pendingOfACommit();
        pendingOfAnAbort();
        idleAfterwards();
        allFourPartitions();
        Script.end();
    }

    private static void nothingToDo() {
        Script.check("promise 7: -1 if nobody is known, IDLE alone or OPEN alone", """
                step() = -1
                init(0) = 0
                step() = -1
                begin(0, 0) = 1
                step() = -1
                send(0, 0, 1, 0, 5) = 0
                copy(1, 1) = 1
                step() = -1
                edge(1, 3) = 1
                fact(0, 3) = 2
                """);
    }

    private static void markerAtHighAndBelow() {
        Script.check("promise 7: a MARKER at HIGH has not ENDED it, one below HIGH has", """
                init(2) = 0
                begin(2, 0) = 1
                send(2, 0, 1, 0, 5) = 0
                finish(2, 0, false) = 1
                step() = 21
                edge(1, 3) = 2
                step() = -1
                copy(1, 1) = 1
                step() = -1
                edge(1, 1) = 0
                fact(2, 3) = 2
                copy(1, 1) = 2
                edge(1, 1) = 2
                step() = 22
                fact(2, 3) = 0
                fact(2, 0) = 3
                step() = 23
                step() = -1
                """);
    }

    private static void nothingTouched() {
        for (int name = 0; name < 4; name++) {
            Script.check("promise 7: no partition is TOUCHED: IDLE at once", """
                    init(N) = 0
                    begin(N, 0) = 1
                    finish(N, 0, true) = 0
                    step() = X3
                    fact(N, 0) = 0
                    fact(N, 2) = 0
                    step() = -1
                    begin(N, 0) = 2
                    finish(N, 0, false) = 0
                    step() = X3
                    fact(N, 0) = 0
                    step() = -1
                    """.replace("N", Integer.toString(name)).replace("X", name == 0 ? "" : Integer.toString(name)));
        }
    }

    private static void risingPartitions() {
        Script.check("promise 7: by rising TOUCHED partitions, whatever was TOUCHED first", """
                init(3) = 0
                begin(3, 0) = 1
                send(3, 0, 3, 0, 7) = 0
                send(3, 0, 2, 0, 7) = 0
                send(3, 0, 0, 0, 8) = 0
                finish(3, 0, false) = 3
                step() = 31
                edge(0, 3) = 2
                edge(1, 3) = 0
                edge(2, 3) = 1
                edge(3, 3) = 1
                step() = 31
                edge(2, 3) = 2
                edge(3, 3) = 1
                step() = 31
                edge(3, 3) = 2
                step() = -1
                """);
        Script.check("promise 7: the least one goes from 1 to 2 before the next one starts", """
                init(0) = 0
                begin(0, 0) = 1
                send(0, 0, 1, 0, 7) = 0
                send(0, 0, 2, 0, 7) = 0
                finish(0, 0, false) = 2
                step() = 1
                copy(1, 2) = 2
                step() = 2
                fact(0, 3) = 4
                edge(2, 3) = 1
                step() = 1
                edge(2, 3) = 2
                """);
    }

    private static void laterPartitionFirst() {
        Script.check("promise 7: a later partition, when the least one can do nothing", """
                init(0) = 0
                begin(0, 0) = 1
                send(0, 0, 0, 0, 7) = 0
                send(0, 0, 3, 0, 7) = 0
                finish(0, 0, false) = 2
                step() = 1
                step() = 1
                copy(3, 2) = 2
                step() = 2
                fact(0, 3) = 1
                step() = -1
                copy(0, 2) = 2
                step() = 2
                step() = 3
                """);
    }

    private static void leastName() {
        Script.check("promise 7: the least NAME, whichever was begun or finished first", """
                init(1) = 0
                init(3) = 0
                begin(3, 0) = 1
                begin(1, 0) = 2
                send(3, 0, 0, 0, 1) = 0
                send(1, 0, 2, 0, 1) = 0
                finish(3, 0, false) = 1
                finish(1, 0, false) = 1
                step() = 11
                copy(2, 2) = 2
                step() = 12
                step() = 13
                step() = 31
                copy(0, 2) = 2
                step() = 32
                step() = 33
                step() = -1
                """);
    }

    private static void laterNameFirst() {
        Script.check("promise 7: a later NAME, when the least one can do nothing", """
                init(0) = 0
                init(1) = 0
                init(2) = 0
                begin(0, 0) = 1
                begin(1, 0) = 2
                begin(2, 0) = 3
                send(0, 0, 3, 0, 1) = 0
                send(1, 0, 0, 0, 1) = 0
                send(2, 0, 1, 0, 1) = 0
                finish(1, 0, false) = 1
                step() = 11
                step() = -1
                finish(2, 0, false) = 1
                step() = 21
                copy(1, 2) = 2
                step() = 22
                step() = 23
                step() = -1
                copy(0, 2) = 2
                step() = 12
                step() = 13
                fact(0, 0) = 1
                fact(0, 3) = 8
                """);
    }

    private static void lostMarker() {
        Script.check("promise 7: a lost MARKER is put again, one below HIGH is not lost", """
                init(0) = 0
                begin(0, 0) = 1
                send(0, 0, 1, 0, 7) = 0
                copy(1, 1) = 1
                finish(0, 0, true) = 1
                step() = 1
                step() = -1
                lose(1) = 1
                step() = 1
                step() = -1
                edge(1, 3) = 2
                copy(1, 1) = 2
                lose(1) = 0
                step() = 2
                step() = 3
                """);
    }

    private static void lostData() {
        Script.check("promise 7: the MARKER is put, whether or not its DATA is lost", """
                init(0) = 0
                begin(0, 0) = 1
                send(0, 0, 1, 0, 7) = 0
                finish(0, 0, false) = 1
                lose(1) = 1
                step() = 1
                edge(1, 3) = 1
                lose(1) = 1
                step() = 1
                copy(1, 40) = 1
                edge(1, 1) = 1
                step() = 2
                step() = 3
                """);
    }

    private static void markersOfOthers() {
        Script.check("promise 7: another's MARKER, or one in another partition, has not ENDED it", """
                init(0) = 0
                init(1) = 0
                begin(0, 0) = 1
                begin(1, 0) = 2
                send(0, 0, 0, 0, 7) = 0
                send(0, 0, 1, 0, 7) = 0
                send(1, 0, 1, 0, 7) = 1
                finish(0, 0, false) = 2
                step() = 1
                copy(0, 9) = 2
                copy(1, 9) = 2
                step() = 2
                fact(0, 3) = 2
                finish(1, 0, false) = 1
                step() = 1
                step() = 11
                copy(1, 1) = 3
                step() = 2
                step() = 3
                step() = -1
                copy(1, 1) = 4
                step() = 12
                """);
    }

    private static void fullFromStart() {
        Script.check("promise 7: MARKERS fit into a LOG that is FULL from START on", """
                4 x init(#) = 0
                4 x begin(#, 0)
                send(0, 0, 1, 0, 7) = 0
                send(1, 0, 1, 0, 7) = 1
                send(2, 0, 1, 0, 7) = 2
                send(3, 0, 1, 0, 7) = 3
                28 x plain(1, #)
                plain(1, 1) throws IllegalStateException
                4 x finish(#, 0, false) = 1
                step() = 1
                edge(1, 3) = 33
                step() = 11
                step() = 21
                step() = 31
                edge(1, 3) = 36
                plain(1, 1) throws IllegalStateException
                copy(1, 35) = 35
                step() = 2
                step() = 3
                step() = 12
                step() = 13
                step() = 22
                step() = 23
                step() = -1
                copy(1, 1) = 36
                step() = 32
                step() = 33
                """);
    }

    private static void fullInAll() {
        StringBuilder rows = new StringBuilder("init(0) = 0\nbegin(0, 0) = 1\n");
        for (int end = 32; end <= 384; end += 32) {
            rows.append("32 x plain(1, #)\ncopy(1, 40) = ").append(end);
            rows.append("\ntrim(1, ").append(end).append(") = 32\n");
        }
        Script.check("promise 7: a MARKER fits into a LOG of 400 in all", rows + """
                15 x plain(1, #)
                send(0, 0, 1, 0, 8) = 399
                plain(1, 0) throws IllegalStateException
                copy(1, 40) = 400
                finish(0, 0, true) = 1
                step() = 1
                edge(1, 3) = 401
                step() = -1
                copy(1, 1) = 401
                step() = 2
                step() = 3
                fetch(1, 399, true) = 399
                trim(1, 401) = 17
                plain(1, 0) throws IllegalStateException
                """);
    }

    private static void commitMarker() {
        Script.check("promise 7: a COMMITTING one puts COMMIT", """
                init(0) = 0
                begin(0, 0) = 1
                send(0, 0, 1, 0, 7) = 0
                copy(1, 1) = 1
                finish(0, 0, true) = 1
                step() = 1
                copy(1, 1) = 2
                fetch(1, 0, true) = 0
                last() = 7
                fetch(1, 1, false) throws NoSuchElementException
                """);
    }

    private static void abortMarker() {
        Script.check("promise 7: an ABORTING one puts ABORT", """
                init(0) = 0
                begin(0, 0) = 1
                send(0, 0, 1, 0, 7) = 0
                copy(1, 1) = 1
                finish(0, 0, false) = 1
                step() = 1
                copy(1, 1) = 2
                fetch(1, 0, true) throws NoSuchElementException
                fetch(1, 0, false) = 0
                fetch(1, 1, false) throws NoSuchElementException
                """);
    }

    private static void pendingOfACommit() {
        Script.check("promise 7: PENDING offsets are COMMITTED at 3, not before, and once", """
                join(0, 0) = 1
                mark(0, 0, 1, 2, 11) = -1
                mark(0, 0, 1, 1, 12) = -1
                init(0) = 0
                begin(0, 0) = 1
                send(0, 0, 3, 0, 9) = 0
                pend(0, 0, 0, 2, 3) = 1
                pend(0, 0, 1, 3, 600) = 2
                copy(3, 1) = 1
                finish(0, 0, true) = 1
                step() = 1
                edge(2, 4) = 11
                copy(3, 1) = 2
                step() = 2
                edge(2, 4) = 11
                edge(3, 5) = -1
                mark(0, 0, 1, 2, 13) = 11
                step() = 3
                edge(2, 4) = 3
                edge(1, 4) = 12
                edge(2, 5) = -1
                edge(3, 5) = 600
                edge(3, 4) = -1
                mark(0, 0, 1, 2, 14) = 3
                begin(0, 0) = 2
                finish(0, 0, true) = 0
                step() = 3
                edge(2, 4) = 14
                """);
        Script.check("promise 7: PENDING offsets of a group without MEMBERS", """
                init(0) = 0
                begin(0, 0) = 1
                pend(0, 0, 1, 0, 0) = 1
                finish(0, 0, true) = 0
                step() = 3
                edge(0, 5) = 0
                join(1, 0) = 1
                mark(1, 0, 1, 0, 1) = 0
                """);
    }

    private static void pendingOfAnAbort() {
        Script.check("promise 7: PENDING offsets of an ABORTING one are not COMMITTED, nor later", """
                init(0) = 0
                begin(0, 0) = 1
                pend(0, 0, 0, 0, 5) = 1
                finish(0, 0, false) = 0
                step() = 3
                edge(0, 4) = -1
                begin(0, 0) = 2
                finish(0, 0, true) = 0
                step() = 3
                edge(0, 4) = -1
                """);
    }

    private static void idleAfterwards() {
        Script.check("promise 7: IDLE afterwards, with the AGE that it had", """
                init(0) = 0
                init(0) = 1
                begin(0, 1) = 1
                finish(0, 1, true) = 0
                step() = 3
                fact(0, 0) = 0
                fact(0, 1) = 1
                fact(0, 2) = 0
                fact(0, 3) = 0
                tick(30) = 0
                begin(0, 1) = 2
                """);
    }

    private static void allFourPartitions() {
        Script.check("promise 7: all four partitions TOUCHED", """
                init(0) = 0
                begin(0, 0) = 1
                4 x send(0, 0, #, 0, 7) = 0
                4 x copy(#, 1) = 1
                finish(0, 0, true) = 4
                4 x step() = 1
                step() = -1
                4 x edge(#, 3) = 2
                4 x copy(#, 1) = 2
                4 x step() = 2
                step() = 3
                step() = -1
                4 x fetch(#, 0, true) = 0
                """);
    }
}
