/** Promises 2 to 7 and 20: init, begin, send, pend, finish, step and fact. */
public final class ProducerTest {
    public static void main(String[] args) {
        init();
        begin();
        beginAtMostForty();
        send();
        sendAgain();
        sendToFullLog();
        pend();
        finish();
        stepCommits();
        stepAborts();
        stepPutsLostMarkersAgain();
        stepTakesTheLeastThatCan();
        stepCommitsPending();
        fact();
        Script.end();
    }

    private static void init() {
        Script.check("promise 2: ages rise", """
                init(-1) throws IllegalArgumentException
                init(4) throws IllegalArgumentException
                init(3) = 0
                fact(3, 0) = 0
                fact(3, 1) = 0
                fact(2, 0) = -1
                init(3) = 1
                init(3) = 2
                fact(3, 1) = 2
                init(0) = 0
                """);
        Script.check("promise 2: an open one is fenced", """
                init(1) = 0
                begin(1, 0) = 1
                send(1, 0, 2, 0, 5) = 0
                init(1) throws IllegalStateException, changed
                fact(1, 0) = 3
                fact(1, 1) = 1
                fact(1, 2) = 1
                fact(1, 3) = 4
                init(1) throws IllegalStateException
                send(1, 0, 2, 1, 5) throws IllegalStateException
                send(1, 1, 2, 0, 5) throws IllegalStateException
                finish(1, 1, true) throws IllegalStateException
                step() = 11
                init(1) throws IllegalStateException
                copy(2, 2) = 2
                step() = 12
                init(1) throws IllegalStateException
                step() = 13
                init(1) = 2
                """);
        Script.check("promise 2: a committing one", """
                init(1) = 0
                begin(1, 0) = 1
                finish(1, 0, true) = 0
                fact(1, 0) = 2
                init(1) throws IllegalStateException
                step() = 13
                init(1) = 1
                """);
    }

    private static void begin() {
        Script.check("promise 3", """
                begin(-1, 0) throws IllegalArgumentException
                begin(4, 0) throws IllegalArgumentException
                begin(0, 0) throws NoSuchElementException
                init(0) = 0
                begin(0, 1) throws IllegalStateException
                begin(0, -1) throws IllegalStateException
                begin(0, 2147483647) throws IllegalStateException
                begin(0, 0) = 1
                fact(0, 0) = 1
                fact(0, 2) = 1
                fact(0, 3) = 0
                begin(0, 0) throws IllegalStateException
                begin(0, 5) throws IllegalStateException
                init(3) = 0
                begin(3, 0) = 2
                finish(0, 0, true) = 0
                begin(0, 0) throws IllegalStateException
                finish(3, 0, false) = 0
                begin(3, 0) throws IllegalStateException
                step() = 3
                begin(0, 0) = 3
                step() = 33
                init(3) = 1
                begin(3, 0) throws IllegalStateException
                begin(3, 1) = 4
                """);
    }

    private static void beginAtMostForty() {
        StringBuilder rows = new StringBuilder("init(2) = 0\ninit(1) = 0\n");
        for (int number = 1; number <= 39; number++) {
            rows.append("begin(2, 0) = ").append(number).append("\nfinish(2, 0, true) = 0\nstep() = 23\n");
        }
        Script.check("promise 3: forty transactions", rows + """
                begin(1, 0) = 40
                begin(2, 0) throws IllegalStateException
                send(1, 0, 3, 0, 8) = 0
                copy(3, 1) = 1
                edge(3, 1) = 0
                finish(1, 0, true) = 1
                step() = 11
                copy(3, 1) = 2
                step() = 12
                step() = 13
                edge(3, 1) = 2
                fetch(3, 0, true) = 0
                begin(1, 0) throws IllegalStateException
                begin(1, 1) throws IllegalStateException
                init(1) = 1
                begin(1, 1) throws IllegalStateException
                """);
    }

    private static void send() {
        Script.check("promise 4: wrong numbers", """
                send(0, 0, 4, 0, 1) throws IllegalArgumentException
                send(0, 0, 0, 0, 1) throws NoSuchElementException
                init(0) = 0
                send(0, 1, 0, 1001, 1) throws IllegalArgumentException
                send(0, 0, 0, 0, 1) throws IllegalStateException
                begin(0, 0) = 1
                send(-1, 0, 0, 0, 1) throws IllegalArgumentException
                send(4, 0, 0, 0, 1) throws IllegalArgumentException
                send(0, 0, -1, 0, 1) throws IllegalArgumentException
                send(0, 0, 4, 0, 1) throws IllegalArgumentException
                send(0, 0, 0, -1, 1) throws IllegalArgumentException
                send(0, 0, 0, 1001, 1) throws IllegalArgumentException
                send(1, 0, 0, 0, 1) throws NoSuchElementException
                send(0, 1, 0, 0, 1) throws IllegalStateException
                send(0, -1, 0, 0, 1) throws IllegalStateException
                send(0, 0, 0, 1000, 1) throws UnsupportedOperationException
                send(0, 0, 0, 1, 1) throws UnsupportedOperationException
                fact(0, 3) = 0
                """);
        Script.check("promise 4: sequences by partition and name", """
                init(0) = 0
                init(1) = 0
                begin(0, 0) = 1
                begin(1, 0) = 2
                plain(3, 1) = 0
                send(0, 0, 3, 0, -2147483648) = 1
                send(1, 0, 3, 0, 2147483647) = 2
                send(0, 0, 3, 1, 5) = 3
                send(0, 0, 1, 0, 6) = 0
                fact(0, 3) = 10
                fact(1, 3) = 8
                fact(0, 7) = 2
                fact(1, 7) = 1
                edge(3, 3) = 4
                copy(3, 40) = 4
                fetch(3, 1, false) = 1
                last() = -2147483648
                fetch(3, 2, false) = 2
                last() = 2147483647
                finish(0, 0, false) = 2
                send(0, 0, 3, 2, 5) throws IllegalStateException
                send(0, 0, 3, 1, 5) throws IllegalStateException
                """);
        Script.check("promise 4: a new age counts from 0", """
                init(0) = 0
                begin(0, 0) = 1
                send(0, 0, 2, 0, 5) = 0
                send(0, 0, 2, 1, 6) = 1
                finish(0, 0, false) = 1
                step() = 1
                copy(2, 3) = 3
                step() = 2
                step() = 3
                init(0) = 1
                begin(0, 1) = 2
                send(0, 1, 2, 2, 7) throws UnsupportedOperationException
                send(0, 1, 2, 1, 7) throws UnsupportedOperationException
                send(0, 1, 2, 0, 7) = 3
                """);
    }

    private static void sendAgain() {
        Script.check("promise 4: the last five are answered again", """
                init(0) = 0
                init(1) = 0
                begin(0, 0) = 1
                begin(1, 0) = 2
                6 x send(0, 0, 0, #, 7)
                send(1, 0, 0, 0, 1) = 6
                plain(0, 9) = 7
                send(0, 0, 0, 0, 8) throws UnsupportedOperationException
                send(0, 0, 0, 1, 8) = 1
                send(0, 0, 0, 5, 8) = 5
                send(0, 0, 0, 7, 8) throws UnsupportedOperationException
                edge(0, 3) = 8
                copy(0, 40) = 8
                fetch(0, 1, false) = 1
                last() = 7
                send(0, 0, 0, 6, 8) = 8
                send(0, 0, 0, 1, 8) throws UnsupportedOperationException
                lose(0) = 1
                send(0, 0, 0, 1, 8) = 1
                send(0, 0, 0, 0, 8) throws UnsupportedOperationException
                """);
        Script.check("promise 4: one sent again touches", """
                init(0) = 0
                begin(0, 0) = 1
                send(0, 0, 3, 0, 5) = 0
                copy(3, 1) = 1
                finish(0, 0, true) = 1
                step() = 1
                copy(3, 1) = 2
                step() = 2
                step() = 3
                begin(0, 0) = 2
                fact(0, 3) = 0
                send(0, 0, 3, 0, 6) = 0
                fact(0, 3) = 8
                edge(3, 3) = 2
                edge(3, 1) = 2
                finish(0, 0, true) = 1
                step() = 1
                edge(3, 3) = 3
                """);
        Script.check("promise 4: records below start count", """
                init(0) = 0
                begin(0, 0) = 1
                2 x send(0, 0, 1, #, 5)
                copy(1, 2) = 2
                finish(0, 0, true) = 1
                step() = 1
                copy(1, 1) = 3
                trim(1, 3) = 3
                step() = 2
                step() = 3
                begin(0, 0) = 2
                fact(0, 5) = 2
                send(0, 0, 1, 0, 5) = 0
                send(0, 0, 1, 3, 5) throws UnsupportedOperationException
                send(0, 0, 1, 2, 5) = 3
                """);
    }

    private static void sendToFullLog() {
        Script.check("promise 4: full", """
                init(0) = 0
                begin(0, 0) = 1
                send(0, 0, 0, 0, 5) = 0
                30 x plain(0, #)
                send(0, 0, 0, 1, 5) = 31
                send(0, 0, 0, 2, 5) throws IllegalStateException
                send(0, 0, 0, 3, 5) throws UnsupportedOperationException
                send(0, 0, 0, 1, 5) = 31
                send(0, 0, 0, 0, 5) = 0
                edge(0, 3) = 32
                """);
    }

    private static void pend() {
        Script.check("promise 5", """
                pend(0, 0, 0, 0, 0) throws NoSuchElementException
                init(0) = 0
                pend(0, 0, 0, 0, 0) throws IllegalStateException
                begin(0, 0) = 1
                pend(4, 0, 0, 0, 0) throws IllegalArgumentException
                pend(-1, 0, 0, 0, 0) throws IllegalArgumentException
                pend(0, 0, 2, 0, 0) throws IllegalArgumentException
                pend(0, 0, -1, 0, 0) throws IllegalArgumentException
                pend(0, 0, 0, 4, 0) throws IllegalArgumentException
                pend(0, 0, 0, -1, 0) throws IllegalArgumentException
                pend(0, 0, 0, 0, 601) throws IllegalArgumentException
                pend(0, 0, 0, 0, -1) throws IllegalArgumentException
                pend(0, 1, 0, 0, 0) throws IllegalStateException
                pend(1, 0, 0, 0, 0) throws NoSuchElementException
                pend(0, 0, 0, 0, 0) = 1
                pend(0, 0, 1, 0, 600) = 2
                pend(0, 0, 0, 3, 7) = 3
                pend(0, 0, 0, 3, 8) = 3
                pend(0, 0, 1, 3, 9) = 4
                fact(0, 3) = 0
                edge(0, 4) = -1
                finish(0, 0, true) = 0
                pend(0, 0, 0, 0, 0) throws IllegalStateException
                edge(0, 4) = -1
                step() = 3
                edge(0, 4) = 0
                edge(0, 5) = 600
                edge(3, 4) = 8
                edge(3, 5) = 9
                edge(1, 4) = -1
                begin(0, 0) = 2
                pend(0, 0, 1, 1, 4) = 1
                """);
    }

    private static void finish() {
        Script.check("promise 6: wrong calls", """
                finish(0, 0, true) throws NoSuchElementException
                init(0) = 0
                finish(0, 0, true) throws IllegalStateException
                begin(0, 0) = 1
                finish(4, 0, true) throws IllegalArgumentException
                finish(-1, 0, true) throws IllegalArgumentException
                finish(0, 1, true) throws IllegalStateException
                finish(0, -1, false) throws IllegalStateException
                finish(1, 0, false) throws NoSuchElementException
                finish(0, 0, false) = 0
                finish(0, 0, false) throws IllegalStateException
                finish(0, 0, true) throws IllegalStateException
                fact(0, 0) = 3
                """);
        Script.check("promise 6: commit needs both disks", """
                init(0) = 0
                init(1) = 0
                begin(0, 0) = 1
                begin(1, 0) = 2
                send(0, 0, 0, 0, 5) = 0
                send(0, 0, 3, 0, 5) = 0
                send(0, 0, 3, 1, 5) = 1
                send(1, 0, 3, 0, 5) = 2
                plain(0, 9) = 1
                finish(0, 0, true) throws UnsupportedOperationException
                copy(0, 1) = 1
                finish(0, 0, true) throws UnsupportedOperationException
                copy(3, 1) = 1
                finish(0, 0, true) throws UnsupportedOperationException
                fact(0, 0) = 1
                copy(3, 1) = 2
                finish(0, 0, true) = 2
                fact(0, 0) = 2
                fact(0, 2) = 1
                fact(0, 3) = 9
                finish(1, 0, true) throws UnsupportedOperationException
                finish(1, 0, false) = 1
                fact(1, 0) = 3
                """);
        Script.check("promise 6: what is lost does not hinder", """
                init(0) = 0
                begin(0, 0) = 1
                send(0, 0, 0, 0, 5) = 0
                finish(0, 0, true) throws UnsupportedOperationException
                lose(0) = 1
                finish(0, 0, true) = 1
                step() = 1
                edge(0, 3) = 1
                """);
    }

    private static void stepCommits() {
        Script.check("promise 7: a commit over two partitions", """
                init(3) = 0
                begin(3, 0) = 1
                send(3, 0, 2, 0, 7) = 0
                send(3, 0, 0, 0, 8) = 0
                step() = -1
                copy(0, 1) = 1
                copy(2, 1) = 1
                finish(3, 0, true) = 2
                step() = 31
                edge(0, 3) = 2
                edge(2, 3) = 1
                step() = 31
                edge(2, 3) = 2
                step() = -1
                copy(2, 1) = 2
                step() = 32
                fact(3, 3) = 1
                step() = -1
                fact(3, 0) = 2
                copy(0, 1) = 2
                step() = 32
                fact(3, 3) = 0
                fact(3, 2) = 1
                step() = 33
                fact(3, 0) = 0
                fact(3, 2) = 0
                step() = -1
                fetch(0, 0, true) = 0
                last() = 8
                fetch(2, 0, true) = 0
                last() = 7
                """);
    }

    private static void stepAborts() {
        Script.check("promise 7: an abort", """
                init(0) = 0
                begin(0, 0) = 1
                send(0, 0, 1, 0, 7) = 0
                pend(0, 0, 0, 0, 5) = 1
                finish(0, 0, false) = 1
                step() = 1
                step() = -1
                copy(1, 1) = 1
                step() = -1
                copy(1, 1) = 2
                step() = 2
                step() = 3
                edge(0, 4) = -1
                fetch(1, 0, true) throws NoSuchElementException
                fetch(1, 0, false) = 0
                begin(0, 0) = 2
                finish(0, 0, true) = 0
                step() = 3
                edge(0, 4) = -1
                """);
        Script.check("promise 7: markers fit into a full log", """
                init(0) = 0
                begin(0, 0) = 1
                send(0, 0, 1, 0, 7) = 0
                31 x plain(1, #)
                plain(1, 1) throws IllegalStateException
                finish(0, 0, false) = 1
                step() = 1
                edge(1, 3) = 33
                plain(1, 1) throws IllegalStateException
                """);
    }

    private static void stepPutsLostMarkersAgain() {
        Script.check("promise 7: a lost marker is put again", """
                init(0) = 0
                begin(0, 0) = 1
                send(0, 0, 1, 0, 7) = 0
                copy(1, 1) = 1
                finish(0, 0, true) = 1
                step() = 1
                step() = -1
                lose(1) = 1
                step() = 1
                step() = -1
                copy(1, 5) = 2
                lose(1) = 0
                step() = 2
                step() = 3
                """);
    }

    private static void stepTakesTheLeastThatCan() {
        Script.check("promise 7: the least name and partition for which it can", """
                init(0) = 0
                init(1) = 0
                init(2) = 0
                begin(2, 0) = 1
                begin(1, 0) = 2
                begin(0, 0) = 3
                send(2, 0, 0, 0, 1) = 0
                send(2, 0, 3, 0, 1) = 0
                send(1, 0, 1, 0, 1) = 0
                finish(2, 0, false) = 2
                finish(1, 0, false) = 1
                step() = 11
                step() = 21
                step() = 21
                step() = -1
                copy(3, 9) = 2
                step() = 22
                fact(2, 3) = 1
                lose(0) = 2
                copy(1, 9) = 2
                step() = 12
                step() = 13
                step() = 21
                edge(0, 3) = 1
                copy(0, 9) = 1
                step() = 22
                step() = 23
                step() = -1
                fact(0, 0) = 1
                """);
    }

    private static void stepCommitsPending() {
        Script.check("promise 7: pending offsets go over what was marked", """
                join(0, 0) = 1
                mark(0, 0, 1, 2, 11) = -1
                mark(0, 0, 1, 1, 12) = -1
                init(0) = 0
                begin(0, 0) = 1
                pend(0, 0, 0, 2, 3) = 1
                finish(0, 0, true) = 0
                mark(0, 0, 1, 2, 13) = 11
                step() = 3
                edge(2, 4) = 3
                edge(1, 4) = 12
                edge(2, 5) = -1
                mark(0, 0, 1, 2, 14) = 3
                begin(0, 0) = 2
                finish(0, 0, true) = 0
                step() = 3
                edge(2, 4) = 14
                """);
    }

    private static void fact() {
        Script.check("promise 20", """
                fact(-1, 0) throws IllegalArgumentException
                fact(4, 0) throws IllegalArgumentException
                fact(0, -1) throws IllegalArgumentException
                fact(0, 8) throws IllegalArgumentException
                fact(2, 0) = -1
                fact(2, 5) = -1
                init(2) = 0
                init(2) = 1
                fact(2, 0) = 0
                fact(2, 1) = 1
                fact(2, 2) = 0
                fact(2, 3) = 0
                fact(2, 4) = 0
                begin(2, 1) = 1
                fact(2, 0) = 1
                send(2, 1, 0, 0, 9) = 0
                3 x send(2, 1, 3, #, 9)
                send(2, 1, 1, 0, 9) = 0
                fact(2, 2) = 1
                fact(2, 3) = 11
                fact(2, 4) = 1
                fact(2, 5) = 1
                fact(2, 6) = 0
                fact(2, 7) = 3
                fact(1, 7) = -1
                copy(3, 1) = 1
                lose(3) = 2
                fact(2, 7) = 1
                lose(0) = 1
                fact(2, 4) = 0
                fact(2, 3) = 11
                init(2) throws IllegalStateException, changed
                fact(2, 0) = 3
                fact(2, 1) = 2
                fact(2, 7) = 0
                fact(2, 2) = 1
                fact(2, 3) = 11
                """);
    }
}
