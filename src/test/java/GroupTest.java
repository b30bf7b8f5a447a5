/** Promises 14 to 18 and SHARING: join, leave, beat, mark and tick. */
public final class GroupTest {
    public static void main(String[] args) {
        join();
        leave();
        sharing();
        beat();
        mark();
        tickProducers();
        tickMembers();
        tickBoth();
        Script.end();
    }

    private static void join() {
        Script.check("promise 14", """
                join(-1, 0) throws IllegalArgumentException
                join(2, 0) throws IllegalArgumentException
                join(0, -1) throws IllegalArgumentException
                join(0, 4) throws IllegalArgumentException
                join(0, 3) = 1
                join(0, 3) throws IllegalStateException
                beat(0, 3, 1) = 15
                join(1, 3) = 1
                join(0, 0) = 2
                beat(0, 3, 2) = 3
                beat(0, 0, 2) = 12
                beat(1, 3, 1) = 15
                join(0, 1) = 3
                join(0, 2) = 4
                join(0, 0) throws IllegalStateException
                """);
        Script.check("promise 14: heard when it joins", """
                tick(30) = 0
                join(0, 1) = 1
                tick(19) = 0
                join(0, 2) = 2
                tick(1) = 1
                tick(18) = 0
                tick(1) = 1
                """);
    }

    private static void leave() {
        Script.check("promise 15", """
                leave(-1, 0) throws IllegalArgumentException
                leave(2, 0) throws IllegalArgumentException
                leave(0, -1) throws IllegalArgumentException
                leave(0, 4) throws IllegalArgumentException
                leave(0, 0) throws NoSuchElementException
                join(0, 0) = 1
                join(0, 1) = 2
                leave(1, 0) throws NoSuchElementException
                leave(0, 2) throws NoSuchElementException
                leave(0, 0) = 3
                leave(0, 0) throws NoSuchElementException
                beat(0, 0, 3) throws NoSuchElementException
                beat(0, 1, 3) = 15
                leave(0, 1) = 4
                beat(0, 1, 4) throws NoSuchElementException
                join(0, 1) = 5
                beat(0, 1, 5) = 15
                """);
    }

    private static void sharing() {
        Script.check("terms: sharing among three", """
                join(0, 3) = 1
                join(0, 2) = 2
                beat(0, 3, 2) = 3
                beat(0, 2, 2) = 12
                join(0, 0) = 3
                beat(0, 2, 3) = 12
                beat(0, 3, 3) = 1
                beat(0, 0, 3) = 2
                leave(0, 2) = 4
                beat(0, 0, 4) = 6
                beat(0, 3, 4) = 9
                join(0, 1) = 5
                beat(0, 0, 5) = 6
                beat(0, 1, 5) = 8
                beat(0, 3, 5) = 1
                """);
        Script.check("terms: sharing among four and back", """
                join(1, 0) = 1
                join(1, 1) = 2
                beat(1, 0, 2) = 3
                beat(1, 1, 2) = 12
                join(1, 2) = 3
                beat(1, 0, 3) = 3
                beat(1, 1, 3) = 4
                beat(1, 2, 3) = 8
                join(1, 3) = 4
                beat(1, 0, 4) = 1
                beat(1, 1, 4) = 4
                beat(1, 2, 4) = 8
                beat(1, 3, 4) = 2
                leave(1, 2) = 5
                beat(1, 0, 5) = 9
                beat(1, 1, 5) = 4
                beat(1, 3, 5) = 2
                leave(1, 0) = 6
                beat(1, 1, 6) = 5
                beat(1, 3, 6) = 10
                leave(1, 3) = 7
                beat(1, 1, 7) = 15
                """);
        Script.check("terms: without members nobody has any", """
                join(0, 2) = 1
                leave(0, 2) = 2
                join(0, 1) = 3
                join(0, 2) = 4
                beat(0, 1, 4) = 3
                beat(0, 2, 4) = 12
                """);
    }

    private static void beat() {
        Script.check("promise 16", """
                beat(-1, 0, 0) throws IllegalArgumentException
                beat(2, 0, 0) throws IllegalArgumentException
                beat(0, -1, 0) throws IllegalArgumentException
                beat(0, 4, 0) throws IllegalArgumentException
                beat(0, 0, 0) throws NoSuchElementException
                join(0, 0) = 1
                beat(0, 1, 7) throws NoSuchElementException
                beat(0, 0, 0) throws IllegalStateException
                beat(0, 0, 2) throws IllegalStateException
                beat(0, 0, -1) throws IllegalStateException
                beat(0, 0, 1) = 15
                tick(19) = 0
                beat(0, 0, 1) = 15
                tick(19) = 0
                beat(0, 0, 2) throws IllegalStateException
                tick(1) = 1
                """);
    }

    private static void mark() {
        Script.check("promise 17", """
                mark(0, 0, 0, 0, 0) throws NoSuchElementException
                join(0, 0) = 1
                join(0, 1) = 2
                mark(-1, 0, 2, 0, 0) throws IllegalArgumentException
                mark(2, 0, 2, 0, 0) throws IllegalArgumentException
                mark(0, -1, 2, 0, 0) throws IllegalArgumentException
                mark(0, 4, 2, 0, 0) throws IllegalArgumentException
                mark(0, 0, 2, -1, 0) throws IllegalArgumentException
                mark(0, 0, 2, 4, 0) throws IllegalArgumentException
                mark(0, 0, 2, 0, -1) throws IllegalArgumentException
                mark(0, 0, 2, 0, 601) throws IllegalArgumentException
                mark(0, 2, 9, 0, 0) throws NoSuchElementException
                mark(0, 0, 1, 0, 0) throws IllegalStateException
                mark(0, 0, 3, 3, 0) throws IllegalStateException
                mark(0, 0, 2, 3, 5) throws UnsupportedOperationException
                mark(0, 0, 2, 0, 0) = -1
                mark(0, 0, 2, 0, 600) = 0
                mark(0, 0, 2, 0, 5) = 600
                mark(0, 0, 2, 1, 6) = -1
                edge(0, 4) = 5
                edge(1, 4) = 6
                edge(0, 5) = -1
                leave(0, 0) = 3
                edge(0, 4) = 5
                mark(0, 1, 3, 0, 7) = 5
                join(1, 3) = 1
                mark(1, 3, 1, 3, 8) = -1
                edge(3, 5) = 8
                """);
        Script.check("promise 17: it is no beat", """
                join(0, 0) = 1
                tick(19) = 0
                mark(0, 0, 1, 0, 5) = -1
                tick(1) = 1
                edge(0, 4) = 5
                """);
    }

    private static void tickProducers() {
        Script.check("promise 18: producers", """
                tick(-1) throws IllegalArgumentException
                tick(31) throws IllegalArgumentException
                tick(30) = 0
                init(0) = 0
                init(1) = 0
                init(2) = 0
                init(3) = 0
                begin(0, 0) = 1
                begin(2, 0) = 2
                tick(1) = 0
                begin(1, 0) = 3
                finish(2, 0, true) = 0
                tick(28) = 0
                fact(0, 0) = 1
                tick(0) = 0
                tick(1) = 1
                fact(0, 0) = 3
                fact(0, 1) = 1
                fact(0, 2) = 1
                fact(1, 0) = 1
                fact(2, 0) = 2
                fact(2, 1) = 0
                fact(3, 0) = 0
                fact(3, 1) = 0
                tick(0) = 0
                tick(30) = 1
                fact(0, 1) = 1
                fact(1, 1) = 1
                step() = 3
                fact(0, 0) = 0
                begin(0, 1) = 4
                tick(29) = 0
                tick(30) = 1
                """);
        Script.check("promise 18: an aborted one's offsets are not committed", """
                init(0) = 0
                begin(0, 0) = 1
                send(0, 0, 3, 0, 4) = 0
                pend(0, 0, 0, 1, 9) = 1
                tick(30) = 1
                finish(0, 0, true) throws IllegalStateException
                finish(0, 1, true) throws IllegalStateException
                step() = 1
                copy(3, 2) = 2
                step() = 2
                step() = 3
                edge(1, 4) = -1
                fetch(3, 0, true) throws NoSuchElementException
                """);
    }

    private static void tickMembers() {
        Script.check("promise 18: members", """
                join(0, 0) = 1
                join(0, 1) = 2
                join(0, 2) = 3
                join(1, 3) = 1
                tick(10) = 0
                beat(0, 1, 3) = 4
                tick(9) = 0
                tick(1) = 3
                beat(0, 0, 4) throws NoSuchElementException
                beat(1, 3, 2) throws NoSuchElementException
                beat(0, 1, 3) throws IllegalStateException
                beat(0, 1, 4) = 15
                join(1, 3) = 3
                tick(0) = 0
                tick(20) = 2
                tick(20) = 0
                join(0, 1) = 6
                join(1, 1) = 5
                """);
    }

    private static void tickBoth() {
        Script.check("promise 18: both are counted", """
                init(0) = 0
                init(3) = 0
                begin(0, 0) = 1
                begin(3, 0) = 2
                join(0, 2) = 1
                join(1, 0) = 1
                join(1, 1) = 2
                tick(30) = 5
                fact(0, 0) = 3
                fact(3, 0) = 3
                join(0, 2) = 3
                join(1, 0) = 4
                """);
    }
}
