/** Promise 4: send; and NEXT and RECENT, on which it stands. */
public final class Promise04SendTest {
    private static final String OPEN = """
            init(0) = 0
            begin(0, 0) = 1
            """;

    private static final String ENDED_WITH_TWO = OPEN + """
            2 x send(0, 0, 1, #, 5)
            copy(1, 2) = 2
            finish(0, 0, true) = 1
            step() = 1
            copy(1, 1) = 3
            step() = 2
            step() = 3
            """;

    public static void main(String[] args) {
        name();
        partition();
        sequence();
        value();
        notKnown();
        wrongAge();
        notOpen();
        recentOfSix();
        recentOfFive();
        recentOfFewer();
        recentIsOfTheNameAndAge();
        recentAfterALoss();
        recentTouches();
        recentDoesNoMore();
        recentBelowStart();
        recentInAFullLog();
        notNext();
        nextByPartitionAndName();
        nextOfANewAge();
        nextAfterALoss();
        notNextInAFullLog();
        fullFromStart();
        fullInAll();
        fullByMarkers();
        putAtTheEnd();
        orderOfExceptions();
        Script.end();
    }

    private static void name() {
        String open = "4 x init(#) = 0\n4 x begin(#, 0)\n";
        Script.checkRange("promise 4: name 0 .. 3", open, "send(@, 0, 1, 0, 5)", "0 = 0", "3 = 0");
    }

    private static void partition() {
        Script.checkRange("promise 4: partition 0 .. 3", OPEN, "send(0, 0, @, 0, 5)", "0 = 0", "3 = 0");
    }

    private static void sequence() {
        Script.checkRange("promise 4: sequence 0 .. 1000", OPEN, "send(0, 0, 1, @, 5)", "0 = 0",
                "1000 throws UnsupportedOperationException");
    }

    private static void value() {
        Script.check("promise 4: value is any int", OPEN + """
                send(0, 0, 1, 0, -2147483648) = 0
                send(0, 0, 1, 1, 2147483647) = 1
                send(0, 0, 1, 2, 0) = 2
                send(0, 0, 1, 3, -1) = 3
                copy(1, 4) = 4
                fetch(1, 0, false) = 0
                last() = -2147483648
                fetch(1, 1, false) = 1
                last() = 2147483647
                fetch(1, 2, false) = 2
                last() = 0
                fetch(1, 3, false) = 3
                last() = -1
                """);
    }

    private static void notKnown() {
        Script.check("promise 4: not known", OPEN + """
                send(1, 0, 0, 0, 1) throws NoSuchElementException
                send(3, -1, 3, 1000, 1) throws NoSuchElementException
                """);
    }

    private static void wrongAge() {
        Script.check("promise 4: an age that is not the AGE", OPEN + """
                send(0, 1, 0, 0, 1) throws IllegalStateException
                send(0, -1, 0, 0, 1) throws IllegalStateException
                send(0, -2147483648, 0, 0, 1) throws IllegalStateException
                send(0, 2147483647, 0, 0, 1) throws IllegalStateException
                send(0, 0, 0, 0, 1) = 0
                send(0, 1, 0, 0, 1) throws IllegalStateException
                """);
    }

    private static void notOpen() {
        Script.check("promise 4: it must be OPEN", """
                init(0) = 0
                send(0, 0, 1, 0, 1) throws IllegalStateException
                begin(0, 0) = 1
                send(0, 0, 1, 0, 1) = 0
                copy(1, 1) = 1
                finish(0, 0, true) = 1
                send(0, 0, 1, 0, 1) throws IllegalStateException
                send(0, 0, 1, 1, 1) throws IllegalStateException
                send(0, 0, 0, 0, 1) throws IllegalStateException
                step() = 1
                copy(1, 1) = 2
                step() = 2
                send(0, 0, 1, 0, 1) throws IllegalStateException
                step() = 3
                send(0, 0, 1, 0, 1) throws IllegalStateException
                send(0, 0, 1, 1, 1) throws IllegalStateException
                begin(0, 0) = 2
                finish(0, 0, false) = 0
                send(0, 0, 1, 0, 1) throws IllegalStateException
                send(0, 0, 1, 1, 1) throws IllegalStateException
                """);
    }

    private static void recentOfSix() {
        Script.check("promise 4: of six the last five are RECENT", OPEN + """
                6 x send(0, 0, 0, #, 7)
                send(0, 0, 0, 0, 8) throws UnsupportedOperationException
                send(0, 0, 0, 1, 8) = 1
                send(0, 0, 0, 2, 8) = 2
                send(0, 0, 0, 3, 8) = 3
                send(0, 0, 0, 4, 8) = 4
                send(0, 0, 0, 5, 8) = 5
                send(0, 0, 0, 7, 8) throws UnsupportedOperationException
                send(0, 0, 0, 6, 8) = 6
                send(0, 0, 0, 1, 8) throws UnsupportedOperationException
                send(0, 0, 0, 2, 8) = 2
                """);
    }

    private static void recentOfFive() {
        Script.check("promise 4: of five all are RECENT", OPEN + """
                5 x send(0, 0, 0, #, 7)
                send(0, 0, 0, 0, 8) = 0
                send(0, 0, 0, 4, 8) = 4
                send(0, 0, 0, 6, 8) throws UnsupportedOperationException
                edge(0, 3) = 5
                """);
    }

    private static void recentOfFewer() {
        Script.check("promise 4: of one it is RECENT", OPEN + """
                send(0, 0, 0, 0, 7) = 0
                send(0, 0, 0, 0, 8) = 0
                send(0, 0, 0, 0, 9) = 0
                edge(0, 3) = 1
                """);
    }

    private static void recentIsOfTheNameAndAge() {
        Script.check("promise 4: RECENT is of the NAME, others do not push it out", """
                init(0) = 0
                init(1) = 0
                begin(0, 0) = 1
                begin(1, 0) = 2
                send(0, 0, 3, 0, 7) = 0
                6 x send(1, 0, 3, #, 7)
                3 x plain(3, #)
                send(0, 0, 3, 0, 7) = 0
                send(1, 0, 3, 1, 7) = 2
                send(0, 0, 3, 1, 7) = 10
                """);
        Script.check("promise 4: RECENT is of the AGE", ENDED_WITH_TWO + """
                init(0) = 1
                begin(0, 1) = 2
                send(0, 1, 1, 0, 7) = 3
                send(0, 1, 1, 0, 8) = 3
                """);
        Script.check("promise 4: RECENT is of the partition", OPEN + """
                send(0, 0, 0, 0, 7) = 0
                plain(1, 7) = 0
                send(0, 0, 1, 0, 7) = 1
                send(0, 0, 0, 0, 7) = 0
                send(0, 0, 1, 0, 7) = 1
                """);
    }

    private static void recentAfterALoss() {
        Script.check("promise 4: what is lost is not RECENT, what was before it is again", OPEN + """
                5 x send(0, 0, 0, #, 7)
                copy(0, 5) = 5
                send(0, 0, 0, 5, 7) = 5
                send(0, 0, 0, 0, 7) throws UnsupportedOperationException
                lose(0) = 1
                send(0, 0, 0, 0, 7) = 0
                plain(0, 1) = 5
                send(0, 0, 0, 5, 7) = 6
                """);
    }

    private static void recentTouches() {
        Script.check("promise 4: one of RECENT: the partition is TOUCHED", ENDED_WITH_TWO + """
                begin(0, 0) = 2
                fact(0, 3) = 0
                send(0, 0, 1, 1, 6) = 1
                fact(0, 3) = 2
                finish(0, 0, true) = 1
                step() = 1
                edge(1, 3) = 4
                """);
    }

    private static void recentDoesNoMore() {
        Script.check("promise 4: one of RECENT: no more is done", ENDED_WITH_TWO + """
                begin(0, 0) = 2
                send(0, 0, 1, 0, 6) = 0
                send(0, 0, 1, 1, 6) = 1
                edge(1, 3) = 3
                edge(1, 2) = 3
                edge(1, 1) = 3
                fact(0, 5) = 2
                fetch(1, 0, true) = 0
                last() = 5
                finish(0, 0, false) = 1
                step() = 1
                copy(1, 1) = 4
                fetch(1, 0, true) = 0
                """);
    }

    private static void recentBelowStart() {
        Script.check("promise 4: RECENT and NEXT count what is below START", ENDED_WITH_TWO + """
                trim(1, 3) = 3
                begin(0, 0) = 2
                fact(0, 5) = 2
                send(0, 0, 1, 0, 5) = 0
                send(0, 0, 1, 3, 5) throws UnsupportedOperationException
                send(0, 0, 1, 2, 5) = 3
                """);
    }

    private static void recentInAFullLog() {
        Script.check("promise 4: one of RECENT comes before FULL", OPEN + """
                send(0, 0, 0, 0, 5) = 0
                30 x plain(0, #)
                send(0, 0, 0, 1, 5) = 31
                send(0, 0, 0, 1, 5) = 31
                send(0, 0, 0, 0, 5) = 0
                edge(0, 3) = 32
                """);
    }

    private static void notNext() {
        Script.check("promise 4: it is not NEXT", OPEN + """
                send(0, 0, 2, 1, 1) throws UnsupportedOperationException
                send(0, 0, 2, 1000, 1) throws UnsupportedOperationException
                fact(0, 3) = 0
                send(0, 0, 2, 0, 1) = 0
                send(0, 0, 2, 2, 1) throws UnsupportedOperationException
                send(0, 0, 2, 1, 1) = 1
                send(0, 0, 3, 1, 1) throws UnsupportedOperationException
                fact(0, 3) = 4
                edge(2, 3) = 2
                edge(3, 3) = 0
                """);
    }

    private static void nextByPartitionAndName() {
        Script.check("promise 4: NEXT is of a producer and a partition", """
                init(0) = 0
                init(1) = 0
                begin(0, 0) = 1
                begin(1, 0) = 2
                plain(3, 1) = 0
                send(0, 0, 3, 0, 7) = 1
                send(1, 0, 3, 1, 7) throws UnsupportedOperationException
                send(1, 0, 3, 0, 7) = 2
                send(0, 0, 3, 1, 7) = 3
                send(0, 0, 1, 2, 7) throws UnsupportedOperationException
                send(0, 0, 1, 0, 7) = 0
                fact(0, 3) = 10
                fact(1, 3) = 8
                fact(0, 7) = 2
                fact(1, 7) = 1
                """);
    }

    private static void nextOfANewAge() {
        Script.check("promise 4: NEXT is of an AGE", ENDED_WITH_TWO + """
                init(0) = 1
                begin(0, 1) = 2
                send(0, 1, 1, 2, 7) throws UnsupportedOperationException
                send(0, 1, 1, 1, 7) throws UnsupportedOperationException
                send(0, 1, 1, 0, 7) = 3
                """);
    }

    private static void nextAfterALoss() {
        Script.check("promise 4: NEXT is 0 again when all is lost", OPEN + """
                2 x send(0, 0, 1, #, 7)
                lose(1) = 2
                send(0, 0, 1, 2, 7) throws UnsupportedOperationException
                send(0, 0, 1, 1, 7) throws UnsupportedOperationException
                send(0, 0, 1, 0, 7) = 0
                """);
    }

    private static void notNextInAFullLog() {
        Script.check("promise 4: not NEXT comes before FULL", OPEN + """
                send(0, 0, 0, 0, 5) = 0
                31 x plain(0, #)
                send(0, 0, 0, 2, 5) throws UnsupportedOperationException
                send(0, 0, 0, 1000, 5) throws UnsupportedOperationException
                send(0, 0, 0, 1, 5) throws IllegalStateException
                """);
        Script.check("promise 4: no more RECENT comes before FULL", OPEN + """
                6 x send(0, 0, 0, #, 5)
                26 x plain(0, #)
                send(0, 0, 0, 0, 5) throws UnsupportedOperationException
                send(0, 0, 0, 1, 5) = 1
                send(0, 0, 0, 6, 5) throws IllegalStateException
                """);
    }

    private static void fullFromStart() {
        Script.check("promise 4: FULL with 32 from START on, not with 31", OPEN + """
                31 x plain(0, #)
                send(0, 0, 0, 0, 5) = 31
                send(0, 0, 0, 1, 5) throws IllegalStateException
                send(0, 0, 1, 0, 5) = 0
                copy(0, 40) = 32
                send(0, 0, 0, 1, 5) throws IllegalStateException
                trim(0, 1) = 1
                send(0, 0, 0, 1, 5) = 32
                send(0, 0, 0, 2, 5) throws IllegalStateException
                """);
        Script.check("promise 4: FULL: the partition is not TOUCHED", OPEN + """
                32 x plain(2, #)
                send(0, 0, 2, 0, 5) throws IllegalStateException
                fact(0, 3) = 0
                fact(0, 6) = 0
                edge(2, 3) = 32
                lose(2) = 32
                send(0, 0, 2, 0, 5) = 0
                """);
    }

    private static void fullInAll() {
        StringBuilder rows = new StringBuilder(OPEN);
        for (int end = 32; end <= 384; end += 32) {
            rows.append("32 x plain(1, #)\ncopy(1, 40) = ").append(end);
            rows.append("\ntrim(1, ").append(end).append(") = 32\n");
        }
        Script.check("promise 4: FULL with 400 in all, not with 399", rows + """
                15 x plain(1, #)
                send(0, 0, 1, 0, 8) = 399
                send(0, 0, 1, 1, 8) throws IllegalStateException
                send(0, 0, 1, 2, 8) throws UnsupportedOperationException
                send(0, 0, 1, 0, 8) = 399
                lose(1) = 16
                send(0, 0, 1, 0, 8) = 384
                """);
    }

    private static void fullByMarkers() {
        Script.check("promise 4: a MARKER counts for FULL", """
                init(0) = 0
                init(1) = 0
                begin(0, 0) = 1
                begin(1, 0) = 2
                send(0, 0, 0, 0, 5) = 0
                30 x plain(0, #)
                finish(0, 0, false) = 1
                step() = 1
                edge(0, 3) = 32
                send(1, 0, 0, 0, 5) throws IllegalStateException
                """);
    }

    private static void putAtTheEnd() {
        Script.check("promise 4: DATA is put at the end and belongs to the TRANSACTION", OPEN + """
                plain(2, 1) = 0
                send(0, 0, 2, 0, 6) = 1
                plain(2, 1) = 2
                edge(2, 3) = 3
                edge(2, 2) = 0
                fact(0, 3) = 4
                copy(2, 3) = 3
                edge(2, 1) = 1
                fetch(2, 1, false) = 1
                last() = 6
                fetch(2, 1, true) throws NoSuchElementException
                """);
    }

    private static void orderOfExceptions() {
        Script.check("promise 4: out of range, not known, wrong age or not OPEN, not NEXT", """
                send(0, 5, 4, 0, 1) throws IllegalArgumentException
                send(0, 5, 0, 1001, 1) throws IllegalArgumentException
                send(0, 5, 0, 7, 1) throws NoSuchElementException
                init(0) = 0
                send(0, 5, 0, -1, 1) throws IllegalArgumentException
                send(0, 0, 0, 7, 1) throws IllegalStateException
                begin(0, 0) = 1
                send(0, 5, 0, 1001, 1) throws IllegalArgumentException
                send(0, 5, 0, 7, 1) throws IllegalStateException
                send(0, 0, 0, 7, 1) throws UnsupportedOperationException
                """);
    }
}
