/** Promise 17: mark. */
public final class Promise17MarkTest {
    private static final String TWO = """
            join(0, 0) = 1
            join(0, 1) = 2
            """;

    public static void main(String[] args) {
        group();
        member();
        partition();
        offset();
        noMember();
        wrongGeneration();
        notTheMembers();
        whatWasBefore();
        zeroIsSomething();
        afterPending();
        groupsAreApart();
        itIsNoBeat();
        orderOfExceptions();
        Script.end();
    }

    private static void group() {
        Script.checkRange("promise 17: group 0, 1", "join(0, 2) = 1\njoin(1, 2) = 1\n", "mark(@, 2, 1, 0, 5)", "0 = -1",
                "1 = -1");
    }

    private static void member() {
        Script.checkRange("promise 17: member 0 .. 3", "4 x join(0, #)\n", "mark(0, @, 4, 1, 5)",
                "0 throws UnsupportedOperationException", "3 = -1");
        Script.checkRange("promise 17: member 0 .. 3", "4 x join(0, #)\n", "mark(0, @, 4, 0, 5)", "0 = -1",
                "3 throws UnsupportedOperationException");
    }

    private static void partition() {
        Script.checkRange("promise 17: partition 0 .. 3", "join(0, 2) = 1\n", "mark(0, 2, 1, @, 5)", "0 = -1", "3 = -1");
    }

    private static void offset() {
        Script.checkRange("promise 17: offset 0 .. 600", TWO, "mark(0, 0, 2, 0, @)", "0 = -1", "600 = -1");
    }

    private static void noMember() {
        Script.check("promise 17: it is no MEMBER", """
                mark(0, 0, 0, 0, 0) throws NoSuchElementException
                join(0, 0) = 1
                mark(0, 1, 1, 0, 0) throws NoSuchElementException
                mark(1, 0, 1, 0, 0) throws NoSuchElementException
                """);
    }

    private static void wrongGeneration() {
        Script.check("promise 17: a generation that is not the group's", TWO + """
                mark(0, 0, 1, 0, 0) throws IllegalStateException
                mark(0, 0, 3, 0, 0) throws IllegalStateException
                mark(0, 0, -1, 0, 0) throws IllegalStateException
                mark(0, 0, -2147483648, 0, 0) throws IllegalStateException
                mark(0, 0, 2147483647, 0, 0) throws IllegalStateException
                edge(0, 4) = -1
                mark(0, 0, 2, 0, 0) = -1
                """);
    }

    private static void notTheMembers() {
        Script.check("promise 17: the partition is not the MEMBER's", TWO + """
                mark(0, 0, 2, 1, 5) = -1
                mark(0, 0, 2, 2, 5) throws UnsupportedOperationException
                mark(0, 0, 2, 3, 5) throws UnsupportedOperationException
                mark(0, 1, 2, 0, 5) throws UnsupportedOperationException
                mark(0, 1, 2, 1, 6) throws UnsupportedOperationException
                mark(0, 1, 2, 2, 5) = -1
                edge(0, 4) = -1
                edge(1, 4) = 5
                edge(3, 4) = -1
                """);
    }

    private static void whatWasBefore() {
        Script.check("promise 17: answers what was before, -1 for nothing", TWO + """
                mark(0, 0, 2, 0, 600) = -1
                mark(0, 0, 2, 0, 5) = 600
                mark(0, 0, 2, 0, 5) = 5
                mark(0, 0, 2, 0, 4) = 5
                edge(0, 4) = 4
                edge(1, 4) = -1
                leave(0, 0) = 3
                mark(0, 1, 3, 0, 7) = 4
                """);
    }

    private static void zeroIsSomething() {
        Script.check("promise 17: 0 is not nothing", TWO + """
                mark(0, 0, 2, 0, 0) = -1
                mark(0, 0, 2, 0, 0) = 0
                edge(0, 4) = 0
                """);
    }

    private static void afterPending() {
        Script.check("promise 17: what was before may come from a TRANSACTION", TWO + """
                init(0) = 0
                begin(0, 0) = 1
                pend(0, 0, 0, 0, 33) = 1
                mark(0, 0, 2, 0, 32) = -1
                finish(0, 0, true) = 0
                step() = 3
                mark(0, 0, 2, 0, 34) = 33
                """);
    }

    private static void groupsAreApart() {
        Script.check("promise 17: each group has its own", TWO + """
                join(1, 3) = 1
                mark(1, 3, 1, 0, 8) = -1
                edge(0, 5) = 8
                edge(0, 4) = -1
                mark(0, 0, 2, 0, 9) = -1
                edge(0, 5) = 8
                """);
    }

    private static void itIsNoBeat() {
        Script.check("promise 17: it is not HEARD by it", """
                join(0, 0) = 1
                tick(19) = 0
                mark(0, 0, 1, 0, 5) = -1
                tick(1) = 1
                edge(0, 4) = 5
                """);
    }

    private static void orderOfExceptions() {
        Script.check("promise 17: out of range, no MEMBER, wrong generation, not the MEMBER's", TWO + """
                mark(2, 2, 9, 3, 0) throws IllegalArgumentException
                mark(0, 4, 9, 3, 0) throws IllegalArgumentException
                mark(0, 2, 9, 4, 0) throws IllegalArgumentException
                mark(0, 2, 9, 3, 601) throws IllegalArgumentException
                mark(0, 2, 9, 3, 0) throws NoSuchElementException
                mark(0, 0, 9, 3, 0) throws IllegalStateException
                mark(0, 0, 2, 3, 0) throws UnsupportedOperationException
                """);
    }
}
