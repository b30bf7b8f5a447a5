/** Promise 16: beat. */
public final class Promise16BeatTest {
    public static void main(String[] args) {
        group();
        member();
        noMember();
        wrongGeneration();
        heardNow();
        refusedIsNotHeard();
        oneIsHeard();
        answersItsPartitions();
        orderOfExceptions();
        Script.end();
    }

    private static void group() {
        Script.checkRange("promise 16: group 0, 1", "join(0, 2) = 1\njoin(1, 2) = 1\n", "beat(@, 2, 1)", "0 = 15",
                "1 = 15");
    }

    private static void member() {
        Script.checkRange("promise 16: member 0 .. 3", "4 x join(0, #)\n", "beat(0, @, 4)", "0 = 1", "3 = 2");
    }

    private static void noMember() {
        Script.check("promise 16: it is no MEMBER, or one of the other group", """
                beat(0, 0, 0) throws NoSuchElementException
                join(0, 0) = 1
                beat(0, 1, 1) throws NoSuchElementException
                beat(1, 0, 1) throws NoSuchElementException
                beat(1, 0, 0) throws NoSuchElementException
                """);
    }

    private static void wrongGeneration() {
        Script.check("promise 16: a generation that is not the group's", """
                join(0, 0) = 1
                beat(0, 0, 0) throws IllegalStateException
                beat(0, 0, 2) throws IllegalStateException
                beat(0, 0, -1) throws IllegalStateException
                beat(0, 0, -2147483648) throws IllegalStateException
                beat(0, 0, 2147483647) throws IllegalStateException
                beat(0, 0, 1) = 15
                join(0, 1) = 2
                beat(0, 0, 1) throws IllegalStateException
                beat(0, 0, 2) = 3
                join(1, 0) = 1
                beat(1, 0, 2) throws IllegalStateException
                """);
    }

    private static void heardNow() {
        Script.check("promise 16: HEARD now", """
                join(0, 0) = 1
                tick(19) = 0
                beat(0, 0, 1) = 15
                tick(19) = 0
                beat(0, 0, 1) = 15
                tick(19) = 0
                tick(1) = 1
                """);
    }

    private static void refusedIsNotHeard() {
        Script.check("promise 16: a refused one is not HEARD", """
                join(0, 0) = 1
                tick(19) = 0
                beat(0, 0, 2) throws IllegalStateException
                tick(1) = 1
                """);
    }

    private static void oneIsHeard() {
        Script.check("promise 16: no other MEMBER is HEARD, nor itself in the other group", """
                join(0, 0) = 1
                join(0, 1) = 2
                join(1, 0) = 1
                tick(19) = 0
                beat(0, 0, 2) = 3
                tick(1) = 2
                beat(0, 0, 3) = 15
                """);
    }

    private static void answersItsPartitions() {
        Script.check("promise 16: a sum of 2 to their numbers: all, two, one", """
                join(0, 3) = 1
                beat(0, 3, 1) = 15
                join(0, 2) = 2
                beat(0, 3, 2) = 3
                beat(0, 2, 2) = 12
                join(0, 1) = 3
                join(0, 0) = 4
                beat(0, 0, 4) = 8
                beat(0, 1, 4) = 2
                beat(0, 2, 4) = 4
                beat(0, 3, 4) = 1
                """);
    }

    private static void orderOfExceptions() {
        Script.check("promise 16: out of range, no MEMBER, wrong generation", """
                join(0, 0) = 1
                beat(2, 0, 9) throws IllegalArgumentException
                beat(0, 4, 9) throws IllegalArgumentException
                beat(0, 3, 9) throws NoSuchElementException
                beat(0, 0, 9) throws IllegalStateException
                """);
    }
}
