/** Promise 15: leave; and SHARING as MEMBERS go. */
public final class Promise15LeaveTest {
    public static void main(String[] args) {
        group();
        member();
        noMember();
        groupWithoutMembers();
        theLastOne();
        oneOfFour();
        oneOfThree();
        oneOfTwo();
        groupsAreApart();
        heardAndCommittedStay();
        Script.end();
    }

    private static void group() {
        Script.checkRange("promise 15: group 0, 1", "join(0, 2) = 1\njoin(1, 2) = 1\n", "leave(@, 2)", "0 = 2", "1 = 2");
    }

    private static void member() {
        Script.checkRange("promise 15: member 0 .. 3", "4 x join(1, #)\n", "leave(1, @)", "0 = 5", "3 = 5");
    }

    private static void noMember() {
        Script.check("promise 15: it is no MEMBER", """
                join(0, 0) = 1
                leave(0, 1) throws NoSuchElementException
                leave(1, 0) throws NoSuchElementException
                leave(0, 0) = 2
                leave(0, 0) throws NoSuchElementException
                """);
    }

    private static void groupWithoutMembers() {
        Script.check("promise 15: a group without MEMBERS", """
                leave(0, 0) throws NoSuchElementException
                leave(0, 3) throws NoSuchElementException
                leave(1, 0) throws NoSuchElementException
                leave(2, 0) throws IllegalArgumentException
                leave(0, 4) throws IllegalArgumentException
                join(0, 0) = 1
                """);
    }

    private static void theLastOne() {
        Script.check("promise 15: without MEMBERS nobody has any, and GENERATION has risen", """
                join(0, 1) = 1
                leave(0, 1) = 2
                beat(0, 1, 2) throws NoSuchElementException
                mark(0, 1, 2, 0, 0) throws NoSuchElementException
                tick(30) = 0
                join(0, 1) = 3
                beat(0, 1, 3) = 15
                """);
    }

    private static void oneOfFour() {
        Script.check("promise 15: of four, to the least of those with the fewest", """
                4 x join(1, #)
                leave(1, 2) = 5
                beat(1, 2, 5) throws NoSuchElementException
                beat(1, 0, 5) = 9
                beat(1, 1, 5) = 4
                beat(1, 3, 5) = 2
                """);
        Script.check("promise 15: of four, the least one goes", """
                4 x join(1, #)
                leave(1, 0) = 5
                beat(1, 1, 5) = 5
                beat(1, 2, 5) = 8
                beat(1, 3, 5) = 2
                """);
    }

    private static void oneOfThree() {
        Script.check("promise 15: of three, the one with two goes", """
                3 x join(0, #)
                beat(0, 0, 3) = 3
                leave(0, 0) = 4
                beat(0, 1, 4) = 5
                beat(0, 2, 4) = 10
                """);
        Script.check("promise 15: of three, one with one goes", """
                3 x join(0, #)
                leave(0, 1) = 4
                beat(0, 0, 4) = 3
                beat(0, 2, 4) = 12
                """);
    }

    private static void oneOfTwo() {
        Script.check("promise 15: of two, the other one has all", """
                join(0, 0) = 1
                join(0, 1) = 2
                leave(0, 0) = 3
                beat(0, 1, 3) = 15
                """);
    }

    private static void groupsAreApart() {
        Script.check("promise 15: it stays in the other group", """
                join(0, 0) = 1
                join(1, 0) = 1
                leave(0, 0) = 2
                beat(1, 0, 1) = 15
                beat(0, 0, 2) throws NoSuchElementException
                """);
    }

    private static void heardAndCommittedStay() {
        Script.check("promise 15: COMMITTED offsets stay, and the others are not HEARD", """
                join(0, 0) = 1
                join(0, 1) = 2
                mark(0, 0, 2, 0, 5) = -1
                tick(19) = 0
                leave(0, 0) = 3
                edge(0, 4) = 5
                mark(0, 1, 3, 0, 7) = 5
                tick(1) = 1
                edge(0, 4) = 7
                """);
    }
}
