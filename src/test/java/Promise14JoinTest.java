/** Promise 14: join; and SHARING as MEMBERS come. */
public final class Promise14JoinTest {
    public static void main(String[] args) {
        group();
        member();
        isAMember();
        fourMembers();
        heardNow();
        refusedIsNotHeard();
        generationRises();
        theFirstHasAll();
        sharingByTwo();
        sharingByThree();
        sharingByFour();
        theExtraGoesToTheLeastThatHasMore();
        groupsAreApart();
        committedStays();
        againAfterAllLeft();
        Script.end();
    }

    private static void group() {
        Script.checkRange("promise 14: group 0, 1", "", "join(@, 2)", "0 = 1", "1 = 1");
    }

    private static void member() {
        Script.checkRange("promise 14: member 0 .. 3", "", "join(1, @)", "0 = 1", "3 = 1");
    }

    private static void isAMember() {
        Script.check("promise 14: it is a MEMBER", """
                join(0, 3) = 1
                join(0, 3) throws IllegalStateException
                join(1, 3) = 1
                join(1, 3) throws IllegalStateException
                beat(0, 3, 1) = 15
                """);
    }

    private static void fourMembers() {
        Script.check("promise 14: a group with four MEMBERS", """
                4 x join(1, #)
                join(1, 0) throws IllegalStateException
                join(1, 1) throws IllegalStateException
                join(1, 2) throws IllegalStateException
                join(1, 3) throws IllegalStateException
                join(1, 4) throws IllegalArgumentException
                beat(1, 0, 4) = 1
                """);
    }

    private static void heardNow() {
        Script.check("promise 14: HEARD now", """
                tick(30) = 0
                join(0, 1) = 1
                tick(19) = 0
                tick(1) = 1
                """);
        Script.check("promise 14: one that comes again is HEARD anew", """
                join(0, 1) = 1
                tick(19) = 0
                leave(0, 1) = 2
                join(0, 1) = 3
                tick(19) = 0
                tick(1) = 1
                """);
        Script.check("promise 14: the others are not HEARD by it", """
                join(0, 1) = 1
                tick(19) = 0
                join(0, 2) = 2
                tick(1) = 1
                beat(0, 1, 3) throws NoSuchElementException
                beat(0, 2, 3) = 15
                """);
    }

    private static void refusedIsNotHeard() {
        Script.check("promise 14: a refused one is not HEARD and raises no GENERATION", """
                join(0, 1) = 1
                tick(19) = 0
                join(0, 1) throws IllegalStateException
                beat(0, 2, 1) throws NoSuchElementException
                tick(1) = 1
                join(0, 0) = 3
                """);
    }

    private static void generationRises() {
        Script.check("promise 14: answers GENERATION, 1 more each time", """
                join(0, 0) = 1
                join(0, 3) = 2
                join(0, 1) = 3
                join(0, 2) = 4
                beat(0, 0, 3) throws IllegalStateException
                beat(0, 0, 4) = 1
                """);
    }

    private static void theFirstHasAll() {
        for (int member = 0; member < 4; member++) {
            Script.check("promise 14: one MEMBER has all", """
                    join(0, M) = 1
                    beat(0, M, 1) = 15
                    """.replace("M", Integer.toString(member)));
        }
    }

    private static void sharingByTwo() {
        Script.check("promise 14: of two, the one that was there keeps its two least", """
                join(0, 3) = 1
                join(0, 0) = 2
                beat(0, 3, 2) = 3
                beat(0, 0, 2) = 12
                """);
        Script.check("promise 14: of two, the one that was there is the lesser", """
                join(0, 1) = 1
                join(0, 2) = 2
                beat(0, 1, 2) = 3
                beat(0, 2, 2) = 12
                """);
    }

    private static void sharingByThree() {
        Script.check("promise 14: of three, the least that has more keeps one more", """
                join(0, 0) = 1
                join(0, 1) = 2
                join(0, 2) = 3
                beat(0, 0, 3) = 3
                beat(0, 1, 3) = 4
                beat(0, 2, 3) = 8
                """);
    }

    private static void sharingByFour() {
        Script.check("promise 14: of four, each has one", """
                4 x join(1, #)
                beat(1, 0, 4) = 1
                beat(1, 1, 4) = 4
                beat(1, 2, 4) = 8
                beat(1, 3, 4) = 2
                """);
        Script.check("promise 14: of four, the last one is the least", """
                join(1, 3) = 1
                join(1, 2) = 2
                join(1, 1) = 3
                join(1, 0) = 4
                beat(1, 3, 4) = 1
                beat(1, 2, 4) = 4
                beat(1, 1, 4) = 2
                beat(1, 0, 4) = 8
                """);
    }

    private static void theExtraGoesToTheLeastThatHasMore() {
        Script.check("promise 14: the EXTRA is not for a least one that has no more than LOW", """
                join(0, 3) = 1
                join(0, 2) = 2
                join(0, 0) = 3
                beat(0, 0, 3) = 2
                beat(0, 2, 3) = 12
                beat(0, 3, 3) = 1
                """);
    }

    private static void groupsAreApart() {
        Script.check("promise 14: the other group is not shared out", """
                join(0, 0) = 1
                join(1, 0) = 1
                join(1, 1) = 2
                beat(0, 0, 1) = 15
                beat(1, 0, 2) = 3
                """);
    }

    private static void committedStays() {
        Script.check("promise 14: COMMITTED offsets stay", """
                join(0, 0) = 1
                mark(0, 0, 1, 3, 8) = -1
                join(0, 1) = 2
                edge(3, 4) = 8
                mark(0, 1, 2, 3, 9) = 8
                """);
    }

    private static void againAfterAllLeft() {
        Script.check("promise 14: a group whose MEMBERS all left", """
                join(0, 2) = 1
                leave(0, 2) = 2
                join(0, 1) = 3
                beat(0, 1, 3) = 15
                join(0, 2) = 4
                beat(0, 1, 4) = 3
                beat(0, 2, 4) = 12
                """);
    }
}
