/** Promise 18: tick; and SHARING when several MEMBERS go at once. */
public final class Promise18TickTest {
    public static void main(String[] args) {
        by();
        refusedDoesNotGoOn();
        timeGoesOn();
        begunThirtyBefore();
        begunTwentyNineBefore();
        begunMoreThanThirtyBefore();
        notOpen();
        fencedOnce();
        abortedByTick();
        severalProducers();
        heardTwentyBefore();
        heardNineteenBefore();
        heardMoreThanTwentyBefore();
        generationRisesOnceAGroup();
        nobodyGoes();
        someOfFourGo();
        allOfFourGo();
        groupWithoutMembers();
        bothGroups();
        producersAndMembers();
        Script.end();
    }

    private static void by() {
        String open = "init(0) = 0\nbegin(0, 0) = 1\n";
        Script.checkRange("promise 18: by 0 .. 30", open, "tick(@)", "0 = 0", "30 = 1");
    }

    private static void refusedDoesNotGoOn() {
        Script.check("promise 18: a refused tick is no time", """
                init(0) = 0
                begin(0, 0) = 1
                join(0, 0) = 1
                tick(19) = 0
                tick(31) throws IllegalArgumentException
                tick(-1) throws IllegalArgumentException
                tick(1) = 1
                tick(9) = 0
                tick(-1) throws IllegalArgumentException
                tick(1) = 1
                """);
    }

    private static void timeGoesOn() {
        Script.check("promise 18: by 0 time does not go on, by 1 it does", """
                join(0, 0) = 1
                19 x tick(1) = 0
                5 x tick(0) = 0
                tick(1) = 1
                """);
    }

    private static void begunThirtyBefore() {
        Script.check("promise 18: OPEN and begun 30 before: AGE 1 more and ABORTING", """
                tick(7) = 0
                init(0) = 0
                begin(0, 0) = 1
                send(0, 0, 2, 0, 5) = 0
                tick(30) = 1
                fact(0, 0) = 3
                fact(0, 1) = 1
                fact(0, 2) = 1
                fact(0, 3) = 4
                """);
    }

    private static void begunTwentyNineBefore() {
        Script.check("promise 18: begun 29 before", """
                tick(7) = 0
                init(0) = 0
                begin(0, 0) = 1
                tick(29) = 0
                fact(0, 0) = 1
                fact(0, 1) = 0
                tick(0) = 0
                fact(0, 0) = 1
                tick(1) = 1
                fact(0, 0) = 3
                fact(0, 1) = 1
                """);
    }

    private static void begunMoreThanThirtyBefore() {
        Script.check("promise 18: begun 31 and 59 before", """
                init(0) = 0
                init(1) = 0
                begin(0, 0) = 1
                tick(28) = 0
                begin(1, 0) = 2
                tick(1) = 0
                tick(2) = 1
                fact(0, 0) = 3
                fact(1, 0) = 1
                tick(26) = 0
                tick(30) = 1
                fact(1, 0) = 3
                """);
    }

    private static void notOpen() {
        Script.check("promise 18: not known, IDLE, COMMITTING or ABORTING: nothing", """
                init(0) = 0
                init(1) = 0
                init(2) = 0
                begin(1, 0) = 1
                begin(2, 0) = 2
                finish(1, 0, true) = 0
                finish(2, 0, false) = 0
                tick(30) = 0
                fact(0, 0) = 0
                fact(0, 1) = 0
                fact(1, 0) = 2
                fact(1, 1) = 0
                fact(2, 0) = 3
                fact(2, 1) = 0
                fact(3, 0) = -1
                """);
    }

    private static void fencedOnce() {
        Script.check("promise 18: once ABORTING, its AGE rises no more", """
                init(0) = 0
                begin(0, 0) = 1
                tick(30) = 1
                tick(0) = 0
                tick(30) = 0
                fact(0, 1) = 1
                step() = 3
                tick(30) = 0
                fact(0, 0) = 0
                begin(0, 1) = 2
                tick(29) = 0
                tick(1) = 1
                fact(0, 1) = 2
                """);
    }

    private static void abortedByTick() {
        Script.check("promise 18: its DATA is aborted and its PENDING offsets are not COMMITTED", """
                init(0) = 0
                begin(0, 0) = 1
                send(0, 0, 3, 0, 4) = 0
                pend(0, 0, 0, 1, 9) = 1
                tick(30) = 1
                finish(0, 0, true) throws IllegalStateException
                finish(0, 1, true) throws IllegalStateException
                send(0, 0, 3, 1, 4) throws IllegalStateException
                step() = 1
                copy(3, 2) = 2
                step() = 2
                step() = 3
                edge(1, 4) = -1
                fetch(3, 0, true) throws NoSuchElementException
                """);
    }

    private static void severalProducers() {
        Script.check("promise 18: each that was begun 30 before, and no other", """
                4 x init(#) = 0
                begin(0, 0) = 1
                begin(2, 0) = 2
                tick(1) = 0
                begin(1, 0) = 3
                begin(3, 0) = 4
                tick(29) = 2
                fact(0, 0) = 3
                fact(1, 0) = 1
                fact(2, 0) = 3
                fact(3, 0) = 1
                tick(1) = 2
                fact(1, 1) = 1
                fact(3, 1) = 1
                """);
        Script.check("promise 18: all four", """
                4 x init(#) = 0
                4 x begin(#, 0)
                tick(30) = 4
                4 x fact(#, 0) = 3
                4 x fact(#, 1) = 1
                """);
    }

    private static void heardTwentyBefore() {
        Script.check("promise 18: HEARD 20 before: no MEMBER any more", """
                tick(7) = 0
                join(1, 3) = 1
                tick(20) = 1
                beat(1, 3, 1) throws NoSuchElementException
                beat(1, 3, 2) throws NoSuchElementException
                join(1, 3) = 3
                """);
    }

    private static void heardNineteenBefore() {
        Script.check("promise 18: HEARD 19 before: still one", """
                tick(7) = 0
                join(1, 3) = 1
                tick(19) = 0
                tick(0) = 0
                join(1, 3) throws IllegalStateException
                tick(1) = 1
                """);
        Script.check("promise 18: one was HEARD 20 before and one 19", """
                join(0, 0) = 1
                tick(1) = 0
                join(0, 1) = 2
                tick(19) = 1
                beat(0, 0, 3) throws NoSuchElementException
                beat(0, 1, 3) = 15
                """);
    }

    private static void heardMoreThanTwentyBefore() {
        Script.check("promise 18: HEARD 21 and 30 before", """
                join(0, 0) = 1
                join(1, 1) = 1
                tick(19) = 0
                beat(1, 1, 1) = 15
                tick(2) = 1
                tick(28) = 1
                join(0, 0) = 3
                tick(30) = 1
                """);
    }

    private static void generationRisesOnceAGroup() {
        Script.check("promise 18: SHARING once, however many go", """
                3 x join(0, #)
                tick(1) = 0
                join(0, 3) = 4
                tick(19) = 3
                beat(0, 3, 5) = 15
                join(0, 0) = 6
                """);
    }

    private static void nobodyGoes() {
        Script.check("promise 18: nobody goes: no SHARING", """
                join(0, 0) = 1
                tick(19) = 0
                beat(0, 0, 1) = 15
                join(1, 0) = 1
                tick(19) = 0
                beat(1, 0, 1) = 15
                tick(1) = 1
                beat(1, 0, 1) = 15
                """);
    }

    private static void someOfFourGo() {
        Script.check("promise 18: two of four go", """
                4 x join(0, #)
                tick(10) = 0
                beat(0, 1, 4) = 4
                beat(0, 3, 4) = 2
                tick(10) = 2
                beat(0, 1, 5) = 5
                beat(0, 3, 5) = 10
                beat(0, 0, 5) throws NoSuchElementException
                beat(0, 2, 5) throws NoSuchElementException
                """);
        Script.check("promise 18: one of four goes", """
                4 x join(0, #)
                tick(10) = 0
                beat(0, 0, 4) = 1
                beat(0, 1, 4) = 4
                beat(0, 2, 4) = 8
                tick(10) = 1
                beat(0, 0, 5) = 3
                beat(0, 1, 5) = 4
                beat(0, 2, 5) = 8
                """);
    }

    private static void allOfFourGo() {
        Script.check("promise 18: all four go", """
                4 x join(0, #)
                tick(20) = 4
                beat(0, 0, 5) throws NoSuchElementException
                join(0, 2) = 6
                beat(0, 2, 6) = 15
                """);
    }

    private static void groupWithoutMembers() {
        Script.check("promise 18: a group without MEMBERS is not shared out", """
                3 x tick(30) = 0
                join(0, 0) = 1
                join(1, 0) = 1
                """);
    }

    private static void bothGroups() {
        Script.check("promise 18: a MEMBER of both groups is counted for each", """
                join(0, 0) = 1
                join(1, 0) = 1
                tick(20) = 2
                join(0, 0) = 3
                join(1, 0) = 3
                """);
    }

    private static void producersAndMembers() {
        Script.check("promise 18: answers how many producers and MEMBERS that were", """
                init(0) = 0
                init(3) = 0
                begin(0, 0) = 1
                begin(3, 0) = 2
                join(0, 2) = 1
                join(1, 0) = 1
                join(1, 1) = 2
                tick(30) = 5
                fact(0, 0) = 3
                fact(3, 0) = 3
                join(0, 2) = 3
                join(1, 0) = 4
                """);
        Script.check("promise 18: all four producers and all eight MEMBERS", """
                4 x init(#) = 0
                4 x begin(#, 0)
                4 x join(0, #)
                4 x join(1, #)
                tick(30) = 12
                """);
    }
}
