/** Promise 20: fact; and NEXT, which it answers. */
public final class Promise20FactTest {
    public static void main(String[] args) {
        name();
        what();
        notKnown();
        idle();
        open();
        committing();
        aborting();
        touchedAsASum();
        touchedWhileEnding();
        next();
        nextOfANewAge();
        nextAfterALoss();
        nextBelowStart();
        Script.end();
    }

    private static void name() {
        for (int what = 0; what < 8; what++) {
            String call = "fact(@, " + what + ")";
            Script.checkRange("promise 20: name 0 .. 3, not known", "", call, "0 = -1", "3 = -1");
            Script.checkRange("promise 20: name 0 .. 3, known", "4 x init(#) = 0\n", call, "0 = 0", "3 = 0");
        }
    }

    private static void what() {
        Script.checkRange("promise 20: what 0 .. 7, not known", "", "fact(1, @)", "0 = -1", "7 = -1");
        Script.checkRange("promise 20: what 0 .. 7, known", "init(1) = 0\n", "fact(1, @)", "0 = 0", "7 = 0");
    }

    private static void notKnown() {
        Script.check("promise 20: -1 if it is not known, whoever else is", """
                init(0) = 0
                begin(0, 0) = 1
                send(0, 0, 1, 0, 5) = 0
                8 x fact(1, #) = -1
                8 x fact(3, #) = -1
                """);
    }

    private static void idle() {
        Script.check("promise 20: IDLE, at first and after a TRANSACTION", """
                init(2) = 0
                init(2) = 1
                fact(2, 0) = 0
                fact(2, 1) = 1
                fact(2, 2) = 0
                fact(2, 3) = 0
                begin(2, 1) = 1
                send(2, 1, 3, 0, 5) = 0
                finish(2, 1, false) = 1
                step() = 21
                copy(3, 2) = 2
                step() = 22
                step() = 23
                fact(2, 0) = 0
                fact(2, 1) = 1
                fact(2, 2) = 0
                fact(2, 3) = 0
                fact(2, 7) = 1
                """);
    }

    private static void open() {
        Script.check("promise 20: OPEN", """
                init(2) = 0
                begin(2, 0) = 1
                fact(2, 0) = 1
                fact(2, 1) = 0
                fact(2, 2) = 1
                fact(2, 3) = 0
                """);
    }

    private static void committing() {
        Script.check("promise 20: COMMITTING", """
                init(2) = 0
                begin(2, 0) = 1
                finish(2, 0, true) = 0
                fact(2, 0) = 2
                fact(2, 1) = 0
                fact(2, 2) = 1
                fact(2, 3) = 0
                """);
    }

    private static void aborting() {
        Script.check("promise 20: ABORTING, by finish, init and tick", """
                init(0) = 0
                init(1) = 0
                init(2) = 0
                begin(0, 0) = 1
                begin(1, 0) = 2
                begin(2, 0) = 3
                finish(0, 0, false) = 0
                init(1) throws IllegalStateException, changed
                tick(30) = 1
                3 x fact(#, 0) = 3
                fact(0, 1) = 0
                fact(1, 1) = 1
                fact(2, 1) = 1
                fact(0, 2) = 1
                fact(1, 2) = 2
                fact(2, 2) = 3
                """);
    }

    private static void touchedAsASum() {
        Script.check("promise 20: TOUCHED partitions as a sum of 2 to their numbers", """
                init(0) = 0
                begin(0, 0) = 1
                send(0, 0, 3, 0, 5) = 0
                fact(0, 3) = 8
                send(0, 0, 0, 0, 5) = 0
                fact(0, 3) = 9
                send(0, 0, 3, 1, 5) = 1
                fact(0, 3) = 9
                send(0, 0, 1, 0, 5) = 0
                fact(0, 3) = 11
                send(0, 0, 2, 0, 5) = 0
                fact(0, 3) = 15
                send(0, 0, 2, 2, 5) throws UnsupportedOperationException
                fact(0, 3) = 15
                """);
    }

    private static void touchedWhileEnding() {
        Script.check("promise 20: TOUCHED partitions while it is ABORTING", """
                init(0) = 0
                begin(0, 0) = 1
                send(0, 0, 3, 0, 5) = 0
                send(0, 0, 0, 0, 5) = 0
                finish(0, 0, false) = 2
                fact(0, 3) = 9
                step() = 1
                fact(0, 3) = 9
                copy(0, 2) = 2
                step() = 2
                fact(0, 3) = 8
                """);
    }

    private static void next() {
        Script.check("promise 20: NEXT for each partition", """
                init(0) = 0
                init(1) = 0
                begin(0, 0) = 1
                begin(1, 0) = 2
                send(0, 0, 1, 0, 5) = 0
                2 x send(0, 0, 2, #, 5)
                6 x send(0, 0, 3, #, 5)
                send(1, 0, 3, 0, 5) = 6
                plain(0, 5) = 0
                fact(0, 4) = 0
                fact(0, 5) = 1
                fact(0, 6) = 2
                fact(0, 7) = 6
                send(0, 0, 3, 5, 5) = 5
                fact(0, 7) = 6
                fact(1, 7) = 1
                fact(1, 6) = 0
                """);
    }

    private static void nextOfANewAge() {
        Script.check("promise 20: NEXT is 0 for a new AGE", """
                init(0) = 0
                begin(0, 0) = 1
                2 x send(0, 0, 2, #, 5)
                fact(0, 6) = 2
                init(0) throws IllegalStateException, changed
                fact(0, 6) = 0
                """);
    }

    private static void nextAfterALoss() {
        Script.check("promise 20: NEXT goes back by what is lost, down to 0", """
                init(0) = 0
                begin(0, 0) = 1
                3 x send(0, 0, 2, #, 5)
                copy(2, 1) = 1
                lose(2) = 2
                fact(0, 6) = 1
                send(0, 0, 0, 0, 5) = 0
                lose(0) = 1
                fact(0, 4) = 0
                fact(0, 3) = 5
                """);
    }

    private static void nextBelowStart() {
        Script.check("promise 20: NEXT counts what is below START", """
                init(0) = 0
                begin(0, 0) = 1
                3 x send(0, 0, 2, #, 5)
                finish(0, 0, false) = 1
                step() = 1
                copy(2, 4) = 4
                trim(2, 4) = 4
                fact(0, 6) = 3
                """);
    }
}
