/** Promise 2: init. */
public final class Promise02InitTest {
    private static final String OPEN = """
            init(1) = 0
            begin(1, 0) = 1
            send(1, 0, 2, 0, 5) = 0
            pend(1, 0, 0, 3, 9) = 1
            """;

    public static void main(String[] args) {
        name();
        committing();
        aborting();
        abortingByInit();
        abortingByTick();
        open();
        openWithNothingTouched();
        openChangesNothingElse();
        notKnown();
        idle();
        idleKeepsWhatWasDone();
        Script.end();
    }

    private static void name() {
        Script.checkRange("promise 2: name 0 .. 3", "", "init(@)", "0 = 0", "3 = 0");
    }

    private static void committing() {
        Script.check("promise 2: COMMITTING", OPEN + """
                copy(2, 1) = 1
                finish(1, 0, true) = 1
                init(1) throws IllegalStateException
                step() = 11
                init(1) throws IllegalStateException
                copy(2, 1) = 2
                step() = 12
                init(1) throws IllegalStateException
                fact(1, 0) = 2
                fact(1, 1) = 0
                step() = 13
                edge(3, 4) = 9
                init(1) = 1
                """);
    }

    private static void aborting() {
        Script.check("promise 2: ABORTING", OPEN + """
                finish(1, 0, false) = 1
                init(1) throws IllegalStateException
                step() = 11
                init(1) throws IllegalStateException
                copy(2, 2) = 2
                step() = 12
                init(1) throws IllegalStateException
                fact(1, 0) = 3
                fact(1, 1) = 0
                step() = 13
                init(1) = 1
                """);
    }

    private static void abortingByInit() {
        Script.check("promise 2: ABORTING since an init, its AGE rises only once", OPEN + """
                init(1) throws IllegalStateException, changed
                init(1) throws IllegalStateException
                init(1) throws IllegalStateException
                fact(1, 1) = 1
                """);
    }

    private static void abortingByTick() {
        Script.check("promise 2: ABORTING since a tick", OPEN + """
                tick(30) = 1
                fact(1, 1) = 1
                init(1) throws IllegalStateException
                fact(1, 1) = 1
                """);
    }

    private static void open() {
        Script.check("promise 2: OPEN: AGE 1 more, ABORTING, refused", OPEN + """
                init(1) throws IllegalStateException, changed
                fact(1, 0) = 3
                fact(1, 1) = 1
                send(1, 0, 2, 1, 5) throws IllegalStateException
                send(1, 1, 2, 0, 5) throws IllegalStateException
                pend(1, 1, 0, 0, 5) throws IllegalStateException
                finish(1, 0, true) throws IllegalStateException
                finish(1, 1, true) throws IllegalStateException
                begin(1, 1) throws IllegalStateException
                step() = 11
                copy(2, 2) = 2
                fetch(2, 0, true) throws NoSuchElementException
                step() = 12
                step() = 13
                edge(3, 4) = -1
                fact(1, 0) = 0
                fact(1, 1) = 1
                begin(1, 0) throws IllegalStateException
                begin(1, 1) = 2
                """);
    }

    private static void openWithNothingTouched() {
        Script.check("promise 2: OPEN with nothing TOUCHED", """
                init(3) = 0
                begin(3, 0) = 1
                init(3) throws IllegalStateException, changed
                fact(3, 0) = 3
                step() = 33
                init(3) = 2
                """);
    }

    private static void openChangesNothingElse() {
        Script.check("promise 2: OPEN: nothing else is changed", """
                init(0) = 0
                begin(0, 0) = 1
                """ + OPEN.replace("= 1\nsend", "= 2\nsend") + """
                init(1) throws IllegalStateException, changed
                fact(1, 2) = 2
                fact(1, 3) = 4
                fact(0, 0) = 1
                fact(0, 1) = 0
                fact(0, 2) = 1
                edge(2, 3) = 1
                edge(2, 2) = 0
                """);
    }

    private static void notKnown() {
        Script.check("promise 2: not known: its AGE is 0", """
                init(3) = 0
                fact(3, 0) = 0
                fact(3, 1) = 0
                fact(2, 0) = -1
                init(0) = 0
                init(2) = 0
                fact(1, 0) = -1
                """);
    }

    private static void idle() {
        Script.check("promise 2: IDLE: 1 more", """
                init(3) = 0
                init(3) = 1
                init(3) = 2
                fact(3, 0) = 0
                fact(3, 1) = 2
                init(0) = 0
                fact(3, 1) = 2
                """);
    }

    private static void idleKeepsWhatWasDone() {
        Script.check("promise 2: IDLE after a TRANSACTION", OPEN + """
                copy(2, 1) = 1
                finish(1, 0, true) = 1
                step() = 11
                copy(2, 1) = 2
                step() = 12
                step() = 13
                fact(1, 6) = 1
                init(1) = 1
                fact(1, 2) = 0
                fact(1, 3) = 0
                fact(1, 6) = 0
                fetch(2, 0, true) = 0
                edge(3, 4) = 9
                """);
    }
}
