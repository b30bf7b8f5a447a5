/** Promise 13: trim. */
public final class Promise13TrimTest {
    private static final String OPEN_AT_THREE = """
            init(0) = 0
            begin(0, 0) = 1
            3 x plain(0, #)
            send(0, 0, 0, 0, 7) = 3
            plain(0, 9) = 4
            copy(0, 5) = 5
            """;

    public static void main(String[] args) {
        partition();
        offset();
        emptyLog();
        belowStart();
        atStart();
        stableBelowHigh();
        stableIsHigh();
        aboveHigh();
        toTheEnd();
        markersCount();
        keepsAllElse();
        thatPartitionAlone();
        Script.end();
    }

    private static void partition() {
        String four = "4 x plain(#, 1) = 0\n4 x copy(#, 1) = 1\n";
        Script.checkRange("promise 13: partition 0 .. 3", four, "trim(@, 1)", "0 = 1", "3 = 1");
    }

    private static void offset() {
        Script.checkRange("promise 13: offset 0 .. 600", "plain(0, 1) = 0\ncopy(0, 1) = 1\n", "trim(0, @)", "0 = 0",
                "600 throws IndexOutOfBoundsException");
    }

    private static void emptyLog() {
        Script.check("promise 13: an empty LOG", """
                trim(0, 1) throws IndexOutOfBoundsException
                trim(0, 600) throws IndexOutOfBoundsException
                trim(0, 0) = 0
                edge(0, 0) = 0
                """);
    }

    private static void belowStart() {
        Script.check("promise 13: 1 below START", OPEN_AT_THREE + """
                trim(0, 2) = 2
                trim(0, 1) throws IndexOutOfBoundsException
                trim(0, 0) throws IndexOutOfBoundsException
                edge(0, 0) = 2
                """);
    }

    private static void atStart() {
        Script.check("promise 13: START itself", OPEN_AT_THREE + """
                trim(0, 0) = 0
                trim(0, 2) = 2
                trim(0, 2) = 0
                edge(0, 0) = 2
                """);
    }

    private static void stableBelowHigh() {
        Script.check("promise 13: 1 above STABLE, where that is below HIGH", OPEN_AT_THREE + """
                trim(0, 4) throws IndexOutOfBoundsException
                trim(0, 5) throws IndexOutOfBoundsException
                edge(0, 0) = 0
                trim(0, 3) = 3
                trim(0, 4) throws IndexOutOfBoundsException
                finish(0, 0, false) = 1
                step() = 1
                trim(0, 4) throws IndexOutOfBoundsException
                copy(0, 1) = 6
                trim(0, 4) = 1
                """);
    }

    private static void stableIsHigh() {
        Script.check("promise 13: 1 above STABLE, where that is HIGH", """
                3 x plain(0, #)
                copy(0, 2) = 2
                trim(0, 3) throws IndexOutOfBoundsException
                trim(0, 2) = 2
                """);
    }

    private static void aboveHigh() {
        Script.check("promise 13: nothing is below HIGH", """
                3 x plain(0, #)
                trim(0, 1) throws IndexOutOfBoundsException
                trim(0, 3) throws IndexOutOfBoundsException
                trim(0, 0) = 0
                """);
    }

    private static void toTheEnd() {
        Script.check("promise 13: up to the LOG's end, and a FULL one", """
                32 x plain(0, #)
                copy(0, 32) = 32
                trim(0, 33) throws IndexOutOfBoundsException
                trim(0, 32) = 32
                edge(0, 0) = 32
                fetch(0, 31, false) throws IndexOutOfBoundsException
                fetch(0, 32, false) throws NoSuchElementException
                trim(0, 32) = 0
                trim(0, 33) throws IndexOutOfBoundsException
                """);
    }

    private static void markersCount() {
        Script.check("promise 13: MARKERS and aborted DATA are records that are read no more", OPEN_AT_THREE + """
                trim(0, 1) = 1
                finish(0, 0, false) = 1
                step() = 1
                copy(0, 1) = 6
                trim(0, 6) = 5
                """);
    }

    private static void keepsAllElse() {
        Script.check("promise 13: the LOG's length, HIGH, STABLE, NEXT and LAST stay", OPEN_AT_THREE + """
                fetch(0, 1, true) = 1
                trim(0, 2) = 2
                edge(0, 3) = 5
                edge(0, 2) = 5
                edge(0, 1) = 3
                last() = 1
                finish(0, 0, true) = 1
                step() = 1
                copy(0, 1) = 6
                trim(0, 6) = 4
                fact(0, 4) = 1
                edge(0, 3) = 6
                step() = 2
                step() = 3
                """);
    }

    private static void thatPartitionAlone() {
        Script.check("promise 13: no other START rises", """
                4 x plain(#, 1) = 0
                4 x copy(#, 1) = 1
                trim(2, 1) = 1
                edge(2, 0) = 1
                edge(0, 0) = 0
                edge(1, 0) = 0
                edge(3, 0) = 0
                """);
    }
}
