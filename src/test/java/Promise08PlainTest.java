/** Promise 8: plain; and when a LOG is FULL. */
public final class Promise08PlainTest {
    public static void main(String[] args) {
        partition();
        value();
        putAtTheEnd();
        ofNoProducerAndNoTransaction();
        fullFromStart();
        fullFromStartAfterTrim();
        fullInAll();
        fullByMarkers();
        roomAfterALoss();
        Script.end();
    }

    private static void partition() {
        Script.checkRange("promise 8: partition 0 .. 3", "", "plain(@, 5)", "0 = 0", "3 = 0");
        Script.checkRange("promise 8: out of range comes before FULL", "32 x plain(3, 1)\n", "plain(@, 5)", "0 = 0",
                "3 throws IllegalStateException");
    }

    private static void value() {
        Script.check("promise 8: value is any int", """
                plain(0, -2147483648) = 0
                plain(0, 2147483647) = 1
                plain(0, 0) = 2
                plain(0, -1) = 3
                copy(0, 4) = 4
                fetch(0, 0, true) = 0
                last() = -2147483648
                fetch(0, 1, true) = 1
                last() = 2147483647
                fetch(0, 2, true) = 2
                last() = 0
                fetch(0, 3, true) = 3
                last() = -1
                """);
    }

    private static void putAtTheEnd() {
        Script.check("promise 8: put at the end of that LOG, and not yet on the second disk", """
                plain(3, 5) = 0
                plain(3, 6) = 1
                plain(0, 1) = 0
                edge(3, 3) = 2
                edge(3, 2) = 0
                edge(3, 1) = 0
                edge(1, 3) = 0
                fetch(3, 0, false) throws NoSuchElementException
                """);
    }

    private static void ofNoProducerAndNoTransaction() {
        Script.check("promise 8: it counts for no NEXT and is STABLE when it is below HIGH", """
                init(0) = 0
                begin(0, 0) = 1
                plain(2, 5) = 0
                fact(0, 6) = 0
                fact(0, 3) = 0
                finish(0, 0, true) = 0
                copy(2, 1) = 1
                edge(2, 1) = 1
                fetch(2, 0, true) = 0
                """);
    }

    private static void fullFromStart() {
        Script.check("promise 8: FULL with 32 from START on, not with 31", """
                31 x plain(2, #)
                plain(2, 31) = 31
                plain(2, 32) throws IllegalStateException
                plain(1, 5) = 0
                copy(2, 40) = 32
                plain(2, 32) throws IllegalStateException
                edge(2, 3) = 32
                """);
    }

    private static void fullFromStartAfterTrim() {
        Script.check("promise 8: FULL counts from START", """
                32 x plain(2, #)
                copy(2, 40) = 32
                trim(2, 0) = 0
                plain(2, 32) throws IllegalStateException
                trim(2, 1) = 1
                plain(2, 32) = 32
                plain(2, 33) throws IllegalStateException
                trim(2, 32) = 31
                31 x plain(2, #)
                plain(2, 33) throws IllegalStateException
                edge(2, 3) = 64
                """);
    }

    private static void fullInAll() {
        StringBuilder rows = new StringBuilder();
        for (int end = 32; end <= 384; end += 32) {
            rows.append("32 x plain(1, #)\ncopy(1, 40) = ").append(end);
            rows.append("\ntrim(1, ").append(end).append(") = 32\n");
        }
        Script.check("promise 8: FULL with 400 in all, not with 399", rows + """
                15 x plain(1, #)
                plain(1, 0) = 399
                plain(1, 0) throws IllegalStateException
                edge(1, 3) = 400
                copy(1, 15) = 399
                trim(1, 399) = 15
                plain(1, 0) throws IllegalStateException
                lose(1) = 1
                plain(1, 0) = 399
                copy(1, 1) = 400
                trim(1, 400) = 1
                plain(1, 0) throws IllegalStateException
                fetch(1, 400, false) throws NoSuchElementException
                fetch(1, 399, false) throws IndexOutOfBoundsException
                plain(2, 0) = 0
                """);
    }

    private static void fullByMarkers() {
        Script.check("promise 8: a MARKER counts for FULL", """
                init(0) = 0
                begin(0, 0) = 1
                send(0, 0, 1, 0, 7) = 0
                29 x plain(1, #)
                finish(0, 0, false) = 1
                step() = 1
                plain(1, 1) = 31
                plain(1, 1) throws IllegalStateException
                copy(1, 40) = 32
                trim(1, 31) = 31
                plain(1, 1) = 32
                """);
        Script.check("promise 8: FULL with 33 too", """
                init(0) = 0
                begin(0, 0) = 1
                send(0, 0, 1, 0, 7) = 0
                31 x plain(1, #)
                finish(0, 0, false) = 1
                step() = 1
                edge(1, 3) = 33
                plain(1, 1) throws IllegalStateException
                copy(1, 40) = 33
                trim(1, 1) = 1
                plain(1, 1) throws IllegalStateException
                trim(1, 2) = 1
                plain(1, 1) = 33
                plain(1, 1) throws IllegalStateException
                """);
    }

    private static void roomAfterALoss() {
        Script.check("promise 8: what is lost counts no more for FULL", """
                32 x plain(0, #)
                copy(0, 31) = 31
                plain(0, 1) throws IllegalStateException
                lose(0) = 1
                plain(0, 1) = 31
                plain(0, 1) throws IllegalStateException
                """);
    }
}
