/** Promise 12: last. */
public final class Promise12LastTest {
    public static void main(String[] args) {
        zeroAtFirst();
        smallestAndGreatest();
        onlyFetchChangesIt();
        refusedFetchesDoNot();
        readingDoesNot();
        Script.end();
    }

    private static void zeroAtFirst() {
        Script.check("promise 12: 0 at first, and until something is fetched", """
                last() = 0
                plain(0, 41) = 0
                copy(0, 1) = 1
                last() = 0
                """);
    }

    private static void smallestAndGreatest() {
        Script.check("promise 12: the smallest and the greatest int", """
                plain(0, -2147483648) = 0
                plain(0, 2147483647) = 1
                plain(0, 0) = 2
                copy(0, 3) = 3
                fetch(0, 0, false) = 0
                last() = -2147483648
                fetch(0, 1, false) = 1
                last() = 2147483647
                fetch(0, 2, false) = 2
                last() = 0
                """);
    }

    private static void onlyFetchChangesIt() {
        Script.check("promise 12: it stays when its record is trimmed and others are put", """
                plain(0, 41) = 0
                copy(0, 1) = 1
                fetch(0, 0, true) = 0
                trim(0, 1) = 1
                plain(0, 42) = 1
                copy(0, 1) = 2
                lose(0) = 0
                tick(1) = 0
                step() = -1
                last() = 41
                """);
    }

    private static void refusedFetchesDoNot() {
        Script.check("promise 12: it stays when a fetch is refused", """
                plain(1, 42) = 0
                copy(1, 1) = 1
                fetch(1, 0, false) = 0
                fetch(1, 1, false) throws NoSuchElementException
                last() = 42
                fetch(1, 601, false) throws IllegalArgumentException
                last() = 42
                trim(1, 1) = 1
                fetch(1, 0, true) throws IndexOutOfBoundsException
                last() = 42
                """);
    }

    private static void readingDoesNot() {
        Script.check("promise 12: it stays when it is asked", """
                plain(1, 42) = 0
                copy(1, 1) = 1
                fetch(1, 0, false) = 0
                3 x last() = 42
                """);
    }
}
