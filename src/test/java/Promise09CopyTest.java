/** Promise 9: copy. */
public final class Promise09CopyTest {
    public static void main(String[] args) {
        partition();
        n();
        emptyLog();
        upToTheLength();
        moreThanTheLength();
        byFortyAtMost();
        thatPartitionAlone();
        Script.end();
    }

    private static void partition() {
        Script.checkRange("promise 9: partition 0 .. 3", "4 x plain(#, 1) = 0\n", "copy(@, 1)", "0 = 1", "3 = 1");
    }

    private static void n() {
        Script.checkRange("promise 9: n 1 .. 40", "3 x plain(0, #)\n", "copy(0, @)", "1 = 1", "40 = 3");
    }

    private static void emptyLog() {
        Script.check("promise 9: an empty LOG", """
                copy(0, 1) = 0
                copy(0, 40) = 0
                edge(0, 2) = 0
                plain(0, 1) = 0
                edge(0, 2) = 0
                """);
    }

    private static void upToTheLength() {
        Script.check("promise 9: HIGH rises by n, up to the length", """
                5 x plain(0, #)
                copy(0, 1) = 1
                edge(0, 2) = 1
                copy(0, 3) = 4
                edge(0, 2) = 4
                copy(0, 1) = 5
                edge(0, 2) = 5
                edge(0, 3) = 5
                """);
    }

    private static void moreThanTheLength() {
        Script.check("promise 9: HIGH does not rise above the length", """
                5 x plain(0, #)
                copy(0, 4) = 4
                copy(0, 2) = 5
                copy(0, 1) = 5
                copy(0, 40) = 5
                edge(0, 2) = 5
                plain(0, 9) = 5
                edge(0, 2) = 5
                copy(0, 40) = 6
                """);
    }

    private static void byFortyAtMost() {
        Script.check("promise 9: a FULL LOG is copied by n of it, or whole", """
                32 x plain(0, #)
                copy(0, 31) = 31
                copy(0, 1) = 32
                32 x plain(1, #)
                copy(1, 32) = 32
                32 x plain(2, #)
                copy(2, 40) = 32
                """);
    }

    private static void thatPartitionAlone() {
        Script.check("promise 9: no other partition is copied, and no START rises", """
                4 x plain(#, 1) = 0
                copy(2, 1) = 1
                edge(0, 2) = 0
                edge(1, 2) = 0
                edge(3, 2) = 0
                edge(2, 0) = 0
                edge(2, 1) = 1
                """);
    }
}
