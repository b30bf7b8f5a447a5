/** Promises 8 to 13 and 19: plain, copy, lose, fetch, last, trim and edge. */
public final class LogTest {
    public static void main(String[] args) {
        plain();
        plainInAll();
        copy();
        lose();
        fetch();
        fetchCommitted();
        last();
        trim();
        edge();
        Script.end();
    }

    private static void plain() {
        Script.check("promise 8", """
                plain(-1, 0) throws IllegalArgumentException
                plain(4, 0) throws IllegalArgumentException
                plain(3, -7) = 0
                plain(3, 2147483647) = 1
                plain(0, 1) = 0
                edge(3, 3) = 2
                edge(3, 2) = 0
                copy(3, 40) = 2
                edge(3, 1) = 2
                fetch(3, 0, true) = 0
                last() = -7
                """);
        Script.check("promise 8: full from start on", """
                31 x plain(2, #)
                plain(2, 31) = 31
                plain(2, 32) throws IllegalStateException
                plain(1, 5) = 0
                copy(2, 40) = 32
                plain(2, 32) throws IllegalStateException
                trim(2, 1) = 1
                plain(2, 32) = 32
                plain(2, 33) throws IllegalStateException
                """);
    }

    private static void plainInAll() {
        StringBuilder rows = new StringBuilder("init(0) = 0\nbegin(0, 0) = 1\n");
        for (int end = 32; end <= 384; end += 32) {
            rows.append("32 x plain(1, #)\ncopy(1, 40) = ").append(end);
            rows.append("\ntrim(1, ").append(end).append(") = 32\n");
        }
        Script.check("terms: full at 400 in all", rows + """
                14 x plain(1, #)
                plain(1, 0) = 398
                send(0, 0, 1, 0, 8) = 399
                plain(1, 0) throws IllegalStateException
                send(0, 0, 1, 1, 8) throws IllegalStateException
                send(0, 0, 1, 0, 8) = 399
                copy(1, 15) = 399
                trim(1, 399) = 15
                plain(1, 0) throws IllegalStateException
                copy(1, 15) = 400
                finish(0, 0, true) = 1
                step() = 1
                edge(1, 3) = 401
                copy(1, 15) = 401
                step() = 2
                trim(1, 401) = 2
                plain(1, 0) throws IllegalStateException
                fetch(1, 600, false) throws NoSuchElementException
                """);
    }

    private static void copy() {
        Script.check("promise 9", """
                copy(-1, 1) throws IllegalArgumentException
                copy(4, 1) throws IllegalArgumentException
                copy(0, 0) throws IllegalArgumentException
                copy(0, -5) throws IllegalArgumentException
                copy(0, 41) throws IllegalArgumentException
                copy(0, 40) = 0
                5 x plain(0, #)
                copy(0, 1) = 1
                edge(0, 2) = 1
                copy(0, 3) = 4
                copy(0, 1) = 5
                copy(0, 1) = 5
                plain(0, 9) = 5
                copy(0, 40) = 6
                edge(0, 3) = 6
                edge(1, 2) = 0
                """);
    }

    private static void lose() {
        Script.check("promise 10", """
                lose(-1) throws IllegalArgumentException
                lose(4) throws IllegalArgumentException
                5 x plain(0, #)
                2 x plain(1, #)
                copy(0, 2) = 2
                lose(0) = 3
                edge(0, 3) = 2
                edge(0, 2) = 2
                edge(1, 3) = 2
                lose(0) = 0
                plain(0, 77) = 2
                copy(0, 9) = 3
                fetch(0, 2, false) = 2
                last() = 77
                lose(1) = 2
                edge(1, 3) = 0
                """);
        Script.check("promise 10: it makes room", """
                32 x plain(0, #)
                plain(0, 1) throws IllegalStateException
                lose(0) = 32
                plain(0, 1) = 0
                """);
    }

    private static void fetch() {
        Script.check("promise 11: below high", """
                fetch(-1, 0, false) throws IllegalArgumentException
                fetch(4, 0, false) throws IllegalArgumentException
                fetch(0, -1, false) throws IllegalArgumentException
                fetch(0, 601, false) throws IllegalArgumentException
                fetch(0, 600, false) throws NoSuchElementException
                3 x plain(0, #)
                fetch(0, 0, false) throws NoSuchElementException
                copy(0, 2) = 2
                fetch(0, 0, false) = 0
                fetch(0, 1, true) = 1
                fetch(0, 2, false) throws NoSuchElementException
                fetch(0, 2, true) throws NoSuchElementException
                trim(0, 1) = 1
                fetch(0, 0, false) throws IndexOutOfBoundsException
                fetch(0, 0, true) throws IndexOutOfBoundsException
                fetch(0, 1, false) = 1
                trim(0, 2) = 1
                fetch(0, 1, false) throws IndexOutOfBoundsException
                fetch(0, 2, false) throws NoSuchElementException
                """);
    }

    private static void fetchCommitted() {
        Script.check("promise 11: committed", """
                init(0) = 0
                init(1) = 0
                begin(0, 0) = 1
                begin(1, 0) = 2
                plain(2, 10) = 0
                send(0, 0, 2, 0, 11) = 1
                send(1, 0, 2, 0, 12) = 2
                plain(2, 13) = 3
                copy(2, 40) = 4
                fetch(2, 0, true) = 0
                last() = 10
                fetch(2, 1, true) throws NoSuchElementException
                fetch(2, 1, false) = 1
                finish(0, 0, false) = 1
                step() = 1
                fetch(2, 1, true) throws NoSuchElementException
                copy(2, 1) = 5
                edge(2, 1) = 2
                fetch(2, 1, true) throws NoSuchElementException
                finish(1, 0, true) = 1
                step() = 2
                step() = 3
                step() = 11
                edge(2, 1) = 2
                fetch(2, 1, true) throws NoSuchElementException
                copy(2, 1) = 6
                edge(2, 1) = 6
                fetch(2, 1, true) = 2
                last() = 12
                fetch(2, 3, true) = 3
                fetch(2, 4, true) throws NoSuchElementException
                fetch(2, 4, false) throws NoSuchElementException
                fetch(2, 1, false) = 1
                last() = 11
                """);
        Script.check("promise 11: markers are passed over", """
                init(0) = 0
                begin(0, 0) = 1
                send(0, 0, 2, 0, 11) = 0
                copy(2, 1) = 1
                finish(0, 0, true) = 1
                step() = 1
                plain(2, 5) = 2
                copy(2, 9) = 3
                fetch(2, 1, false) = 2
                fetch(2, 1, true) = 2
                last() = 5
                """);
        Script.check("promise 11: an abort in one partition says nothing of another", """
                init(0) = 0
                begin(0, 0) = 1
                send(0, 0, 0, 0, 11) = 0
                send(0, 0, 1, 0, 12) = 0
                finish(0, 0, false) = 2
                step() = 1
                copy(0, 9) = 2
                copy(1, 9) = 1
                edge(0, 1) = 2
                edge(1, 1) = 0
                fetch(0, 0, true) throws NoSuchElementException
                fetch(1, 0, false) = 0
                step() = 2
                step() = 1
                copy(1, 9) = 2
                edge(1, 1) = 2
                fetch(1, 0, true) throws NoSuchElementException
                """);
    }

    private static void last() {
        Script.check("promise 12", """
                last() = 0
                plain(0, 41) = 0
                plain(1, 42) = 0
                copy(0, 1) = 1
                copy(1, 1) = 1
                last() = 0
                fetch(1, 0, false) = 0
                last() = 42
                last() = 42
                fetch(1, 1, false) throws NoSuchElementException
                last() = 42
                fetch(1, 601, false) throws IllegalArgumentException
                last() = 42
                fetch(0, 0, true) = 0
                last() = 41
                trim(0, 1) = 1
                fetch(0, 0, true) throws IndexOutOfBoundsException
                last() = 41
                """);
    }

    private static void trim() {
        Script.check("promise 13", """
                trim(-1, 0) throws IllegalArgumentException
                trim(4, 0) throws IllegalArgumentException
                trim(0, -1) throws IllegalArgumentException
                trim(0, 601) throws IllegalArgumentException
                trim(0, 600) throws IndexOutOfBoundsException
                init(0) = 0
                begin(0, 0) = 1
                3 x plain(0, #)
                send(0, 0, 0, 0, 7) = 3
                plain(0, 9) = 4
                trim(0, 1) throws IndexOutOfBoundsException
                copy(0, 2) = 2
                trim(0, 3) throws IndexOutOfBoundsException
                trim(0, 2) = 2
                trim(0, 2) = 0
                trim(0, 1) throws IndexOutOfBoundsException
                copy(0, 9) = 5
                trim(0, 4) throws IndexOutOfBoundsException
                trim(0, 3) = 1
                edge(0, 0) = 3
                finish(0, 0, false) = 1
                step() = 1
                trim(0, 4) throws IndexOutOfBoundsException
                copy(0, 9) = 6
                trim(0, 7) throws IndexOutOfBoundsException
                trim(0, 6) = 3
                edge(0, 0) = 6
                edge(0, 3) = 6
                edge(1, 0) = 0
                """);
    }

    private static void edge() {
        Script.check("promise 19", """
                edge(-1, 0) throws IllegalArgumentException
                edge(4, 0) throws IllegalArgumentException
                edge(0, -1) throws IllegalArgumentException
                edge(0, 6) throws IllegalArgumentException
                init(0) = 0
                begin(0, 0) = 1
                2 x plain(3, #)
                send(0, 0, 3, 0, 1) = 2
                2 x plain(3, #)
                edge(3, 1) = 0
                copy(3, 1) = 1
                edge(3, 1) = 1
                copy(3, 3) = 4
                trim(3, 1) = 1
                edge(3, 0) = 1
                edge(3, 1) = 2
                edge(3, 2) = 4
                edge(3, 3) = 5
                join(1, 2) = 1
                mark(1, 2, 1, 3, 0) = -1
                edge(3, 4) = -1
                edge(3, 5) = 0
                edge(2, 5) = -1
                """);
        Script.check("promise 19: stable over two transactions", """
                init(0) = 0
                init(1) = 0
                begin(0, 0) = 1
                begin(1, 0) = 2
                send(0, 0, 3, 0, 1) = 0
                send(1, 0, 3, 0, 1) = 1
                send(0, 0, 3, 1, 1) = 2
                copy(3, 9) = 3
                edge(3, 1) = 0
                finish(1, 0, true) = 1
                step() = 11
                copy(3, 9) = 4
                edge(3, 1) = 0
                finish(0, 0, true) = 1
                step() = 1
                edge(3, 1) = 0
                copy(3, 9) = 5
                edge(3, 1) = 5
                """);
    }
}
