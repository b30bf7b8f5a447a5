/** Promise 1, and what its readings answer on a new object. */
public final class NewObjectTest {
    public static void main(String[] args) {
        logsAreEmpty();
        nobodyIsKnown();
        groupsAreEmpty();
        objectsAreApart();
        Script.end();
    }

    private static void logsAreEmpty() {
        for (int partition = 0; partition < 4; partition++) {
            Script.check("promise 1: empty logs", """
                    edge(P, 0) = 0
                    edge(P, 1) = 0
                    edge(P, 2) = 0
                    edge(P, 3) = 0
                    edge(P, 4) = -1
                    edge(P, 5) = -1
                    fetch(P, 0, false) throws NoSuchElementException
                    fetch(P, 0, true) throws NoSuchElementException
                    lose(P) = 0
                    copy(P, 40) = 0
                    trim(P, 0) = 0
                    trim(P, 1) throws IndexOutOfBoundsException
                    last() = 0
                    """.replace("(P", "(" + partition));
        }
    }

    private static void nobodyIsKnown() {
        for (int name = 0; name < 4; name++) {
            Script.check("promise 1: nobody known", """
                    fact(N, 0) = -1
                    fact(N, 1) = -1
                    fact(N, 2) = -1
                    fact(N, 3) = -1
                    fact(N, 4) = -1
                    fact(N, 7) = -1
                    begin(N, 0) throws NoSuchElementException
                    begin(N, -1) throws NoSuchElementException
                    send(N, 0, 0, 0, 1) throws NoSuchElementException
                    pend(N, 0, 0, 0, 0) throws NoSuchElementException
                    finish(N, 0, true) throws NoSuchElementException
                    finish(N, -1, false) throws NoSuchElementException
                    step() = -1
                    """.replace("(N", "(" + name));
        }
    }

    private static void groupsAreEmpty() {
        Script.check("promise 1: no members", """
                beat(0, 0, 0) throws NoSuchElementException
                beat(1, 3, 0) throws NoSuchElementException
                leave(0, 0) throws NoSuchElementException
                mark(1, 0, 0, 0, 0) throws NoSuchElementException
                tick(30) = 0
                join(0, 0) = 1
                join(1, 0) = 1
                """);
    }

    private static void objectsAreApart() {
        FencedBroker used = new FencedBroker();
        FencedBroker other = new FencedBroker();
        used.plain(0, 7);
        used.init(0);
        used.join(0, 0);
        Script.same("promise 1: the other's log", other.edge(0, 3), 0);
        Script.same("promise 1: the other's producer", other.fact(0, 0), -1);
        Script.same("promise 1: the other's group", other.join(0, 1), 1);
    }
}
