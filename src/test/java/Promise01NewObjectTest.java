/** Promise 1: empty logs, nobody known, and what else "Terms" says to be so at first. */
public final class Promise01NewObjectTest {
    public static void main(String[] args) {
        logsAreEmpty();
        nobodyIsKnown();
        groupsAreEmpty();
        timeIsZero();
        lastIsZero();
        theFirstTransactionIsOne();
        objectsAreApart();
        Script.end();
    }

    private static void logsAreEmpty() {
        for (int partition = 0; partition < 4; partition++) {
            Script.check("promise 1: empty logs", """
                    edge(P, 0) = 0
                    edge(P, 1) = 0
                    edge(P, 2) = 0
                    edge(P, 3) = 0
                    fetch(P, 0, false) throws NoSuchElementException
                    fetch(P, 0, true) throws NoSuchElementException
                    fetch(P, 600, false) throws NoSuchElementException
                    lose(P) = 0
                    copy(P, 1) = 0
                    copy(P, 40) = 0
                    trim(P, 0) = 0
                    trim(P, 1) throws IndexOutOfBoundsException
                    plain(P, 5) = 0
                    """.replace("(P", "(" + partition));
        }
    }

    private static void nobodyIsKnown() {
        for (int name = 0; name < 4; name++) {
            Script.check("promise 1: nobody known", """
                    8 x fact(N, #) = -1
                    begin(N, 0) throws NoSuchElementException
                    begin(N, -1) throws NoSuchElementException
                    send(N, 0, 0, 0, 1) throws NoSuchElementException
                    send(N, -1, 0, 0, 1) throws NoSuchElementException
                    pend(N, 0, 0, 0, 0) throws NoSuchElementException
                    finish(N, 0, true) throws NoSuchElementException
                    finish(N, -1, false) throws NoSuchElementException
                    step() = -1
                    init(N) = 0
                    """.replace("(N", "(" + name));
        }
    }

    private static void groupsAreEmpty() {
        for (int group = 0; group < 2; group++) {
            Script.check("promise 1: no members, generation 0, nothing committed", """
                    4 x edge(#, WHAT) = -1
                    beat(G, 0, 0) throws NoSuchElementException
                    beat(G, 3, 0) throws NoSuchElementException
                    leave(G, 0) throws NoSuchElementException
                    leave(G, 3) throws NoSuchElementException
                    mark(G, 0, 0, 0, 0) throws NoSuchElementException
                    tick(30) = 0
                    join(G, 0) = 1
                    """.replace("(G", "(" + group).replace("WHAT", Integer.toString(4 + group)));
        }
    }

    private static void timeIsZero() {
        Script.check("promise 1: time 0, seen by a producer", """
                init(0) = 0
                begin(0, 0) = 1
                tick(29) = 0
                tick(1) = 1
                """);
        Script.check("promise 1: time 0, seen by a member", """
                join(0, 0) = 1
                tick(19) = 0
                tick(1) = 1
                """);
    }

    private static void lastIsZero() {
        Script.check("promise 1: LAST is 0", "last() = 0");
    }

    private static void theFirstTransactionIsOne() {
        Script.check("promise 1: no transaction was begun", """
                init(3) = 0
                begin(3, 0) = 1
                """);
    }

    private static void objectsAreApart() {
        FencedBroker used = new FencedBroker();
        FencedBroker other = new FencedBroker();
        used.plain(0, 7);
        used.copy(0, 1);
        used.fetch(0, 0, false);
        used.init(0);
        used.begin(0, 0);
        used.join(0, 0);
        Script.same("promise 1: the other's log", other.edge(0, 3), 0);
        Script.same("promise 1: the other's last", other.last(), 0);
        Script.same("promise 1: the other's producer", other.fact(0, 0), -1);
        Script.same("promise 1: the other's group", other.join(0, 1), 1);
        other.init(1);
        Script.same("promise 1: the other's transactions", other.begin(1, 0), 1);
    }
}
