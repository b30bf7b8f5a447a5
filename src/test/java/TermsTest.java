/** What the document says of all promises together: the 512 calls, and states far from a new object. */
public final class TermsTest {
    public static void main(String[] args) {
        theLastCall();
        timeFarOn();
        generationFarOn();
        ageFarOn();
        markersBeyondFull();
        refusedCallsDoNotWear();
        Script.end();
    }

    private static void theLastCall() {
        Script.check("terms: the 512th call is as any other", """
                511 x init(2)
                init(2) = 511
                """);
        Script.check("terms: the 512th call is refused as any other", """
                511 x last() = 0
                init(4) throws IllegalArgumentException
                """);
    }

    private static void timeFarOn() {
        Script.check("terms: TIME far on, a producer", """
                508 x tick(30) = 0
                init(0) = 0
                begin(0, 0) = 1
                tick(29) = 0
                tick(1) = 1
                """);
        Script.check("terms: TIME far on, a MEMBER", """
                509 x tick(30) = 0
                join(1, 0) = 1
                tick(19) = 0
                tick(1) = 1
                """);
    }

    private static void generationFarOn() {
        StringBuilder rows = new StringBuilder();
        for (int generation = 1; generation < 509; generation += 2) {
            rows.append("join(0, 3) = ").append(generation).append('\n');
            rows.append("leave(0, 3) = ").append(generation + 1).append('\n');
        }
        Script.check("terms: GENERATION far on", rows + """
                join(0, 1) = 509
                beat(0, 1, 508) throws IllegalStateException
                beat(0, 1, 509) = 15
                """);
    }

    private static void ageFarOn() {
        Script.check("terms: AGE far on", """
                500 x init(1)
                begin(1, 498) throws IllegalStateException
                begin(1, 500) throws IllegalStateException
                begin(1, 499) = 1
                send(1, 499, 0, 0, 5) = 0
                send(1, 499, 0, 0, 5) = 0
                tick(30) = 1
                fact(1, 1) = 500
                """);
    }

    private static void markersBeyondFull() {
        StringBuilder rows = new StringBuilder("init(0) = 0\nbegin(0, 0) = 1\n");
        for (int end = 32; end <= 384; end += 32) {
            rows.append("32 x plain(1, #)\ncopy(1, 40) = ").append(end);
            rows.append("\ntrim(1, ").append(end).append(") = 32\n");
        }
        rows.append("15 x plain(1, #)\nsend(0, 0, 1, 0, 8) = 399\ncopy(1, 40) = 400\n");
        for (int transaction = 1; transaction <= 8; transaction++) {
            rows.append("finish(0, 0, true) = 1\nstep() = 1\ncopy(1, 1) = ").append(400 + transaction);
            rows.append("\nstep() = 2\nstep() = 3\nbegin(0, 0) = ").append(transaction + 1);
            rows.append("\nsend(0, 0, 1, 0, 8) = 399\n");
        }
        Script.check("terms: MARKERS always fit, one after the other", rows + """
                edge(1, 3) = 408
                send(0, 0, 1, 1, 8) throws IllegalStateException
                plain(1, 8) throws IllegalStateException
                fetch(1, 400, false) throws NoSuchElementException
                trim(1, 408) = 24
                """);
    }

    private static void refusedCallsDoNotWear() {
        Script.check("terms: many refused calls change nothing", """
                init(0) = 0
                100 x begin(0, 1) throws IllegalStateException
                100 x init(-1) throws IllegalArgumentException
                100 x beat(0, 0, 0) throws NoSuchElementException
                100 x tick(31) throws IllegalArgumentException
                begin(0, 0) = 1
                join(0, 0) = 1
                tick(19) = 0
                tick(1) = 1
                tick(10) = 1
                """);
    }
}
