import java.util.ArrayList;
import java.util.HashMap;
import java.util.List;
import java.util.Map;
import java.util.NoSuchElementException;
import java.util.SortedMap;
import java.util.SortedSet;
import java.util.TreeMap;
import java.util.TreeSet;

/** The document's words written down once more, each term as it stands there and without any short cut. */
final class Model {
    private record Rec(boolean data, int value, int name, int age, int sequence, int transaction, boolean commit) {}

    private static final class Part {
        List<Rec> log = new ArrayList<>();
        int start, high;
    }

    private static final class Prod {
        int age, transaction, begun;
        String state = "IDLE";
        SortedSet<Integer> touched = new TreeSet<>();
        Map<List<Integer>, Integer> pending = new HashMap<>();
    }

    private static final class Grp {
        int generation;
        SortedMap<Integer, SortedSet<Integer>> members = new TreeMap<>();
        Map<Integer, Integer> heard = new HashMap<>();
        Map<Integer, Integer> committed = new HashMap<>();
    }

    private final List<Part> parts = List.of(new Part(), new Part(), new Part(), new Part());
    private final SortedMap<Integer, Prod> known = new TreeMap<>();
    private final List<Grp> groups = List.of(new Grp(), new Grp());
    private int begun, time, last;

    String answer(String name, int[] a) {
        try {
            return Integer.toString(call(name, a));
        } catch (RuntimeException e) {
            return e.getClass().getSimpleName();
        }
    }

    private int call(String name, int[] a) {
        return switch (name) {
            case "init" -> init(a[0]);
            case "begin" -> begin(a[0], a[1]);
            case "send" -> send(a[0], a[1], a[2], a[3], a[4]);
            case "pend" -> pend(a[0], a[1], a[2], a[3], a[4]);
            case "finish" -> finish(a[0], a[1], a[2] != 0);
            case "step" -> step();
            case "plain" -> plain(a[0], a[1]);
            case "copy" -> copy(a[0], a[1]);
            case "lose" -> lose(a[0]);
            case "fetch" -> fetch(a[0], a[1], a[2] != 0);
            case "last" -> last;
            case "trim" -> trim(a[0], a[1]);
            case "join" -> join(a[0], a[1]);
            case "leave" -> leave(a[0], a[1]);
            case "beat" -> beat(a[0], a[1], a[2]);
            case "mark" -> mark(a[0], a[1], a[2], a[3], a[4]);
            case "tick" -> tick(a[0]);
            case "edge" -> edge(a[0], a[1]);
            case "fact" -> fact(a[0], a[1]);
            default -> throw new AssertionError(name);
        };
    }

    private static void range(int number, int least, int most) {
        if (number < least || number > most) throw new IllegalArgumentException();
    }

    private static void state(boolean good) {
        if (!good) throw new IllegalStateException();
    }

    private static void supported(boolean good) {
        if (!good) throw new UnsupportedOperationException();
    }

    private static void within(boolean good) {
        if (!good) throw new IndexOutOfBoundsException();
    }

    private Prod producer(int name, int age) {
        if (!known.containsKey(name)) throw new NoSuchElementException();
        state(known.get(name).age == age);
        return known.get(name);
    }

    private Prod open(int name, int age) {
        Prod prod = producer(name, age);
        state(prod.state.equals("OPEN"));
        return prod;
    }

    private static boolean full(Part part) {
        return part.log.size() - part.start >= 32 || part.log.size() >= 400;
    }

    /** The offsets of DATA with this NAME and AGE. */
    private static List<Integer> such(Part part, int name, int age) {
        List<Integer> offsets = new ArrayList<>();
        for (int i = 0; i < part.log.size(); i++) {
            Rec rec = part.log.get(i);
            if (rec.data && rec.name == name && rec.age == age) offsets.add(i);
        }
        return offsets;
    }

    private static int next(Part part, int name, int age) {
        return such(part, name, age).stream().mapToInt(i -> part.log.get(i).sequence + 1).max().orElse(0);
    }

    private static boolean markerIn(List<Rec> log, int transaction) {
        return log.stream().anyMatch(rec -> !rec.data && rec.transaction == transaction);
    }

    private static boolean ended(Part part, int transaction) {
        return markerIn(part.log.subList(0, part.high), transaction);
    }

    private static boolean aborted(Part part, int transaction) {
        return part.log.subList(0, part.high).stream()
                .anyMatch(rec -> !rec.data && rec.transaction == transaction && !rec.commit);
    }

    private static int stable(Part part) {
        int least = part.high;
        for (int i = part.log.size() - 1; i >= 0; i--) {
            Rec rec = part.log.get(i);
            if (rec.data && rec.transaction > 0 && !ended(part, rec.transaction)) least = Math.min(least, i);
        }
        return least;
    }

    private int init(int name) {
        range(name, 0, 3);
        Prod prod = known.get(name);
        if (prod == null) {
            known.put(name, new Prod());
            return 0;
        }
        state(!prod.state.equals("COMMITTING") && !prod.state.equals("ABORTING"));
        prod.age++;
        if (prod.state.equals("OPEN")) {
            prod.state = "ABORTING";
            throw new IllegalStateException();
        }
        return prod.age;
    }

    private int begin(int name, int age) {
        range(name, 0, 3);
        Prod prod = producer(name, age);
        state(prod.state.equals("IDLE") && begun < 40);
        begun++;
        prod.state = "OPEN";
        prod.transaction = begun;
        prod.begun = time;
        prod.touched.clear();
        prod.pending.clear();
        return begun;
    }

    private int send(int name, int age, int partition, int sequence, int value) {
        range(name, 0, 3);
        range(partition, 0, 3);
        range(sequence, 0, 1000);
        Prod prod = open(name, age);
        Part part = parts.get(partition);
        List<Integer> such = such(part, name, age);
        for (int offset : such.subList(Math.max(0, such.size() - 5), such.size())) {
            if (part.log.get(offset).sequence == sequence) {
                prod.touched.add(partition);
                return offset;
            }
        }
        supported(sequence == next(part, name, age));
        state(!full(part));
        part.log.add(new Rec(true, value, name, age, sequence, prod.transaction, false));
        prod.touched.add(partition);
        return part.log.size() - 1;
    }

    private int pend(int name, int age, int group, int partition, int offset) {
        range(name, 0, 3);
        range(group, 0, 1);
        range(partition, 0, 3);
        range(offset, 0, 600);
        Prod prod = open(name, age);
        prod.pending.put(List.of(group, partition), offset);
        return prod.pending.size();
    }

    private int finish(int name, int age, boolean commit) {
        range(name, 0, 3);
        Prod prod = open(name, age);
        for (Part part : parts) {
            for (Rec rec : part.log.subList(part.high, part.log.size())) {
                supported(!(commit && rec.data && rec.transaction == prod.transaction));
            }
        }
        prod.state = commit ? "COMMITTING" : "ABORTING";
        return prod.touched.size();
    }

    private int step() {
        for (int name : known.keySet()) {
            Prod prod = known.get(name);
            if (!prod.state.equals("COMMITTING") && !prod.state.equals("ABORTING")) continue;
            if (prod.touched.isEmpty()) {
                if (prod.state.equals("COMMITTING")) {
                    prod.pending.forEach((at, offset) -> groups.get(at.get(0)).committed.put(at.get(1), offset));
                }
                prod.state = "IDLE";
                return 10 * name + 3;
            }
            for (int partition : prod.touched) {
                Part part = parts.get(partition);
                if (ended(part, prod.transaction)) {
                    prod.touched.remove(partition);
                    return 10 * name + 2;
                }
                if (!markerIn(part.log, prod.transaction)) {
                    boolean commit = prod.state.equals("COMMITTING");
                    part.log.add(new Rec(false, 0, -1, -1, -1, prod.transaction, commit));
                    return 10 * name + 1;
                }
            }
        }
        return -1;
    }

    private int plain(int partition, int value) {
        range(partition, 0, 3);
        Part part = parts.get(partition);
        state(!full(part));
        part.log.add(new Rec(true, value, -1, -1, -1, 0, false));
        return part.log.size() - 1;
    }

    private int copy(int partition, int n) {
        range(partition, 0, 3);
        range(n, 1, 40);
        Part part = parts.get(partition);
        while (n-- > 0 && part.high < part.log.size()) part.high++;
        return part.high;
    }

    private int lose(int partition) {
        range(partition, 0, 3);
        Part part = parts.get(partition);
        int before = part.log.size();
        part.log = new ArrayList<>(part.log.subList(0, part.high));
        return before - part.log.size();
    }

    private int fetch(int partition, int offset, boolean committed) {
        range(partition, 0, 3);
        range(offset, 0, 600);
        Part part = parts.get(partition);
        within(offset >= part.start);
        for (int i = offset; i < part.high; i++) {
            Rec rec = part.log.get(i);
            boolean read = rec.data && (!committed || i < stable(part) && !aborted(part, rec.transaction));
            if (read) {
                last = rec.value;
                return i;
            }
        }
        throw new NoSuchElementException();
    }

    private int trim(int partition, int offset) {
        range(partition, 0, 3);
        range(offset, 0, 600);
        Part part = parts.get(partition);
        within(offset >= part.start && offset <= stable(part));
        int fewer = offset - part.start;
        part.start = offset;
        return fewer;
    }

    private static void share(Grp grp) {
        grp.generation++;
        if (grp.members.isEmpty()) return;
        int low = 4 / grp.members.size();
        int extra = 4 % grp.members.size();
        SortedSet<Integer> free = new TreeSet<>(List.of(0, 1, 2, 3));
        for (SortedSet<Integer> own : grp.members.values()) {
            int keep = low;
            if (own.size() > low && extra > 0) {
                keep++;
                extra--;
            }
            while (own.size() > keep) own.remove(own.last());
            free.removeAll(own);
        }
        for (int partition : free) {
            int fewest = grp.members.values().stream().mapToInt(SortedSet::size).min().getAsInt();
            grp.members.values().stream().filter(own -> own.size() == fewest).findFirst().get().add(partition);
        }
    }

    private int join(int group, int member) {
        range(group, 0, 1);
        range(member, 0, 3);
        Grp grp = groups.get(group);
        state(!grp.members.containsKey(member));
        grp.members.put(member, new TreeSet<>());
        grp.heard.put(member, time);
        share(grp);
        return grp.generation;
    }

    private Grp withMember(int group, int member) {
        if (!groups.get(group).members.containsKey(member)) throw new NoSuchElementException();
        return groups.get(group);
    }

    private int leave(int group, int member) {
        range(group, 0, 1);
        range(member, 0, 3);
        Grp grp = withMember(group, member);
        grp.members.remove(member);
        share(grp);
        return grp.generation;
    }

    private static int sum(SortedSet<Integer> partitions) {
        return partitions.stream().mapToInt(partition -> 1 << partition).sum();
    }

    private int beat(int group, int member, int generation) {
        range(group, 0, 1);
        range(member, 0, 3);
        Grp grp = withMember(group, member);
        state(grp.generation == generation);
        grp.heard.put(member, time);
        return sum(grp.members.get(member));
    }

    private int mark(int group, int member, int generation, int partition, int offset) {
        range(group, 0, 1);
        range(member, 0, 3);
        range(partition, 0, 3);
        range(offset, 0, 600);
        Grp grp = withMember(group, member);
        state(grp.generation == generation);
        supported(grp.members.get(member).contains(partition));
        Integer before = grp.committed.put(partition, offset);
        return before == null ? -1 : before;
    }

    private int tick(int by) {
        range(by, 0, 30);
        time += by;
        int count = 0;
        for (Prod prod : known.values()) {
            if (prod.state.equals("OPEN") && prod.begun <= time - 30) {
                prod.age++;
                prod.state = "ABORTING";
                count++;
            }
        }
        for (Grp grp : groups) {
            int before = grp.members.size();
            grp.members.keySet().removeIf(member -> grp.heard.get(member) <= time - 20);
            if (grp.members.size() < before) share(grp);
            count += before - grp.members.size();
        }
        return count;
    }

    private int edge(int partition, int what) {
        range(partition, 0, 3);
        range(what, 0, 5);
        Part part = parts.get(partition);
        return switch (what) {
            case 0 -> part.start;
            case 1 -> stable(part);
            case 2 -> part.high;
            case 3 -> part.log.size();
            default -> groups.get(what - 4).committed.getOrDefault(partition, -1);
        };
    }

    private int fact(int name, int what) {
        range(name, 0, 3);
        range(what, 0, 7);
        Prod prod = known.get(name);
        if (prod == null) return -1;
        boolean idle = prod.state.equals("IDLE");
        return switch (what) {
            case 0 -> List.of("IDLE", "OPEN", "COMMITTING", "ABORTING").indexOf(prod.state);
            case 1 -> prod.age;
            case 2 -> idle ? 0 : prod.transaction;
            case 3 -> idle ? 0 : sum(prod.touched);
            default -> next(parts.get(what - 4), name, prod.age);
        };
    }

    /** What a caller who follows the run would know; helps to choose calls that are not refused. */
    int ageOf(int name) {
        return known.containsKey(name) ? known.get(name).age : 0;
    }

    int nextOf(int name, int partition) {
        return next(parts.get(partition), name, ageOf(name));
    }

    int generationOf(int group) {
        return groups.get(group).generation;
    }

    int lengthOf(int partition) {
        return parts.get(partition).log.size();
    }

    int stableOf(int partition) {
        return stable(parts.get(partition));
    }
}
