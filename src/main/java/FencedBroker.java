import java.util.ArrayList;
import java.util.Arrays;
import java.util.NoSuchElementException;

/**
 * A broker of messages: partitions whose logs are copied to a second disk, producers with ages and
 * sequences, transactions that end by markers, readers of what is committed, and groups of readers.
 * DOC.md says what each call promises; the words in capitals there are the names used here.
 */
public final class FencedBroker {
    private static final int PARTITIONS = 4;
    private static final int NAMES = 4;
    private static final int GROUPS = 2;
    private static final int MEMBERS = 4;

    private static final int MOST_SEQUENCE = 1000;
    private static final int MOST_OFFSET = 600;
    private static final int MOST_COPIED = 40;
    private static final int MOST_TICK = 30;
    private static final int MOST_EDGE = 5;
    private static final int MOST_FACT = 7;
    private static final int MOST_TRANSACTIONS = 40;
    private static final int OVERDUE = 30;
    private static final int SILENT = 20;

    /** Stands for an offset, a name or a sequence that is not there. */
    private static final int NONE = -1;
    private static final int NO_TRANSACTION = 0;

    private static final int NOTHING_DONE = 0;
    private static final int MARKER_PUT = 1;
    private static final int PARTITION_DONE = 2;
    private static final int TRANSACTION_DONE = 3;

    private final Log[] logs = new Log[PARTITIONS];
    private final Producer[] producers = new Producer[NAMES];
    private final Group[] groups = new Group[GROUPS];
    private int transactions = 0;
    private int time = 0;
    private int lastValue = 0;

    public FencedBroker() {
        for (int partition = 0; partition < PARTITIONS; partition++) {
            logs[partition] = new Log();
        }
        for (int name = 0; name < NAMES; name++) {
            producers[name] = new Producer(name);
        }
        for (int group = 0; group < GROUPS; group++) {
            groups[group] = new Group();
        }
    }

    public int init(int name) throws IllegalArgumentException, IllegalStateException {
        requireRange(name, 0, NAMES - 1);
        Producer producer = producers[name];
        if (producer.isEnding()) {
            throw new IllegalStateException("the producer's transaction is ending");
        }
        if (producer.isOpen()) {
            producer.fence();
            throw new IllegalStateException("the producer's transaction was open and is aborted");
        }
        return producer.renew();
    }

    public int begin(int name, int age)
            throws IllegalArgumentException, NoSuchElementException, IllegalStateException {
        requireRange(name, 0, NAMES - 1);
        Producer producer = knownProducer(name, age);
        if (!producer.isIdle()) {
            throw new IllegalStateException("the producer has a transaction");
        }
        if (transactions >= MOST_TRANSACTIONS) {
            throw new IllegalStateException("no more transactions can be begun");
        }
        transactions++;
        producer.open(transactions, time);
        return transactions;
    }

    public int send(int name, int age, int partition, int sequence, int value)
            throws IllegalArgumentException, NoSuchElementException, IllegalStateException,
                    UnsupportedOperationException {
        requireRange(name, 0, NAMES - 1);
        requireRange(partition, 0, PARTITIONS - 1);
        requireRange(sequence, 0, MOST_SEQUENCE);
        Producer producer = openProducer(name, age);
        Log log = logs[partition];
        int offset = log.recentOffset(name, age, sequence);
        if (offset == NONE) {
            offset = sendNew(producer, log, sequence, value);
        }
        producer.touch(partition);
        return offset;
    }

    public int pend(int name, int age, int group, int partition, int offset)
            throws IllegalArgumentException, NoSuchElementException, IllegalStateException {
        requireRange(name, 0, NAMES - 1);
        requireRange(group, 0, GROUPS - 1);
        requireRange(partition, 0, PARTITIONS - 1);
        requireRange(offset, 0, MOST_OFFSET);
        return openProducer(name, age).putPending(group, partition, offset);
    }

    public int finish(int name, int age, boolean commit)
            throws IllegalArgumentException, NoSuchElementException, IllegalStateException,
                    UnsupportedOperationException {
        requireRange(name, 0, NAMES - 1);
        Producer producer = openProducer(name, age);
        if (commit && hasUncopied(producer.transaction)) {
            throw new UnsupportedOperationException("data of the transaction is on one disk only");
        }
        producer.startEnding(commit);
        return Integer.bitCount(producer.touched);
    }

    public int step() {
        for (int name = 0; name < NAMES; name++) {
            int done = advance(producers[name]);
            if (done != NOTHING_DONE) {
                return 10 * name + done;
            }
        }
        return NONE;
    }

    public int plain(int partition, int value) throws IllegalArgumentException, IllegalStateException {
        requireRange(partition, 0, PARTITIONS - 1);
        Log log = logs[partition];
        requireSpace(log);
        return log.put(Entry.ofPlain(value));
    }

    public int copy(int partition, int n) throws IllegalArgumentException {
        requireRange(partition, 0, PARTITIONS - 1);
        requireRange(n, 1, MOST_COPIED);
        return logs[partition].raiseHigh(n);
    }

    public int lose(int partition) throws IllegalArgumentException {
        requireRange(partition, 0, PARTITIONS - 1);
        return logs[partition].dropUncopied();
    }

    public int fetch(int partition, int offset, boolean committed)
            throws IllegalArgumentException, IndexOutOfBoundsException, NoSuchElementException {
        requireRange(partition, 0, PARTITIONS - 1);
        requireRange(offset, 0, MOST_OFFSET);
        Log log = logs[partition];
        if (offset < log.start) {
            throw new IndexOutOfBoundsException("the offset is below the start");
        }
        int found = log.firstReadable(offset, committed);
        if (found == NONE) {
            throw new NoSuchElementException("nothing to read from there on");
        }
        lastValue = log.valueAt(found);
        return found;
    }

    public int last() {
        return lastValue;
    }

    public int trim(int partition, int offset) throws IllegalArgumentException, IndexOutOfBoundsException {
        requireRange(partition, 0, PARTITIONS - 1);
        requireRange(offset, 0, MOST_OFFSET);
        Log log = logs[partition];
        if (offset < log.start || offset > log.stableOffset()) {
            throw new IndexOutOfBoundsException("the offset is not between start and stable");
        }
        int fewer = offset - log.start;
        log.start = offset;
        return fewer;
    }

    public int join(int group, int member) throws IllegalArgumentException, IllegalStateException {
        requireRange(group, 0, GROUPS - 1);
        requireRange(member, 0, MEMBERS - 1);
        Group joined = groups[group];
        if (joined.isMember(member)) {
            throw new IllegalStateException("it is a member already");
        }
        joined.addMember(member, time);
        joined.share();
        return joined.generation;
    }

    public int leave(int group, int member) throws IllegalArgumentException, NoSuchElementException {
        requireRange(group, 0, GROUPS - 1);
        requireRange(member, 0, MEMBERS - 1);
        Group left = groupWith(group, member);
        left.removeMember(member);
        left.share();
        return left.generation;
    }

    public int beat(int group, int member, int generation)
            throws IllegalArgumentException, NoSuchElementException, IllegalStateException {
        requireRange(group, 0, GROUPS - 1);
        requireRange(member, 0, MEMBERS - 1);
        Group heard = groupAt(group, member, generation);
        heard.hear(member, time);
        return heard.owned[member];
    }

    public int mark(int group, int member, int generation, int partition, int offset)
            throws IllegalArgumentException, NoSuchElementException, IllegalStateException,
                    UnsupportedOperationException {
        requireRange(group, 0, GROUPS - 1);
        requireRange(member, 0, MEMBERS - 1);
        requireRange(partition, 0, PARTITIONS - 1);
        requireRange(offset, 0, MOST_OFFSET);
        Group marked = groupAt(group, member, generation);
        if (!has(marked.owned[member], partition)) {
            throw new UnsupportedOperationException("the partition is not the member's");
        }
        int before = marked.committed[partition];
        marked.committed[partition] = offset;
        return before;
    }

    public int tick(int by) throws IllegalArgumentException {
        requireRange(by, 0, MOST_TICK);
        time += by;
        int ended = 0;
        for (int name = 0; name < NAMES; name++) {
            Producer producer = producers[name];
            if (producer.isOpen() && time - producer.begunAt >= OVERDUE) {
                producer.fence();
                ended++;
            }
        }
        for (int group = 0; group < GROUPS; group++) {
            ended += groups[group].dropSilent(time);
        }
        return ended;
    }

    public int edge(int partition, int what) throws IllegalArgumentException {
        requireRange(partition, 0, PARTITIONS - 1);
        requireRange(what, 0, MOST_EDGE);
        Log log = logs[partition];
        switch (what) {
            case 0:
                return log.start;
            case 1:
                return log.stableOffset();
            case 2:
                return log.high;
            case 3:
                return log.length();
            default:
                return groups[what - 4].committed[partition];
        }
    }

    public int fact(int name, int what) throws IllegalArgumentException {
        requireRange(name, 0, NAMES - 1);
        requireRange(what, 0, MOST_FACT);
        Producer producer = producers[name];
        if (!producer.isKnown()) {
            return NONE;
        }
        switch (what) {
            case 0:
                return producer.state;
            case 1:
                return producer.age;
            case 2:
                return producer.transaction;
            case 3:
                return producer.touched;
            default:
                return logs[what - 4].nextSequence(name, producer.age);
        }
    }

    private static void requireRange(int number, int least, int most) throws IllegalArgumentException {
        if (number < least || number > most) {
            throw new IllegalArgumentException("a number is out of range");
        }
    }

    private static void requireSpace(Log log) throws IllegalStateException {
        if (log.isFull()) {
            throw new IllegalStateException("the log is full");
        }
    }

    private static boolean has(int partitions, int partition) {
        return (partitions >> partition & 1) != 0;
    }

    private Producer knownProducer(int name, int age) throws NoSuchElementException, IllegalStateException {
        Producer producer = producers[name];
        if (!producer.isKnown()) {
            throw new NoSuchElementException("the producer is not known");
        }
        if (producer.age != age) {
            throw new IllegalStateException("it is not the producer's age");
        }
        return producer;
    }

    private Producer openProducer(int name, int age) throws NoSuchElementException, IllegalStateException {
        Producer producer = knownProducer(name, age);
        if (!producer.isOpen()) {
            throw new IllegalStateException("the producer is not open");
        }
        return producer;
    }

    private static int sendNew(Producer producer, Log log, int sequence, int value)
            throws IllegalStateException, UnsupportedOperationException {
        if (sequence != log.nextSequence(producer.name, producer.age)) {
            throw new UnsupportedOperationException("the sequence is not the next one");
        }
        requireSpace(log);
        return log.put(Entry.ofProducer(producer, sequence, value));
    }

    private boolean hasUncopied(int transaction) {
        for (int partition = 0; partition < PARTITIONS; partition++) {
            if (logs[partition].hasUncopied(transaction)) {
                return true;
            }
        }
        return false;
    }

    private int advance(Producer producer) {
        if (!producer.isEnding()) {
            return NOTHING_DONE;
        }
        if (producer.touched == 0) {
            endTransaction(producer);
            return TRANSACTION_DONE;
        }
        for (int partition = 0; partition < PARTITIONS; partition++) {
            int done = has(producer.touched, partition) ? advanceIn(producer, partition) : NOTHING_DONE;
            if (done != NOTHING_DONE) {
                return done;
            }
        }
        return NOTHING_DONE;
    }

    private int advanceIn(Producer producer, int partition) {
        Log log = logs[partition];
        if (log.hasEnded(producer.transaction)) {
            producer.untouch(partition);
            return PARTITION_DONE;
        }
        if (log.hasMarker(producer.transaction)) {
            return NOTHING_DONE;
        }
        log.putMarker(producer.transaction, producer.isCommitting());
        return MARKER_PUT;
    }

    private void endTransaction(Producer producer) {
        if (producer.isCommitting()) {
            for (int group = 0; group < GROUPS; group++) {
                producer.commitPending(group, groups[group].committed);
            }
        }
        producer.becomeIdle();
    }

    private Group groupWith(int group, int member) throws NoSuchElementException {
        Group found = groups[group];
        if (!found.isMember(member)) {
            throw new NoSuchElementException("it is no member");
        }
        return found;
    }

    private Group groupAt(int group, int member, int generation)
            throws NoSuchElementException, IllegalStateException {
        Group found = groupWith(group, member);
        if (found.generation != generation) {
            throw new IllegalStateException("it is not the group's generation");
        }
        return found;
    }

    /** A record of a log. What a kind of record does not have is NONE, or NO_TRANSACTION. */
    private static final class Entry {
        private static final int DATA = 0;
        private static final int COMMIT = 1;
        private static final int ABORT = 2;

        private final int kind;
        private final int transaction;
        private final int name;
        private final int age;
        private final int sequence;
        private final int value;

        private Entry(int kind, int transaction, int name, int age, int sequence, int value) {
            this.kind = kind;
            this.transaction = transaction;
            this.name = name;
            this.age = age;
            this.sequence = sequence;
            this.value = value;
        }

        static Entry ofPlain(int value) {
            return new Entry(DATA, NO_TRANSACTION, NONE, NONE, NONE, value);
        }

        static Entry ofProducer(Producer producer, int sequence, int value) {
            return new Entry(DATA, producer.transaction, producer.name, producer.age, sequence, value);
        }

        static Entry ofMarker(int transaction, boolean commit) {
            return new Entry(commit ? COMMIT : ABORT, transaction, NONE, NONE, NONE, 0);
        }

        boolean isData() {
            return kind == DATA;
        }

        boolean isDataOf(int producer, int producerAge) {
            return kind == DATA && name == producer && age == producerAge;
        }
    }

    /** The records of a partition. */
    private static final class Log {
        private static final int MOST_FROM_START = 32;
        private static final int MOST_IN_ALL = 400;
        private static final int MOST_RECENT = 5;

        private final ArrayList<Entry> entries = new ArrayList<>();
        /** The offset of each transaction's marker, so that no search of a search is needed. */
        private final int[] markerAt = new int[MOST_TRANSACTIONS + 1];
        private int start = 0;
        private int high = 0;

        Log() {
            Arrays.fill(markerAt, NONE);
        }

        int length() {
            return entries.size();
        }

        boolean isFull() {
            return length() - start >= MOST_FROM_START || length() >= MOST_IN_ALL;
        }

        int put(Entry entry) {
            entries.add(entry);
            return length() - 1;
        }

        void putMarker(int transaction, boolean commit) {
            markerAt[transaction] = put(Entry.ofMarker(transaction, commit));
        }

        boolean hasMarker(int transaction) {
            return markerAt[transaction] != NONE;
        }

        boolean hasEnded(int transaction) {
            return hasMarker(transaction) && markerAt[transaction] < high;
        }

        private boolean isAborted(int transaction) {
            return hasEnded(transaction) && entries.get(markerAt[transaction]).kind == Entry.ABORT;
        }

        private boolean isUnended(Entry entry) {
            return entry.isData() && entry.transaction != NO_TRANSACTION && !hasEnded(entry.transaction);
        }

        int stableOffset() {
            for (int offset = 0; offset < high; offset++) {
                if (isUnended(entries.get(offset))) {
                    return offset;
                }
            }
            return high;
        }

        int nextSequence(int name, int age) {
            // Sequences rise along the log, so the last record has the greatest one.
            for (int offset = length() - 1; offset >= 0; offset--) {
                Entry entry = entries.get(offset);
                if (entry.isDataOf(name, age)) {
                    return entry.sequence + 1;
                }
            }
            return 0;
        }

        int recentOffset(int name, int age, int sequence) {
            int seen = 0;
            for (int offset = length() - 1; offset >= 0 && seen < MOST_RECENT; offset--) {
                Entry entry = entries.get(offset);
                if (entry.isDataOf(name, age)) {
                    if (entry.sequence == sequence) {
                        return offset;
                    }
                    seen++;
                }
            }
            return NONE;
        }

        boolean hasUncopied(int transaction) {
            for (int offset = high; offset < length(); offset++) {
                Entry entry = entries.get(offset);
                if (entry.isData() && entry.transaction == transaction) {
                    return true;
                }
            }
            return false;
        }

        int raiseHigh(int by) {
            high = Math.min(high + by, length());
            return high;
        }

        int dropUncopied() {
            int lost = length() - high;
            for (int offset = length() - 1; offset >= high; offset--) {
                Entry entry = entries.remove(offset);
                if (!entry.isData()) {
                    markerAt[entry.transaction] = NONE;
                }
            }
            return lost;
        }

        int firstReadable(int from, boolean committed) {
            int end = committed ? stableOffset() : high;
            for (int offset = from; offset < end; offset++) {
                Entry entry = entries.get(offset);
                if (entry.isData() && !(committed && isAborted(entry.transaction))) {
                    return offset;
                }
            }
            return NONE;
        }

        int valueAt(int offset) {
            return entries.get(offset).value;
        }
    }

    /** A producer, known or not, with its transaction if it is not idle. */
    private static final class Producer {
        // The numbers are those that fact answers.
        private static final int UNKNOWN = -1;
        private static final int IDLE = 0;
        private static final int OPEN = 1;
        private static final int COMMITTING = 2;
        private static final int ABORTING = 3;

        private final int name;
        private int state = UNKNOWN;
        /** NONE before the first renewal, which therefore makes it 0. */
        private int age = NONE;
        private int transaction = NO_TRANSACTION;
        private int begunAt = 0;
        private int touched = 0;
        /** By group and partition, NONE where nothing is pending. */
        private final int[] pending = new int[GROUPS * PARTITIONS];

        Producer(int name) {
            this.name = name;
            Arrays.fill(pending, NONE);
        }

        boolean isKnown() {
            return state != UNKNOWN;
        }

        boolean isIdle() {
            return state == IDLE;
        }

        boolean isOpen() {
            return state == OPEN;
        }

        boolean isCommitting() {
            return state == COMMITTING;
        }

        boolean isEnding() {
            return state == COMMITTING || state == ABORTING;
        }

        int renew() {
            state = IDLE;
            age++;
            return age;
        }

        void open(int number, int now) {
            state = OPEN;
            transaction = number;
            begunAt = now;
        }

        void startEnding(boolean commit) {
            state = commit ? COMMITTING : ABORTING;
        }

        void fence() {
            age++;
            state = ABORTING;
        }

        void becomeIdle() {
            state = IDLE;
            transaction = NO_TRANSACTION;
            Arrays.fill(pending, NONE);
        }

        void touch(int partition) {
            touched |= 1 << partition;
        }

        void untouch(int partition) {
            touched &= ~(1 << partition);
        }

        int putPending(int group, int partition, int offset) {
            pending[group * PARTITIONS + partition] = offset;
            int count = 0;
            for (int there : pending) {
                if (there != NONE) {
                    count++;
                }
            }
            return count;
        }

        void commitPending(int group, int[] committed) {
            for (int partition = 0; partition < PARTITIONS; partition++) {
                int offset = pending[group * PARTITIONS + partition];
                if (offset != NONE) {
                    committed[partition] = offset;
                }
            }
        }
    }

    /** A group of readers. */
    private static final class Group {
        private int generation = 0;
        private final boolean[] members = new boolean[MEMBERS];
        private final int[] heardAt = new int[MEMBERS];
        /** Each member's partitions as a sum of 2 to their numbers, 0 for who is no member. */
        private final int[] owned = new int[MEMBERS];
        private final int[] committed = new int[PARTITIONS];

        Group() {
            Arrays.fill(committed, NONE);
        }

        boolean isMember(int member) {
            return members[member];
        }

        void addMember(int member, int now) {
            members[member] = true;
            hear(member, now);
        }

        void removeMember(int member) {
            members[member] = false;
            owned[member] = 0;
        }

        void hear(int member, int now) {
            heardAt[member] = now;
        }

        int dropSilent(int now) {
            int dropped = 0;
            for (int member = 0; member < MEMBERS; member++) {
                if (members[member] && now - heardAt[member] >= SILENT) {
                    removeMember(member);
                    dropped++;
                }
            }
            if (dropped > 0) {
                share();
            }
            return dropped;
        }

        void share() {
            generation++;
            int count = countMembers();
            if (count > 0) {
                takeSurplus(PARTITIONS / count, PARTITIONS % count);
                giveUnowned();
            }
        }

        private int countMembers() {
            int count = 0;
            for (boolean member : members) {
                if (member) {
                    count++;
                }
            }
            return count;
        }

        private void takeSurplus(int low, int extras) {
            int extrasLeft = extras;
            for (int member = 0; member < MEMBERS; member++) {
                if (extrasLeft > 0 && Integer.bitCount(owned[member]) > low) {
                    owned[member] = leastOf(owned[member], low + 1);
                    extrasLeft--;
                } else {
                    owned[member] = leastOf(owned[member], low);
                }
            }
        }

        private static int leastOf(int partitions, int most) {
            int kept = 0;
            for (int partition = 0; partition < PARTITIONS; partition++) {
                if (has(partitions, partition) && Integer.bitCount(kept) < most) {
                    kept |= 1 << partition;
                }
            }
            return kept;
        }

        private void giveUnowned() {
            for (int partition = 0; partition < PARTITIONS; partition++) {
                int poorest = poorestMember();
                if (!isOwned(partition) && poorest != NONE) {
                    owned[poorest] |= 1 << partition;
                }
            }
        }

        private boolean isOwned(int partition) {
            for (int partitions : owned) {
                if (has(partitions, partition)) {
                    return true;
                }
            }
            return false;
        }

        private int poorestMember() {
            int poorest = NONE;
            int fewest = PARTITIONS + 1;
            for (int member = 0; member < MEMBERS; member++) {
                int count = Integer.bitCount(owned[member]);
                if (members[member] && count < fewest) {
                    poorest = member;
                    fewest = count;
                }
            }
            return poorest;
        }
    }
}
