import java.util.Random;

/** All promises at once: long runs of chosen calls, each answer compared with the model's. */
public final class ModelTest {
    private static final int RUNS = 1200;
    private static final int CALLS = 512;

    private final Random random;
    private final FencedBroker broker = new FencedBroker();
    private final Model model = new Model();
    /** How many names and partitions a run uses: few make long logs, many make mixed ones. */
    private final int names;
    private final int partitions;
    private final int wildness;

    private ModelTest(long seed) {
        random = new Random(seed);
        names = 1 + random.nextInt(4);
        partitions = 1 + random.nextInt(4);
        wildness = random.nextInt(3) * 40;
    }

    public static void main(String[] args) {
        for (int seed = 0; seed < RUNS; seed++) {
            new ModelTest(seed).run("seed " + seed);
        }
        Script.end();
    }

    private void run(String title) {
        int kind = random.nextInt(4);
        for (int i = 0; i < CALLS; i++) {
            String name = chooseName(kind);
            int[] numbers = chooseNumbers(name);
            if (wildness > 0 && numbers.length > 0 && random.nextInt(wildness) == 0) {
                numbers[random.nextInt(numbers.length)] = wildNumber();
            }
            String call = text(name, numbers);
            String due = model.answer(name, numbers);
            if (!Script.same(title + ", call " + i + ": " + call, Script.answer(broker, call), due)) {
                // From here on the two are different objects, and all that follows would be told as wrong.
                return;
            }
        }
    }

    private String chooseName(int kind) {
        String[] mostly = switch (kind) {
            case 0 -> new String[] {"plain", "plain", "plain", "plain", "plain", "plain", "copy", "trim", "send"};
            case 1 -> new String[] {"join", "leave", "beat", "beat", "mark", "tick"};
            case 2 -> new String[] {"begin", "send", "send", "send", "pend", "finish", "step", "step", "copy"};
            default -> new String[] {"begin", "send", "finish", "step", "step", "copy", "lose", "fetch", "last"};
        };
        String[] all = {"init", "begin", "send", "pend", "finish", "step", "plain", "copy", "lose", "fetch",
            "last", "trim", "join", "leave", "beat", "mark", "tick", "edge", "fact"};
        return random.nextInt(4) > 0 ? mostly[random.nextInt(mostly.length)] : all[random.nextInt(all.length)];
    }

    private int[] chooseNumbers(String call) {
        int name = random.nextInt(names);
        int partition = random.nextInt(partitions);
        int group = random.nextInt(2);
        int member = random.nextInt(4);
        int age = model.ageOf(name) - (random.nextInt(20) == 0 ? 1 : 0);
        int generation = model.generationOf(group) - (random.nextInt(10) == 0 ? 1 : 0);
        int offset = random.nextInt(model.lengthOf(partition) + 2);
        int yes = random.nextInt(2);
        return switch (call) {
            case "init" -> new int[] {name};
            case "begin" -> new int[] {name, age};
            case "send" -> new int[] {name, age, partition, sequence(name, partition), random.nextInt()};
            case "pend" -> new int[] {name, age, group, partition, random.nextInt(601)};
            case "finish" -> new int[] {name, age, yes};
            case "plain" -> new int[] {partition, random.nextInt()};
            case "copy" -> new int[] {partition, 1 + random.nextInt(random.nextBoolean() ? 3 : 40)};
            case "lose" -> new int[] {partition};
            case "fetch" -> new int[] {partition, offset, yes};
            case "trim" -> new int[] {partition, random.nextInt(3) == 0 ? offset : model.stableOf(partition)};
            case "join", "leave" -> new int[] {group, member};
            case "beat" -> new int[] {group, member, generation};
            case "mark" -> new int[] {group, member, generation, partition, random.nextInt(601)};
            case "tick" -> new int[] {random.nextInt(random.nextBoolean() ? 31 : 4)};
            case "edge" -> new int[] {partition, random.nextInt(6)};
            case "fact" -> new int[] {name, random.nextInt(8)};
            default -> new int[0];
        };
    }

    private int sequence(int name, int partition) {
        int next = model.nextOf(name, partition);
        return random.nextInt(3) > 0 ? next : Math.max(0, next + 1 - random.nextInt(8));
    }

    private int wildNumber() {
        int[] wild = {-1, 2, 4, 5, 6, 7, 8, 30, 31, 40, 41, 600, 601, 1000, 1001, Integer.MIN_VALUE, Integer.MAX_VALUE};
        return wild[random.nextInt(wild.length)];
    }

    private static String text(String name, int[] numbers) {
        StringBuilder call = new StringBuilder(name).append('(');
        for (int i = 0; i < numbers.length; i++) {
            boolean truth = i == 2 && (name.equals("finish") || name.equals("fetch"));
            call.append(i == 0 ? "" : ", ").append(truth ? String.valueOf(numbers[i] != 0) : String.valueOf(numbers[i]));
        }
        return call.append(')').toString();
    }
}
