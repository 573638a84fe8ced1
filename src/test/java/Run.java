import java.util.Random;

/** A run of calls that its seed fixes, told as a text: objects that answer alike give the same text. */
final class Run {
    /** Six calls more between any two of these, and a look at the whole state, stay within 512. */
    private static final int CALLS = 60;

    /** What is called ahead of each call of a run, and must not change what the run answers. */
    interface Between {
        void call(SharedDiskFs disk, int turn);
    }

    private Run() {
    }

    static String answers(int seed, SharedDiskFs disk) {
        return answers(seed, disk, (same, turn) -> { });
    }

    static String answers(int seed, SharedDiskFs disk, Between between) {
        Random random = new Random(seed);
        StringBuilder text = new StringBuilder();
        for (int turn = 0; turn < CALLS; turn++) {
            between.call(disk, turn);
            text.append(answer(random, disk, turn)).append(' ');
        }
        return text.append("| ").append(State.of(disk)).toString();
    }

    // Every write has a value of its own, so that no lost or late one is hidden.
    private static String answer(Random random, SharedDiskFs disk, int turn) {
        int node = random.nextInt(3);
        int a = random.nextInt(16);
        int b = random.nextInt(16);
        boolean late = random.nextBoolean();
        int kind = random.nextInt(40);
        if (kind < 6) {
            return "read " + disk.read(node, a);
        } else if (kind < 22) {
            return "write " + disk.write(node, a, 100 + turn);
        } else if (kind < 28) {
            return "swap " + disk.swap(node, a, b);
        } else if (kind < 30) {
            return "sync " + disk.sync(node);
        } else if (kind < 32) {
            return "crash " + disk.crash(node);
        } else if (kind < 34) {
            return "crashInSync " + disk.crashInSync(node, late);
        } else if (kind < 39) {
            return "restart " + disk.restart(node);
        }
        return "powerCut " + disk.powerCut();
    }
}
