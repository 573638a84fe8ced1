import java.util.Random;

/** Runs of 512 calls, the most that the document allows, against the model; every seed is fixed. */
public final class ModelTest {
    private static final int RUNS = 600;
    private static final int CALLS = 512;

    public static void main(String[] args) {
        for (int run = 0; run < RUNS; run++) {
            // Few blocks make nodes meet often; all sixteen fill the caches.
            int blocks = run % 3 == 0 ? 3 : run % 3 == 1 ? 6 : 16;
            run(run, blocks);
        }
        Due.finish();
    }

    private static void run(int seed, int blocks) {
        Random random = new Random(seed);
        SharedDiskFs disk = new SharedDiskFs(random.nextInt(14) - 2);
        Model model = new Model();
        for (int call = 0; call < CALLS; call++) {
            compare("run " + seed + ", call " + call + ": ", random, blocks, disk, model);
        }
    }

    private static int node(Random random) {
        return random.nextInt(25) == 0 ? random.nextInt(2) * 4 - 1 : random.nextInt(3);
    }

    private static int block(Random random, int blocks) {
        return random.nextInt(25) == 0 ? random.nextInt(2) * 17 - 1 : random.nextInt(blocks);
    }

    private static void compare(String at, Random random, int blocks, SharedDiskFs disk, Model model) {
        int node = node(random);
        int a = block(random, blocks);
        int b = block(random, blocks);
        int value = random.nextInt(12) - 5;
        boolean late = random.nextBoolean();
        int kind = random.nextInt(60);
        if (kind < 10) {
            Due.is(at + "read(" + node + ", " + a + ")", model.read(node, a), disk.read(node, a));
        } else if (kind < 26) {
            Due.is(at + "write(" + node + ", " + a + ", " + value + ")",
                    model.write(node, a, value), disk.write(node, a, value));
        } else if (kind < 32) {
            Due.is(at + "swap(" + node + ", " + a + ", " + b + ")", model.swap(node, a, b), disk.swap(node, a, b));
        } else if (kind < 34) {
            Due.is(at + "sync(" + node + ")", model.sync(node), disk.sync(node));
        } else if (kind < 36) {
            Due.is(at + "crash(" + node + ")", model.crash(node), disk.crash(node));
        } else if (kind < 38) {
            Due.is(at + "crashInSync(" + node + ", " + late + ")",
                    model.crashInSync(node, late), disk.crashInSync(node, late));
        } else if (kind < 44) {
            Due.is(at + "restart(" + node + ")", model.restart(node), disk.restart(node));
        } else if (kind < 45) {
            Due.is(at + "powerCut()", model.powerCut(), disk.powerCut());
        } else if (kind < 48) {
            Due.is(at + "content(" + a + ")", model.content(a), disk.content(a));
        } else if (kind < 51) {
            Due.is(at + "safe(" + a + ")", model.safe(a), disk.safe(a));
        } else if (kind < 54) {
            Due.is(at + "owner(" + a + ")", model.owner(a), disk.owner(a));
        } else if (kind < 57) {
            Due.is(at + "unsafe(" + node + ")", model.unsafe(node), disk.unsafe(node));
        } else {
            Due.is(at + "up(" + node + ")", model.up(node), disk.up(node));
        }
    }
}
