/** The sentences on wrong inputs: which refusal is answered, which comes first, and that nothing changes. */
public final class RefusalsTest {
    private static final int BAD_NODE = -1;
    private static final int BAD_BLOCK = -2;
    private static final int DOWN = -3;

    // Next to the edges, the refusals themselves as arguments, a good block as a node, the ends of int,
    // and what a narrower int would take for 0.
    private static final int[] BAD_NODES =
            {-1, 3, -2, -3, -4, 4, 15, 256, 65536, Integer.MIN_VALUE, Integer.MAX_VALUE};
    private static final int[] BAD_BLOCKS =
            {-1, 16, -2, -3, -4, 17, 32, 256, 65536, Integer.MIN_VALUE, Integer.MAX_VALUE};

    private static final int DOWN_NODE = 2;

    private interface BlockCall {
        int on(SharedDiskFs disk, int node, int block);
    }

    private interface NodeCall {
        int on(SharedDiskFs disk, int node);
    }

    private interface Look {
        int on(SharedDiskFs disk, int block);
    }

    public static void main(String[] args) {
        termsBadNodeIsFirst();
        termsBadBlockIsSecond();
        termsDownIsThird();
        termsDownOnlyWhereItHasToBeUp();
        termsARefusedCallChangesNothing();
        promise2Read();
        promise3Write();
        promise4SwapOfOneBlock();
        promise4SwapBadA();
        promise4SwapBadB();
        promise5Sync();
        promise6Crash();
        promise6CrashIsDownAlready();
        promise7CrashInSync();
        promise8Restart();
        promise10Content();
        promise11Safe();
        promise12Owner();
        promise13Unsafe();
        promise14Up();
        Due.finish();
    }

    // Two nodes with unsafe writes and one that is down, so that a call that is let through shows.
    private static SharedDiskFs busyDisk() {
        SharedDiskFs disk = new SharedDiskFs(2);
        disk.write(0, 0, 10);
        disk.sync(0);
        disk.write(0, 0, 20);
        disk.write(0, 3, 30);
        disk.write(1, 15, 40);
        disk.crash(DOWN_NODE);
        return disk;
    }

    private static void badNode(String name, NodeCall call) {
        for (int node : BAD_NODES) {
            SharedDiskFs disk = busyDisk();
            String before = State.of(disk);
            String told = name + " of node " + node;
            Due.is(told, BAD_NODE, call.on(disk, node));
            Due.is(told, before, State.of(disk));
        }
    }

    private static void badBlock(String name, Look call) {
        for (int block : BAD_BLOCKS) {
            SharedDiskFs disk = busyDisk();
            String before = State.of(disk);
            String told = name + " of block " + block;
            Due.is(told, BAD_BLOCK, call.on(disk, block));
            Due.is(told, before, State.of(disk));
        }
    }

    private static void down(String name, NodeCall call) {
        SharedDiskFs disk = busyDisk();
        String before = State.of(disk);
        Due.is(name + " of a node that is down", DOWN, call.on(disk, DOWN_NODE));
        Due.is(name + " of a node that is down", before, State.of(disk));
    }

    private static void nodeAndBlock(String name, BlockCall call) {
        for (int block = 0; block < 16; block++) {
            int good = block;
            badNode(name + " of block " + block, (disk, node) -> call.on(disk, node, good));
            down(name + " of block " + block, (disk, node) -> call.on(disk, node, good));
        }
        for (int block : BAD_BLOCKS) {
            badNode(name + " of block " + block, (disk, node) -> call.on(disk, node, block));
        }
        for (int node = 0; node < 3; node++) {
            int any = node;
            badBlock(name + " of node " + node, (disk, block) -> call.on(disk, any, block));
        }
    }

    private static void termsBadNodeIsFirst() {
        Due.sentence("Terms", "A node not in 0 to 2 is BAD_NODE, tested first");
        for (int node : BAD_NODES) {
            for (int block : BAD_BLOCKS) {
                SharedDiskFs disk = busyDisk();
                String of = " of node " + node + " and block " + block;
                Due.is("read" + of, BAD_NODE, disk.read(node, block));
                Due.is("write" + of, BAD_NODE, disk.write(node, block, 5));
                Due.is("swap" + of + " as a", BAD_NODE, disk.swap(node, block, 0));
                Due.is("swap" + of + " as b", BAD_NODE, disk.swap(node, 0, block));
                Due.is("swap" + of + " as both", BAD_NODE, disk.swap(node, block, block));
            }
        }
        for (int node = 0; node < 3; node++) {
            SharedDiskFs disk = new SharedDiskFs(2);
            Due.is("write of node " + node, 1, disk.write(node, 7, 5));
            Due.is("sync of node " + node, 1, disk.sync(node));
        }
    }

    private static void termsBadBlockIsSecond() {
        Due.sentence("Terms", "then a block not in 0 to 15 is BAD_BLOCK");
        for (int block : BAD_BLOCKS) {
            for (int node = 0; node < 3; node++) {
                SharedDiskFs disk = busyDisk();
                String of = " of node " + node + " and block " + block;
                Due.is("read" + of, BAD_BLOCK, disk.read(node, block));
                Due.is("write" + of, BAD_BLOCK, disk.write(node, block, 5));
                Due.is("swap" + of + " as a", BAD_BLOCK, disk.swap(node, block, 0));
                Due.is("swap" + of + " as b", BAD_BLOCK, disk.swap(node, 0, block));
                Due.is("swap" + of + " as both", BAD_BLOCK, disk.swap(node, block, block));
            }
        }
        SharedDiskFs disk = new SharedDiskFs(2);
        for (int block = 0; block < 16; block++) {
            Due.is("write of block " + block, block + 1, disk.write(0, block, 5));
            Due.is("read of block " + block, 5, disk.read(0, block));
        }
    }

    private static void termsDownIsThird() {
        Due.sentence("Terms", "then a node that is down, where it has to be up, is DOWN");
        for (int node = 0; node < 3; node++) {
            SharedDiskFs disk = new SharedDiskFs(2);
            disk.crash(node);
            String of = " of node " + node + ", which is down";
            Due.is("read" + of, DOWN, disk.read(node, 0));
            Due.is("write" + of, DOWN, disk.write(node, 15, 5));
            Due.is("swap" + of, DOWN, disk.swap(node, 0, 15));
            Due.is("sync" + of, DOWN, disk.sync(node));
            Due.is("crash" + of, DOWN, disk.crash(node));
            Due.is("late crashInSync" + of, DOWN, disk.crashInSync(node, true));
            Due.is("early crashInSync" + of, DOWN, disk.crashInSync(node, false));
            Due.is("read by another node", 0, disk.read((node + 1) % 3, 0));
            Due.is("write by another node", 1, disk.write((node + 2) % 3, 0, 5));
        }
    }

    private static void termsDownOnlyWhereItHasToBeUp() {
        Due.sentence("Terms", "where it has to be up");
        for (int node = 0; node < 3; node++) {
            SharedDiskFs disk = new SharedDiskFs(2);
            disk.crash(node);
            Due.is("unsafe of a node that is down", 0, disk.unsafe(node));
            Due.is("up of a node that is down", false, disk.up(node));
            Due.is("restart of a node that is down", 1, disk.restart(node));
        }
    }

    private static void termsARefusedCallChangesNothing() {
        Due.sentence("Terms", "A refused call changes nothing.");
        for (int seed = 0; seed < 60; seed++) {
            String alone = Run.answers(seed, new SharedDiskFs(2));
            String told = "run " + seed + " with refused calls in between";
            Due.is(told, alone, Run.answers(seed, new SharedDiskFs(2), RefusalsTest::callsThatAreRefused));
        }
    }

    private static void callsThatAreRefused(SharedDiskFs disk, int turn) {
        int block = turn % 16;
        int badNode = BAD_NODES[turn % BAD_NODES.length];
        int badBlock = BAD_BLOCKS[turn % BAD_BLOCKS.length];
        callOfANode(disk, turn, badNode, block, 15 - block);
        callOfBlocks(disk, turn, turn / 3 % 3, badBlock, block);
        for (int node = 0; node < 3; node++) {
            if (!disk.up(node)) {
                callOfANode(disk, turn / 3, node, block, 15 - block);
                break;
            }
        }
    }

    private static void callOfANode(SharedDiskFs disk, int kind, int node, int a, int b) {
        switch (kind % 7) {
            case 0 -> disk.read(node, a);
            case 1 -> disk.write(node, a, 7);
            case 2 -> disk.swap(node, a, b);
            case 3 -> disk.sync(node);
            case 4 -> disk.crash(node);
            case 5 -> disk.crashInSync(node, true);
            default -> disk.crashInSync(node, false);
        }
    }

    private static void callOfBlocks(SharedDiskFs disk, int kind, int node, int bad, int good) {
        switch (kind % 7) {
            case 0 -> disk.read(node, bad);
            case 1 -> disk.write(node, bad, 7);
            case 2 -> disk.swap(node, bad, good);
            case 3 -> disk.swap(node, good, bad);
            case 4 -> disk.content(bad);
            case 5 -> disk.safe(bad);
            default -> disk.owner(bad);
        }
    }

    private static void promise2Read() {
        Due.sentence("Promise 2", "The node reads a block. BAD_NODE; BAD_BLOCK; DOWN.");
        nodeAndBlock("read", (disk, node, block) -> disk.read(node, block));
    }

    private static void promise3Write() {
        Due.sentence("Promise 3", "The node writes a block. BAD_NODE; BAD_BLOCK; DOWN.");
        nodeAndBlock("write", (disk, node, block) -> disk.write(node, block, 5));
    }

    private static void promise4SwapOfOneBlock() {
        Due.sentence("Promise 4", "BAD_NODE; a or b bad: BAD_BLOCK; DOWN.");
        nodeAndBlock("swap with itself", (disk, node, block) -> disk.swap(node, block, block));
    }

    private static void promise4SwapBadA() {
        Due.sentence("Promise 4", "a or b bad: BAD_BLOCK");
        nodeAndBlock("swap as a with 0", (disk, node, block) -> disk.swap(node, block, 0));
        nodeAndBlock("swap as a with 15", (disk, node, block) -> disk.swap(node, block, 15));
    }

    // With a good a that another node has written: the first read must not happen either.
    private static void promise4SwapBadB() {
        Due.sentence("Promise 4", "a or b bad: BAD_BLOCK");
        nodeAndBlock("swap as b with 0", (disk, node, block) -> disk.swap(node, 0, block));
        nodeAndBlock("swap as b with 15", (disk, node, block) -> disk.swap(node, 15, block));
    }

    private static void promise5Sync() {
        Due.sentence("Promise 5", "BAD_NODE; DOWN.");
        badNode("sync", (disk, node) -> disk.sync(node));
        down("sync", (disk, node) -> disk.sync(node));
    }

    private static void promise6Crash() {
        Due.sentence("Promise 6", "BAD_NODE; it is down already: DOWN.");
        badNode("crash", (disk, node) -> disk.crash(node));
        down("crash", (disk, node) -> disk.crash(node));
    }

    private static void promise6CrashIsDownAlready() {
        Due.sentence("Promise 6", "it is down already: DOWN");
        for (int node = 0; node < 3; node++) {
            SharedDiskFs disk = new SharedDiskFs(2);
            disk.crashInSync(node, true);
            Due.is("crash after a late crash", DOWN, disk.crash(node));
            Due.is("restart after both", 1, disk.restart(node));
            Due.is("crash after the restart", 0, disk.crash(node));
            Due.is("crash after a crash", DOWN, disk.crash(node));
            disk.powerCut();
            Due.is("crash after a power cut", 0, disk.crash(node));
        }
    }

    private static void promise7CrashInSync() {
        Due.sentence("Promise 7", "BAD_NODE; DOWN.");
        badNode("late crashInSync", (disk, node) -> disk.crashInSync(node, true));
        badNode("early crashInSync", (disk, node) -> disk.crashInSync(node, false));
        down("late crashInSync", (disk, node) -> disk.crashInSync(node, true));
        down("early crashInSync", (disk, node) -> disk.crashInSync(node, false));
    }

    private static void promise8Restart() {
        Due.sentence("Promise 8", "The node comes up again. BAD_NODE.");
        badNode("restart", (disk, node) -> disk.restart(node));
    }

    private static void promise10Content() {
        Due.sentence("Promise 10", "BAD_BLOCK (tested first here)");
        badBlock("content", (disk, block) -> disk.content(block));
    }

    private static void promise11Safe() {
        Due.sentence("Promise 11", "The block's safe content; BAD_BLOCK.");
        badBlock("safe", (disk, block) -> disk.safe(block));
    }

    private static void promise12Owner() {
        Due.sentence("Promise 12", "NOTHING if none has; BAD_BLOCK.");
        badBlock("owner", (disk, block) -> disk.owner(block));
    }

    private static void promise13Unsafe() {
        Due.sentence("Promise 13", "How many unsafe writes (blocks) the node has; BAD_NODE.");
        badNode("unsafe", (disk, node) -> disk.unsafe(node));
    }

    private static void promise14Up() {
        Due.sentence("Promise 14", "false if it is not in 0 to 2");
        for (int node : BAD_NODES) {
            SharedDiskFs disk = busyDisk();
            Due.is("up of node " + node, false, disk.up(node));
            disk.restart(node);
            disk.powerCut();
            Due.is("up of node " + node + " after a power cut", false, disk.up(node));
        }
    }
}
