/** The boundary cases that promises 10 to 14 name (content, safe, owner, unsafe, up), by their sentences. */
public final class LooksTest {
    private static final int NOTHING = State.NOTHING;

    public static void main(String[] args) {
        termsLookingChangesNothing();
        termsEachLookChangesNothing();
        promise10Content();
        promise10WithoutANode();
        promise11Safe();
        promise12TheNodeThatHasAnUnsafeWrite();
        promise12NothingIfNoneHas();
        promise13HowMany();
        promise13NoneOfANodeThatIsDown();
        promise14WhetherTheNodeIsUp();
        Due.finish();
    }

    private static SharedDiskFs disk() {
        return new SharedDiskFs(2);
    }

    private static void termsLookingChangesNothing() {
        Due.sentence("Terms", "The calls below change nothing that any call answers.");
        for (int seed = 0; seed < 60; seed++) {
            String alone = Run.answers(seed, disk());
            String told = "run " + seed + " with looks in between";
            Due.is(told, alone, Run.answers(seed, disk(), LooksTest::allFive));
        }
    }

    private static void allFive(SharedDiskFs disk, int turn) {
        disk.content(turn % 18 - 1);
        disk.safe(turn % 18 - 1);
        disk.owner(turn % 18 - 1);
        disk.unsafe(turn % 5 - 1);
        disk.up(turn % 5 - 1);
    }

    // Twice the same call in a row, and the same answer: nothing of what it answers was used up.
    private static void termsEachLookChangesNothing() {
        Due.sentence("Terms", "The calls below change nothing that any call answers.");
        SharedDiskFs disk = disk();
        disk.write(0, 0, 1);
        disk.sync(0);
        disk.write(0, 0, 2);
        disk.write(1, 15, 3);
        disk.crash(2);
        for (int time = 0; time < 2; time++) {
            State.block("look " + time, disk, 0, 2, 1, 0);
            State.block("look " + time, disk, 15, 3, 0, 1);
            State.counts("look " + time, disk, 1, 1, 0);
            State.nodes("look " + time, disk, true, true, false);
        }
        Due.is("crash(0) after the looks", 1, disk.crash(0));
        State.safeBlock("crash(0) after the looks", disk, 0, 1);
    }

    private static void promise10Content() {
        Due.sentence("Promise 10", "The block's content, seen from outside");
        for (int block = 0; block < 16; block++) {
            SharedDiskFs disk = disk();
            Due.is("new: content(" + block + ")", 0, disk.content(block));
            disk.write(1, block, 5);
            Due.is("content(" + block + ") of an unsafe write", 5, disk.content(block));
            disk.sync(1);
            Due.is("content(" + block + ") of a safe write", 5, disk.content(block));
            disk.write(1, block, -2);
            Due.is("content(" + block + ") that equals BAD_BLOCK", -2, disk.content(block));
            disk.crash(1);
            Due.is("content(" + block + ") after a crash", 5, disk.content(block));
        }
    }

    private static void promise10WithoutANode() {
        Due.sentence("Promise 10", "seen from outside without a node");
        SharedDiskFs disk = disk();
        disk.write(0, 0, 6);
        Due.is("content(0)", 6, disk.content(0));
        State.block("content(0), which makes nothing safe", disk, 0, 6, 0, 0);
        disk.sync(0);
        for (int node = 0; node < 3; node++) {
            disk.crash(node);
        }
        Due.is("content(0) with all nodes down", 6, disk.content(0));
        Due.is("content(15) with all nodes down", 0, disk.content(15));
    }

    private static void promise11Safe() {
        Due.sentence("Promise 11", "The block's safe content");
        for (int block = 0; block < 16; block++) {
            SharedDiskFs disk = disk();
            Due.is("new: safe(" + block + ")", 0, disk.safe(block));
            disk.write(2, block, -2);
            Due.is("safe(" + block + ") under an unsafe write", 0, disk.safe(block));
            disk.sync(2);
            Due.is("safe(" + block + ") that equals BAD_BLOCK", -2, disk.safe(block));
            disk.write(2, block, 6);
            Due.is("safe(" + block + ") under the next write", -2, disk.safe(block));
            disk.crash(2);
            disk.crash(1);
            disk.crash(0);
            Due.is("safe(" + block + ") with all nodes down", -2, disk.safe(block));
        }
    }

    private static void promise12TheNodeThatHasAnUnsafeWrite() {
        Due.sentence("Promise 12", "The node that has an unsafe write to the block");
        for (int block = 0; block < 16; block++) {
            for (int node = 0; node < 3; node++) {
                SharedDiskFs disk = disk();
                disk.write(node, block, 0);
                Due.is("owner(" + block + ") after a write of " + node, node, disk.owner(block));
                disk.swap((node + 1) % 3, block, block);
                Due.is("owner(" + block + ") after a swap of the next", (node + 1) % 3, disk.owner(block));
            }
        }
    }

    private static void promise12NothingIfNoneHas() {
        Due.sentence("Promise 12", "NOTHING if none has");
        for (int block = 0; block < 16; block++) {
            SharedDiskFs disk = disk();
            Due.is("new: owner(" + block + ")", NOTHING, disk.owner(block));
            disk.read(0, block);
            Due.is("owner(" + block + ") after a read", NOTHING, disk.owner(block));
            disk.write(0, block, 1);
            disk.sync(0);
            Due.is("owner(" + block + ") after a sync", NOTHING, disk.owner(block));
            disk.write(0, block, 2);
            disk.read(1, block);
            Due.is("owner(" + block + ") after another's read", NOTHING, disk.owner(block));
            disk.write(0, block, 3);
            disk.crash(0);
            Due.is("owner(" + block + ") after a crash", NOTHING, disk.owner(block));
            disk.write(1, block, 4);
            disk.crashInSync(1, true);
            Due.is("owner(" + block + ") after a late crash", NOTHING, disk.owner(block));
            disk.write(2, block, 5);
            disk.powerCut();
            Due.is("owner(" + block + ") after a power cut", NOTHING, disk.owner(block));
        }
    }

    private static void promise13HowMany() {
        Due.sentence("Promise 13", "How many unsafe writes (blocks) the node has");
        for (int node = 0; node < 3; node++) {
            SharedDiskFs disk = disk();
            Due.is("new: unsafe(" + node + ")", 0, disk.unsafe(node));
            for (int block = 0; block < 16; block++) {
                disk.write(node, block, 1);
                disk.write(node, block, 2);
                Due.is("unsafe(" + node + ") of " + (block + 1), block + 1, disk.unsafe(node));
                Due.is("unsafe of another", 0, disk.unsafe((node + 1) % 3));
            }
            disk.read((node + 1) % 3, 15);
            Due.is("unsafe(" + node + ") after another's read", 0, disk.unsafe(node));
        }
    }

    private static void promise13NoneOfANodeThatIsDown() {
        Due.sentence("Promise 13", "How many unsafe writes (blocks) the node has");
        for (int node = 0; node < 3; node++) {
            SharedDiskFs disk = disk();
            disk.write(node, 0, 1);
            disk.crash(node);
            Due.is("unsafe(" + node + ") after a crash", 0, disk.unsafe(node));
            disk.restart(node);
            Due.is("unsafe(" + node + ") after a restart", 0, disk.unsafe(node));
            disk.write(node, 0, 1);
            disk.crashInSync(node, true);
            Due.is("unsafe(" + node + ") after a late crash", 0, disk.unsafe(node));
        }
    }

    private static void promise14WhetherTheNodeIsUp() {
        Due.sentence("Promise 14", "Whether the node is up; false if it is not in 0 to 2.");
        for (int node = 0; node < 3; node++) {
            SharedDiskFs disk = disk();
            Due.is("new: up(" + node + ")", true, disk.up(node));
            disk.crash(node);
            Due.is("up(" + node + ") after a crash", false, disk.up(node));
            disk.restart(node);
            Due.is("up(" + node + ") after a restart", true, disk.up(node));
            disk.crashInSync(node, true);
            Due.is("up(" + node + ") after a late crash", false, disk.up(node));
            disk.powerCut();
            Due.is("up(" + node + ") after a power cut", true, disk.up(node));
        }
        SharedDiskFs disk = disk();
        Due.is("up(-1)", false, disk.up(-1));
        Due.is("up(3)", false, disk.up(3));
        Due.is("up(15)", false, disk.up(15));
    }
}
