/** The boundary cases that promises 2 to 4 name (read, write, swap), a method for each sentence. */
public final class BlockCallsTest {
    private static final int NOTHING = State.NOTHING;

    public static void main(String[] args) {
        promise2AllWritesOfTheOtherBecomeSafe();
        promise2OnlyIfAnotherHasThisBlock();
        promise2AnswersTheContent();
        promise2MayEqualARefusal();
        promise3AllWritesOfTheOtherBecomeSafe();
        promise3SafeFirst();
        promise3OnlyIfAnotherHasThisBlock();
        promise3TheContentBecomesValue();
        promise3AnUnsafeWriteOfThisNode();
        promise3AnswersBlocksNotWrites();
        promise3AnswersAtMostSixteen();
        promise4ExchangesAnyTwoBlocks();
        promise4OneBlockTwice();
        promise4AsReadingAndWriting();
        promise4AnswersHowManyUnsafeWrites();
        Due.finish();
    }

    private static SharedDiskFs disk() {
        return new SharedDiskFs(2);
    }

    private static SharedDiskFs fullOf(int node) {
        SharedDiskFs disk = disk();
        for (int block = 0; block < 16; block++) {
            disk.write(node, block, 100 + block);
        }
        return disk;
    }

    private static void promise2AllWritesOfTheOtherBecomeSafe() {
        Due.sentence("Promise 2", "ALL unsafe writes of that other node become safe first");
        for (int other = 0; other < 3; other++) {
            for (int step = 1; step < 3; step++) {
                int node = (other + step) % 3;
                for (int met = 0; met < 16; met += 5) {
                    SharedDiskFs disk = fullOf(other);
                    String told = "read(" + node + ", " + met + ") with all blocks of node " + other;
                    Due.is(told, 100 + met, disk.read(node, met));
                    for (int block = 0; block < 16; block++) {
                        State.safeBlock(told, disk, block, 100 + block);
                    }
                    State.counts(told, disk, 0, 0, 0);
                    Due.is(told + ": powerCut()", 0, disk.powerCut());
                }
            }
        }
    }

    private static void promise2OnlyIfAnotherHasThisBlock() {
        Due.sentence("Promise 2", "If another node has an unsafe write to the block");
        SharedDiskFs disk = disk();
        disk.write(0, 0, 10);
        disk.write(1, 7, 11);
        disk.write(2, 15, 12);
        String before = State.of(disk);
        Due.is("read of an own unsafe block", 10, disk.read(0, 0));
        Due.is("read of an own unsafe block", 12, disk.read(2, 15));
        Due.is("read of a block without a write", 0, disk.read(1, 1));
        Due.is("read of a block without a write", 0, disk.read(0, 14));
        Due.is("reads that meet no other's write", before, State.of(disk));
        disk.sync(1);
        before = State.of(disk);
        Due.is("read of another's safe write", 11, disk.read(0, 7));
        Due.is("read of another's safe write", before, State.of(disk));
        disk.read(0, 15);
        State.block("read of node 2's block by node 0", disk, 0, 10, 0, 0);
        State.counts("read of node 2's block by node 0", disk, 1, 0, 0);
    }

    private static void promise2AnswersTheContent() {
        Due.sentence("Promise 2", "Answers the block's content.");
        SharedDiskFs disk = disk();
        Due.is("read of the start", 0, disk.read(0, 0));
        disk.write(0, 0, 1);
        disk.sync(0);
        disk.write(0, 0, 2);
        Due.is("own read of an unsafe write, not of the safe content", 2, disk.read(0, 0));
        Due.is("another's read of it", 2, disk.read(1, 0));
        disk.write(1, 0, 3);
        disk.crash(1);
        Due.is("read of an undone write", 2, disk.read(0, 0));
    }

    private static void promise2MayEqualARefusal() {
        Due.sentence("Promise 2", "(It may equal one of the refusals.)");
        for (int value = -4; value <= -1; value++) {
            SharedDiskFs disk = disk();
            disk.write(0, 15, value);
            disk.write(0, 0, 5);
            Due.is("own read of content " + value, value, disk.read(0, 15));
            State.counts("own read of content " + value, disk, 2, 0, 0);
            Due.is("another's read of content " + value, value, disk.read(1, 15));
            State.safeBlock("another's read of content " + value, disk, 15, value);
            State.safeBlock("another's read of content " + value, disk, 0, 5);
        }
    }

    private static void promise3AllWritesOfTheOtherBecomeSafe() {
        Due.sentence("Promise 3", "all unsafe writes of that other node become safe first");
        for (int other = 0; other < 3; other++) {
            for (int step = 1; step < 3; step++) {
                int node = (other + step) % 3;
                for (int met = 0; met < 16; met += 5) {
                    SharedDiskFs disk = fullOf(other);
                    String told = "write(" + node + ", " + met + ", 7) with all blocks of node " + other;
                    Due.is(told, 1, disk.write(node, met, 7));
                    for (int block = 0; block < 16; block++) {
                        Due.is(told + ": safe(" + block + ")", 100 + block, disk.safe(block));
                        Due.is(told + ": owner(" + block + ")", block == met ? node : NOTHING, disk.owner(block));
                    }
                    Due.is(told + ": unsafe(" + other + ")", 0, disk.unsafe(other));
                    Due.is(told + ": powerCut()", 1, disk.powerCut());
                }
            }
        }
    }

    private static void promise3SafeFirst() {
        Due.sentence("Promise 3", "become safe first. Then the content becomes value");
        SharedDiskFs disk = disk();
        disk.write(0, 15, 1);
        disk.write(1, 15, 2);
        State.block("a second node's write", disk, 15, 2, 1, 1);
        disk.write(2, 15, 3);
        State.block("a third node's write", disk, 15, 3, 2, 2);
        disk.write(2, 15, 4);
        State.block("its next write", disk, 15, 4, 2, 2);
        Due.is("crash(2)", 1, disk.crash(2));
        State.safeBlock("crash(2)", disk, 15, 2);
    }

    private static void promise3OnlyIfAnotherHasThisBlock() {
        Due.sentence("Promise 3", "If another node has an unsafe write to the block");
        SharedDiskFs disk = disk();
        disk.write(0, 0, 10);
        disk.write(1, 7, 11);
        disk.write(2, 15, 12);
        Due.is("write of an own unsafe block", 1, disk.write(0, 0, 20));
        Due.is("write of a block without a write", 2, disk.write(0, 1, 21));
        State.block("writes that meet no other's", disk, 0, 20, 0, 0);
        State.block("writes that meet no other's", disk, 7, 11, 0, 1);
        State.block("writes that meet no other's", disk, 15, 12, 0, 2);
        Due.is("write of node 1's block", 3, disk.write(0, 7, 22));
        State.block("write of node 1's block", disk, 7, 22, 11, 0);
        State.block("write of node 1's block", disk, 0, 20, 0, 0);
        State.block("write of node 1's block", disk, 15, 12, 0, 2);
        State.counts("write of node 1's block", disk, 3, 0, 1);
    }

    private static void promise3TheContentBecomesValue() {
        Due.sentence("Promise 3", "Then the content becomes value");
        int[] values = {Integer.MIN_VALUE, -4, -3, -2, -1, 0, 1, 65536, Integer.MAX_VALUE};
        for (int value : values) {
            SharedDiskFs disk = disk();
            disk.write(2, 0, 33);
            disk.sync(2);
            Due.is("write of " + value, 1, disk.write(2, 0, value));
            State.block("write of " + value, disk, 0, value, 33, 2);
            Due.is("sync after it", 1, disk.sync(2));
            State.safeBlock("sync after it", disk, 0, value);
        }
    }

    private static void promise3AnUnsafeWriteOfThisNode() {
        Due.sentence("Promise 3", "an unsafe write of this node");
        SharedDiskFs disk = disk();
        Due.is("write of the content that is there", 1, disk.write(0, 0, 0));
        State.block("write of the content that is there", disk, 0, 0, 0, 0);
        disk.write(0, 1, 5);
        Due.is("another's write of the content that is there", 1, disk.write(1, 1, 5));
        State.block("another's write of the content that is there", disk, 1, 5, 5, 1);
        Due.is("write back to the safe content", 2, disk.write(1, 2, 6));
        Due.is("write back to the safe content", 2, disk.write(1, 2, 0));
        State.block("write back to the safe content", disk, 2, 0, 0, 1);
        disk.sync(1);
        Due.is("write after a sync", 1, disk.write(1, 2, 7));
        State.block("write after a sync", disk, 2, 7, 0, 1);
    }

    private static void promise3AnswersBlocksNotWrites() {
        Due.sentence("Promise 3", "Answers how many unsafe writes (blocks) the node has.");
        SharedDiskFs disk = disk();
        Due.is("first write", 1, disk.write(1, 3, 1));
        Due.is("second write to the block", 1, disk.write(1, 3, 2));
        Due.is("write to a second block", 2, disk.write(1, 4, 2));
        Due.is("another node's first write", 1, disk.write(0, 5, 2));
        Due.is("a write over the other's", 2, disk.write(0, 3, 2));
        Due.is("the other's next write, all earlier ones being safe", 1, disk.write(1, 6, 2));
        disk.crash(0);
        disk.restart(0);
        Due.is("first write after a crash", 1, disk.write(0, 3, 2));
    }

    private static void promise3AnswersAtMostSixteen() {
        Due.sentence("Promise 3", "how many unsafe writes (blocks)");
        for (int node = 0; node < 3; node++) {
            SharedDiskFs disk = disk();
            for (int block = 15; block >= 0; block--) {
                Due.is("write(" + node + ", " + block + ", 9)", 16 - block, disk.write(node, block, 9));
            }
            for (int block = 0; block < 16; block++) {
                Due.is("write(" + node + ", " + block + ", 8) with all blocks", 16, disk.write(node, block, 8));
            }
        }
    }

    private static void promise4ExchangesAnyTwoBlocks() {
        Due.sentence("Promise 4", "The node exchanges the contents of two blocks");
        for (int a = 0; a < 16; a++) {
            for (int b = 0; b < 16; b++) {
                SharedDiskFs disk = fullOf(0);
                String told = "swap(1, " + a + ", " + b + ")";
                Due.is(told, a == b ? 1 : 2, disk.swap(1, a, b));
                for (int block = 0; block < 16; block++) {
                    int content = 100 + (block == a ? b : block == b ? a : block);
                    int owner = block == a || block == b ? 1 : NOTHING;
                    State.block(told, disk, block, content, 100 + block, owner);
                }
            }
        }
    }

    private static void promise4OneBlockTwice() {
        Due.sentence("Promise 4", "first a, then b, and then writing both, first a, then b");
        for (int block = 0; block < 16; block++) {
            SharedDiskFs disk = disk();
            String told = "swap(2, " + block + ", " + block + ")";
            Due.is(told + " of a new block", 1, disk.swap(2, block, block));
            State.block(told + " of a new block", disk, block, 0, 0, 2);
            Due.is(told + " of an own block", 1, disk.swap(2, block, block));
            disk.write(0, block, 6);
            Due.is(told + " of another's block", 1, disk.swap(2, block, block));
            State.block(told + " of another's block", disk, block, 6, 6, 2);
            State.counts(told + " of another's block", disk, 0, 0, 1);
            Due.is(told + ": crash(2)", 1, disk.crash(2));
        }
    }

    // An owner 3 is no node: its write is refused, and the block has no unsafe write.
    private static void promise4AsReadingAndWriting() {
        Due.sentence("Promise 4", "as reading both, first a, then b, and then writing both, first a, then b");
        for (int ownerOfA = 0; ownerOfA < 4; ownerOfA++) {
            for (int ownerOfB = 0; ownerOfB < 4; ownerOfB++) {
                for (int node = 0; node < 3; node++) {
                    swapAsFourCalls(node, ownerOfA, ownerOfB, 0, 15);
                    swapAsFourCalls(node, ownerOfA, ownerOfB, 15, 0);
                    swapAsFourCalls(node, ownerOfA, ownerOfB, 0, 0);
                    swapAsFourCalls(node, ownerOfA, ownerOfB, 15, 15);
                    swapAsFourCalls(node, ownerOfA, ownerOfB, 0, 5);
                    swapAsFourCalls(node, ownerOfA, ownerOfB, 6, 15);
                }
            }
        }
    }

    private static void swapAsFourCalls(int node, int ownerOf0, int ownerOf15, int a, int b) {
        SharedDiskFs swapped = ownedBy(ownerOf0, ownerOf15);
        SharedDiskFs called = ownedBy(ownerOf0, ownerOf15);
        String told = "swap(" + node + ", " + a + ", " + b + ") with owners " + ownerOf0 + " and " + ownerOf15;
        int contentOfA = called.read(node, a);
        int contentOfB = called.read(node, b);
        called.write(node, a, contentOfB);
        Due.is(told, called.write(node, b, contentOfA), swapped.swap(node, a, b));
        Due.is(told, State.of(called), State.of(swapped));
    }

    private static SharedDiskFs ownedBy(int ownerOf0, int ownerOf15) {
        SharedDiskFs disk = disk();
        disk.write(0, 0, 50);
        disk.write(0, 15, 51);
        disk.write(0, 5, 52);
        disk.sync(0);
        for (int node = 0; node < 3; node++) {
            disk.write(node, 8 + node, 60 + node);
        }
        disk.write(ownerOf0, 0, 70);
        disk.write(ownerOf15, 15, 71);
        return disk;
    }

    private static void promise4AnswersHowManyUnsafeWrites() {
        Due.sentence("Promise 4", "Answers how many unsafe writes the node has.");
        SharedDiskFs disk = disk();
        disk.write(0, 3, 1);
        Due.is("swap of two free blocks", 3, disk.swap(0, 4, 5));
        Due.is("swap of two own blocks", 3, disk.swap(0, 3, 4));
        Due.is("swap of an own and a free block", 4, disk.swap(0, 5, 6));
        Due.is("swap of a free and an own block", 5, disk.swap(0, 7, 3));
        Due.is("another's swap over them", 2, disk.swap(1, 3, 4));
        State.counts("another's swap over them", disk, 0, 2, 0);
        SharedDiskFs full = fullOf(2);
        Due.is("swap with all blocks", 16, full.swap(2, 0, 15));
        State.block("swap with all blocks", full, 0, 115, 0, 2);
        State.block("swap with all blocks", full, 15, 100, 0, 2);
    }
}
