/** Each promise by its number, with ordinary inputs. */
public final class PromisesTest {
    private static final int NOTHING = State.NOTHING;

    public static void main(String[] args) {
        promise1NewObject();
        promise1Room();
        promise2ReadGivesContent();
        promise2ReadSettlesTheOtherOwner();
        promise2ReadLeavesOwnAndThirdNodesWrites();
        promise2ContentMayEqualARefusal();
        promise3WriteIsUnsafe();
        promise3WriteSettlesTheOtherOwner();
        promise3WriteOfTheSameValueIsUnsafe();
        promise3AllBlocks();
        promise4SwapExchanges();
        promise4SwapSettlesBothOwners();
        promise4SwapOfOneBlock();
        promise4SwapOfContentsThatEqualRefusals();
        promise5Sync();
        promise6Crash();
        promise6CrashAfterSync();
        promise7CrashInSyncLate();
        promise7CrashInSyncEarly();
        promise8Restart();
        promise9PowerCut();
        promises10To14LookingChangesNothing();
        Due.finish();
    }

    private static SharedDiskFs disk() {
        return new SharedDiskFs(4);
    }

    private static void promise1NewObject() {
        SharedDiskFs disk = disk();
        for (int block = 0; block < 16; block++) {
            State.block("new", disk, block, 0, 0, NOTHING);
        }
        State.counts("new", disk, 0, 0, 0);
        State.nodes("new", disk, true, true, true);
        Due.is("new: powerCut()", 0, disk.powerCut());
    }

    // More blocks than the least room and than the greatest, so that a cache that showed would show here.
    private static void promise1Room() {
        int[] rooms = {Integer.MIN_VALUE, -1, 0, 1, 2, 3, 7, 8, 9, 16, Integer.MAX_VALUE};
        for (int room : rooms) {
            String when = "room " + room;
            SharedDiskFs disk = new SharedDiskFs(room);
            for (int block = 0; block < 12; block++) {
                Due.is(when + ": write(1, " + block + ", ..)", block + 1, disk.write(1, block, 100 + block));
            }
            for (int block = 0; block < 12; block++) {
                State.block(when, disk, block, 100 + block, 0, 1);
                Due.is(when + ": read(1, " + block + ")", 100 + block, disk.read(1, block));
            }
            Due.is(when + ": swap(1, 0, 15)", 13, disk.swap(1, 0, 15));
            Due.is(when + ": crash(1)", 13, disk.crash(1));
            Due.is(when + ": read(0, 3)", 0, disk.read(0, 3));
        }
    }

    private static void promise2ReadGivesContent() {
        SharedDiskFs disk = disk();
        Due.is("read of a new block", 0, disk.read(2, 15));
        disk.write(0, 0, 7);
        Due.is("read by the writer", 7, disk.read(0, 0));
        Due.is("read by another", 7, disk.read(1, 0));
        Due.is("read once more", 7, disk.read(2, 0));
        disk.write(1, 0, Integer.MIN_VALUE);
        Due.is("read of the least int", Integer.MIN_VALUE, disk.read(2, 0));
        disk.write(1, 0, Integer.MAX_VALUE);
        Due.is("read of the greatest int", Integer.MAX_VALUE, disk.read(2, 0));
    }

    private static void promise2ReadSettlesTheOtherOwner() {
        SharedDiskFs disk = disk();
        disk.write(0, 0, 7);
        disk.write(0, 5, 8);
        disk.write(0, 15, 9);
        Due.is("read(1, 5)", 8, disk.read(1, 5));
        State.block("read of another's write", disk, 0, 7, 7, NOTHING);
        State.block("read of another's write", disk, 5, 8, 8, NOTHING);
        State.block("read of another's write", disk, 15, 9, 9, NOTHING);
        State.counts("read of another's write", disk, 0, 0, 0);
        Due.is("crash after that read", 0, disk.crash(0));
        State.block("crash after that read", disk, 5, 8, 8, NOTHING);
    }

    private static void promise2ReadLeavesOwnAndThirdNodesWrites() {
        SharedDiskFs disk = disk();
        disk.write(0, 1, 11);
        disk.write(1, 2, 12);
        disk.write(2, 3, 13);
        disk.read(0, 1);
        disk.read(0, 9);
        State.counts("read of own and of free blocks", disk, 1, 1, 1);
        disk.read(0, 2);
        State.counts("read of node 1's block", disk, 1, 0, 1);
        State.block("read of node 1's block", disk, 1, 11, 0, 0);
        State.block("read of node 1's block", disk, 2, 12, 12, NOTHING);
        State.block("read of node 1's block", disk, 3, 13, 0, 2);
    }

    private static void promise2ContentMayEqualARefusal() {
        for (int value = -4; value <= -1; value++) {
            SharedDiskFs disk = disk();
            disk.write(0, 4, value);
            disk.write(0, 5, 5);
            Due.is("read of content " + value, value, disk.read(1, 4));
            State.counts("read of content " + value, disk, 0, 0, 0);
            State.block("read of content " + value, disk, 4, value, value, NOTHING);
        }
    }

    private static void promise3WriteIsUnsafe() {
        SharedDiskFs disk = disk();
        Due.is("write(2, 0, 5)", 1, disk.write(2, 0, 5));
        Due.is("write(2, 15, 6)", 2, disk.write(2, 15, 6));
        Due.is("write(2, 0, 7) again", 2, disk.write(2, 0, 7));
        State.block("writes", disk, 0, 7, 0, 2);
        State.block("writes", disk, 15, 6, 0, 2);
        State.block("writes", disk, 14, 0, 0, NOTHING);
        State.counts("writes", disk, 0, 0, 2);
        Due.is("write of another node elsewhere", 1, disk.write(0, 8, 3));
        State.counts("write of another node elsewhere", disk, 1, 0, 2);
    }

    private static void promise3WriteSettlesTheOtherOwner() {
        SharedDiskFs disk = disk();
        disk.write(0, 1, 11);
        disk.write(0, 2, 12);
        disk.write(2, 3, 13);
        disk.write(1, 4, 14);
        Due.is("write(1, 1, 21)", 2, disk.write(1, 1, 21));
        State.block("write over another's", disk, 1, 21, 11, 1);
        State.block("write over another's", disk, 2, 12, 12, NOTHING);
        State.block("write over another's", disk, 3, 13, 0, 2);
        State.block("write over another's", disk, 4, 14, 0, 1);
        State.counts("write over another's", disk, 0, 2, 1);
    }

    private static void promise3WriteOfTheSameValueIsUnsafe() {
        SharedDiskFs disk = disk();
        Due.is("write of the content itself", 1, disk.write(0, 6, 0));
        State.block("write of the content itself", disk, 6, 0, 0, 0);
        disk.write(0, 7, 70);
        Due.is("write of another's content", 1, disk.write(1, 6, 0));
        State.block("write of another's content", disk, 6, 0, 0, 1);
        State.block("write of another's content", disk, 7, 70, 70, NOTHING);
        Due.is("sync of a write that changed nothing", 1, disk.sync(1));
    }

    private static void promise3AllBlocks() {
        SharedDiskFs disk = disk();
        for (int block = 0; block < 16; block++) {
            Due.is("write(0, " + block + ", ..)", block + 1, disk.write(0, block, -block));
        }
        Due.is("write of node 1 over one of sixteen", 1, disk.write(1, 9, 1));
        for (int block = 0; block < 16; block++) {
            Due.is("safe(" + block + ") of sixteen", -block, disk.safe(block));
        }
        State.counts("write of node 1 over one of sixteen", disk, 0, 1, 0);
    }

    private static void promise4SwapExchanges() {
        SharedDiskFs disk = disk();
        disk.write(0, 0, 5);
        disk.write(0, 15, 6);
        disk.sync(0);
        disk.write(0, 3, 1);
        Due.is("swap(0, 0, 15)", 3, disk.swap(0, 0, 15));
        State.block("swap", disk, 0, 6, 5, 0);
        State.block("swap", disk, 15, 5, 6, 0);
        Due.is("swap back", 3, disk.swap(0, 15, 0));
        State.block("swap back", disk, 0, 5, 5, 0);
        State.block("swap back", disk, 15, 6, 6, 0);
        Due.is("swap of equal contents", 2, disk.swap(1, 8, 9));
        State.block("swap of equal contents", disk, 8, 0, 0, 1);
        State.block("swap of equal contents", disk, 9, 0, 0, 1);
    }

    private static void promise4SwapSettlesBothOwners() {
        SharedDiskFs disk = disk();
        disk.write(0, 1, 11);
        disk.write(0, 2, 12);
        disk.write(1, 3, 13);
        disk.write(1, 4, 14);
        disk.write(2, 5, 15);
        Due.is("swap(2, 1, 3)", 3, disk.swap(2, 1, 3));
        State.block("swap of two others' blocks", disk, 1, 13, 11, 2);
        State.block("swap of two others' blocks", disk, 2, 12, 12, NOTHING);
        State.block("swap of two others' blocks", disk, 3, 11, 13, 2);
        State.block("swap of two others' blocks", disk, 4, 14, 14, NOTHING);
        State.block("swap of two others' blocks", disk, 5, 15, 0, 2);
        State.counts("swap of two others' blocks", disk, 0, 0, 3);
        Due.is("swap of an own and a free block", 4, disk.swap(2, 5, 6));
        State.block("swap of an own and a free block", disk, 5, 0, 0, 2);
        State.block("swap of an own and a free block", disk, 6, 15, 0, 2);
        Due.is("crash after the swaps", 4, disk.crash(2));
        State.block("crash after the swaps", disk, 1, 11, 11, NOTHING);
        State.block("crash after the swaps", disk, 3, 13, 13, NOTHING);
    }

    private static void promise4SwapOfOneBlock() {
        SharedDiskFs disk = disk();
        disk.write(0, 7, 70);
        disk.write(0, 8, 80);
        Due.is("swap(1, 7, 7)", 1, disk.swap(1, 7, 7));
        State.block("swap of a block with itself", disk, 7, 70, 70, 1);
        State.block("swap of a block with itself", disk, 8, 80, 80, NOTHING);
        Due.is("the same swap again", 1, disk.swap(1, 7, 7));
    }

    private static void promise4SwapOfContentsThatEqualRefusals() {
        SharedDiskFs disk = disk();
        disk.write(0, 1, -3);
        disk.write(1, 2, -1);
        Due.is("swap of contents -3 and -1", 2, disk.swap(2, 1, 2));
        State.block("swap of contents -3 and -1", disk, 1, -1, -3, 2);
        State.block("swap of contents -3 and -1", disk, 2, -3, -1, 2);
    }

    private static void promise5Sync() {
        SharedDiskFs disk = disk();
        Due.is("sync of nothing", 0, disk.sync(0));
        disk.write(0, 0, 1);
        disk.write(0, 15, 2);
        disk.write(0, 15, 3);
        disk.write(1, 7, 4);
        Due.is("sync(0)", 2, disk.sync(0));
        State.block("sync", disk, 0, 1, 1, NOTHING);
        State.block("sync", disk, 15, 3, 3, NOTHING);
        State.block("sync", disk, 7, 4, 0, 1);
        State.counts("sync", disk, 0, 1, 0);
        State.nodes("sync", disk, true, true, true);
        Due.is("sync once more", 0, disk.sync(0));
    }

    private static void promise6Crash() {
        SharedDiskFs disk = disk();
        disk.write(0, 0, 1);
        disk.write(0, 15, 2);
        disk.write(1, 7, 4);
        Due.is("crash(0)", 2, disk.crash(0));
        State.block("crash", disk, 0, 0, 0, NOTHING);
        State.block("crash", disk, 15, 0, 0, NOTHING);
        State.block("crash", disk, 7, 4, 0, 1);
        State.counts("crash", disk, 0, 1, 0);
        State.nodes("crash", disk, false, true, true);
        Due.is("crash of a node that is down", -3, disk.crash(0));
        Due.is("crash of a node without writes", 0, disk.crash(2));
        State.nodes("two crashes", disk, false, true, false);
        Due.is("read of an undone block", 0, disk.read(1, 0));
    }

    private static void promise6CrashAfterSync() {
        SharedDiskFs disk = disk();
        disk.write(0, 3, 1);
        disk.sync(0);
        disk.write(0, 3, 2);
        disk.write(0, 3, 3);
        State.block("two writes after a sync", disk, 3, 3, 1, 0);
        Due.is("crash after them", 1, disk.crash(0));
        State.block("crash after them", disk, 3, 1, 1, NOTHING);
    }

    private static void promise7CrashInSyncLate() {
        SharedDiskFs disk = disk();
        disk.write(1, 0, 1);
        disk.write(1, 15, 2);
        disk.write(2, 7, 4);
        Due.is("crashInSync(1, true)", 2, disk.crashInSync(1, true));
        State.block("late crash", disk, 0, 1, 1, NOTHING);
        State.block("late crash", disk, 15, 2, 2, NOTHING);
        State.block("late crash", disk, 7, 4, 0, 2);
        State.counts("late crash", disk, 0, 0, 1);
        State.nodes("late crash", disk, true, false, true);
        Due.is("late crash of a node that is down", -3, disk.crashInSync(1, true));
        Due.is("late crash without writes", 0, disk.crashInSync(0, true));
        State.nodes("late crash without writes", disk, false, false, true);
    }

    private static void promise7CrashInSyncEarly() {
        SharedDiskFs disk = disk();
        disk.write(1, 0, 1);
        disk.sync(1);
        disk.write(1, 0, 3);
        disk.write(1, 15, 2);
        disk.write(2, 7, 4);
        Due.is("crashInSync(1, false)", 2, disk.crashInSync(1, false));
        State.block("early crash", disk, 0, 1, 1, NOTHING);
        State.block("early crash", disk, 15, 0, 0, NOTHING);
        State.block("early crash", disk, 7, 4, 0, 2);
        State.counts("early crash", disk, 0, 0, 1);
        State.nodes("early crash", disk, true, false, true);
        Due.is("early crash of a node that is down", -3, disk.crashInSync(1, false));
    }

    private static void promise8Restart() {
        SharedDiskFs disk = disk();
        disk.write(0, 1, 5);
        String before = State.of(disk);
        Due.is("restart of a node that is up", 0, disk.restart(0));
        Due.is("restart of a node that is up", before, State.of(disk));
        disk.crash(0);
        disk.crash(2);
        Due.is("restart(2)", 1, disk.restart(2));
        State.nodes("restart(2)", disk, false, true, true);
        Due.is("restart(2) again", 0, disk.restart(2));
        Due.is("restart(0)", 1, disk.restart(0));
        State.nodes("restart(0)", disk, true, true, true);
        State.block("restart(0)", disk, 1, 0, 0, NOTHING);
        Due.is("write after a restart", 1, disk.write(0, 1, 6));
        Due.is("sync after a restart", 1, disk.sync(0));
        Due.is("crash after a restart", 0, disk.crash(0));
    }

    private static void promise9PowerCut() {
        SharedDiskFs disk = disk();
        disk.write(0, 0, 1);
        disk.write(0, 1, 2);
        disk.write(0, 2, 3);
        disk.sync(0);
        disk.write(0, 0, 4);
        disk.write(1, 1, 5);
        disk.write(1, 15, 6);
        disk.write(2, 8, 7);
        disk.crash(2);
        Due.is("powerCut() with a node down", 3, disk.powerCut());
        State.block("power cut", disk, 0, 1, 1, NOTHING);
        State.block("power cut", disk, 1, 2, 2, NOTHING);
        State.block("power cut", disk, 2, 3, 3, NOTHING);
        State.block("power cut", disk, 8, 0, 0, NOTHING);
        State.block("power cut", disk, 15, 0, 0, NOTHING);
        State.counts("power cut", disk, 0, 0, 0);
        State.nodes("power cut", disk, true, true, true);
        disk.write(0, 3, 1);
        disk.write(1, 4, 1);
        disk.write(2, 5, 1);
        Due.is("powerCut() with writes of all nodes", 3, disk.powerCut());
        disk.crash(0);
        disk.crashInSync(1, true);
        disk.crash(2);
        Due.is("powerCut() with all nodes down", 0, disk.powerCut());
        State.nodes("power cut with all nodes down", disk, true, true, true);
    }

    private static void promises10To14LookingChangesNothing() {
        SharedDiskFs disk = disk();
        disk.write(0, 1, 11);
        disk.sync(0);
        disk.write(0, 1, 12);
        disk.write(1, 2, 13);
        disk.crash(2);
        String before = State.of(disk);
        Due.is("looking", before, State.of(disk));
        State.block("looking", disk, 1, 12, 11, 0);
        State.block("looking", disk, 2, 13, 0, 1);
        State.counts("looking", disk, 1, 1, 0);
        State.nodes("looking", disk, true, true, false);
        disk.write(0, 3, -4);
        Due.is("content that equals NOTHING", -4, disk.content(3));
        disk.sync(0);
        Due.is("safe content that equals NOTHING", -4, disk.safe(3));
    }
}
