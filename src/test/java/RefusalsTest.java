/** Wrong inputs: which refusal is answered, which of several comes first, and that nothing changes. */
public final class RefusalsTest {
    private static final int BAD_NODE = -1;
    private static final int BAD_BLOCK = -2;
    private static final int DOWN = -3;

    private static final int[] BAD = {-1, -2, -3, -4, 16, 17, Integer.MIN_VALUE, Integer.MAX_VALUE};
    private static final int[] BAD_NODES = {-1, -2, -3, -4, 3, 4, 15, Integer.MIN_VALUE, Integer.MAX_VALUE};

    private static final int DOWN_NODE = 2;

    public static void main(String[] args) {
        for (int node : BAD_NODES) {
            badNode(node);
        }
        for (int block : BAD) {
            badBlock(block);
        }
        downNode();
        Due.finish();
    }

    // Two nodes with unsafe writes and one that is down, so that a call that is let through shows.
    private static SharedDiskFs busyDisk() {
        SharedDiskFs disk = new SharedDiskFs(2);
        disk.write(0, 0, 10);
        disk.sync(0);
        disk.write(0, 0, 20);
        disk.write(0, 3, 30);
        disk.write(1, 15, 40);
        disk.crash(DOWN_NODE);
        return disk;
    }

    private static void badNode(int node) {
        SharedDiskFs disk = busyDisk();
        String before = State.of(disk);
        String of = "(" + node + ", ..)";
        Due.is("read" + of, BAD_NODE, disk.read(node, 0));
        Due.is("write" + of, BAD_NODE, disk.write(node, 0, 5));
        Due.is("swap" + of, BAD_NODE, disk.swap(node, 0, 15));
        Due.is("sync" + of, BAD_NODE, disk.sync(node));
        Due.is("crash" + of, BAD_NODE, disk.crash(node));
        Due.is("crashInSync late" + of, BAD_NODE, disk.crashInSync(node, true));
        Due.is("crashInSync early" + of, BAD_NODE, disk.crashInSync(node, false));
        Due.is("restart" + of, BAD_NODE, disk.restart(node));
        Due.is("unsafe" + of, BAD_NODE, disk.unsafe(node));
        Due.is("up" + of, false, disk.up(node));
        for (int block : BAD) {
            Due.is("read with a bad block too" + of, BAD_NODE, disk.read(node, block));
            Due.is("write with a bad block too" + of, BAD_NODE, disk.write(node, block, 5));
            Due.is("swap with a bad a too" + of, BAD_NODE, disk.swap(node, block, 0));
            Due.is("swap with a bad b too" + of, BAD_NODE, disk.swap(node, 0, block));
        }
        Due.is("calls of node " + node, before, State.of(disk));
    }

    private static void badBlock(int block) {
        SharedDiskFs disk = busyDisk();
        String before = State.of(disk);
        // A node that is up and the one that is down: the block is tested first.
        for (int node = 0; node < 3; node++) {
            String of = "(" + node + ", " + block + ")";
            Due.is("read" + of, BAD_BLOCK, disk.read(node, block));
            Due.is("write" + of, BAD_BLOCK, disk.write(node, block, 5));
            Due.is("swap as a" + of, BAD_BLOCK, disk.swap(node, block, 0));
            Due.is("swap as a" + of, BAD_BLOCK, disk.swap(node, block, 15));
            Due.is("swap as b" + of, BAD_BLOCK, disk.swap(node, 0, block));
            Due.is("swap as b" + of, BAD_BLOCK, disk.swap(node, 15, block));
            Due.is("swap as both" + of, BAD_BLOCK, disk.swap(node, block, block));
        }
        Due.is("content(" + block + ")", BAD_BLOCK, disk.content(block));
        Due.is("safe(" + block + ")", BAD_BLOCK, disk.safe(block));
        Due.is("owner(" + block + ")", BAD_BLOCK, disk.owner(block));
        Due.is("calls for block " + block, before, State.of(disk));
    }

    private static void downNode() {
        SharedDiskFs disk = busyDisk();
        String before = State.of(disk);
        for (int block = 0; block < 16; block++) {
            Due.is("read of a node that is down", DOWN, disk.read(DOWN_NODE, block));
            Due.is("write of a node that is down", DOWN, disk.write(DOWN_NODE, block, 5));
            Due.is("swap of a node that is down", DOWN, disk.swap(DOWN_NODE, block, 15 - block));
        }
        Due.is("sync of a node that is down", DOWN, disk.sync(DOWN_NODE));
        Due.is("crash of a node that is down", DOWN, disk.crash(DOWN_NODE));
        Due.is("late crash of a node that is down", DOWN, disk.crashInSync(DOWN_NODE, true));
        Due.is("early crash of a node that is down", DOWN, disk.crashInSync(DOWN_NODE, false));
        Due.is("unsafe of a node that is down", 0, disk.unsafe(DOWN_NODE));
        Due.is("up of a node that is down", false, disk.up(DOWN_NODE));
        Due.is("calls of a node that is down", before, State.of(disk));
    }
}
