/** A disk of sixteen blocks shared by three nodes, as ../shared/DOC.md describes it. */
public final class SharedDiskFs {
    public static final int BAD_NODE = -1;
    public static final int BAD_BLOCK = -2;
    public static final int DOWN = -3;
    public static final int NOTHING = -4;

    private static final int NODES = 3;
    private static final int BLOCKS = 16;

    private final int[] contents = new int[BLOCKS];
    private final int[] safeContents = new int[BLOCKS];
    private final int[] owners = new int[BLOCKS];
    private final boolean[] crashed = new boolean[NODES];

    // The room is not kept: no answer may depend on it, so there is no cache for it to bound.
    public SharedDiskFs(int room) {
        for (int block = 0; block < BLOCKS; block++) {
            owners[block] = NOTHING;
        }
    }

    public int read(int node, int block) {
        if (!isNode(node)) {
            return BAD_NODE;
        }
        if (!isBlock(block)) {
            return BAD_BLOCK;
        }
        if (crashed[node]) {
            return DOWN;
        }
        settleOtherOwner(node, block);
        return contents[block];
    }

    public int write(int node, int block, int value) {
        if (!isNode(node)) {
            return BAD_NODE;
        }
        if (!isBlock(block)) {
            return BAD_BLOCK;
        }
        if (crashed[node]) {
            return DOWN;
        }
        settleOtherOwner(node, block);
        contents[block] = value;
        owners[block] = node;
        return countUnsafe(node);
    }

    public int swap(int node, int a, int b) {
        if (!isNode(node)) {
            return BAD_NODE;
        }
        if (!isBlock(a) || !isBlock(b)) {
            return BAD_BLOCK;
        }
        if (crashed[node]) {
            return DOWN;
        }
        int contentOfA = read(node, a);
        int contentOfB = read(node, b);
        write(node, a, contentOfB);
        return write(node, b, contentOfA);
    }

    public int sync(int node) {
        if (!isNode(node)) {
            return BAD_NODE;
        }
        if (crashed[node]) {
            return DOWN;
        }
        return makeSafe(node);
    }

    public int crash(int node) {
        return crashInSync(node, false);
    }

    public int crashInSync(int node, boolean late) {
        if (!isNode(node)) {
            return BAD_NODE;
        }
        if (crashed[node]) {
            return DOWN;
        }
        crashed[node] = true;
        return late ? makeSafe(node) : undo(node);
    }

    public int restart(int node) {
        if (!isNode(node)) {
            return BAD_NODE;
        }
        int wasDown = crashed[node] ? 1 : 0;
        crashed[node] = false;
        return wasDown;
    }

    public int powerCut() {
        int undone = 0;
        for (int node = 0; node < NODES; node++) {
            undone += undo(node);
            crashed[node] = false;
        }
        return undone;
    }

    public int content(int block) {
        return isBlock(block) ? contents[block] : BAD_BLOCK;
    }

    public int safe(int block) {
        return isBlock(block) ? safeContents[block] : BAD_BLOCK;
    }

    public int owner(int block) {
        return isBlock(block) ? owners[block] : BAD_BLOCK;
    }

    public int unsafe(int node) {
        return isNode(node) ? countUnsafe(node) : BAD_NODE;
    }

    public boolean up(int node) {
        return isNode(node) && !crashed[node];
    }

    private static boolean isNode(int node) {
        return node >= 0 && node < NODES;
    }

    private static boolean isBlock(int block) {
        return block >= 0 && block < BLOCKS;
    }

    // All writes of the other owner and not this block's alone: its journal becomes safe as a whole.
    private void settleOtherOwner(int node, int block) {
        int owner = owners[block];
        if (owner != NOTHING && owner != node) {
            makeSafe(owner);
        }
    }

    private int makeSafe(int node) {
        int count = 0;
        for (int block = 0; block < BLOCKS; block++) {
            if (owners[block] == node) {
                safeContents[block] = contents[block];
                owners[block] = NOTHING;
                count++;
            }
        }
        return count;
    }

    private int undo(int node) {
        int count = 0;
        for (int block = 0; block < BLOCKS; block++) {
            if (owners[block] == node) {
                contents[block] = safeContents[block];
                owners[block] = NOTHING;
                count++;
            }
        }
        return count;
    }

    private int countUnsafe(int node) {
        int count = 0;
        for (int block = 0; block < BLOCKS; block++) {
            if (owners[block] == node) {
                count++;
            }
        }
        return count;
    }
}
