/** The boundary cases that 'What it is', 'Terms' and promise 1 name, a method for each sentence. */
public final class TermsTest {
    private static final int CALLS = 512;
    private static final int[] INTS = {Integer.MIN_VALUE, Integer.MIN_VALUE + 1, -65536, -4, -3, -2, -1, 0, 1,
        127, 128, 255, 256, 32767, 32768, 65535, 65536, Integer.MAX_VALUE - 1, Integer.MAX_VALUE};

    private interface Ending {
        void on(SharedDiskFs disk);
    }

    private interface Call {
        long on(SharedDiskFs disk);
    }

    public static void main(String[] args) {
        threeNodes();
        sixteenBlocks();
        ofOneInt();
        allZeroAtTheStart();
        atMost512Calls();
        neverOldContents();
        contentIsWhatEveryReadGives();
        differOnlyWhileUnsafe();
        safeOnceTheWriteIsEnded();
        belongsToTheNodeThatMadeIt();
        allAreUpAtTheStart();
        roomIsClamped();
        roomChangesNoAnswer();
        Due.finish();
    }

    private static void threeNodes() {
        Due.sentence("What it is", "A disk shared by three NODES (0 to 2)");
        SharedDiskFs disk = new SharedDiskFs(2);
        for (int node = 0; node < 3; node++) {
            Due.is("write(" + node + ", " + node + ", 1)", 1, disk.write(node, node, 1));
            Due.is("up(" + node + ")", true, disk.up(node));
        }
        State.counts("a write of each node", disk, 1, 1, 1);
        Due.is("write(-1, 0, 1)", -1, disk.write(-1, 0, 1));
        Due.is("write(3, 0, 1)", -1, disk.write(3, 0, 1));
        Due.is("up(-1)", false, disk.up(-1));
        Due.is("up(3)", false, disk.up(3));
    }

    private static void sixteenBlocks() {
        Due.sentence("What it is", "sixteen BLOCKS (0 to 15)");
        SharedDiskFs disk = new SharedDiskFs(2);
        for (int block = 0; block < 16; block++) {
            Due.is("write(1, " + block + ", ..)", block + 1, disk.write(1, block, 1000 + block));
        }
        for (int block = 0; block < 16; block++) {
            State.block("sixteen writes", disk, block, 1000 + block, 0, 1);
        }
        Due.is("write(1, -1, 1)", -2, disk.write(1, -1, 1));
        Due.is("write(1, 16, 1)", -2, disk.write(1, 16, 1));
        Due.is("content(-1)", -2, disk.content(-1));
        Due.is("content(16)", -2, disk.content(16));
    }

    private static void ofOneInt() {
        Due.sentence("What it is", "of one int");
        for (int value : INTS) {
            SharedDiskFs disk = new SharedDiskFs(2);
            disk.write(0, 0, value);
            State.block("write of " + value, disk, 0, value, 0, 0);
            Due.is("own read of " + value, value, disk.read(0, 0));
            Due.is("another's read of " + value, value, disk.read(2, 0));
            State.safeBlock("read of " + value, disk, 0, value);
            disk.swap(1, 0, 15);
            State.block("swap of " + value, disk, 15, value, 0, 1);
            State.block("swap of " + value, disk, 0, 0, value, 1);
            disk.crash(1);
            State.safeBlock("crash over " + value, disk, 0, value);
        }
    }

    private static void allZeroAtTheStart() {
        Due.sentence("What it is", "all 0 at the start");
        SharedDiskFs disk = new SharedDiskFs(2);
        for (int block = 0; block < 16; block++) {
            State.safeBlock("new", disk, block, 0);
            Due.is("new: read(" + block % 3 + ", " + block + ")", 0, disk.read(block % 3, block));
        }
        State.counts("new", disk, 0, 0, 0);
        Due.is("new: powerCut()", 0, disk.powerCut());
    }

    private static void atMost512Calls() {
        Due.sentence("What it is", "An object is used for at most 512 calls after it has been made");
        last("read(1, 0)", 510, disk -> disk.read(1, 0));
        last("write(1, 15, 5)", 1, disk -> disk.write(1, 15, 5));
        last("swap(2, 0, 15)", 2, disk -> disk.swap(2, 0, 15));
        last("sync(0)", 15, disk -> disk.sync(0));
        last("crash(0)", 15, disk -> disk.crash(0));
        last("crashInSync(0, true)", 15, disk -> disk.crashInSync(0, true));
        last("crashInSync(0, false)", 15, disk -> disk.crashInSync(0, false));
        last("restart(2)", 0, disk -> disk.restart(2));
        last("powerCut()", 15, disk -> disk.powerCut());
        last("content(0)", 510, disk -> disk.content(0));
        last("safe(0)", 0, disk -> disk.safe(0));
        last("owner(0)", 0, disk -> disk.owner(0));
        last("unsafe(0)", 15, disk -> disk.unsafe(0));
        last("up(0)", 1, disk -> disk.up(0) ? 1 : 0);
        last("read(3, 0)", -1, disk -> disk.read(3, 0));
    }

    // Fifteen blocks in turn, each written with the number of its turn: the last of them, 510, is block 0's.
    private static void last(String name, long want, Call call) {
        SharedDiskFs disk = new SharedDiskFs(8);
        for (int turn = 0; turn < CALLS - 1; turn++) {
            int due = turn < 15 ? turn + 1 : 15;
            Due.is("call " + (turn + 1) + ", a write", due, disk.write(0, turn % 15, turn));
        }
        Due.is("call 512, " + name, want, call.on(disk));
    }

    private static void neverOldContents() {
        Due.sentence("Terms", "locks that make sure that they never see old contents");
        SharedDiskFs disk = new SharedDiskFs(8);
        for (int block = 0; block < 16; block++) {
            disk.read(0, block);
            disk.read(1, block);
        }
        for (int block = 0; block < 16; block++) {
            disk.write(2, block, 50 + block);
            Due.is("read(0, " + block + ") after another's write", 50 + block, disk.read(0, block));
            disk.write(0, block, 80 + block);
            Due.is("read(1, " + block + ") after a third's write", 80 + block, disk.read(1, block));
            disk.write(2, block, 90 + block);
        }
        disk.crash(2);
        for (int block = 0; block < 16; block++) {
            int due = block < 15 ? 90 + block : 80 + block;
            Due.is("read(0, " + block + ") after the crash", due, disk.read(0, block));
            Due.is("read(1, " + block + ") after the crash", due, disk.read(1, block));
        }
    }

    // Each node reads in its turn a block that each node wrote: its own unsafe write, another's, a safe one.
    private static void contentIsWhatEveryReadGives() {
        Due.sentence("Terms", "Every block has a CONTENT, which every read gives");
        for (int writer = 0; writer < 3; writer++) {
            for (int reader = 0; reader < 3; reader++) {
                for (int block = 0; block < 16; block++) {
                    SharedDiskFs disk = new SharedDiskFs(2);
                    disk.write(reader, block, 4);
                    disk.write(writer, block, 5);
                    String told = "read(" + reader + ", " + block + ") after a write of " + writer;
                    Due.is(told + ": content(" + block + ")", 5, disk.content(block));
                    Due.is(told, 5, disk.read(reader, block));
                    Due.is(told + ", again", 5, disk.read(reader, block));
                    Due.is(told + ": content(" + block + ") then", 5, disk.content(block));
                }
            }
        }
    }

    private static void differOnlyWhileUnsafe() {
        Due.sentence("Terms", "The two differ only while the last write to the block is UNSAFE");
        for (int seed = 0; seed < 60; seed++) {
            SharedDiskFs disk = new SharedDiskFs(2);
            String told = "run " + seed;
            Run.answers(seed, disk, (same, turn) -> differOnlyUnderAnOwner(told, same, turn % 16));
        }
    }

    private static void differOnlyUnderAnOwner(String told, SharedDiskFs disk, int block) {
        if (disk.owner(block) == State.NOTHING) {
            Due.is(told + ": content(" + block + ") without an owner", disk.safe(block), disk.content(block));
        }
    }

    private static void safeOnceTheWriteIsEnded() {
        Due.sentence("Terms", "The two differ only while the last write to the block is UNSAFE");
        ended("sync(1)", 9, disk -> disk.sync(1));
        ended("read(0, 4)", 9, disk -> disk.read(0, 4));
        ended("read(2, 4)", 9, disk -> disk.read(2, 4));
        ended("read(0, 5), the node's other block", 9, disk -> disk.read(0, 5));
        ended("write(0, 5, 1), the node's other block", 9, disk -> disk.write(0, 5, 1));
        ended("swap(2, 5, 6), the node's other block", 9, disk -> disk.swap(2, 5, 6));
        ended("swap(2, 6, 5), the node's other block", 9, disk -> disk.swap(2, 6, 5));
        ended("crash(1)", 3, disk -> disk.crash(1));
        ended("crashInSync(1, false)", 3, disk -> disk.crashInSync(1, false));
        ended("crashInSync(1, true)", 9, disk -> disk.crashInSync(1, true));
        ended("powerCut()", 3, disk -> disk.powerCut());
    }

    private static void ended(String name, int content, Ending ending) {
        SharedDiskFs disk = new SharedDiskFs(2);
        disk.write(1, 4, 3);
        State.block("ahead of " + name, disk, 4, 3, 0, 1);
        disk.sync(1);
        disk.write(1, 4, 9);
        disk.write(1, 5, 8);
        State.block("ahead of " + name, disk, 4, 9, 3, 1);
        ending.on(disk);
        State.safeBlock(name, disk, 4, content);
        Due.is(name + ": unsafe(1)", 0, disk.unsafe(1));
    }

    private static void belongsToTheNodeThatMadeIt() {
        Due.sentence("Terms", "it belongs then to the node that made it");
        for (int first = 0; first < 3; first++) {
            for (int last = 0; last < 3; last++) {
                SharedDiskFs disk = new SharedDiskFs(2);
                disk.write(first, 15, 1);
                Due.is("owner after a write of " + first, first, disk.owner(15));
                disk.write(last, 15, 2);
                Due.is("owner after a write of " + first + ", then " + last, last, disk.owner(15));
                Due.is("unsafe(" + last + ")", 1, disk.unsafe(last));
                Due.is("unsafe of the first", first == last ? 1 : 0, disk.unsafe(first));
                disk.crash((last + 1) % 3);
                disk.crash((last + 2) % 3);
                Due.is("owner after crashes of the others", last, disk.owner(15));
                Due.is("crash(" + last + ")", 1, disk.crash(last));
                State.safeBlock("crash(" + last + ")", disk, 15, first == last ? 0 : 1);
            }
        }
    }

    private static void allAreUpAtTheStart() {
        Due.sentence("Terms", "A node is UP or DOWN (crashed); all are up at the start.");
        State.nodes("new", new SharedDiskFs(2), true, true, true);
        for (int node = 0; node < 3; node++) {
            SharedDiskFs disk = new SharedDiskFs(2);
            Due.is("new: restart(" + node + ")", 0, disk.restart(node));
            Due.is("new: crash(" + node + ")", 0, disk.crash(node));
            State.nodes("crash(" + node + ")", disk, node != 0, node != 1, node != 2);
        }
    }

    private static void roomIsClamped() {
        Due.sentence("Promise 1", "room (clamped into 2 to 8)");
        int[] rooms = {Integer.MIN_VALUE, Integer.MIN_VALUE + 1, -65536, -1, 0, 1, 9, 10, 15, 16, 17, 65536,
            Integer.MAX_VALUE - 1, Integer.MAX_VALUE};
        for (int room : rooms) {
            int clamped = room < 2 ? 2 : 8;
            for (int seed = 0; seed < 20; seed++) {
                String due = Run.answers(seed, new SharedDiskFs(clamped));
                Due.is("run " + seed + " with room " + room, due, Run.answers(seed, new SharedDiskFs(room)));
            }
            fillsEveryBlock(room);
        }
    }

    private static void roomChangesNoAnswer() {
        Due.sentence("Promise 1", "it changes nothing that any call answers");
        for (int room = 2; room <= 8; room++) {
            for (int seed = 0; seed < 20; seed++) {
                String due = Run.answers(seed, new SharedDiskFs(5));
                Due.is("run " + seed + " with room " + room, due, Run.answers(seed, new SharedDiskFs(room)));
            }
            fillsEveryBlock(room);
        }
    }

    // One node with all sixteen blocks, more than any room, and not one of them made safe to make room.
    private static void fillsEveryBlock(int room) {
        SharedDiskFs disk = new SharedDiskFs(room);
        for (int block = 0; block < 16; block++) {
            Due.is("room " + room + ": write " + (block + 1), block + 1, disk.write(1, block, 100 + block));
        }
        for (int block = 0; block < 16; block++) {
            State.block("room " + room, disk, block, 100 + block, 0, 1);
            Due.is("room " + room + ": read(1, " + block + ")", 100 + block, disk.read(1, block));
        }
        Due.is("room " + room + ": crash(1)", 16, disk.crash(1));
        State.safeBlock("room " + room + ": crash(1)", disk, 15, 0);
    }
}
