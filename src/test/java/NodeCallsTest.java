/** The boundary cases that promises 5 to 9 name (sync, crashes, restart, power cut), by their sentences. */
public final class NodeCallsTest {
    private static final int NOTHING = State.NOTHING;

    public static void main(String[] args) {
        promise5AllOfTheNodeBecomeSafe();
        promise5AnswersHowMany();
        promise6AllOfTheNodeAreUndone();
        promise6BecomesItsSafeContent();
        promise6ItIsDown();
        promise6AnswersHowMany();
        promise7SafeIfLate();
        promise7UndoneAsByCrashIfNot();
        promise7ThenItIsDown();
        promise7AnswersHowMany();
        promise8ComesUpAgain();
        promise8WithNothingOfBefore();
        promise8AnswersWhetherItWasDown();
        promise8OfANodeThatIsUp();
        promise9AllOfAllNodesAreUndone();
        promise9WhatIsSafeStays();
        promise9AllNodesAreUp();
        promise9AnswersHowMany();
        Due.finish();
    }

    private static SharedDiskFs disk() {
        return new SharedDiskFs(2);
    }

    // Safe contents 100 and more under all, then unsafe writes of 200 and more: what is undone, what is
    // made safe and what is left alone can be told apart.
    private static SharedDiskFs writtenTwice(int node, int blocks) {
        SharedDiskFs disk = disk();
        for (int block = 0; block < 16; block++) {
            disk.write(node, block, 100 + block);
        }
        disk.sync(node);
        for (int block = 0; block < blocks; block++) {
            disk.write(node, block, 200 + block);
        }
        return disk;
    }

    private static void allBlocks(String when, SharedDiskFs disk, int blocks, int base) {
        for (int block = 0; block < 16; block++) {
            State.safeBlock(when, disk, block, (block < blocks ? base : 100) + block);
        }
        State.counts(when, disk, 0, 0, 0);
    }

    // Node 0 has block 0, node 1 blocks 1 and 15, node 2 block 2.
    private static SharedDiskFs threeWriters() {
        SharedDiskFs disk = disk();
        disk.write(0, 0, 10);
        disk.write(1, 1, 11);
        disk.write(1, 15, 12);
        disk.write(2, 2, 13);
        return disk;
    }

    private static void othersKeepTheirs(String when, SharedDiskFs disk) {
        State.block(when, disk, 0, 10, 0, 0);
        State.block(when, disk, 2, 13, 0, 2);
        State.counts(when, disk, 1, 0, 1);
        Due.is(when + ": up(0)", true, disk.up(0));
        Due.is(when + ": up(2)", true, disk.up(2));
    }

    private static void promise5AllOfTheNodeBecomeSafe() {
        Due.sentence("Promise 5", "All unsafe writes of the node become safe.");
        for (int node = 0; node < 3; node++) {
            for (int blocks = 0; blocks <= 16; blocks++) {
                SharedDiskFs disk = writtenTwice(node, blocks);
                disk.sync(node);
                allBlocks("sync(" + node + ") of " + blocks, disk, blocks, 200);
                Due.is("up(" + node + ") after a sync", true, disk.up(node));
            }
        }
        SharedDiskFs disk = threeWriters();
        disk.sync(1);
        othersKeepTheirs("sync(1)", disk);
        State.safeBlock("sync(1)", disk, 1, 11);
        State.safeBlock("sync(1)", disk, 15, 12);
    }

    private static void promise5AnswersHowMany() {
        Due.sentence("Promise 5", "Answers how many blocks that were.");
        for (int node = 0; node < 3; node++) {
            Due.is("sync(" + node + ") of a new object", 0, disk().sync(node));
            for (int blocks = 0; blocks <= 16; blocks++) {
                SharedDiskFs disk = writtenTwice(node, blocks);
                Due.is("sync(" + node + ") of " + blocks, blocks, disk.sync(node));
                Due.is("sync(" + node + ") again", 0, disk.sync(node));
            }
        }
        SharedDiskFs disk = disk();
        disk.write(0, 5, 1);
        disk.write(0, 5, 2);
        disk.write(0, 6, 0);
        Due.is("sync of two writes to one block and one that changed nothing", 2, disk.sync(0));
        disk.write(0, 5, 1);
        disk.read(1, 5);
        Due.is("sync of what another's read made safe", 0, disk.sync(0));
    }

    private static void promise6AllOfTheNodeAreUndone() {
        Due.sentence("Promise 6", "all its unsafe writes are undone");
        for (int node = 0; node < 3; node++) {
            for (int blocks = 0; blocks <= 16; blocks++) {
                SharedDiskFs disk = writtenTwice(node, blocks);
                disk.crash(node);
                allBlocks("crash(" + node + ") of " + blocks, disk, blocks, 100);
            }
        }
        SharedDiskFs disk = threeWriters();
        disk.crash(1);
        othersKeepTheirs("crash(1)", disk);
        State.safeBlock("crash(1)", disk, 1, 0);
        State.safeBlock("crash(1)", disk, 15, 0);
    }

    private static void promise6BecomesItsSafeContent() {
        Due.sentence("Promise 6", "the content of each such block becomes its safe content");
        SharedDiskFs disk = disk();
        disk.write(0, 0, 1);
        disk.sync(0);
        disk.write(0, 0, 2);
        disk.write(0, 0, 3);
        disk.write(1, 15, 4);
        disk.write(0, 15, 5);
        disk.crash(0);
        State.safeBlock("crash over a sync and two writes", disk, 0, 1);
        State.safeBlock("crash over another's write", disk, 15, 4);
        disk.write(1, 0, 6);
        disk.crash(1);
        State.safeBlock("crash of another node", disk, 0, 1);
    }

    private static void promise6ItIsDown() {
        Due.sentence("Promise 6", "and it is down");
        for (int node = 0; node < 3; node++) {
            SharedDiskFs disk = disk();
            disk.crash(node);
            State.nodes("crash(" + node + ") without writes", disk, node != 0, node != 1, node != 2);
            SharedDiskFs full = writtenTwice(node, 16);
            full.crash(node);
            State.nodes("crash(" + node + ") with all blocks", full, node != 0, node != 1, node != 2);
            Due.is("write after the crash", -3, full.write(node, 0, 1));
        }
    }

    private static void promise6AnswersHowMany() {
        Due.sentence("Promise 6", "Answers how many blocks were undone.");
        for (int node = 0; node < 3; node++) {
            Due.is("crash(" + node + ") of a new object", 0, disk().crash(node));
            for (int blocks = 0; blocks <= 16; blocks++) {
                Due.is("crash(" + node + ") of " + blocks, blocks, writtenTwice(node, blocks).crash(node));
            }
        }
        SharedDiskFs disk = threeWriters();
        disk.write(1, 15, 7);
        Due.is("crash(1) of three writes to two blocks", 2, disk.crash(1));
        Due.is("crash(0)", 1, disk.crash(0));
        SharedDiskFs same = disk();
        same.write(0, 5, 0);
        Due.is("crash over a write that changed nothing", 1, same.crash(0));
    }

    private static void promise7SafeIfLate() {
        Due.sentence("Promise 7", "first all of them become safe if 'late' is true (the journal was complete)");
        for (int node = 0; node < 3; node++) {
            for (int blocks = 0; blocks <= 16; blocks++) {
                SharedDiskFs disk = writtenTwice(node, blocks);
                disk.crashInSync(node, true);
                allBlocks("late crash of " + blocks, disk, blocks, 200);
            }
        }
        SharedDiskFs disk = threeWriters();
        disk.crashInSync(1, true);
        othersKeepTheirs("late crash", disk);
        State.safeBlock("late crash", disk, 1, 11);
        State.safeBlock("late crash", disk, 15, 12);
    }

    private static void promise7UndoneAsByCrashIfNot() {
        Due.sentence("Promise 7", "or are undone as by crash if not");
        for (int node = 0; node < 3; node++) {
            for (int blocks = 0; blocks <= 16; blocks++) {
                SharedDiskFs disk = writtenTwice(node, blocks);
                SharedDiskFs crashed = writtenTwice(node, blocks);
                Due.is("early crash of " + blocks, crashed.crash(node), disk.crashInSync(node, false));
                Due.is("early crash of " + blocks, State.of(crashed), State.of(disk));
                allBlocks("early crash of " + blocks, disk, blocks, 100);
            }
        }
        SharedDiskFs disk = threeWriters();
        disk.crashInSync(1, false);
        othersKeepTheirs("early crash", disk);
        State.safeBlock("early crash", disk, 1, 0);
        State.safeBlock("early crash", disk, 15, 0);
    }

    private static void promise7ThenItIsDown() {
        Due.sentence("Promise 7", "then it is down");
        boolean[] both = {true, false};
        for (boolean late : both) {
            for (int node = 0; node < 3; node++) {
                SharedDiskFs disk = disk();
                disk.crashInSync(node, late);
                State.nodes("without writes, late " + late, disk, node != 0, node != 1, node != 2);
                SharedDiskFs full = writtenTwice(node, 16);
                full.crashInSync(node, late);
                State.nodes("with all blocks, late " + late, full, node != 0, node != 1, node != 2);
                Due.is("read after it, late " + late, -3, full.read(node, 0));
            }
        }
    }

    private static void promise7AnswersHowMany() {
        Due.sentence("Promise 7", "Answers how many blocks had unsafe writes.");
        boolean[] both = {true, false};
        for (boolean late : both) {
            for (int node = 0; node < 3; node++) {
                String told = "crashInSync(" + node + ", " + late + ")";
                Due.is(told + " of a new object", 0, disk().crashInSync(node, late));
                for (int blocks = 0; blocks <= 16; blocks++) {
                    SharedDiskFs disk = writtenTwice(node, blocks);
                    Due.is(told + " of " + blocks, blocks, disk.crashInSync(node, late));
                }
            }
            SharedDiskFs disk = threeWriters();
            disk.write(1, 15, 7);
            Due.is("three writes to two blocks, late " + late, 2, disk.crashInSync(1, late));
        }
    }

    private static void promise8ComesUpAgain() {
        Due.sentence("Promise 8", "The node comes up again.");
        for (int node = 0; node < 3; node++) {
            SharedDiskFs disk = disk();
            disk.crash(0);
            disk.crashInSync(1, true);
            disk.crashInSync(2, false);
            disk.restart(node);
            State.nodes("restart(" + node + ") of three", disk, node == 0, node == 1, node == 2);
            Due.is("read after a restart", 0, disk.read(node, 15));
            Due.is("write after a restart", 1, disk.write(node, 15, 4));
            Due.is("swap after a restart", 2, disk.swap(node, 15, 0));
            Due.is("sync after a restart", 2, disk.sync(node));
            Due.is("crash after a restart", 0, disk.crash(node));
        }
    }

    private static void promise8WithNothingOfBefore() {
        Due.sentence("Promise 8", "The node comes up again.");
        SharedDiskFs early = writtenTwice(1, 16);
        early.crash(1);
        String before = State.of(early);
        early.restart(1);
        Due.is("all but up(1) after crash and restart", before.replace("down", "up"), State.of(early));
        SharedDiskFs late = writtenTwice(1, 16);
        late.crashInSync(1, true);
        before = State.of(late);
        late.restart(1);
        Due.is("all but up(1) after late crash and restart", before.replace("down", "up"), State.of(late));
        Due.is("sync after a restart", 0, late.sync(1));
    }

    private static void promise8AnswersWhetherItWasDown() {
        Due.sentence("Promise 8", "Answers 1 if it was down, 0 if not.");
        for (int node = 0; node < 3; node++) {
            SharedDiskFs disk = disk();
            Due.is("restart(" + node + ") of a new object", 0, disk.restart(node));
            disk.crash(node);
            Due.is("restart(" + node + ") after a crash", 1, disk.restart(node));
            Due.is("restart(" + node + ") again", 0, disk.restart(node));
            disk.crashInSync(node, true);
            Due.is("restart of another node", 0, disk.restart((node + 1) % 3));
            Due.is("restart(" + node + ") after a late crash", 1, disk.restart(node));
            disk.crashInSync(node, false);
            disk.powerCut();
            Due.is("restart(" + node + ") after a power cut", 0, disk.restart(node));
        }
    }

    private static void promise8OfANodeThatIsUp() {
        Due.sentence("Promise 8", "0 if not");
        for (int node = 0; node < 3; node++) {
            SharedDiskFs disk = writtenTwice(node, 16);
            String before = State.of(disk);
            Due.is("restart(" + node + ") of a node that is up", 0, disk.restart(node));
            Due.is("restart(" + node + ") of a node that is up", before, State.of(disk));
            Due.is("crash(" + node + ") after it", 16, disk.crash(node));
        }
    }

    // Block 0 to 4 of node 0, 5 to 9 of node 1, 10 to 15 of node 2.
    private static SharedDiskFs sharedOut() {
        SharedDiskFs disk = writtenTwice(0, 0);
        for (int block = 0; block < 16; block++) {
            disk.write(block < 15 ? block / 5 : 2, block, 300 + block);
        }
        return disk;
    }

    private static void promise9AllOfAllNodesAreUndone() {
        Due.sentence("Promise 9", "all unsafe writes of all nodes are undone");
        SharedDiskFs disk = sharedOut();
        State.counts("ahead of the power cut", disk, 5, 5, 6);
        disk.powerCut();
        allBlocks("power cut of all blocks", disk, 0, 0);
        for (int node = 0; node < 3; node++) {
            SharedDiskFs full = writtenTwice(node, 16);
            full.powerCut();
            allBlocks("power cut of node " + node + "'s blocks", full, 0, 0);
        }
        SharedDiskFs none = disk();
        String before = State.of(none);
        none.powerCut();
        Due.is("power cut of a new object", before, State.of(none));
    }

    private static void promise9WhatIsSafeStays() {
        Due.sentence("Promise 9", "all unsafe writes of all nodes are undone");
        SharedDiskFs disk = sharedOut();
        disk.sync(0);
        disk.read(0, 9);
        disk.crashInSync(2, true);
        disk.powerCut();
        for (int block = 0; block < 16; block++) {
            State.safeBlock("power cut after all became safe", disk, block, 300 + block);
        }
        Due.is("owner(0) after it", NOTHING, disk.owner(0));
    }

    private static void promise9AllNodesAreUp() {
        Due.sentence("Promise 9", "all nodes are up");
        for (int down = 0; down < 8; down++) {
            SharedDiskFs disk = disk();
            for (int node = 0; node < 3; node++) {
                if ((down >> node & 1) == 1) {
                    disk.crash(node);
                }
            }
            disk.powerCut();
            State.nodes("power cut with nodes down, bits " + down, disk, true, true, true);
            for (int node = 0; node < 3; node++) {
                Due.is("write(" + node + ", " + node + ", 1) after it", 1, disk.write(node, node, 1));
            }
        }
    }

    private static void promise9AnswersHowMany() {
        Due.sentence("Promise 9", "Answers how many blocks were undone.");
        Due.is("powerCut() of a new object", 0, disk().powerCut());
        for (int node = 0; node < 3; node++) {
            for (int blocks = 0; blocks <= 16; blocks++) {
                SharedDiskFs disk = writtenTwice(node, blocks);
                Due.is("powerCut() of " + blocks + " of node " + node, blocks, disk.powerCut());
                Due.is("powerCut() again", 0, disk.powerCut());
            }
        }
        Due.is("powerCut() of all blocks of three nodes", 16, sharedOut().powerCut());
        SharedDiskFs crashed = sharedOut();
        crashed.crash(0);
        Due.is("powerCut() after a crash", 11, crashed.powerCut());
        SharedDiskFs late = sharedOut();
        late.crashInSync(2, true);
        Due.is("powerCut() after a late crash", 10, late.powerCut());
        SharedDiskFs same = disk();
        same.write(2, 15, 0);
        Due.is("powerCut() over a write that changed nothing", 1, same.powerCut());
    }
}
