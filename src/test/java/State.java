/** What the calls that change nothing tell of an object. */
final class State {
    static final int NOTHING = -4;

    private State() {
    }

    /** All of it, as one text that can be compared; 54 of an object's 512 calls. */
    static String of(SharedDiskFs disk) {
        StringBuilder text = new StringBuilder();
        for (int node = 0; node < 3; node++) {
            text.append(disk.up(node) ? "up" : "down").append('/').append(disk.unsafe(node)).append(' ');
        }
        for (int block = 0; block < 16; block++) {
            text.append(block).append('=').append(disk.content(block)).append('/')
                    .append(disk.safe(block)).append('/').append(disk.owner(block)).append(' ');
        }
        return text.toString();
    }

    static void block(String when, SharedDiskFs disk, int block, int content, int safe, int owner) {
        Due.is(when + ": content(" + block + ")", content, disk.content(block));
        Due.is(when + ": safe(" + block + ")", safe, disk.safe(block));
        Due.is(when + ": owner(" + block + ")", owner, disk.owner(block));
    }

    static void safeBlock(String when, SharedDiskFs disk, int block, int content) {
        block(when, disk, block, content, content, NOTHING);
    }

    static void counts(String when, SharedDiskFs disk, int of0, int of1, int of2) {
        Due.is(when + ": unsafe(0)", of0, disk.unsafe(0));
        Due.is(when + ": unsafe(1)", of1, disk.unsafe(1));
        Due.is(when + ": unsafe(2)", of2, disk.unsafe(2));
    }

    static void nodes(String when, SharedDiskFs disk, boolean up0, boolean up1, boolean up2) {
        Due.is(when + ": up(0)", up0, disk.up(0));
        Due.is(when + ": up(1)", up1, disk.up(1));
        Due.is(when + ": up(2)", up2, disk.up(2));
    }
}
