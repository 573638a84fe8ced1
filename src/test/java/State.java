/** All that the calls that change nothing tell of an object, as one text that can be compared. */
final class State {
    private State() {
    }

    static String of(SharedDiskFs disk) {
        StringBuilder text = new StringBuilder();
        for (int node = 0; node < 3; node++) {
            text.append(disk.up(node) ? "up" : "down").append('/').append(disk.unsafe(node)).append(' ');
        }
        for (int block = 0; block < 16; block++) {
            text.append(block).append('=').append(disk.content(block)).append('/')
                    .append(disk.safe(block)).append('/').append(disk.owner(block)).append(' ');
        }
        return text.toString();
    }
}
