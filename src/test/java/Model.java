import java.util.ArrayList;
import java.util.List;
import java.util.Map;
import java.util.TreeMap;

/**
 * The document once more, held in another way than the program does: the disk has the safe contents
 * alone, and each node a journal of what it wrote since.
 */
final class Model {
    private final int[] disk = new int[16];
    private final List<Map<Integer, Integer>> journals = new ArrayList<>();
    private final boolean[] up = {true, true, true};

    Model() {
        for (int node = 0; node < 3; node++) {
            journals.add(new TreeMap<>());
        }
    }

    int read(int node, int block) {
        int refusal = refusal(node, block, block);
        if (refusal != 0) {
            return refusal;
        }
        flushOthers(node, block);
        return content(block);
    }

    int write(int node, int block, int value) {
        int refusal = refusal(node, block, block);
        if (refusal != 0) {
            return refusal;
        }
        flushOthers(node, block);
        journals.get(node).put(block, value);
        return journals.get(node).size();
    }

    int swap(int node, int a, int b) {
        int refusal = refusal(node, a, b);
        if (refusal != 0) {
            return refusal;
        }
        flushOthers(node, a);
        flushOthers(node, b);
        int ofA = content(a);
        int ofB = content(b);
        journals.get(node).put(a, ofB);
        journals.get(node).put(b, ofA);
        return journals.get(node).size();
    }

    int sync(int node) {
        int refusal = refusal(node, 0, 0);
        return refusal != 0 ? refusal : flush(node);
    }

    int crash(int node) {
        int refusal = refusal(node, 0, 0);
        if (refusal != 0) {
            return refusal;
        }
        up[node] = false;
        return drop(node);
    }

    int crashInSync(int node, boolean late) {
        int refusal = refusal(node, 0, 0);
        if (refusal != 0) {
            return refusal;
        }
        int count = late ? flush(node) : 0;
        return count + crash(node);
    }

    int restart(int node) {
        if (node < 0 || node > 2) {
            return -1;
        }
        if (up[node]) {
            return 0;
        }
        up[node] = true;
        return 1;
    }

    int powerCut() {
        for (int node = 0; node < 3; node++) {
            up[node] = true;
        }
        return drop(0) + drop(1) + drop(2);
    }

    int content(int block) {
        int owner = owner(block);
        return owner < 0 ? safe(block) : journals.get(owner).get(block);
    }

    int safe(int block) {
        return block < 0 || block > 15 ? -2 : disk[block];
    }

    int owner(int block) {
        if (block < 0 || block > 15) {
            return -2;
        }
        for (int node = 0; node < 3; node++) {
            if (journals.get(node).containsKey(block)) {
                return node;
            }
        }
        return -4;
    }

    int unsafe(int node) {
        return node < 0 || node > 2 ? -1 : journals.get(node).size();
    }

    boolean up(int node) {
        return node >= 0 && node <= 2 && up[node];
    }

    private int refusal(int node, int a, int b) {
        if (node < 0 || node > 2) {
            return -1;
        }
        if (a < 0 || a > 15 || b < 0 || b > 15) {
            return -2;
        }
        return up[node] ? 0 : -3;
    }

    private void flushOthers(int node, int block) {
        for (int other = 0; other < 3; other++) {
            if (other != node && journals.get(other).containsKey(block)) {
                flush(other);
            }
        }
    }

    private int flush(int node) {
        journals.get(node).forEach((block, value) -> disk[block] = value);
        return drop(node);
    }

    private int drop(int node) {
        int count = journals.get(node).size();
        journals.get(node).clear();
        return count;
    }
}
