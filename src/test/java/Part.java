import java.util.List;

/** One part of modes and levels that a test has chosen, written with the coder of the reference. */
final class Part {
    private final ReferencePress.Coder coder = new ReferencePress.Coder();

    /** Begins a tile of one block or of four, which must follow. */
    Part tile(int blocks) {
        coder.put(blocks == 4 ? 1 : 0, 0);
        return this;
    }

    Part block(char mode, int[][] levels) {
        ReferencePress.BlockRecord block = new ReferencePress.BlockRecord();
        block.size = levels.length;
        block.mode = "dhva".indexOf(mode);
        block.levels = levels;
        ReferencePress.putBlock(coder, block);
        return this;
    }

    /** A block of which all levels are 0 but the one at this place. */
    Part block(char mode, int size, int x, int y, int level) {
        int[][] levels = new int[size][size];
        levels[y][x] = level;
        return block(mode, levels);
    }

    /** A tile of one block that lies by this level, times the step, above what is predicted. */
    Part flatTile(char mode, int level) {
        return tile(1).block(mode, 8, 0, 0, level);
    }

    int[] bytes() {
        List<Integer> bytes = coder.end();
        return bytes.stream().mapToInt(Integer::intValue).toArray();
    }
}
