/** The edges of 'Terms' 2 and of promise 9, a sentence of the document above each group of tests. */
public final class BuildEdgesTest extends Checks {
    public static void main(String[] args) {
        blocksAre8Or16Or32();
        imagesAreAtMost3();
        numbersGoFolderByFolder();
        numbersOfLinks();
        zerosAreNotStored();
        packedOnlyIfShorter();
        packedFromLeftToRight();
        blocksArePackedEachByItself();
        runsOfWholeBlocks();
        tailBlocksOfFewBytes();
        filesRoundABlock();
        tailsThatFitAndDoNot();
        tailsOfZeros();
        doubledFiles();
        doubledTails();
        almostDoubledFiles();
        headOfTheBareTree();
        sumWrapsAround();
        rowsOfAllKinds();
        foldersByNames();
        sameTreeSameBytes();
        fullTree();
        buildLeavesTheTree();
        nothingIsLeftOfTheTreeBefore();
        finish();
    }

    /** 'L is B, 8, 16 or 32'; 'OUTSIDE' */
    private static void blocksAre8Or16Or32() {
        int[] taken = {8, 16, 32};
        for (int i = 0; i < 3; i++) {
            TreeImages x = new TreeImages();
            due("9 B " + taken[i], x.build(taken[i]), 0);
            due("9 B is told", x.image(0, 1), taken[i]);
            due("9 B is the third byte", x.out(0, 2), taken[i]);
        }
        int[] refused = {0, 1, 4, 7, 9, 15, 17, 24, 31, 33, 64, 128, 256, -8, -16, -32, 256 + 8, LOW, HIGH};
        TreeImages x = new TreeImages();
        for (int b : refused) {
            due("9 B " + b, x.build(b), OUTSIDE);
        }
        due("9 no image by these", x.count(1), 0);
    }

    /** 'IMAGES, 3 at most, numbered 0, 1, ..'; 'ROOM: 3 are there' */
    private static void imagesAreAtMost3() {
        TreeImages x = new TreeImages();
        due("9 first", x.build(8), 0);
        due("9 second", x.build(8), 1);
        due("9 third", x.build(8), 2);
        due("9 fourth", x.build(8), ROOM);
        due("9 three are there", x.count(1), 3);
        due("9 the fourth is not", x.image(3, 0), UNKNOWN);
        due("9 one is gone", x.drop(), 2);
        due("9 third again", x.build(16), 2);
        due("9 fourth again", x.build(16), ROOM);
        due("9 the new third", x.image(2, 1), 16);
        // images that came count too
        TreeImages y = new TreeImages();
        come(y, bytesOf(x, 0));
        come(y, bytesOf(x, 0));
        due("9 third behind two that came", y.build(8), 2);
        due("9 fourth behind two that came", y.build(8), ROOM);
    }

    /** 'the folder 0 has 1; then, folder by folder, in order of their NUMBERS, and in each by names' */
    private static void numbersGoFolderByFolder() {
        TreeImages x = new TreeImages();
        // NODES: 1 folder 9, 2 folder 1, 3 hider 999, 4 folder 9/5, 5 file 9/1, 6 file 1/2, 7 file 9/5/1
        x.folder(0, 9);
        x.folder(0, 1);
        x.hide(0, 999);
        x.folder(1, 5);
        x.file(1, 1);
        x.file(2, 2);
        x.file(4, 1);
        for (int node = 0; node < 8; node++) {
            x.owner(node, node, 0);
        }
        x.build(8);
        int[] nodes = {0, 2, 1, 3, 6, 5, 4, 7};
        for (int number = 1; number <= 8; number++) {
            due("9 NUMBER " + number, x.node(0, number, 2), nodes[number - 1]);
        }
        due("9 no NUMBER 9", x.node(0, 9, 0), OUTSIDE);
    }

    /** 'what is named there and has none yet gets the next one' */
    private static void numbersOfLinks() {
        TreeImages x = new TreeImages();
        // NODE 2 is a file of the folder 1 by 5, but comes first by its link 1/1 to the folder 0's 3
        x.folder(0, 7);
        x.file(1, 5);
        x.file(0, 8);
        x.link(0, 3, 2);
        x.link(1, 1, 3);
        x.link(1, 2, 2);
        for (int node = 0; node < 4; node++) {
            x.owner(node, node, 0);
        }
        x.build(8);
        int[] nodes = {0, 2, 1, 3};
        for (int number = 1; number <= 4; number++) {
            due("9 linked NUMBER " + number, x.node(0, number, 2), nodes[number - 1]);
        }
        due("9 a NUMBER once", x.image(0, 2), 4);
        int[] m = bytesOf(x, 0);
        dueBytes("9 its names", part(m, word(m, 8), 24), words(3, 2, 7, 3, 8, 4, 1, 4, 2, 2, 5, 2));
    }

    private static TreeImages file(int b, int... bytes) {
        TreeImages x = new TreeImages();
        x.file(0, 1);
        for (int each : bytes) {
            x.data(1, each, 1);
        }
        x.build(b);
        return x;
    }

    /** The file's first block of 8, or its tail alone: the SIZE, and what is stored in DATA. */
    private static void stored(String what, int[] bytes, int size, int... stored) {
        TreeImages x = file(8, bytes);
        int[] m = bytesOf(x, 0);
        due(what + ": DATA", x.image(0, 4), stored.length);
        dueBytes(what, part(m, 18, stored.length), stored);
        if (bytes.length == 8) {
            dueBytes(what + ": row", part(m, row(m, 2) + 6, 8), words(8, 18, 0, size));
        } else {
            dueBytes(what + ": row", part(m, row(m, 2) + 6, 6), joined(words(bytes.length, 0), new int[] {1, 0}));
            dueBytes(what + ": TAILS", part(m, word(m, 10), 5), joined(words(18, size), new int[] {bytes.length}));
        }
        dueRead(what, x, bytes);
    }

    private static void dueRead(String what, TreeImages x, int... bytes) {
        x.over(0);
        int view = x.look(0, 1);
        for (int i = 0; i < bytes.length; i++) {
            due(what + ": read " + i, x.read(view, i), bytes[i]);
        }
        due(what + ": read beyond", x.read(view, bytes.length), OUTSIDE);
    }

    private static int[] row(int... bytes) {
        return bytes;
    }

    /** 'STORED is: if all are 0, nothing, its SIZE is 0' */
    private static void zerosAreNotStored() {
        stored("9 all 0", new int[8], 0);
        stored("9 all 0 but the last", row(0, 0, 0, 0, 0, 0, 0, 1), 4, 250, 0, 0, 1);
        stored("9 all 0 but the first", row(1, 0, 0, 0, 0, 0, 0, 0), 4, 0, 1, 250, 0);
        stored("9 all 0 but one amidst", row(0, 0, 0, 1, 0, 0, 0, 0), 6, 254, 0, 0, 1, 253, 0);
        stored("9 one 0", new int[1], 0);
        stored("9 seven 0", new int[7], 0);
    }

    /** 'PACKED, if that is shorter than L: SIZE is how many bytes; else as it is: SIZE 32768 + L' */
    private static void packedOnlyIfShorter() {
        stored("9 packed one shorter", row(1, 2, 3, 4, 9, 9, 9, 9), 7, 3, 1, 2, 3, 4, 253, 9);
        stored("9 packed as long", row(1, 2, 3, 4, 5, 9, 9, 9), 32776, 1, 2, 3, 4, 5, 9, 9, 9);
        stored("9 packed longer", row(1, 2, 3, 4, 5, 6, 7, 8), 32776, 1, 2, 3, 4, 5, 6, 7, 8);
        stored("9 packed longer, by two rows", row(1, 2, 3, 3, 3, 4, 5, 6), 32776, 1, 2, 3, 3, 3, 4, 5, 6);
        stored("9 as long by three rows", row(1, 2, 2, 2, 2, 3, 4, 5), 32776, 1, 2, 2, 2, 2, 3, 4, 5);
        // by B of 32: 32 bytes at random are 33 packed
        int[] many = new int[32];
        for (int i = 0; i < 32; i++) {
            many[i] = i * 8 + 1;
        }
        TreeImages x = file(32, many);
        due("9 as it is by 32", x.image(0, 4), 32);
        int[] m = bytesOf(x, 0);
        due("9 SIZE by 32", word(m, row(m, 2) + 12), 32800);
        dueRead("9 as it is by 32", x, many);
        x = file(16, many);
        due("9 as it is by 16", x.image(0, 4), 32);
        m = bytesOf(x, 0);
        due("9 SIZE by 16", word(m, row(m, 2) + 12), 32784);
        due("9 second SIZE by 16", word(m, row(m, 2) + 14), 32784);
    }

    /** 'where three or more like bytes stand side by side ..; else bytes as they are, up to where three like ones begin, or the end' */
    private static void packedFromLeftToRight() {
        stored("9 two alike are no run", row(5, 5, 9, 9, 9, 9, 9, 9), 5, 1, 5, 5, 251, 9);
        stored("9 three alike are", row(5, 5, 5, 9, 9, 9, 9, 9), 4, 254, 5, 252, 9);
        stored("9 two alike at the end", row(9, 9, 9, 9, 9, 9, 5, 5), 5, 251, 9, 1, 5, 5);
        stored("9 three alike at the end", row(9, 9, 9, 9, 9, 5, 5, 5), 4, 252, 9, 254, 5);
        stored("9 one amidst", row(9, 9, 9, 5, 9, 9, 9, 9), 6, 254, 9, 0, 5, 253, 9);
        stored("9 two amidst", row(9, 9, 9, 5, 5, 8, 8, 8), 7, 254, 9, 1, 5, 5, 254, 8);
        stored("9 a pair ahead of a run", row(1, 2, 2, 9, 9, 9, 9, 9), 6, 2, 1, 2, 2, 252, 9);
        stored("9 seven and one", row(9, 9, 9, 9, 9, 9, 9, 5), 4, 250, 9, 0, 5);
        stored("9 one and seven", row(5, 9, 9, 9, 9, 9, 9, 9), 4, 0, 5, 250, 9);
        stored("9 like ones with a lesser between", row(5, 2, 1, 2, 9, 9, 9, 9), 7, 3, 5, 2, 1, 2, 253, 9);
        stored("9 like ones with a greater between", row(5, 1, 2, 1, 9, 9, 9, 9), 7, 3, 5, 1, 2, 1, 253, 9);
        stored("9 two alike and a lesser", row(5, 3, 3, 1, 9, 9, 9, 9), 7, 3, 5, 3, 3, 1, 253, 9);
        stored("9 two alike and a greater", row(5, 3, 3, 4, 9, 9, 9, 9), 7, 3, 5, 3, 3, 4, 253, 9);
        stored("9 a lesser and two alike", row(5, 1, 3, 3, 9, 9, 9, 9), 7, 3, 5, 1, 3, 3, 253, 9);
        stored("9 bytes that look like rows", row(128, 128, 128, 128, 255, 255, 255, 255), 4, 253, 128, 253, 255);
    }

    /** 'blocks packed each by itself' */
    private static void blocksArePackedEachByItself() {
        TreeImages x = new TreeImages();
        x.file(0, 1);
        x.data(1, 3, 6);
        x.data(1, 7, 4);
        x.data(1, 3, 6);
        x.build(8);
        x.build(16);
        int[] m = bytesOf(x, 0);
        dueBytes("9 runs end with their block", part(m, 18, word(m, 6) - 18), 251, 3, 1, 7, 7, 1, 7, 7, 251, 3);
        dueBytes("9 their SIZES", part(m, row(m, 2) + 12, 4), words(5, 5));
        m = bytesOf(x, 1);
        dueBytes("9 in one block they do not", part(m, 18, word(m, 6) - 18), 251, 3, 253, 7, 251, 3);
        // a block of zeros between others takes no place
        TreeImages y = new TreeImages();
        y.file(0, 1);
        y.data(1, 3, 8);
        y.data(1, 0, 16);
        y.data(1, 4, 8);
        y.build(8);
        m = bytesOf(y, 0);
        dueBytes("9 holes", part(m, 18, word(m, 6) - 18), 249, 3, 249, 4);
        dueBytes("9 SIZES of holes", part(m, row(m, 2) + 12, 8), words(2, 0, 0, 2));
        y.over(0);
        y.look(0, 1);
        int[][] edges = {{0, 3}, {7, 3}, {8, 0}, {23, 0}, {24, 4}, {31, 4}, {32, OUTSIDE}};
        for (int[] edge : edges) {
            due("9 read " + edge[0], y.read(1, edge[0]), edge[1]);
        }
    }

    /** '257 less their number' */
    private static void runsOfWholeBlocks() {
        for (int b = 8; b <= 32; b *= 2) {
            TreeImages x = new TreeImages();
            x.file(0, 1);
            x.data(1, 255, b);
            x.build(b);
            int[] m = bytesOf(x, 0);
            dueBytes("9 a run of " + b, part(m, 18, word(m, 6) - 18), 257 - b, 255);
            dueBytes("9 its SIZE", part(m, row(m, 2) + 12, 2), words(2));
        }
    }

    /** 'of a TAIL BLOCK less, perhaps' */
    private static void tailBlocksOfFewBytes() {
        stored("9 a tail of one", row(9), 32769, 9);
        stored("9 a tail of two", row(9, 9), 32770, 9, 9);
        stored("9 a tail of three alike", row(9, 9, 9), 2, 254, 9);
        stored("9 a tail of three", row(9, 9, 8), 32771, 9, 9, 8);
        stored("9 a tail of four, as long packed", row(9, 9, 9, 8), 32772, 9, 9, 9, 8);
        stored("9 a tail of seven", row(9, 9, 9, 9, 9, 9, 9), 2, 250, 9);
        stored("9 a tail of seven, packed one shorter", row(1, 2, 3, 9, 9, 9, 9), 6, 2, 1, 2, 3, 253, 9);
    }

    /** 'of FILES by their NUMBERS the blocks of B bytes that they have'; 'what is left of FILES behind their blocks of B' */
    private static void filesRoundABlock() {
        for (int b = 8; b <= 32; b *= 2) {
            int[] sizes = {0, 1, b - 1, b, b + 1, 2 * b - 1, 2 * b, 2 * b + 1, 100};
            for (int size : sizes) {
                TreeImages x = new TreeImages();
                x.file(0, 1);
                for (int i = 0; i < size; i++) {
                    x.data(1, 1 + i, 1);
                }
                x.build(b);
                String what = "9 a file of " + size + " by " + b;
                int left = size % b;
                int[] m = bytesOf(x, 0);
                int row = row(m, 2);
                due(what + ": bytes", word(m, row + 6), size);
                due(what + ": place", word(m, row + 8), size < b ? 0 : 18);
                due(what + ": TAIL BLOCK", m[row + 10], left == 0 ? 0 : 1);
                due(what + ": place in it", m[row + 11], 0);
                due(what + ": row", word(m, 8) - row, 12 + 2 * (size / b));
                due(what + ": TAIL BLOCKS", x.image(0, 3), left == 0 ? 0 : 1);
                due(what + ": L", left == 0 ? 0 : m[word(m, 10) + 4], left);
                due(what + ": DATA", x.image(0, 4), size);
                x.over(0);
                x.look(0, 1);
                for (int i = 0; i < size; i++) {
                    due(what + ": read " + i, x.read(1, i), 1 + i);
                }
                due(what + ": beyond", x.read(1, size), OUTSIDE);
            }
        }
    }

    private static TreeImages files(int b, int... sizes) {
        TreeImages x = new TreeImages();
        for (int i = 0; i < sizes.length; i++) {
            x.file(0, i + 1);
            if (sizes[i] > 0) {
                x.data(i + 1, i + 1, sizes[i]);
            }
        }
        x.build(b);
        return x;
    }

    /** TAIL BLOCK and place of each file, and the L of each TAIL BLOCK. */
    private static void tails(String what, int b, int[] sizes, int[] blocks, int[] places, int... lengths) {
        TreeImages x = files(b, sizes);
        int[] m = bytesOf(x, 0);
        due(what + ": TAIL BLOCKS", x.image(0, 3), lengths.length);
        for (int i = 0; i < sizes.length; i++) {
            due(what + ": TAIL BLOCK of " + i, m[row(m, i + 2) + 10], blocks[i]);
            due(what + ": place of " + i, m[row(m, i + 2) + 11], places[i]);
        }
        for (int t = 0; t < lengths.length; t++) {
            due(what + ": L of " + t, m[word(m, 10) + 5 * t + 4], lengths[t]);
        }
    }

    /** 'joined: a tail that does not fit behind those in a TAIL BLOCK of B bytes begins the next one' */
    private static void tailsThatFitAndDoNot() {
        tails("9 just full", 8, row(5, 3), row(1, 1), row(0, 5), 8);
        tails("9 one too many", 8, row(5, 4), row(1, 2), row(0, 0), 5, 4);
        tails("9 behind a full one", 8, row(5, 3, 1), row(1, 1, 2), row(0, 5, 0), 8, 1);
        tails("9 no way back", 8, row(5, 4, 3), row(1, 2, 2), row(0, 0, 4), 5, 7);
        tails("9 no tail between", 8, row(5, 8, 0, 16, 3), row(1, 0, 0, 0, 1), row(0, 0, 0, 0, 5), 8);
        tails("9 a block and a tail", 8, row(13, 11, 9), row(1, 1, 2), row(0, 5, 0), 8, 1);
        tails("9 seven each", 8, row(7, 7, 7), row(1, 2, 3), row(0, 0, 0), 7, 7, 7);
        tails("9 one each", 8, row(1, 1, 1, 1, 1, 1, 1, 1, 1), row(1, 1, 1, 1, 1, 1, 1, 1, 2),
                row(0, 1, 2, 3, 4, 5, 6, 7, 0), 8, 1);
        tails("9 by 16, just full", 16, row(15, 1, 1), row(1, 1, 2), row(0, 15, 0), 16, 1);
        tails("9 by 32, just full", 32, row(31, 1, 31, 2), row(1, 1, 2, 3), row(0, 31, 0, 0), 32, 31, 2);
        // as many TAIL BLOCKS as FILES, and a joined one is packed as one block
        TreeImages x = new TreeImages();
        for (int n = 1; n <= 31; n++) {
            x.file(0, n);
            x.data(n, n, 7);
        }
        x.build(8);
        due("9 31 TAIL BLOCKS", x.image(0, 3), 31);
        due("9 31 TAIL BLOCKS' DATA", x.image(0, 4), 62);
        due("9 the last TAIL BLOCK's number", x.out(0, 62 + 18 + 12 + 30 * 12 + 10), 31);
        TreeImages y = new TreeImages();
        y.file(0, 1);
        y.data(1, 9, 5);
        y.file(0, 2);
        y.data(2, 9, 3);
        y.build(8);
        int[] m = bytesOf(y, 0);
        dueBytes("9 joined, then packed", part(m, 18, word(m, 6) - 18), 249, 9);
    }

    /** A TAIL BLOCK of zeros: 'if all are 0, nothing, its SIZE is 0' */
    private static void tailsOfZeros() {
        TreeImages x = new TreeImages();
        x.file(0, 1);
        x.data(1, 0, 8 + 5);
        x.file(0, 2);
        x.data(2, 0, 3);
        x.file(0, 3);
        x.data(3, 1, 1);
        x.build(8);
        int[] m = bytesOf(x, 0);
        due("9 zeros: DATA", x.image(0, 4), 1);
        dueBytes("9 zeros: TAILS", part(m, word(m, 10), 10), 0, 18, 0, 0, 8, 0, 18, 128, 1, 1);
        dueBytes("9 zeros: a hole's place", part(m, row(m, 2) + 6, 8), 0, 13, 0, 18, 1, 0, 0, 0);
        x.over(0);
        due("9 zeros: read", x.read(x.look(0, 1), 12), 0);
        due("9 zeros: read of the second", x.read(x.look(0, 2), 2), 0);
        due("9 zeros: read of the third", x.read(x.look(0, 3), 0), 1);
    }

    /** 'those of one that has the same bytes (not none) as one of a lesser NUMBER are not there again' */
    private static void doubledFiles() {
        TreeImages x = new TreeImages();
        x.folder(0, 9);
        int[] folders = {0, 0, 1, 1};
        for (int i = 0; i < 4; i++) {
            x.file(folders[i], i + 1);
            x.data(i + 2, 5, 16);
        }
        x.build(8);
        int[] m = bytesOf(x, 0);
        dueBytes("9 four times, once there", part(m, 18, word(m, 6) - 18), 249, 5, 249, 5);
        int[] numbers = {2, 3, 5, 6};
        for (int number : numbers) {
            dueBytes("9 told as of the first, " + number, part(m, row(m, number) + 6, 10), words(16, 18, 0, 2, 2));
        }
        x.over(0);
        int folder = x.look(0, 9);
        due("9 two FILES nonetheless", x.look(0, 1), 2);
        due("9 two VIEWS nonetheless", x.look(0, 2), 3);
        due("9 read of the last", x.read(x.look(folder, 4), 15), 5);
        // holes alone, doubled
        TreeImages y = new TreeImages();
        y.file(0, 1);
        y.data(1, 1, 8);
        y.file(0, 2);
        y.data(2, 0, 8);
        y.file(0, 3);
        y.data(3, 2, 8);
        y.file(0, 4);
        y.data(4, 0, 8);
        y.build(8);
        m = bytesOf(y, 0);
        due("9 holes doubled: the first's place", word(m, row(m, 3) + 8), 20);
        due("9 holes doubled: the second's place", word(m, row(m, 5) + 8), 20);
        // beside a full file
        TreeImages full = files(8, 100);
        for (int n = 2; n <= 3; n++) {
            full.file(0, n);
            full.data(n, 5, 8);
        }
        full.build(8);
        due("9 doubled beside a full one", full.image(1, 4) - full.image(0, 4), 2);
        // one byte each
        TreeImages one = files(8, 1);
        one.file(0, 2);
        one.data(2, 1, 1);
        one.build(8);
        due("9 one byte, doubled", one.image(1, 4), 1);
        m = bytesOf(one, 1);
        dueBytes("9 one byte, told twice", part(m, row(m, 3) + 6, 6), 0, 1, 0, 0, 1, 0);
        // empty ones have nothing to share
        TreeImages z = new TreeImages();
        z.file(0, 1);
        z.file(0, 2);
        z.build(8);
        m = bytesOf(z, 0);
        dueBytes("9 empty, first", part(m, row(m, 2) + 6, 6), 0, 0, 0, 0, 0, 0);
        dueBytes("9 empty, second", part(m, row(m, 3) + 6, 6), 0, 0, 0, 0, 0, 0);
        due("9 empty: no TAIL BLOCK", z.image(0, 3), 0);
    }

    /** '(nor is its tail: all is told as of that one)' */
    private static void doubledTails() {
        TreeImages x = new TreeImages();
        int[] bytes = {1, 2, 1, 3, 2};
        for (int i = 0; i < bytes.length; i++) {
            x.file(0, i + 1);
            x.data(i + 1, bytes[i], 3);
        }
        x.build(8);
        int[] m = bytesOf(x, 0);
        due("9 tails once: TAIL BLOCKS", x.image(0, 3), 2);
        dueBytes("9 tails once: DATA", part(m, 18, word(m, 6) - 18), 254, 1, 254, 2, 254, 3);
        int[][] due = {{1, 0}, {1, 3}, {1, 0}, {2, 0}, {1, 3}};
        for (int i = 0; i < due.length; i++) {
            dueBytes("9 tails once: of " + i, part(m, row(m, i + 2) + 10, 2), due[i]);
        }
    }

    /** Only 'the same bytes' are doubled: neither the first ones, nor as many, nor the tail alone. */
    private static void almostDoubledFiles() {
        TreeImages x = new TreeImages();
        int[][] files = {{5, 8, 6, 1}, {5, 8, 7, 1}, {5, 8}, {4, 1, 5, 7, 6, 1}, {5, 8, 6, 2}};
        for (int i = 0; i < files.length; i++) {
            x.file(0, i + 1);
            for (int k = 0; k < files[i].length; k += 2) {
                x.data(i + 1, files[i][k], files[i][k + 1]);
            }
        }
        x.build(8);
        int[] m = bytesOf(x, 0);
        dueBytes("9 almost: DATA", part(m, 18, word(m, 6) - 18),
                249, 5, 249, 5, 249, 5, 0, 4, 250, 5, 249, 5, 6, 7, 6, 6, 6);
        int[] places = {18, 20, 22, 24, 28};
        for (int i = 0; i < places.length; i++) {
            due("9 almost: place of " + i, word(m, row(m, i + 2) + 8), places[i]);
        }
        int[] starts = {0, 1, 0, 2, 3};
        for (int i = 0; i < starts.length; i++) {
            due("9 almost: tail of " + i, m[row(m, i + 2) + 11], starts[i]);
        }
        // zeros behind are bytes too, on either side
        for (int longer = 0; longer < 2; longer++) {
            TreeImages y = new TreeImages();
            y.file(0, 1);
            y.data(1, 5, 8);
            y.file(0, 2);
            y.data(2, 5, 8);
            y.data(1 + longer, 0, 8);
            y.build(8);
            due("9 almost: with zeros behind", y.image(0, 4), 4);
            m = bytesOf(y, 0);
            due("9 almost: the second's place", word(m, row(m, 3) + 8), 20);
        }
    }

    /** 'HEAD, 18: 84, 73, B, 0, words: ..' of the least tree: parts that are empty begin where the next one does. */
    private static void headOfTheBareTree() {
        for (int b = 8; b <= 32; b *= 2) {
            TreeImages x = new TreeImages();
            x.build(b);
            dueBytes("9 bare by " + b, bytesOf(x, 0),
                    imageOf(b, row(), joined(row(1, 0, 0, 0, 0, 1), words(0, 0, 1)), row(), row(), 0));
            due("9 bare: LENGTH", x.image(0, 0), 32);
            due("9 bare: NUMBERS", x.image(0, 2), 1);
            due("9 bare: TAIL BLOCKS", x.image(0, 3), 0);
            due("9 bare: DATA", x.image(0, 4), 0);
        }
    }

    /** 'SUM: all bytes but these two, each times its place and 1, added, mod 65521' */
    private static void sumWrapsAround() {
        // the OWNER of NUMBER 1 stands at 21 and 22: its bytes count 22 and 23 times
        int bare = 2069;
        int[] owners = {0, 255, 65280, 65535};
        for (int owner : owners) {
            TreeImages x = new TreeImages();
            x.owner(0, owner, 0);
            x.build(8);
            due("9 SUM with OWNER " + owner, x.out(0, 16) * 256 + x.out(0, 17), bare + owner / 256 * 22 + owner % 256 * 23);
        }
        // a file of 100 bytes 255 as they are: far above 65521
        TreeImages x = new TreeImages();
        x.file(0, 1);
        for (int i = 0; i < 50; i++) {
            x.data(1, 255, 1);
            x.data(1, 254, 1);
        }
        x.build(8);
        int[] m = bytesOf(x, 0);
        long sum = 0;
        for (int i = 0; i < m.length; i++) {
            sum += i / 2 == 8 ? 0 : (long) m[i] * (i + 1);
        }
        due("9 above the modulus", sum > 65521 ? 1 : 0, 1);
        due("9 SUM", word(m, 16), (int) (sum % 65521));
        // sums of 65520, 65521 and 65522
        for (int wanted = 65520; wanted <= 65522; wanted++) {
            TreeImages y = withSum(wanted);
            due("9 SUM of " + wanted, y.out(0, 16) * 256 + y.out(0, 17), wanted % 65521);
        }
    }

    /** A tree of hiders whose image's bytes come to just this sum: the words of their OWNERS and MODES are chosen so. */
    private static TreeImages withSum(int wanted) {
        TreeImages x = new TreeImages();
        for (int n = 1; n <= 3; n++) {
            x.hide(0, n);
        }
        x.build(8);
        int[] m = bytesOf(x, 0);
        int left = wanted;
        for (int i = 0; i < m.length; i++) {
            left -= i / 2 == 8 ? 0 : m[i] * (i + 1);
        }
        x.drop();
        // the greater factors take the most; OWNER's bytes of NUMBER 1, 22 and 23 times, what is left
        for (int node = 3; node >= 1; node--) {
            int high = Math.min(255, (left - 2000) / (row(m, node + 1) + 4));
            left -= high * (row(m, node + 1) + 4);
            int low = Math.min(255, (left - 2000) / (row(m, node + 1) + 5));
            left -= low * (row(m, node + 1) + 5);
            int mode = Math.min(255, (left - 2000) / (row(m, node + 1) + 3));
            left -= mode * (row(m, node + 1) + 3);
            x.owner(node, high * 256 + low, mode);
        }
        for (int high = 0; high < 23; high++) {
            if ((left - 22 * high) % 23 == 0) {
                due("9 the last OWNER", x.owner(0, high * 256 + (left - 22 * high) / 23, 0), 1);
            }
        }
        x.build(8);
        return x;
    }

    /** 'INODES, by NUMBERS: 1 (a folder), 2 (a FILE), 3 (a HIDER); ..', 'EXPORTS: .. (from 0 on)' */
    private static void rowsOfAllKinds() {
        TreeImages x = new TreeImages();
        x.folder(0, 1);
        x.file(0, 2);
        x.hide(0, 3);
        x.folder(1, 999);
        x.link(4, 1, 2);
        x.owner(0, 1, 2);
        x.owner(3, 65535, 256);
        x.build(8);
        dueBytes("9 all kinds", bytesOf(x, 0), imageOf(8, row(),
                joined(row(1, 0, 2, 0, 1, 1), words(0, 3, 1),
                        row(1, 0, 0, 0, 0, 1), words(12, 1, 1),
                        row(2, 0, 0, 0, 0, 2), words(0, 0), row(0, 0),
                        row(3, 1, 0, 255, 255, 1),
                        row(1, 0, 0, 0, 0, 1), words(16, 1, 2)),
                words(1, 2, 2, 3, 3, 4, 999, 5, 1, 3), row(), 0, 12, 24, 36, 42));
    }

    /** 'at which byte of FOLDERS (from 0 on) its names begin, how many they are' also of folders that have none */
    private static void foldersByNames() {
        TreeImages x = new TreeImages();
        x.folder(0, 3);
        x.folder(0, 2);
        x.folder(0, 1);
        x.folder(1, 1);
        x.build(8);
        dueBytes("9 empty folders", bytesOf(x, 0), imageOf(8, row(),
                joined(row(1, 0, 0, 0, 0, 1), words(0, 3, 1),
                        row(1, 0, 0, 0, 0, 1), words(12, 0, 1),
                        row(1, 0, 0, 0, 0, 1), words(12, 0, 1),
                        row(1, 0, 0, 0, 0, 1), words(12, 1, 1),
                        row(1, 0, 0, 0, 0, 1), words(16, 0, 4)),
                words(1, 2, 2, 3, 3, 4, 1, 5), row(), 0, 12, 24, 36, 48));
    }

    /** 'the same one for the same tree', by whatever calls it grew */
    private static void sameTreeSameBytes() {
        TreeImages x = new TreeImages();
        x.file(0, 1);
        x.data(1, 4, 10);
        x.folder(0, 2);
        x.link(2, 3, 1);
        x.link(0, 5, 1);
        x.build(8);
        x.clear();
        x.folder(0, 2);
        x.file(1, 3);
        x.link(0, 5, 2);
        x.link(0, 1, 2);
        x.data(2, 4, 1);
        x.data(2, 4, 9);
        x.owner(2, 1, 1);
        x.owner(2, 0, 0);
        x.build(8);
        due("9 grown otherwise", x.same(0, 1), 1);
        x.data(2, 4, 1);
        x.build(8);
        due("9 a byte more", x.same(0, 2), 0);
    }

    /** A tree with all NODES, and a name of 999, by each B; within the 512 calls. */
    private static void fullTree() {
        for (int b = 8; b <= 32; b *= 2) {
            TreeImages x = made(BuildEdgesTest::growFull);
            due("9 full by " + b, x.build(b), 0);
            due("9 full: NUMBERS", x.image(0, 2), 32);
            due("9 full: names", x.node(0, 1, 4), 31);
            x.over(0);
            for (int n = 1; n <= 31; n++) {
                due("9 full: look", x.look(0, 968 + n), n);
                due("9 full: first byte", x.read(n, 0), n);
                due("9 full: last byte", x.read(n, 99), n);
            }
            due("9 full: comes again", comes(bytesOfFull(b)), 0);
        }
    }

    private static void growFull(TreeImages x) {
        for (int n = 1; n <= 31; n++) {
            x.file(0, 968 + n);
            x.data(n, n, 100);
        }
    }

    /** Its bytes, by several objects: one has not calls enough for all. */
    private static int[] bytesOfFull(int b) {
        int[] bytes = {};
        for (int from = 0; from == 0 || from < word(bytes, 14); from += 400) {
            TreeImages x = made(BuildEdgesTest::growFull);
            x.build(b);
            int[] some = new int[Math.min(400, x.image(0, 0) - from)];
            for (int i = 0; i < some.length; i++) {
                some[i] = x.out(0, from + i);
            }
            bytes = joined(bytes, some);
        }
        return bytes;
    }

    /** 'the same one for the same tree': whatever tree, and whatever image, was there before */
    private static void nothingIsLeftOfTheTreeBefore() {
        TreeImages x = new TreeImages();
        for (int n = 1; n <= 3; n++) {
            x.file(0, n);
            x.data(n, 10 + n, 99 - n);
            x.owner(n, n, n);
            x.link(0, 10 + n, n);
        }
        x.build(8);
        x.build(32);
        x.clear();
        grow(x);
        x.drop();
        x.build(8);
        TreeImages y = new TreeImages();
        grow(y);
        y.build(8);
        dueBytes("9 as on a new object", bytesOf(x, 1), bytesOf(y, 0));
        int[] m = bytesOf(x, 1);
        dueBytes("9 doubled, whatever was behind their bytes", part(m, row(m, 3) + 6, 8), words(8, 18, 0, 2));
        // tails that are tails no more
        TreeImages z = files(8, 5, 2, 13);
        z.data(1, 1, 3);
        z.data(2, 2, 6);
        z.data(3, 3, 3);
        z.build(8);
        m = bytesOf(z, 1);
        due("9 no TAIL BLOCK", z.image(1, 3), 0);
        for (int number = 2; number <= 4; number++) {
            due("9 no tail of " + number, word(m, row(m, number) + 10), 0);
        }
    }

    private static void grow(TreeImages x) {
        for (int n = 1; n <= 2; n++) {
            x.file(0, n);
            x.data(n, 5, 8);
        }
        x.hide(0, 3);
        x.folder(0, 4);
    }

    /** 'The tree becomes an image': and is there still. */
    private static void buildLeavesTheTree() {
        TreeImages x = new TreeImages();
        x.file(0, 1);
        x.data(1, 6, 20);
        x.build(8);
        due("9 NODES stay", x.count(0), 2);
        x.build(8);
        due("9 once more the same", x.same(0, 1), 1);
        x.data(1, 6, 1);
        x.owner(1, 1, 1);
        x.link(0, 2, 1);
        due("9 the image does not grow with the tree: bytes", x.node(0, 2, 4), 20);
        due("9 the image does not grow with the tree: OWNER", x.node(0, 2, 2), 0);
        due("9 the image does not grow with the tree: names", x.node(0, 1, 4), 1);
        due("9 both are as before", x.same(0, 1), 1);
    }
}
