import java.util.Arrays;

/** Images of trees: trees are built into rows of bytes, rows that come are judged, and images are laid over each other. */
public final class TreeImages {
    public static final int NONE = 0, UNKNOWN = -1, OUTSIDE = -2, STATE = -3, ROOM = -4;

    private static final int FOLDER = 1, FILE = 2, HIDER = 3;
    private static final int MOST_NODES = 32, MOST_FILE_BYTES = 100, MOST_FILE_NAMES = 9;
    private static final int MOST_IMAGES = 3, MOST_VIEWS = 60, MOST_TAPE_BYTES = 4000;
    private static final int HIGHEST_NAME = 999, HIGHEST_WORD = 65535, HIGHEST_BYTE = 255;
    private static final int MOST_NAMES = (MOST_NODES - 1) * MOST_FILE_NAMES;
    private static final int SMALLEST_BLOCK = 8, MIDDLE_BLOCK = 16, LARGEST_BLOCK = 32;
    private static final int MOST_FILE_BLOCKS = MOST_FILE_BYTES / SMALLEST_BLOCK;

    private static final int HEAD_BYTES = 18, HIDER_BYTES = 6, ROW_BYTES = 12, NAME_BYTES = 4, TAIL_BYTES = 5;
    private static final int NUMBERS_PLACE = 4, INODES_PLACE = 6, FOLDERS_PLACE = 8, TAILS_PLACE = 10;
    private static final int EXPORTS_PLACE = 12, LENGTH_PLACE = 14, SUM_PLACE = 16;
    private static final int FIRST_MARK = 84, SECOND_MARK = 73, SUM_MODULUS = 65521;
    private static final int AS_IT_IS = 32768, RUN_BASE = 257, NO_PACKET = 128, LEAST_RUN = 3;
    private static final int FAULT_BASE = -10;

    /** The longest image that a tree can become: every node a file of single bytes with all its names and a tail block of its own. */
    private static final int MOST_IMAGE_BYTES = HEAD_BYTES + ROW_BYTES + 2 * MOST_NODES
            + (MOST_NODES - 1) * (MOST_FILE_BYTES + ROW_BYTES + 2 * MOST_FILE_BLOCKS + TAIL_BYTES)
            + MOST_NAMES * NAME_BYTES;

    /** The most NUMBERS whose shortest rows and EXPORTS find room on the tape. */
    private static final int MOST_TAPE_NUMBERS = (MOST_TAPE_BYTES - HEAD_BYTES) / (HIDER_BYTES + 2);

    private final Tree tree;
    private final Image[] images;
    private final Image tape;
    private final Builder builder;
    private final Judge judge;
    private final Layers layers;
    private int imageCount;

    public TreeImages() {
        tree = new Tree();
        images = new Image[MOST_IMAGES];
        for (int i = 0; i < MOST_IMAGES; i++) {
            images[i] = new Image(MOST_IMAGE_BYTES);
        }
        tape = new Image(MOST_TAPE_BYTES);
        builder = new Builder();
        judge = new Judge();
        layers = new Layers();
    }

    public int folder(int folder, int name) {
        return addBelow(folder, name, FOLDER);
    }

    public int file(int folder, int name) {
        return addBelow(folder, name, FILE);
    }

    public int hide(int folder, int name) {
        return addBelow(folder, name, HIDER);
    }

    public int link(int folder, int name, int file) {
        if (!tree.hasNode(folder) || !tree.hasNode(file)) {
            return UNKNOWN;
        }
        if (!isName(name)) {
            return OUTSIDE;
        }
        if (!tree.takesName(folder, name) || tree.kinds[file] != FILE) {
            return STATE;
        }
        if (tree.names[file] >= MOST_FILE_NAMES) {
            return ROOM;
        }
        return tree.addName(folder, name, file);
    }

    public int data(int file, int b, int times) {
        if (!tree.hasNode(file)) {
            return UNKNOWN;
        }
        if (b < 0 || b > HIGHEST_BYTE || times < 1 || times > MOST_FILE_BYTES) {
            return OUTSIDE;
        }
        if (tree.kinds[file] != FILE) {
            return STATE;
        }
        if (tree.sizes[file] + times > MOST_FILE_BYTES) {
            return ROOM;
        }
        return tree.append(file, b, times);
    }

    public int owner(int node, int owner, int mode) {
        if (!tree.hasNode(node)) {
            return UNKNOWN;
        }
        if (!isWord(owner) || !isWord(mode)) {
            return OUTSIDE;
        }
        tree.owners[node] = owner;
        tree.modes[node] = mode;
        return 1;
    }

    public int clear() {
        int had = tree.nodeCount;
        tree.reset();
        return had;
    }

    public int build(int b) {
        if (!isBlock(b)) {
            return OUTSIDE;
        }
        if (imageCount >= MOST_IMAGES) {
            return ROOM;
        }
        builder.become(tree, b, images[imageCount]);
        imageCount++;
        return imageCount - 1;
    }

    public int feed(int a, int b, int c, int d, int e) {
        if (tape.length + 20 > MOST_TAPE_BYTES) {
            return ROOM;
        }
        tape.putInt(a);
        tape.putInt(b);
        tape.putInt(c);
        tape.putInt(d);
        tape.putInt(e);
        return tape.length;
    }

    public int end(int n) {
        if (n < 0 || n > tape.length) {
            return OUTSIDE;
        }
        tape.length = n;
        return n;
    }

    public int load() {
        if (imageCount >= MOST_IMAGES) {
            return ROOM;
        }
        int fault = judge.firstFault(tape);
        if (fault == 0) {
            images[imageCount].copyFrom(tape);
            imageCount++;
        }
        tape.length = 0;
        return fault == 0 ? imageCount - 1 : FAULT_BASE - fault;
    }

    public int drop() {
        if (imageCount == 0 || layers.isLaid(imageCount - 1)) {
            return STATE;
        }
        imageCount--;
        return imageCount;
    }

    public int out(int image, int i) throws ArrayIndexOutOfBoundsException {
        if (!hasImage(image)) {
            return UNKNOWN;
        }
        if (i < 0 || i >= images[image].length) {
            throw new ArrayIndexOutOfBoundsException();
        }
        return images[image].byteAt(i);
    }

    public int image(int image, int what) {
        if (!hasImage(image)) {
            return UNKNOWN;
        }
        Image told = images[image];
        switch (what) {
            case 0:
                return told.length;
            case 1:
                return told.blockBytes;
            case 2:
                return told.numbers;
            case 3:
                return told.tailBlocks();
            case 4:
                return told.inodesAt - HEAD_BYTES;
            default:
                return OUTSIDE;
        }
    }

    public int same(int image, int other) {
        if (!hasImage(image) || !hasImage(other)) {
            return UNKNOWN;
        }
        return images[image].hasBytesOf(images[other]) ? 1 : 0;
    }

    public int node(int image, int number, int what) {
        if (!hasImage(image)) {
            return UNKNOWN;
        }
        Image told = images[image];
        if (!told.hasNumber(number)) {
            return OUTSIDE;
        }
        switch (what) {
            case 0:
                return told.kindOf(number);
            case 1:
                return told.modeOf(number);
            case 2:
                return told.ownerOf(number);
            case 3:
                return told.namesOf(number);
            case 4:
                return told.sizeOf(number);
            default:
                return OUTSIDE;
        }
    }

    public int over(int image) {
        if (!hasImage(image)) {
            return UNKNOWN;
        }
        if (layers.isLaid(image)) {
            return STATE;
        }
        return layers.lay(image, images[image]);
    }

    public int bare() {
        return layers.takeAway();
    }

    public int look(int view, int name) {
        if (!layers.hasView(view)) {
            return UNKNOWN;
        }
        if (!isName(name)) {
            return OUTSIDE;
        }
        if (layers.kindOf(view) != FOLDER) {
            return STATE;
        }
        return layers.lead(view, name);
    }

    public int list(int view, int i) {
        if (!layers.hasView(view)) {
            return UNKNOWN;
        }
        if (i < 0) {
            return OUTSIDE;
        }
        if (layers.kindOf(view) != FOLDER) {
            return STATE;
        }
        return layers.nameBelow(view, i);
    }

    public int view(int view, int what) {
        if (!layers.hasView(view)) {
            return UNKNOWN;
        }
        switch (what) {
            case 0:
                return layers.kindOf(view);
            case 1:
                return layers.imageOf(view);
            case 2:
                return layers.numberOf(view);
            case 3:
                return layers.sizeOf(view);
            case 4:
                return layers.modeOf(view);
            case 5:
                return layers.ownerOf(view);
            case 6:
                return layers.depthOf(view);
            default:
                return OUTSIDE;
        }
    }

    public int read(int view, int i) {
        if (!layers.hasView(view)) {
            return UNKNOWN;
        }
        if (i < 0) {
            return OUTSIDE;
        }
        if (layers.kindOf(view) != FILE) {
            return STATE;
        }
        if (i >= layers.sizeOf(view)) {
            return OUTSIDE;
        }
        return layers.byteOf(view, i);
    }

    public int count(int what) {
        switch (what) {
            case 0:
                return tree.nodeCount;
            case 1:
                return imageCount;
            case 2:
                return layers.laidCount;
            case 3:
                return layers.viewCount;
            case 4:
                return tape.length;
            default:
                return OUTSIDE;
        }
    }

    private int addBelow(int folder, int name, int kind) {
        if (!tree.hasNode(folder)) {
            return UNKNOWN;
        }
        if (!isName(name)) {
            return OUTSIDE;
        }
        if (!tree.takesName(folder, name)) {
            return STATE;
        }
        if (tree.nodeCount >= MOST_NODES) {
            return ROOM;
        }
        return tree.addNode(folder, name, kind);
    }

    private boolean hasImage(int image) {
        return image >= 0 && image < imageCount;
    }

    private static boolean isName(int name) {
        return name >= 1 && name <= HIGHEST_NAME;
    }

    private static boolean isWord(int word) {
        return word >= 0 && word <= HIGHEST_WORD;
    }

    private static boolean isBlock(int b) {
        return b == SMALLEST_BLOCK || b == MIDDLE_BLOCK || b == LARGEST_BLOCK;
    }

    /** The tree that grows by calls. */
    private static final class Tree {
        /** Folder times this, and the name: so all names of a folder stand side by side, in order. */
        private static final int KEY_STEP = HIGHEST_NAME + 1;

        final int[] kinds = new int[MOST_NODES];
        final int[] owners = new int[MOST_NODES];
        final int[] modes = new int[MOST_NODES];
        final int[] names = new int[MOST_NODES];
        final int[] homes = new int[MOST_NODES];
        final int[] sizes = new int[MOST_NODES];
        final int[] bytes = new int[MOST_NODES * MOST_FILE_BYTES];
        final int[] keys = new int[MOST_NAMES];
        final int[] targets = new int[MOST_NAMES];
        int nodeCount;
        int nameCount;

        Tree() {
            reset();
        }

        void reset() {
            nameCount = 0;
            nodeCount = 0;
            startNode(0, FOLDER);
        }

        boolean hasNode(int node) {
            return node >= 0 && node < nodeCount;
        }

        boolean takesName(int folder, int name) {
            if (kinds[folder] != FOLDER) {
                return false;
            }
            int key = folder * KEY_STEP + name;
            int at = firstFrom(key);
            return at >= nameCount || keys[at] != key;
        }

        int addNode(int folder, int name, int kind) {
            int node = nodeCount;
            startNode(folder, kind);
            addName(folder, name, node);
            return node;
        }

        /** How many names the node has then. */
        int addName(int folder, int name, int node) {
            if (nameCount < MOST_NAMES) {
                int key = folder * KEY_STEP + name;
                int at = firstFrom(key);
                for (int i = nameCount; i > at; i--) {
                    keys[i] = keys[i - 1];
                    targets[i] = targets[i - 1];
                }
                keys[at] = key;
                targets[at] = node;
                nameCount++;
                names[node]++;
            }
            return names[node];
        }

        int append(int file, int b, int times) {
            int from = file * MOST_FILE_BYTES + sizes[file];
            Arrays.fill(bytes, from, from + times, b);
            sizes[file] += times;
            return sizes[file];
        }

        /** Where the names of a folder begin, or those of the next one that has some. */
        int firstNameOf(int folder) {
            return firstFrom(folder * KEY_STEP);
        }

        int nameAt(int at) {
            return keys[at] % KEY_STEP;
        }

        boolean haveSameBytes(int file, int other) {
            if (sizes[file] != sizes[other]) {
                return false;
            }
            for (int i = 0; i < sizes[file]; i++) {
                if (bytes[file * MOST_FILE_BYTES + i] != bytes[other * MOST_FILE_BYTES + i]) {
                    return false;
                }
            }
            return true;
        }

        private int firstFrom(int key) {
            for (int i = 0; i < nameCount; i++) {
                if (keys[i] >= key) {
                    return i;
                }
            }
            return nameCount;
        }

        private void startNode(int home, int kind) {
            int node = nodeCount;
            kinds[node] = kind;
            homes[node] = home;
            owners[node] = 0;
            modes[node] = 0;
            sizes[node] = 0;
            names[node] = 0;
            nodeCount++;
        }
    }

    /** A row of bytes and what it tells; beyond its end it reads as zeros, so that bytes not yet judged do no harm. */
    private static final class Image {
        final int[] bytes;
        int length;
        int blockBytes;
        int numbers;
        int inodesAt;
        int foldersAt;
        int tailsAt;
        int exportsAt;

        Image(int room) {
            bytes = new int[room];
        }

        int byteAt(int place) {
            return place < 0 || place >= length ? 0 : bytes[place];
        }

        int wordAt(int place) {
            return place < 0 || place >= length - 1 ? 0 : bytes[place] * 256 + bytes[place + 1];
        }

        void putByte(int b) {
            if (length < bytes.length) {
                bytes[length] = b & HIGHEST_BYTE;
                length++;
            }
        }

        void putWord(int word) {
            putByte(word >> 8);
            putByte(word);
        }

        void putInt(int number) {
            putWord(number >> 16);
            putWord(number);
        }

        void setWord(int place, int word) {
            if (place >= 0 && place + 1 < length) {
                bytes[place] = word >> 8 & HIGHEST_BYTE;
                bytes[place + 1] = word & HIGHEST_BYTE;
            }
        }

        void copyFrom(Image other) {
            length = Math.min(other.length, bytes.length);
            System.arraycopy(other.bytes, 0, bytes, 0, length);
            readHead();
        }

        boolean hasBytesOf(Image other) {
            if (length != other.length) {
                return false;
            }
            for (int i = 0; i < length; i++) {
                if (bytes[i] != other.bytes[i]) {
                    return false;
                }
            }
            return true;
        }

        void readHead() {
            blockBytes = byteAt(2);
            numbers = wordAt(NUMBERS_PLACE);
            inodesAt = wordAt(INODES_PLACE);
            foldersAt = wordAt(FOLDERS_PLACE);
            tailsAt = wordAt(TAILS_PLACE);
            exportsAt = wordAt(EXPORTS_PLACE);
        }

        int sum() {
            long sum = 0;
            for (int i = 0; i < length; i++) {
                if (i < SUM_PLACE || i >= HEAD_BYTES) {
                    sum += (long) bytes[i] * (i + 1);
                }
            }
            return (int) (sum % SUM_MODULUS);
        }

        boolean hasNumber(int number) {
            return number >= 1 && number <= numbers;
        }

        int rowOf(int number) {
            return inodesAt + wordAt(exportsAt + 2 * (number - 1));
        }

        int kindOf(int number) {
            return byteAt(rowOf(number));
        }

        int modeOf(int number) {
            return wordAt(rowOf(number) + 1);
        }

        int ownerOf(int number) {
            return wordAt(rowOf(number) + 3);
        }

        int namesOf(int number) {
            return byteAt(rowOf(number) + 5);
        }

        /** Bytes of a FILE, names in a folder. */
        int sizeOf(int number) {
            int row = rowOf(number);
            int kind = byteAt(row);
            return kind == FILE ? wordAt(row + 6) : kind == FOLDER ? wordAt(row + 8) : 0;
        }

        int firstNamePlace(int folder) {
            return foldersAt + wordAt(rowOf(folder) + 6);
        }

        int homeOf(int folder) {
            return wordAt(rowOf(folder) + 10);
        }

        /** The NUMBER that a name has in a folder, or 0. */
        int targetOf(int folder, int name) {
            int first = firstNamePlace(folder);
            int many = sizeOf(folder);
            for (int i = 0; i < many; i++) {
                int place = first + NAME_BYTES * i;
                if (wordAt(place) == name) {
                    return wordAt(place + 2);
                }
            }
            return 0;
        }

        int tailBlocks() {
            return (exportsAt - tailsAt) / TAIL_BYTES;
        }

        int tailRow(int tailBlock) {
            return tailsAt + TAIL_BYTES * tailBlock;
        }

        int wholeBlocks(int size) {
            return blockBytes < 1 ? 0 : size / blockBytes;
        }

        /** Byte i of a FILE; i is one of its bytes. */
        int fileByte(int file, int i) {
            int row = rowOf(file);
            int block = wholeBlocks(i);
            int inBlock = i - block * blockBytes;
            if (block >= wholeBlocks(wordAt(row + 6))) {
                int tailRow = tailRow(byteAt(row + 10) - 1);
                return blockByte(wordAt(tailRow), wordAt(tailRow + 2), byteAt(row + 11) + inBlock);
            }
            int place = wordAt(row + 8);
            for (int k = 0; k < block; k++) {
                place += storedBytes(wordAt(row + ROW_BYTES + 2 * k));
            }
            return blockByte(place, wordAt(row + ROW_BYTES + 2 * block), inBlock);
        }

        boolean canBeBlock(int place, int size, int opened) {
            if (size == 0) {
                return true;
            }
            if (place < HEAD_BYTES || place + storedBytes(size) > inodesAt) {
                return false;
            }
            return size >= AS_IT_IS ? size == AS_IT_IS + opened : openedBytes(place, size) == opened;
        }

        static int storedBytes(int size) {
            return size >= AS_IT_IS ? size - AS_IT_IS : size;
        }

        private int blockByte(int place, int size, int i) {
            if (size == 0) {
                return 0;
            }
            return size >= AS_IT_IS ? byteAt(place + i) : openedByte(place, size, i);
        }

        /** How many bytes a PACKED block opens to, or -1 if its last packet lacks some of its bytes. */
        private int openedBytes(int place, int size) {
            int opened = 0;
            int at = 0;
            for (int turn = 0; turn < size && at < size; turn++) {
                int lead = byteAt(place + at);
                opened += opensTo(lead);
                at += packetBytes(lead);
            }
            return at == size ? opened : -1;
        }

        private int openedByte(int place, int size, int i) {
            int opened = 0;
            int at = 0;
            for (int turn = 0; turn < size && at < size; turn++) {
                int lead = byteAt(place + at);
                if (i < opened + opensTo(lead)) {
                    return byteAt(place + at + 1 + (lead < NO_PACKET ? i - opened : 0));
                }
                opened += opensTo(lead);
                at += packetBytes(lead);
            }
            return 0;
        }

        private static int opensTo(int lead) {
            return lead < NO_PACKET ? lead + 1 : lead == NO_PACKET ? 0 : RUN_BASE - lead;
        }

        private static int packetBytes(int lead) {
            return lead < NO_PACKET ? lead + 2 : lead == NO_PACKET ? 1 : 2;
        }
    }

    /** Stores single blocks behind an image's bytes. */
    private static final class Packer {
        /** A packet of bytes as they are costs one more, and a run saves what the packet behind it costs. */
        private final int[] packed = new int[LARGEST_BLOCK + 1];
        private int packedCount;

        /** The SIZE of the block that is stored then. */
        int store(int[] bytes, int from, int length, Image image) {
            if (isZero(bytes, from, length)) {
                return 0;
            }
            pack(bytes, from, from + length);
            if (packedCount >= length) {
                copy(bytes, from, length, image);
                return AS_IT_IS + length;
            }
            copy(packed, 0, packedCount, image);
            return packedCount;
        }

        private static boolean isZero(int[] bytes, int from, int length) {
            for (int i = 0; i < length; i++) {
                if (bytes[from + i] != 0) {
                    return false;
                }
            }
            return true;
        }

        private static void copy(int[] bytes, int from, int length, Image image) {
            for (int i = 0; i < length; i++) {
                image.putByte(bytes[from + i]);
            }
        }

        private void pack(int[] bytes, int from, int to) {
            packedCount = 0;
            int at = from;
            for (int turn = from; turn < to && at < to; turn++) {
                int run = runAt(bytes, at, to);
                if (run >= LEAST_RUN) {
                    addPacked(RUN_BASE - run);
                    addPacked(bytes[at]);
                    at += run;
                } else {
                    int next = nextRun(bytes, at, to);
                    addPacked(next - at - 1);
                    for (int i = at; i < next; i++) {
                        addPacked(bytes[i]);
                    }
                    at = next;
                }
            }
        }

        private void addPacked(int b) {
            if (packedCount < packed.length) {
                packed[packedCount] = b;
                packedCount++;
            }
        }

        /** How many like bytes stand side by side from here on. */
        private static int runAt(int[] bytes, int at, int to) {
            int run = 1;
            while (at + run < to && bytes[at + run] == bytes[at]) {
                run++;
            }
            return run;
        }

        private static int nextRun(int[] bytes, int at, int to) {
            for (int i = at + 1; i + LEAST_RUN <= to; i++) {
                if (bytes[i] == bytes[i + 1] && bytes[i] == bytes[i + 2]) {
                    return i;
                }
            }
            return to;
        }
    }

    /** Makes an image of a tree; its rows are by NUMBERS, and made once for all images. */
    private static final class Builder {
        private final Packer packer = new Packer();
        private final int[] numberOf = new int[MOST_NODES];
        private final int[] nodeOf = new int[MOST_NODES + 1];
        private final int[] twinOf = new int[MOST_NODES + 1];
        private final int[] blocksAt = new int[MOST_NODES + 1];
        private final int[] blockSizes = new int[(MOST_NODES + 1) * MOST_FILE_BLOCKS];
        private final int[] tailBlockOf = new int[MOST_NODES + 1];
        private final int[] tailStart = new int[MOST_NODES + 1];
        private final int[] rowAt = new int[MOST_NODES + 1];
        private final int[] tailPlaces = new int[MOST_NODES];
        private final int[] tailSizes = new int[MOST_NODES];
        private final int[] tailLengths = new int[MOST_NODES];
        private final int[] tail = new int[LARGEST_BLOCK];
        private int numbers;
        private int tailBlocks;
        private int tailLength;

        void become(Tree tree, int b, Image image) {
            giveNumbers(tree);
            putHead(b, image);
            putBlocks(tree, b, image);
            putTailBlocks(tree, b, image);
            image.setWord(INODES_PLACE, image.length);
            putInodes(tree, b, image);
            image.setWord(FOLDERS_PLACE, image.length);
            putFolders(tree, image);
            image.setWord(TAILS_PLACE, image.length);
            putTails(image);
            image.setWord(EXPORTS_PLACE, image.length);
            putExports(image);
            image.setWord(LENGTH_PLACE, image.length);
            image.setWord(SUM_PLACE, image.sum());
            image.readHead();
        }

        private void giveNumbers(Tree tree) {
            Arrays.fill(numberOf, 0);
            numberOf[0] = 1;
            nodeOf[1] = 0;
            numbers = 1;
            for (int number = 1; number <= numbers && number <= MOST_NODES; number++) {
                int node = nodeOf[number];
                if (tree.kinds[node] == FOLDER) {
                    giveNumbersBelow(tree, node);
                }
            }
        }

        private void giveNumbersBelow(Tree tree, int folder) {
            int to = tree.firstNameOf(folder + 1);
            for (int i = tree.firstNameOf(folder); i < to; i++) {
                int node = tree.targets[i];
                if (numberOf[node] == 0 && numbers < MOST_NODES) {
                    numbers++;
                    numberOf[node] = numbers;
                    nodeOf[numbers] = node;
                }
            }
        }

        private void putHead(int b, Image image) {
            image.length = 0;
            image.putByte(FIRST_MARK);
            image.putByte(SECOND_MARK);
            image.putByte(b);
            image.putByte(0);
            image.putWord(numbers);
            for (int place = INODES_PLACE; place < HEAD_BYTES; place += 2) {
                image.putWord(0);
            }
        }

        private void putBlocks(Tree tree, int b, Image image) {
            for (int number = 1; number <= numbers; number++) {
                twinOf[number] = findTwin(tree, number);
                if (tree.kinds[nodeOf[number]] == FILE && twinOf[number] == 0) {
                    putBlocksOf(tree, number, b, image);
                }
            }
        }

        /** The least NUMBER of a FILE with the same bytes, if that is less; else 0. */
        private int findTwin(Tree tree, int number) {
            int node = nodeOf[number];
            if (tree.kinds[node] != FILE || tree.sizes[node] == 0) {
                return 0;
            }
            for (int lesser = 1; lesser < number; lesser++) {
                int other = nodeOf[lesser];
                if (tree.kinds[other] == FILE && tree.haveSameBytes(node, other)) {
                    return lesser;
                }
            }
            return 0;
        }

        private void putBlocksOf(Tree tree, int number, int b, Image image) {
            int node = nodeOf[number];
            int blocks = wholeBlocks(tree.sizes[node], b);
            blocksAt[number] = blocks == 0 ? 0 : image.length;
            for (int k = 0; k < blocks; k++) {
                blockSizes[number * MOST_FILE_BLOCKS + k] =
                        packer.store(tree.bytes, node * MOST_FILE_BYTES + k * b, b, image);
            }
        }

        private void putTailBlocks(Tree tree, int b, Image image) {
            tailBlocks = 0;
            tailLength = 0;
            for (int number = 1; number <= numbers; number++) {
                int node = nodeOf[number];
                tailBlockOf[number] = 0;
                tailStart[number] = 0;
                if (tree.kinds[node] == FILE && twinOf[number] == 0) {
                    int left = tree.sizes[node] - wholeBlocks(tree.sizes[node], b) * b;
                    if (tailLength + left > b) {
                        closeTailBlock(image);
                    }
                    joinTail(tree, number, left);
                }
            }
            if (tailLength > 0) {
                closeTailBlock(image);
            }
        }

        private void joinTail(Tree tree, int number, int left) {
            if (left == 0) {
                return;
            }
            int node = nodeOf[number];
            int from = node * MOST_FILE_BYTES + tree.sizes[node] - left;
            tailBlockOf[number] = tailBlocks + 1;
            tailStart[number] = tailLength;
            for (int i = 0; i < left && tailLength < LARGEST_BLOCK; i++) {
                tail[tailLength] = tree.bytes[from + i];
                tailLength++;
            }
        }

        private void closeTailBlock(Image image) {
            if (tailBlocks < MOST_NODES) {
                tailPlaces[tailBlocks] = image.length;
                tailSizes[tailBlocks] = packer.store(tail, 0, tailLength, image);
                tailLengths[tailBlocks] = tailLength;
                tailBlocks++;
            }
            tailLength = 0;
        }

        private void putInodes(Tree tree, int b, Image image) {
            int first = image.length;
            int namesAt = 0;
            for (int number = 1; number <= numbers; number++) {
                int node = nodeOf[number];
                rowAt[number] = image.length - first;
                image.putByte(tree.kinds[node]);
                image.putWord(tree.modes[node]);
                image.putWord(tree.owners[node]);
                image.putByte(number == 1 ? 1 : tree.names[node]);
                if (tree.kinds[node] == FOLDER) {
                    int many = tree.firstNameOf(node + 1) - tree.firstNameOf(node);
                    image.putWord(namesAt);
                    image.putWord(many);
                    image.putWord(numberOf[tree.homes[node]]);
                    namesAt += NAME_BYTES * many;
                } else if (tree.kinds[node] == FILE) {
                    putFileRow(number, tree.sizes[node], b, image);
                }
            }
        }

        private void putFileRow(int number, int size, int b, Image image) {
            int told = twinOf[number] == 0 ? number : twinOf[number];
            int blocks = wholeBlocks(size, b);
            image.putWord(size);
            image.putWord(blocksAt[told]);
            image.putByte(tailBlockOf[told]);
            image.putByte(tailStart[told]);
            for (int k = 0; k < blocks; k++) {
                image.putWord(blockSizes[told * MOST_FILE_BLOCKS + k]);
            }
        }

        private void putFolders(Tree tree, Image image) {
            for (int number = 1; number <= numbers; number++) {
                int node = nodeOf[number];
                int to = tree.firstNameOf(node + 1);
                for (int i = tree.firstNameOf(node); i < to; i++) {
                    image.putWord(tree.nameAt(i));
                    image.putWord(numberOf[tree.targets[i]]);
                }
            }
        }

        private void putTails(Image image) {
            for (int t = 0; t < tailBlocks; t++) {
                image.putWord(tailPlaces[t]);
                image.putWord(tailSizes[t]);
                image.putByte(tailLengths[t]);
            }
        }

        private void putExports(Image image) {
            for (int number = 1; number <= numbers; number++) {
                image.putWord(rowAt[number]);
            }
        }

        private static int wholeBlocks(int size, int b) {
            return b < 1 ? 0 : size / b;
        }
    }

    /** Finds the first FAULT of bytes that come; each step leans on what the steps before it have found right. */
    private static final class Judge {
        private final int[] named = new int[MOST_TAPE_NUMBERS + 1];

        int firstFault(Image tape) {
            tape.readHead();
            if (!isHeadRight(tape)) {
                return 1;
            }
            if (!arePlacesRight(tape)) {
                return 2;
            }
            if (tape.wordAt(SUM_PLACE) != tape.sum()) {
                return 3;
            }
            if (!areTailsRight(tape)) {
                return 4;
            }
            if (!areInodesRight(tape)) {
                return 5;
            }
            if (!areFoldersRight(tape)) {
                return 6;
            }
            return isTreeRight(tape) ? 0 : 7;
        }

        private static boolean isHeadRight(Image tape) {
            return tape.length >= HEAD_BYTES && tape.byteAt(0) == FIRST_MARK && tape.byteAt(1) == SECOND_MARK
                    && isBlock(tape.blockBytes) && tape.byteAt(3) == 0;
        }

        private static boolean arePlacesRight(Image tape) {
            return tape.wordAt(LENGTH_PLACE) == tape.length
                    && HEAD_BYTES <= tape.inodesAt && tape.inodesAt <= tape.foldersAt
                    && tape.foldersAt <= tape.tailsAt && tape.tailsAt <= tape.exportsAt
                    && tape.numbers >= 1 && tape.exportsAt + 2 * tape.numbers == tape.length;
        }

        private static boolean areTailsRight(Image tape) {
            int blocks = tape.tailBlocks();
            if (tape.tailRow(blocks) != tape.exportsAt) {
                return false;
            }
            for (int t = 0; t < blocks; t++) {
                int row = tape.tailRow(t);
                int length = tape.byteAt(row + 4);
                if (length < 1 || length > tape.blockBytes
                        || !tape.canBeBlock(tape.wordAt(row), tape.wordAt(row + 2), length)) {
                    return false;
                }
            }
            return true;
        }

        private static boolean areInodesRight(Image tape) {
            int place = tape.inodesAt;
            for (int number = 1; number <= tape.numbers; number++) {
                int bytes = rowBytes(tape, place);
                if (tape.rowOf(number) != place || bytes == 0 || place + bytes > tape.foldersAt) {
                    return false;
                }
                if (tape.byteAt(place) == FILE && !isFileRight(tape, place)) {
                    return false;
                }
                place += bytes;
            }
            return place == tape.foldersAt;
        }

        /** How long the row is by its first byte, 0 if there is no such kind. */
        private static int rowBytes(Image tape, int row) {
            switch (tape.byteAt(row)) {
                case FOLDER:
                    return ROW_BYTES;
                case FILE:
                    return ROW_BYTES + 2 * tape.wholeBlocks(tape.wordAt(row + 6));
                case HIDER:
                    return HIDER_BYTES;
                default:
                    return 0;
            }
        }

        private static boolean isFileRight(Image tape, int row) {
            int size = tape.wordAt(row + 6);
            int blocks = tape.wholeBlocks(size);
            if (!isTailRight(tape, row, size - blocks * tape.blockBytes)) {
                return false;
            }
            int place = tape.wordAt(row + 8);
            for (int k = 0; k < blocks; k++) {
                int stored = tape.wordAt(row + ROW_BYTES + 2 * k);
                if (!tape.canBeBlock(place, stored, tape.blockBytes)) {
                    return false;
                }
                place += Image.storedBytes(stored);
            }
            return true;
        }

        private static boolean isTailRight(Image tape, int row, int left) {
            int tailBlock = tape.byteAt(row + 10);
            int start = tape.byteAt(row + 11);
            if (left == 0) {
                return tailBlock == 0 && start == 0;
            }
            return tailBlock >= 1 && tailBlock <= tape.tailBlocks()
                    && start + left <= tape.byteAt(tape.tailRow(tailBlock - 1) + 4);
        }

        private static boolean areFoldersRight(Image tape) {
            int place = tape.foldersAt;
            for (int number = 1; number <= tape.numbers; number++) {
                if (tape.kindOf(number) == FOLDER) {
                    int many = tape.sizeOf(number);
                    if (tape.firstNamePlace(number) != place || place + NAME_BYTES * many > tape.tailsAt
                            || !areNamesRight(tape, place, many)) {
                        return false;
                    }
                    place += NAME_BYTES * many;
                }
            }
            return place == tape.tailsAt;
        }

        private static boolean areNamesRight(Image tape, int place, int many) {
            int last = 0;
            for (int i = 0; i < many; i++) {
                int name = tape.wordAt(place + NAME_BYTES * i);
                if (name <= last || name > HIGHEST_NAME || !tape.hasNumber(tape.wordAt(place + NAME_BYTES * i + 2))) {
                    return false;
                }
                last = name;
            }
            return true;
        }

        private boolean isTreeRight(Image tape) {
            if (tape.kindOf(1) != FOLDER || tape.namesOf(1) != 1 || tape.homeOf(1) != 1) {
                return false;
            }
            if (tape.numbers > MOST_TAPE_NUMBERS || !areFoldersNamedAtHome(tape) || named[1] != 0) {
                return false;
            }
            for (int number = 2; number <= tape.numbers; number++) {
                int kind = tape.kindOf(number);
                if (named[number] == 0 || named[number] != tape.namesOf(number)
                        || kind != FILE && named[number] > 1
                        || kind == FOLDER && !comesToFirst(tape, number)) {
                    return false;
                }
            }
            return true;
        }

        /** Counts on the way how often each NUMBER is named. */
        private boolean areFoldersNamedAtHome(Image tape) {
            Arrays.fill(named, 0);
            for (int number = 1; number <= tape.numbers; number++) {
                int many = tape.kindOf(number) == FOLDER ? tape.sizeOf(number) : 0;
                int first = many == 0 ? 0 : tape.firstNamePlace(number);
                for (int i = 0; i < many; i++) {
                    int target = tape.wordAt(first + NAME_BYTES * i + 2);
                    if (tape.kindOf(target) == FOLDER && tape.homeOf(target) != number) {
                        return false;
                    }
                    if (target < named.length) {
                        named[target]++;
                    }
                }
            }
            return true;
        }

        private static boolean comesToFirst(Image tape, int folder) {
            int at = folder;
            for (int step = 0; step < tape.numbers && at != 1; step++) {
                at = tape.homeOf(at);
            }
            return at == 1;
        }
    }

    /** The images that are laid, and the VIEWS of them: each is, from the uppermost down, of layers and of a NUMBER in each. */
    private static final class Layers {
        private final int[] laid = new int[MOST_IMAGES];
        private final Image[] laidImages = new Image[MOST_IMAGES];
        private final int[] depths = new int[MOST_VIEWS];
        private final int[] viewLayers = new int[MOST_VIEWS * MOST_IMAGES];
        private final int[] viewNumbers = new int[MOST_VIEWS * MOST_IMAGES];
        private final int[] foundLayers = new int[MOST_IMAGES];
        private final int[] foundNumbers = new int[MOST_IMAGES];
        private final int[] passed = new int[MOST_IMAGES];
        private int foundDepth;
        private int walkedNames;
        int laidCount;
        int viewCount;

        /** An empty image stands where none is laid, so that no place is ever null. */
        Layers() {
            Image empty = new Image(0);
            for (int i = 0; i < MOST_IMAGES; i++) {
                laidImages[i] = empty;
            }
        }

        boolean isLaid(int image) {
            for (int i = 0; i < laidCount; i++) {
                if (laid[i] == image) {
                    return true;
                }
            }
            return false;
        }

        int lay(int number, Image image) {
            if (laidCount < MOST_IMAGES) {
                laid[laidCount] = number;
                laidImages[laidCount] = image;
                laidCount++;
                startViews();
            }
            return laidCount;
        }

        int takeAway() {
            int were = laidCount;
            laidCount = 0;
            viewCount = 0;
            return were;
        }

        boolean hasView(int view) {
            return view >= 0 && view < viewCount;
        }

        int kindOf(int view) {
            return upperImage(view).kindOf(numberOf(view));
        }

        int imageOf(int view) {
            return laid[viewLayers[view * MOST_IMAGES]];
        }

        int numberOf(int view) {
            return viewNumbers[view * MOST_IMAGES];
        }

        int modeOf(int view) {
            return upperImage(view).modeOf(numberOf(view));
        }

        int ownerOf(int view) {
            return upperImage(view).ownerOf(numberOf(view));
        }

        int depthOf(int view) {
            return depths[view];
        }

        /** Bytes of a FILE, names by which something is led to below a folder. */
        int sizeOf(int view) {
            if (kindOf(view) == FILE) {
                return upperImage(view).sizeOf(numberOf(view));
            }
            nameBelow(view, -1);
            return walkedNames;
        }

        /** The wanted name of those that lead to something, NONE without; all of them are walked and counted then. */
        int nameBelow(int view, int wanted) {
            Arrays.fill(passed, 0);
            walkedNames = 0;
            int name = nextName(view);
            for (int turn = 0; turn < HIGHEST_NAME && name != NONE; turn++) {
                if (passName(view, name) != HIDER) {
                    if (walkedNames == wanted) {
                        return name;
                    }
                    walkedNames++;
                }
                name = nextName(view);
            }
            return NONE;
        }

        int byteOf(int view, int i) {
            return upperImage(view).fileByte(numberOf(view), i);
        }

        /** The VIEW to which the name leads, a new one perhaps; NONE or ROOM. */
        int lead(int view, int name) {
            find(view, name);
            if (foundDepth == 0) {
                return NONE;
            }
            for (int known = 0; known < viewCount; known++) {
                if (viewLayers[known * MOST_IMAGES] == foundLayers[0] && numberOf(known) == foundNumbers[0]) {
                    return known;
                }
            }
            if (viewCount >= MOST_VIEWS) {
                return ROOM;
            }
            addFound();
            return viewCount - 1;
        }

        private Image upperImage(int view) {
            return laidImages[viewLayers[view * MOST_IMAGES]];
        }

        private void startViews() {
            viewCount = 0;
            foundDepth = 0;
            for (int layer = laidCount - 1; layer >= 0; layer--) {
                addToFound(layer, 1);
            }
            addFound();
        }

        private void addToFound(int layer, int number) {
            if (foundDepth < MOST_IMAGES) {
                foundLayers[foundDepth] = layer;
                foundNumbers[foundDepth] = number;
                foundDepth++;
            }
        }

        private void addFound() {
            for (int i = 0; i < foundDepth; i++) {
                viewLayers[viewCount * MOST_IMAGES + i] = foundLayers[i];
                viewNumbers[viewCount * MOST_IMAGES + i] = foundNumbers[i];
            }
            depths[viewCount] = foundDepth;
            viewCount++;
        }

        private void find(int view, int name) {
            foundDepth = 0;
            for (int i = 0; i < depths[view]; i++) {
                int layer = viewLayers[view * MOST_IMAGES + i];
                Image image = laidImages[layer];
                int number = image.targetOf(viewNumbers[view * MOST_IMAGES + i], name);
                if (number != 0) {
                    int kind = image.kindOf(number);
                    if (kind == FOLDER || kind == FILE && foundDepth == 0) {
                        addToFound(layer, number);
                    }
                    if (kind != FOLDER) {
                        return;
                    }
                }
            }
        }

        /** The least name that is not passed yet, NONE without. */
        private int nextName(int view) {
            int least = NONE;
            for (int i = 0; i < depths[view]; i++) {
                Image image = laidImages[viewLayers[view * MOST_IMAGES + i]];
                int folder = viewNumbers[view * MOST_IMAGES + i];
                if (passed[i] < image.sizeOf(folder)) {
                    int name = image.wordAt(image.firstNamePlace(folder) + NAME_BYTES * passed[i]);
                    least = least == NONE || name < least ? name : least;
                }
            }
            return least;
        }

        /** Passes the name in all layers and answers what it is in the uppermost one that has it. */
        private int passName(int view, int name) {
            int kind = NONE;
            for (int i = 0; i < depths[view]; i++) {
                Image image = laidImages[viewLayers[view * MOST_IMAGES + i]];
                int folder = viewNumbers[view * MOST_IMAGES + i];
                int place = image.firstNamePlace(folder) + NAME_BYTES * passed[i];
                if (passed[i] < image.sizeOf(folder) && image.wordAt(place) == name) {
                    passed[i]++;
                    kind = kind == NONE ? image.kindOf(image.wordAt(place + 2)) : kind;
                }
            }
            return kind;
        }
    }
}
