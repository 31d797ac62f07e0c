import java.util.Arrays;

/** Each promise by itself: ordinary inputs, the edges that the document names, and wrong inputs. */
public final class PromisesTest extends Checks {
    public static void main(String[] args) {
        aNewObject();
        folder();
        file();
        hide();
        link();
        data();
        owner();
        clear();
        buildNumbers();
        buildBytes();
        buildStored();
        buildTails();
        buildTwins();
        buildSameForSameTree();
        buildLargest();
        feed();
        end();
        load();
        loadHead();
        loadTails();
        loadInodes();
        loadFolders();
        loadTree();
        loadFirstFault();
        loadOtherImages();
        drop();
        out();
        image();
        same();
        node();
        over();
        bare();
        look();
        lookThroughLayers();
        lookRoom();
        list();
        view();
        read();
        count();
        finish();
    }

    private static void aNewObject() {
        TreeImages x = new TreeImages();
        due("1 nodes", x.count(0), 1);
        due("1 images", x.count(1), 0);
        due("1 laid", x.count(2), 0);
        due("1 views", x.count(3), 0);
        due("1 tape", x.count(4), 0);
        due("1 the folder 0", x.folder(0, 1), 1);
        due("1 no image", x.image(0, 0), UNKNOWN);
        due("1 no view", x.view(0, 0), UNKNOWN);
        due("1 constants", TreeImages.NONE + 10 * TreeImages.UNKNOWN + 100 * TreeImages.OUTSIDE
                + 1000 * TreeImages.STATE + 10000 * TreeImages.ROOM, -43210);
    }

    private static void folder() {
        TreeImages x = new TreeImages();
        due("2 least name", x.folder(0, 1), 1);
        due("2 highest name", x.folder(0, 999), 2);
        due("2 name again, elsewhere", x.folder(1, 1), 3);
        due("2 deeper", x.folder(3, 1), 4);
        due("2 unknown", x.folder(5, 1), UNKNOWN);
        due("2 unknown below 0", x.folder(-1, 1), UNKNOWN);
        due("2 unknown first", x.folder(HIGH, 0), UNKNOWN);
        due("2 name 0", x.folder(0, 0), OUTSIDE);
        due("2 name 1000", x.folder(0, 1000), OUTSIDE);
        due("2 lowest", x.folder(0, LOW), OUTSIDE);
        due("2 name is there", x.folder(0, 1), STATE);
        x.file(0, 5);
        x.hide(0, 6);
        due("2 below a file", x.folder(5, 1), STATE);
        due("2 below a hider", x.folder(6, 1), STATE);
        due("2 outside ahead of state", x.folder(5, 0), OUTSIDE);
        due("2 nothing changed", x.count(0), 7);
        for (int n = 7; n <= 31; n++) {
            due("2 node " + n, x.folder(1, n), n);
        }
        // the folder 0 counts among the 32
        due("2 room", x.folder(1, 32), ROOM);
        due("2 room for no file", x.file(1, 32), ROOM);
        due("2 room for no hider", x.hide(1, 32), ROOM);
        due("2 unknown ahead of room", x.folder(32, 1), UNKNOWN);
        due("2 outside ahead of room", x.folder(1, 1000), OUTSIDE);
        due("2 state ahead of room", x.folder(1, 31), STATE);
        due("2 full", x.count(0), 32);
        due("2 cleared", x.clear(), 32);
        due("2 room again", x.folder(0, 1), 1);
    }

    private static void file() {
        TreeImages x = new TreeImages();
        due("3 file", x.file(0, 999), 1);
        due("3 file in a folder", x.file(x.folder(0, 1), 999), 3);
        due("3 unknown", x.file(4, 1), UNKNOWN);
        due("3 name 0", x.file(0, 0), OUTSIDE);
        due("3 name 1000", x.file(0, 1000), OUTSIDE);
        due("3 below a file", x.file(1, 1), STATE);
        due("3 name is there", x.file(0, 1), STATE);
        due("3 is a file", x.data(1, 0, 1), 1);
        for (int n = 4; n <= 31; n++) {
            due("3 node " + n, x.file(0, n), n);
        }
        due("3 room", x.file(0, 500), ROOM);
        due("3 full", x.count(0), 32);
    }

    private static void hide() {
        TreeImages x = new TreeImages();
        due("4 hider", x.hide(0, 999), 1);
        due("4 hider in a folder", x.hide(x.folder(0, 1), 999), 3);
        due("4 unknown", x.hide(-1, 1), UNKNOWN);
        due("4 name 0", x.hide(0, 0), OUTSIDE);
        due("4 name 1000", x.hide(0, 1000), OUTSIDE);
        due("4 below a hider", x.hide(1, 1), STATE);
        due("4 name is there", x.hide(0, 999), STATE);
        due("4 no data", x.data(1, 0, 1), STATE);
        x.build(8);
        due("4 is a hider", x.node(0, 3, 0), 3);
        for (int n = 4; n <= 31; n++) {
            due("4 node " + n, x.hide(0, n), n);
        }
        due("4 room", x.hide(0, 500), ROOM);
        due("4 full", x.count(0), 32);
    }

    private static void link() {
        TreeImages x = new TreeImages();
        x.file(0, 1);
        x.folder(0, 2);
        x.hide(0, 3);
        due("5 there", x.link(0, 4, 1), 2);
        due("5 elsewhere, same name", x.link(2, 1, 1), 3);
        due("5 unknown folder", x.link(4, 9, 1), UNKNOWN);
        due("5 unknown file", x.link(0, 9, 4), UNKNOWN);
        due("5 unknown file ahead of outside", x.link(0, 0, -1), UNKNOWN);
        due("5 name 0", x.link(0, 0, 1), OUTSIDE);
        due("5 name 1000", x.link(0, 1000, 1), OUTSIDE);
        due("5 outside ahead of state", x.link(1, 1000, 1), OUTSIDE);
        due("5 no folder", x.link(3, 9, 1), STATE);
        due("5 in a file", x.link(1, 9, 1), STATE);
        due("5 name is there", x.link(0, 4, 1), STATE);
        due("5 a folder", x.link(0, 9, 2), STATE);
        due("5 a hider", x.link(0, 9, 3), STATE);
        for (int n = 4; n <= 9; n++) {
            due("5 names", x.link(2, 10 + n, 1), n);
        }
        due("5 room", x.link(0, 20, 1), ROOM);
        due("5 state ahead of room", x.link(0, 1, 1), STATE);
        due("5 no node more", x.count(0), 4);
        x.build(8);
        due("5 names told", x.node(0, 2, 3), 9);
        for (int n = 4; n <= 31; n++) {
            x.file(0, 100 + n);
        }
        due("5 a full tree takes names", x.link(0, 999, 31), 2);
    }

    private static void data() {
        TreeImages x = new TreeImages();
        x.file(0, 1);
        x.folder(0, 2);
        due("6 unknown", x.data(3, 0, 1), UNKNOWN);
        due("6 unknown first", x.data(-1, 256, 0), UNKNOWN);
        due("6 byte -1", x.data(1, -1, 1), OUTSIDE);
        due("6 byte 256", x.data(1, 256, 1), OUTSIDE);
        due("6 times 0", x.data(1, 0, 0), OUTSIDE);
        due("6 times 101", x.data(1, 0, 101), OUTSIDE);
        due("6 times highest", x.data(1, 0, HIGH), OUTSIDE);
        due("6 outside ahead of state", x.data(2, 0, 101), OUTSIDE);
        due("6 a folder", x.data(2, 0, 1), STATE);
        due("6 one", x.data(1, 255, 1), 1);
        due("6 room", x.data(1, 0, 100), ROOM);
        due("6 more", x.data(1, 7, 98), 99);
        due("6 the last", x.data(1, 0, 1), 100);
        due("6 full", x.data(1, 0, 1), ROOM);
        x.build(32);
        x.over(0);
        x.look(0, 1);
        due("6 bytes 0", x.read(1, 0), 255);
        due("6 bytes 1", x.read(1, 1), 7);
        due("6 bytes 98", x.read(1, 98), 7);
        due("6 bytes 99", x.read(1, 99), 0);
    }

    private static void owner() {
        TreeImages x = new TreeImages();
        x.hide(0, 1);
        due("7 of 0", x.owner(0, 65535, 258), 1);
        due("7 of a hider", x.owner(1, 0, 65535), 1);
        due("7 unknown", x.owner(2, 0, 0), UNKNOWN);
        due("7 unknown first", x.owner(-1, -1, -1), UNKNOWN);
        due("7 owner -1", x.owner(0, -1, 0), OUTSIDE);
        due("7 owner 65536", x.owner(0, 65536, 0), OUTSIDE);
        due("7 mode -1", x.owner(0, 0, -1), OUTSIDE);
        due("7 mode 65536", x.owner(0, 0, 65536), OUTSIDE);
        x.build(8);
        due("7 owner told", x.node(0, 1, 2), 65535);
        due("7 mode told", x.node(0, 1, 1), 258);
        due("7 hider's owner", x.node(0, 2, 2), 0);
        due("7 hider's mode", x.node(0, 2, 1), 65535);
    }

    private static void clear() {
        TreeImages x = new TreeImages();
        due("8 at first", x.clear(), 1);
        x.build(8);
        x.file(0, 1);
        x.data(1, 9, 5);
        x.link(0, 2, 1);
        x.folder(0, 3);
        x.owner(0, 5, 6);
        x.owner(1, 5, 6);
        due("8 nodes", x.clear(), 3);
        due("8 the folder 0 alone", x.count(0), 1);
        due("8 images stay", x.count(1), 1);
        x.build(8);
        due("8 as at first", x.same(0, 1), 1);
        due("8 names are free", x.file(0, 1), 1);
        due("8 no bytes left", x.data(1, 1, 1), 1);
        due("8 no names left", x.link(0, 2, 1), 2);
        x.build(8);
        due("8 no owner left", x.node(2, 2, 2), 0);
        due("8 no mode left", x.node(2, 2, 1), 0);
    }

    private static void buildNumbers() {
        TreeImages x = new TreeImages();
        due("9 outside", x.build(9), OUTSIDE);
        due("9 outside 0", x.build(0), OUTSIDE);
        due("9 outside 64", x.build(64), OUTSIDE);
        due("9 outside -8", x.build(-8), OUTSIDE);
        due("9 outside 24", x.build(24), OUTSIDE);
        due("9 first", x.build(8), 0);
        due("9 second", x.build(16), 1);
        due("9 third", x.build(32), 2);
        due("9 room", x.build(8), ROOM);
        due("9 outside ahead of room", x.build(7), OUTSIDE);
        due("9 three", x.count(1), 3);
        // folder by folder: 5 and 7 of the folder 0 come ahead of what is below 5
        TreeImages y = new TreeImages();
        y.file(y.folder(0, 5), 1);
        y.hide(0, 7);
        y.folder(1, 3);
        y.build(8);
        due("9 NUMBER 2", y.node(0, 2, 0), 1);
        due("9 NUMBER 3", y.node(0, 3, 0), 3);
        due("9 NUMBER 4", y.node(0, 4, 0), 2);
        due("9 NUMBER 5", y.node(0, 5, 0), 1);
        // a link of a lesser folder gives the NUMBER
        TreeImages z = new TreeImages();
        z.folder(0, 9);
        z.file(1, 1);
        z.link(0, 3, 2);
        z.build(8);
        due("9 linked file is 2", z.node(0, 2, 0), 2);
        due("9 folder is 3", z.node(0, 3, 0), 1);
    }

    private static void buildBytes() {
        TreeImages x = new TreeImages();
        x.folder(0, 2);
        x.file(0, 1);
        x.data(2, 5, 3);
        x.owner(2, 258, 3);
        x.build(16);
        int[] want = {
            84, 73, 16, 0, 0, 3, 0, 20, 0, 56, 0, 64, 0, 69, 0, 75, 0, 0,
            254, 5,
            1, 0, 0, 0, 0, 1, 0, 0, 0, 2, 0, 1,
            2, 0, 3, 1, 2, 1, 0, 3, 0, 0, 1, 0,
            1, 0, 0, 0, 0, 1, 0, 8, 0, 0, 0, 1,
            0, 1, 0, 2, 0, 2, 0, 3,
            0, 18, 0, 2, 3,
            0, 0, 0, 12, 0, 24
        };
        summed(want);
        dueBytes("9 bytes", bytesOf(x, 0), want);
        TreeImages y = new TreeImages();
        y.build(8);
        int[] bare = {84, 73, 8, 0, 0, 1, 0, 18, 0, 30, 0, 30, 0, 30, 0, 32, 0, 0, 1, 0, 0, 0, 0, 1, 0, 0, 0, 0, 0, 1, 0, 0};
        // 84 + 146 + 24 + 6 + 8 * 18 + 10 * 30 + 12 * 30 + 14 * 30 + 16 * 32 + 19 + 24 + 30
        bare[16] = 2069 >> 8;
        bare[17] = 2069 & 255;
        dueBytes("9 the folder 0 alone", bytesOf(y, 0), bare);
    }

    private static void buildStored() {
        dueStored("9 a run", new int[] {7, 7, 7, 7, 7, 7, 7, 7}, 2, 249, 7);
        dueStored("9 zeros", new int[8], 0);
        dueStored("9 a zero run", new int[] {0, 0, 0, 0, 0, 0, 0, 1}, 4, 250, 0, 0, 1);
        dueStored("9 as it is", new int[] {1, 2, 3, 4, 5, 6, 7, 8}, 32776, 1, 2, 3, 4, 5, 6, 7, 8);
        dueStored("9 two and six", new int[] {7, 7, 0, 0, 0, 0, 0, 0}, 5, 1, 7, 7, 251, 0);
        dueStored("9 seven", new int[] {1, 1, 2, 2, 3, 3, 3, 3}, 7, 3, 1, 1, 2, 2, 253, 3);
        dueStored("9 eight is not shorter", new int[] {1, 2, 1, 2, 1, 3, 3, 3}, 32776, 1, 2, 1, 2, 1, 3, 3, 3);
        dueStored("9 run, two, run", new int[] {4, 4, 4, 5, 5, 6, 6, 6}, 7, 254, 4, 1, 5, 5, 254, 6);
        dueStored("9 runs side by side", new int[] {4, 4, 4, 5, 5, 5, 5, 5}, 4, 254, 4, 252, 5);
        dueStored("9 run at the end of bytes", new int[] {9, 255, 255, 255, 255, 255, 255, 8}, 6, 0, 9, 251, 255, 0, 8);
    }

    private static void dueStored(String what, int[] block, int size, int... stored) {
        TreeImages x = new TreeImages();
        x.file(0, 1);
        for (int b : block) {
            x.data(1, b, 1);
        }
        x.build(8);
        int[] m = bytesOf(x, 0);
        due(what + ": DATA", x.image(0, 4), stored.length);
        dueBytes(what, Arrays.copyOfRange(m, 18, 18 + stored.length), stored);
        int row = 18 + stored.length + 12;
        due(what + ": place", word(m, row + 8), 18);
        due(what + ": SIZE", word(m, row + 12), size);
        due(what + ": no tail", word(m, row + 10), 0);
    }

    private static void buildTails() {
        // tails of 5, 3, 1 and 8 bytes by blocks of 8: 5 + 3 fit just, 1 begins the next; 8 is a block
        TreeImages x = new TreeImages();
        int[] sizes = {5, 3, 1, 8, 0, 12, 4};
        for (int i = 0; i < sizes.length; i++) {
            x.file(0, i + 1);
            if (sizes[i] > 0) {
                x.data(i + 1, i + 1, sizes[i]);
            }
        }
        x.build(8);
        int[] m = bytesOf(x, 0);
        int[][] told = {{0, 1, 0}, {0, 1, 5}, {0, 2, 0}, {18, 0, 0}, {0, 0, 0}, {20, 2, 1}, {0, 3, 0}};
        for (int i = 0; i < told.length; i++) {
            int row = row(m, i + 2);
            due("9 tails: bytes of " + i, word(m, row + 6), sizes[i]);
            due("9 tails: place of " + i, word(m, row + 8), told[i][0]);
            due("9 tails: block of " + i, m[row + 10], told[i][1]);
            due("9 tails: start of " + i, m[row + 11], told[i][2]);
        }
        due("9 three tail blocks", x.image(0, 3), 3);
        int tails = word(m, 10);
        // blocks of 2 bytes each for the files 4 and 6; then 252 1 254 2, then 1 3 then 6 6 6 6, then 7 7 7 7
        dueBytes("9 tails: rows", Arrays.copyOfRange(m, tails, tails + 15),
                new int[] {0, 22, 0, 4, 8, 0, 26, 0, 4, 5, 0, 30, 0, 2, 4});
        dueBytes("9 tails: DATA", Arrays.copyOfRange(m, 18, 32),
                new int[] {249, 4, 249, 6, 252, 1, 254, 2, 0, 3, 253, 6, 253, 7});
        // zeros: nothing is stored, but blocks and tail blocks are told
        TreeImages y = new TreeImages();
        y.file(0, 1);
        y.data(1, 0, 19);
        y.build(8);
        m = bytesOf(y, 0);
        due("9 zeros: DATA", y.image(0, 4), 0);
        dueBytes("9 zeros: row", Arrays.copyOfRange(m, 30, 46), new int[] {2, 0, 0, 0, 0, 1, 0, 19, 0, 18, 1, 0, 0, 0, 0, 0});
        dueBytes("9 zeros: tail", Arrays.copyOfRange(m, 50, 55), new int[] {0, 18, 0, 0, 3});
    }

    private static void buildTwins() {
        TreeImages x = new TreeImages();
        for (int i = 1; i <= 3; i++) {
            x.file(0, i);
            x.data(i, 7, 10);
        }
        x.data(2, 1, 1);
        x.file(0, 4);
        x.file(0, 5);
        x.build(8);
        int[] m = bytesOf(x, 0);
        dueBytes("9 twins: DATA", Arrays.copyOfRange(m, 18, word(m, 6)), new int[] {249, 7, 249, 7, 252 + 1, 7, 0, 1});
        int first = row(m, 2);
        int third = row(m, 4);
        dueBytes("9 twins: told alike", Arrays.copyOfRange(m, third, third + 14), Arrays.copyOfRange(m, first, first + 14));
        due("9 twins: place", word(m, third + 8), 18);
        due("9 twins: tail", m[third + 10], 1);
        due("9 twins: start of the second", m[row(m, 3) + 11], 2);
        due("9 empty files are no twins", word(m, row(m, 6) + 8) + m[row(m, 6) + 10], 0);
        due("9 one tail block", x.image(0, 3), 1);
        // the lesser NUMBER has the bytes, not the lesser node
        TreeImages y = new TreeImages();
        y.file(y.folder(0, 9), 1);
        y.data(2, 3, 8);
        y.file(0, 1);
        y.data(3, 4, 8);
        y.file(0, 2);
        y.data(4, 3, 8);
        y.build(8);
        m = bytesOf(y, 0);
        dueBytes("9 order of DATA", Arrays.copyOfRange(m, 18, word(m, 6)), new int[] {249, 4, 249, 3});
        due("9 the later twin", word(m, row(m, 5) + 8), 20);
    }

    private static void buildSameForSameTree() {
        TreeImages x = new TreeImages();
        x.folder(0, 4);
        x.file(1, 6);
        x.data(2, 9, 9);
        x.link(0, 2, 2);
        x.hide(0, 3);
        x.build(8);
        x.clear();
        x.hide(0, 3);
        x.file(0, 2);
        x.folder(0, 4);
        x.data(2, 9, 4);
        x.data(2, 9, 5);
        x.link(3, 6, 2);
        x.build(8);
        x.build(16);
        due("9 the same for the same tree", x.same(0, 1), 1);
        due("9 another B", x.same(0, 2), 0);
    }

    /** More calls than an object is promised for: the rows must hold the largest image nonetheless. */
    private static void buildLargest() {
        TreeImages x = new TreeImages();
        for (int f = 1; f <= 31; f++) {
            x.file(0, f);
            for (int i = 0; i < 100; i++) {
                x.data(f, (f * 7 + i * 11) % 256, 1);
            }
            for (int n = 1; n < 9; n++) {
                x.link(0, f + 31 * n, f);
            }
        }
        due("9 largest", x.build(8), 0);
        due("9 largest: NUMBERS", x.image(0, 2), 32);
        due("9 largest: TAIL BLOCKS", x.image(0, 3), 16);
        due("9 largest: DATA", x.image(0, 4), 3100);
        due("9 largest: LENGTH", x.image(0, 0), 18 + 3100 + 12 + 31 * 36 + 279 * 4 + 16 * 5 + 64);
        x.over(0);
        for (int f = 1; f <= 31; f++) {
            x.look(0, f + 248);
            for (int i = 0; i < 100; i++) {
                due("9 largest: read " + f + " " + i, x.read(f, i), (f * 7 + i * 11) % 256);
            }
        }
    }

    private static void feed() {
        TreeImages x = new TreeImages();
        due("10 twenty", x.feed(1, 2, 3, 4, 5), 20);
        due("10 count", x.count(4), 20);
        for (int i = 2; i <= 200; i++) {
            due("10 feed " + i, x.feed(LOW, -1, 0, HIGH, 1), 20 * i);
        }
        due("10 room", x.feed(0, 0, 0, 0, 0), ROOM);
        x.end(3981);
        due("10 no room for twenty", x.feed(0, 0, 0, 0, 0), ROOM);
        due("10 nothing changed", x.count(4), 3981);
        x.end(3980);
        due("10 room for twenty", x.feed(0, 0, 0, 0, 0), 4000);
        // the highest byte first, behind what is there
        TreeImages y = new TreeImages();
        int[] sample = sample();
        due("10 bytes in order", come(y, sample), 0);
        dueBytes("10 bytes", bytesOf(y, 0), sample);
    }

    private static void end() {
        TreeImages x = new TreeImages();
        due("11 empty", x.end(0), 0);
        due("11 beyond empty", x.end(1), OUTSIDE);
        x.feed(1, 2, 3, 4, 5);
        due("11 beyond", x.end(21), OUTSIDE);
        due("11 below", x.end(-1), OUTSIDE);
        due("11 all", x.end(20), 20);
        due("11 some", x.end(7), 7);
        due("11 kept", x.count(4), 7);
        due("11 gone is gone", x.end(8), OUTSIDE);
        due("11 behind these", x.feed(0, 0, 0, 0, 0), 27);
    }

    private static void load() {
        TreeImages x = new TreeImages();
        due("12 empty tape", x.load(), -11);
        due("12 number", come(x, sample()), 0);
        due("12 tape is empty then", x.count(4), 0);
        due("12 next", come(x, sample()), 1);
        due("12 the same", x.same(0, 1), 1);
        int[] bad = sample();
        bad[17]++;
        due("12 fault", come(x, bad), -13);
        due("12 tape is empty after a fault", x.count(4), 0);
        due("12 no image by a fault", x.count(1), 2);
        x.build(8);
        x.feed(0, 0, 0, 0, 0);
        due("12 room", x.load(), ROOM);
        due("12 the tape stays with room", x.count(4), 20);
        due("12 what was built comes", come(new TreeImages(), bytesOf(x, 2)), 0);
    }

    private static void loadHead() {
        due("12 the sample", judged(), 0);
        due("12.1 seventeen", come(new TreeImages(), Arrays.copyOf(sample(), 17)), -11);
        due("12.1 first", judged(0, 83), -11);
        due("12.1 second", judged(1, 74), -11);
        due("12.1 B 9", judged(2, 9), -11);
        due("12.1 B 0", judged(2, 0), -11);
        due("12.1 B 64", judged(2, 64), -11);
        due("12.1 fourth", judged(3, 1), -11);
        due("12.2 eighteen", come(new TreeImages(), Arrays.copyOf(sample(), 18)), -12);
        due("12.2 LENGTH less", judged(15, 131), -12);
        due("12.2 LENGTH more", judged(15, 133), -12);
        due("12.2 one byte more", come(new TreeImages(), Arrays.copyOf(sample(), 133)), -12);
        due("12.2 INODES 17", judged(7, 17), -12);
        due("12.2 INODES above FOLDERS", judged(7, 93), -12);
        due("12.2 FOLDERS above TAILS", judged(9, 113), -12);
        due("12.2 TAILS above EXPORTS", judged(11, 123), -12);
        due("12.2 EXPORTS above LENGTH", judged(13, 134, 5, 0), -12);
        due("12.2 no NUMBER", judged(5, 0), -12);
        due("12.2 no NUMBER, no EXPORTS", judged(5, 0, 13, 132), -12);
        due("12.2 a NUMBER less", judged(5, 4), -12);
        due("12.2 a NUMBER more", judged(5, 6), -12);
        due("12.2 EXPORTS odd", judged(13, 121), -12);
        int[] bytes = sample();
        bytes[16] ^= 1;
        due("12.3 SUM", come(new TreeImages(), bytes), -13);
        bytes = sample();
        bytes[20] ^= 1;
        due("12.3 a byte", come(new TreeImages(), bytes), -13);
    }

    private static void loadTails() {
        due("12.4 not five", judged(11, 111), -14);
        due("12.4 L 0", judged(TAILS + 4, 0), -14);
        due("12.4 L above B", judged(TAILS + 4, 9, TAILS + 2, 0, TAILS + 3, 0), -14);
        due("12.4 L B", judged(TAILS + 4, 8, TAILS + 2, 0, TAILS + 3, 0), 0);
        due("12.4 ahead of DATA", judged(TAILS + 1, 17), -14);
        due("12.4 at DATA", judged(TAILS + 1, 18), 0);
        due("12.4 up to DATA's end", judged(TAILS + 1, 27), 0);
        due("12.4 behind DATA", judged(TAILS + 1, 28), -14);
        due("12.4 far behind DATA", judged(TAILS, 255), -14);
        due("12.4 as it is, less", judged(TAILS + 3, 4), -14);
        due("12.4 as it is, none", judged(TAILS + 3, 0), -14);
        due("12.4 opens to less than L", judged(TAILS + 9, 6), -14);
        due("12.4 opens to more than L", judged(TAILS + 9, 4), -14);
        due("12.4 a run without its byte", judged(TAILS + 8, 1), -14);
        due("12.4 bytes that are lacking", judged(30, 4), -14);
        due("12.4 nothing, nowhere", judged(TAILS + 7, 0, TAILS + 8, 0, TAILS + 5, 255), 0);
        due("12.4 none of both alone", judged(30, 128, 31, 128), -14);
        // 24 to 29: 0 0 1 1 1 252: the second tail as 128, 252, 9 and as 252, 9, 128
        due("12.4 128 ahead", judged(29, 128, TAILS + 6, 29, TAILS + 8, 3), 0);
        due("12.4 128 last", judged(27, 252, 28, 9, 29, 128, TAILS + 6, 27, TAILS + 8, 3), 0);
        due("12.4 a byte behind all", judged(27, 252, 28, 9, 29, 0, TAILS + 6, 27, TAILS + 8, 3), -14);
    }

    private static void loadInodes() {
        due("12.5 the first not at 0", judged(EXPORTS + 1, 1), -15);
        due("12.5 a place", judged(EXPORTS + 3, 13), -15);
        due("12.5 a far place", judged(EXPORTS + 8, 255), -15);
        due("12.5 kind 0", judged(HIDER_ROW, 0), -15);
        due("12.5 kind 4", judged(HIDER_ROW, 4), -15);
        due("12.5 kind 255", judged(ROOT_ROW, 255), -15);
        due("12.5 beyond INODES", judged(HIDER_ROW, 1), -15);
        due("12.5 beyond INODES by blocks", judged(FILE_ROW + 6, 255), -15);
        due("12.5 ends ahead of FOLDERS", judged(9, 96), -15);
        due("12.5 INODES cut", judged(9, 91), -15);
        due("12.5 no INODES", judged(9, 32), -15);
        due("12.5 the last row behind INODES", judged(9, 86), -15);
        due("12.5 the last row behind INODES, of no kind", judged(9, 86, HIDER_ROW, 0), -15);
        due("12.5 a row of one byte, of no kind", come(new TreeImages(), summed(
                84, 73, 8, 0, 0, 2, 0, 18, 0, 31, 0, 35, 0, 35, 0, 39, 0, 0,
                1, 0, 0, 0, 0, 1, 0, 0, 0, 1, 0, 1, 4, 0, 1, 0, 2, 0, 0, 0, 12)), -15);
        due("12.5 no such TAIL BLOCK", judged(FILE_ROW + 10, 3), -15);
        due("12.5 the other TAIL BLOCK", judged(FILE_ROW + 10, 2), 0);
        due("12.5 a TAIL BLOCK though blocks", judged(FILE_ROW + 7, 24), -15);
        due("12.5 a place though blocks", judged(FILE_ROW + 7, 24, FILE_ROW + 10, 0, FILE_ROW + 11, 1), -15);
        due("12.5 blocks alone", judged(FILE_ROW + 7, 24, FILE_ROW + 10, 0), 0);
        due("12.5 no TAIL BLOCK though a tail", judged(FILE_ROW + 10, 0), -15);
        due("12.5 tail beyond L", judged(FILE_ROW + 11, 1), -15);
        due("12.5 tail longer than L", judged(FILE_ROW + 7, 30), -15);
        due("12.5 tail within L", judged(FILE_ROW + 7, 28, FILE_ROW + 11, 1), 0);
        due("12.5 a block opens to more", judged(FILE_ROW + 13, 4), -15);
        due("12.5 a block as it is", judged(FILE_ROW + 12, 128, FILE_ROW + 13, 8, FILE_ROW + 14, 0, FILE_ROW + 15, 0), 0);
        due("12.5 a block as it is, less", judged(FILE_ROW + 12, 128, FILE_ROW + 13, 7), -15);
        due("12.5 blocks ahead of DATA", judged(FILE_ROW + 9, 17), -15);
        due("12.5 blocks elsewhere", judged(FILE_ROW + 9, 19), -15);
        due("12.5 place without blocks", judged(SMALL_ROW + 8, 255), 0);
        due("12.5 zeros, nowhere",
                judged(FILE_ROW + 8, 255, FILE_ROW + 13, 0, FILE_ROW + 15, 0), 0);
        due("12.5 blocks beyond DATA", judged(FILE_ROW + 9, 25, FILE_ROW + 13, 0, FILE_ROW + 15, 0,
                FILE_ROW + 16, 128, FILE_ROW + 17, 8), -15);
        due("12.5 blocks up to DATA's end", judged(FILE_ROW + 9, 24, FILE_ROW + 13, 0, FILE_ROW + 15, 0,
                FILE_ROW + 16, 128, FILE_ROW + 17, 8), 0);
    }

    private static void loadFolders() {
        due("12.6 the first not at 0", judged(ROOT_ROW + 7, 4), -16);
        due("12.6 a gap", judged(FOLDER_ROW + 7, 12), -16);
        due("12.6 the same again", judged(FOLDER_ROW + 7, 4), -16);
        due("12.6 beyond FOLDERS", judged(FOLDER_ROW + 9, 4), -16);
        due("12.6 far beyond", judged(FOLDER_ROW + 8, 255), -16);
        due("12.6 ends ahead", judged(FOLDER_ROW + 9, 2), -16);
        due("12.6 name 0", judged(NAMES + 1, 0), -16);
        due("12.6 name 1000", judged(NAMES + 4, 3, NAMES + 5, 232), -16);
        due("12.6 name 999", judged(NAMES + 4, 3, NAMES + 5, 231), 0);
        due("12.6 the name before", judged(NAMES + 5, 3), -16);
        due("12.6 below the one before", judged(NAMES + 13, 9, NAMES + 17, 4), -16);
        due("12.6 NUMBER 0", judged(NAMES + 15, 0), -16);
        due("12.6 NUMBER 6", judged(NAMES + 15, 6), -16);
        due("12.6 NUMBER high", judged(NAMES + 14, 255), -16);
    }

    private static void loadTree() {
        due("12.7 1 tells 2 names", judged(ROOT_ROW + 5, 2), -17);
        due("12.7 1 tells no name", judged(ROOT_ROW + 5, 0), -17);
        due("12.7 1 tells another folder", judged(ROOT_ROW + 11, 2), -17);
        due("12.7 1 is named", judged(NAMES + 15, 1), -17);
        due("12.7 more names told", judged(FILE_ROW + 5, 3), -17);
        due("12.7 fewer names told", judged(FILE_ROW + 5, 1), -17);
        due("12.7 the hider is not named", judged(NAMES + 15, 3, FILE_ROW + 5, 3), -17);
        due("12.7 neither named nor told", judged(NAMES + 15, 3, FILE_ROW + 5, 3, HIDER_ROW + 5, 0), -17);
        due("12.7 a hider twice", judged(NAMES + 19, 5, HIDER_ROW + 5, 2, FILE_ROW + 5, 1), -17);
        due("12.7 another one twice", judged(NAMES + 19, 4, SMALL_ROW + 5, 2, FILE_ROW + 5, 1), 0);
        due("12.7 a folder twice", judged(NAMES + 7, 2, FOLDER_ROW + 5, 2, FILE_ROW + 5, 1), -17);
        due("12.7 a folder tells itself", judged(FOLDER_ROW + 11, 2), -17);
        due("12.7 a folder tells a file", judged(FOLDER_ROW + 11, 3), -17);
        due("12.7 a folder tells none", judged(FOLDER_ROW + 11, 0), -17);
        due("12.7 a folder in itself", judged(NAMES + 3, 3, NAMES + 19, 2, FOLDER_ROW + 11, 2), -17);
        due("12.7 1 is a hider", come(new TreeImages(), summed(
                84, 73, 8, 0, 0, 1, 0, 18, 0, 24, 0, 24, 0, 24, 0, 26, 0, 0, 3, 0, 0, 0, 0, 1, 0, 0)), -17);
        due("12.7 1 is a file", come(new TreeImages(), summed(
                84, 73, 8, 0, 0, 1, 0, 18, 0, 30, 0, 30, 0, 30, 0, 32, 0, 0, 2, 0, 0, 0, 0, 1, 0, 0, 0, 1, 0, 0, 0, 0)), -17);
        int[] round = summed(
                84, 73, 8, 0, 0, 3, 0, 18, 0, 54, 0, 62, 0, 62, 0, 68, 0, 0,
                1, 0, 0, 0, 0, 1, 0, 0, 0, 0, 0, 1,
                1, 0, 0, 0, 0, 1, 0, 0, 0, 1, 0, 3,
                1, 0, 0, 0, 0, 1, 0, 4, 0, 1, 0, 2,
                0, 7, 0, 3, 0, 7, 0, 2, 0, 0, 0, 12, 0, 24);
        due("12.7 folders in a round", come(new TreeImages(), round), -17);
    }

    private static void loadFirstFault() {
        due("12 5 ahead of 6 and 7", judged(HIDER_ROW, 4, NAMES + 1, 0, ROOT_ROW + 5, 2), -15);
        due("12 4 ahead of 5", judged(TAILS + 4, 0, HIDER_ROW, 4), -14);
        due("12 6 ahead of 7", judged(NAMES + 15, 0, ROOT_ROW + 5, 2), -16);
        due("12 2 ahead of 3", come(new TreeImages(), changed(sample(), 15, 131)), -12);
        due("12 3 ahead of 4", come(new TreeImages(), changed(sample(), TAILS + 4, 0)), -13);
        due("12 1 ahead of 2", judged(3, 1, 15, 131), -11);
    }

    /** What no build makes, and yet is right: a file above 100 bytes, a folder below one of a greater NUMBER, bytes of none. */
    private static void loadOtherImages() {
        int[] head = {84, 73, 32, 0, 0, 4, 0, 22, 1, 14, 1, 26, 1, 26, 1, 34, 0, 0};
        int[] data = {9, 9, 225, 5};
        int[] first = {1, 0, 0, 0, 0, 1, 0, 0, 0, 1, 0, 1};
        int[] file = {2, 0, 0, 0, 0, 1, 12, 128, 0, 20, 0, 0};
        int[] hundredSizes = new int[200];
        hundredSizes[199] = 2;
        int[] inner = {1, 0, 0, 0, 0, 1, 0, 4, 0, 1, 0, 4};
        int[] outer = {1, 0, 0, 0, 0, 1, 0, 8, 0, 1, 0, 1};
        int[] names = {0, 1, 0, 4, 3, 231, 0, 2, 0, 2, 0, 3};
        int[] exports = {0, 0, 0, 12, 0, 224, 0, 236};
        TreeImages x = new TreeImages();
        due("12 another image", come(x, summed(joined(head, data, first, file, hundredSizes, inner, outer, names, exports))), 0);
        due("12 another image: DATA", x.image(0, 4), 4);
        due("12 another image: bytes", x.node(0, 2, 4), 3200);
        x.over(0);
        due("12 another image: the outer folder", x.look(0, 1), 1);
        due("12 another image: its NUMBER", x.view(1, 2), 4);
        due("12 another image: the inner folder", x.look(1, 2), 2);
        due("12 another image: the name 999", x.list(2, 0), 999);
        due("12 another image: the file", x.look(2, 999), 3);
        due("12 another image: zeros", x.read(3, 3167), 0);
        due("12 another image: the last block", x.read(3, 3168), 5);
        due("12 another image: the last byte", x.read(3, 3199), 5);
        due("12 another image: beyond", x.read(3, 3200), OUTSIDE);
    }

    private static void drop() {
        TreeImages x = new TreeImages();
        due("13 none", x.drop(), STATE);
        x.build(8);
        x.build(16);
        x.over(1);
        due("13 it is laid", x.drop(), STATE);
        x.bare();
        x.over(0);
        due("13 another is laid", x.drop(), 1);
        due("13 it is gone", x.image(1, 0), UNKNOWN);
        due("13 laid stays", x.view(0, 1), 0);
        due("13 the last is laid", x.drop(), STATE);
        x.bare();
        due("13 the last", x.drop(), 0);
        due("13 none again", x.drop(), STATE);
        x.file(0, 1);
        due("13 its number is free", x.build(32), 0);
        due("13 the new one", x.image(0, 1), 32);
    }

    private static void out() {
        TreeImages x = new TreeImages();
        due("14 unknown", x.out(0, 0), UNKNOWN);
        due("14 unknown, no throw", x.out(-1, 9999), UNKNOWN);
        x.build(8);
        due("14 first", x.out(0, 0), 84);
        due("14 last", x.out(0, 31), 0);
        due("14 byte", x.out(0, 15), 32);
        dueThrow("14 beyond", x, 0, 32);
        dueThrow("14 below", x, 0, -1);
        dueThrow("14 highest", x, 0, HIGH);
        dueThrow("14 lowest", x, 0, LOW);
        due("14 unknown image", x.out(1, 0), UNKNOWN);
        x.file(0, 1);
        x.data(1, 200, 8);
        x.build(8);
        due("14 longer", x.out(1, 19), 200);
        dueThrow("14 the first is no longer", x, 0, 40);
    }

    private static void image() {
        TreeImages x = new TreeImages();
        come(x, sample());
        int[] want = {132, 8, 5, 2, 14};
        for (int what = 0; what < 5; what++) {
            due("15 what " + what, x.image(0, what), want[what]);
        }
        due("15 outside", x.image(0, 5), OUTSIDE);
        due("15 below", x.image(0, -1), OUTSIDE);
        due("15 unknown", x.image(1, 0), UNKNOWN);
        due("15 unknown first", x.image(-1, 9), UNKNOWN);
        x.build(32);
        due("15 B", x.image(1, 1), 32);
        due("15 no DATA", x.image(1, 4), 0);
        due("15 no TAIL BLOCKS", x.image(1, 3), 0);
    }

    private static void same() {
        TreeImages x = new TreeImages();
        due("16 none", x.same(0, 0), UNKNOWN);
        x.build(8);
        x.owner(0, 1, 0);
        x.build(8);
        x.owner(0, 0, 0);
        x.build(8);
        due("16 itself", x.same(1, 1), 1);
        due("16 alike", x.same(0, 2), 1);
        due("16 not alike", x.same(0, 1), 0);
        due("16 not alike", x.same(1, 2), 0);
        due("16 unknown", x.same(0, 3), UNKNOWN);
        due("16 unknown", x.same(-1, 0), UNKNOWN);
        x.drop();
        x.file(0, 1);
        x.build(8);
        due("16 another length", x.same(0, 2), 0);
    }

    private static void node() {
        TreeImages x = new TreeImages();
        come(x, sample());
        int[][] want = {{1, 0, 0, 1, 2}, {1, 0, 0, 1, 3}, {2, 3, 258, 2, 29}, {2, 0, 0, 1, 5}, {3, 0, 0, 1, 0}};
        for (int n = 1; n <= 5; n++) {
            for (int what = 0; what < 5; what++) {
                due("17 NUMBER " + n + " what " + what, x.node(0, n, what), want[n - 1][what]);
            }
        }
        due("17 NUMBER 0", x.node(0, 0, 0), OUTSIDE);
        due("17 NUMBER 6", x.node(0, 6, 0), OUTSIDE);
        due("17 NUMBER highest", x.node(0, HIGH, 0), OUTSIDE);
        due("17 what 5", x.node(0, 1, 5), OUTSIDE);
        due("17 what -1", x.node(0, 1, -1), OUTSIDE);
        due("17 unknown", x.node(1, 1, 0), UNKNOWN);
        due("17 unknown first", x.node(-1, 9, 9), UNKNOWN);
    }

    private static void over() {
        TreeImages x = new TreeImages();
        due("18 none", x.over(0), UNKNOWN);
        x.file(0, 1);
        x.build(8);
        x.build(8);
        x.build(8);
        due("18 unknown", x.over(3), UNKNOWN);
        due("18 unknown", x.over(-1), UNKNOWN);
        due("18 first", x.over(2), 1);
        due("18 view 0", x.count(3), 1);
        due("18 a view", x.look(0, 1), 1);
        due("18 it is laid", x.over(2), STATE);
        due("18 views stay", x.count(3), 2);
        due("18 second", x.over(0), 2);
        due("18 views go", x.count(3), 1);
        due("18 a view that is gone", x.view(1, 0), UNKNOWN);
        due("18 third", x.over(1), 3);
        due("18 uppermost", x.view(0, 1), 1);
        due("18 of three", x.view(0, 6), 3);
    }

    private static void bare() {
        TreeImages x = new TreeImages();
        due("19 none", x.bare(), 0);
        x.build(8);
        x.build(8);
        x.over(1);
        x.over(0);
        due("19 two", x.bare(), 2);
        due("19 none is laid", x.count(2), 0);
        due("19 no view", x.count(3), 0);
        due("19 not even 0", x.look(0, 1), UNKNOWN);
        due("19 images stay", x.count(1), 2);
        due("19 laid again", x.over(1), 1);
    }

    private static void look() {
        TreeImages x = new TreeImages();
        due("20 none is laid", x.look(0, 1), UNKNOWN);
        come(x, sample());
        x.over(0);
        due("20 unknown", x.look(1, 1), UNKNOWN);
        due("20 unknown first", x.look(-1, 0), UNKNOWN);
        due("20 name 0", x.look(0, 0), OUTSIDE);
        due("20 name 1000", x.look(0, 1000), OUTSIDE);
        due("20 nothing", x.look(0, 999), 0);
        due("20 a file", x.look(0, 5), 1);
        due("20 a folder", x.look(0, 3), 2);
        due("20 below a file", x.look(1, 1), STATE);
        due("20 outside ahead of state", x.look(1, 0), OUTSIDE);
        due("20 a hider", x.look(2, 4), 0);
        due("20 the file again, by a link", x.look(2, 9), 1);
        due("20 the folder again", x.look(0, 3), 2);
        due("20 another file", x.look(2, 1), 3);
        due("20 views", x.count(3), 4);
    }

    /** Lays a lower, a middle and an upper image, each with a folder 1 of files, and other things by the same names. */
    private static TreeImages threeLayers() {
        TreeImages x = new TreeImages();
        // lower: 1 / 1 2 3, 2 folder / 1, 3 folder / 1, 4 folder / 1, 5 file, 6 folder / 1
        for (int name = 1; name <= 6; name++) {
            int node = name == 5 ? x.file(0, name) : x.folder(0, name);
            if (name != 5) {
                x.data(x.file(node, 1), 10 + name, 1);
            }
        }
        x.file(1, 2);
        x.file(1, 3);
        x.build(8);
        x.clear();
        // middle: 1 / 2 hidden, 3 file of another byte, 4; 2 hidden; 3 file; 5 folder / 1; 6 not there
        int one = x.folder(0, 1);
        x.hide(one, 2);
        x.data(x.file(one, 3), 77, 2);
        x.file(one, 4);
        x.hide(0, 2);
        x.file(0, 3);
        x.file(x.folder(0, 5), 1);
        x.build(8);
        x.clear();
        // upper: 1 / 4 hidden, 5; 2 folder / 9; 3 folder / 9; 5 folder / 9; 6 folder / 9; 7 file
        one = x.folder(0, 1);
        x.hide(one, 4);
        x.file(one, 5);
        x.file(x.folder(0, 2), 9);
        x.file(x.folder(0, 3), 9);
        x.file(x.folder(0, 5), 9);
        x.owner(x.folder(0, 6), 66, 67);
        x.file(0, 7);
        x.build(8);
        x.over(0);
        x.over(1);
        x.over(2);
        return x;
    }

    private static void lookThroughLayers() {
        TreeImages x = threeLayers();
        int one = x.look(0, 1);
        due("20 of three images", x.view(one, 6), 3);
        due("20 from the lowest", x.view(x.look(one, 1), 1), 0);
        due("20 hidden by the middle", x.look(one, 2), 0);
        due("20 covered by the middle", x.view(x.look(one, 3), 1), 1);
        due("20 covered bytes", x.read(x.look(one, 3), 1), 77);
        due("20 hidden by the upper", x.look(one, 4), 0);
        due("20 from the upper", x.view(x.look(one, 5), 1), 2);
        int two = x.look(0, 2);
        due("20 a hider ends them", x.view(two, 6), 1);
        due("20 what is below it is not there", x.look(two, 1), 0);
        int three = x.look(0, 3);
        due("20 a file ends them", x.view(three, 6), 1);
        due("20 below the file nothing", x.look(three, 1), 0);
        int four = x.look(0, 4);
        due("20 from the lowest alone", x.view(four, 1), 0);
        due("20 of one image", x.view(four, 6), 1);
        due("20 its file", x.read(x.look(four, 1), 0), 14);
        int five = x.look(0, 5);
        due("20 two folders over a file", x.view(five, 6), 2);
        due("20 of the middle", x.view(x.look(five, 1), 1), 1);
        int six = x.look(0, 6);
        due("20 the middle is passed over", x.view(six, 6), 2);
        due("20 the lowest below", x.read(x.look(six, 1), 0), 16);
        due("20 a file of the upper", x.view(x.look(0, 7), 0), 2);
        // in another order
        x.bare();
        x.over(2);
        x.over(1);
        due("20 hidden now", x.look(0, 2), 0);
        due("20 a file now", x.view(x.look(0, 3), 0), 2);
        due("20 not laid", x.look(0, 4), 0);
    }

    private static void lookRoom() {
        TreeImages x = new TreeImages();
        for (int image = 0; image < 2; image++) {
            for (int n = 1; n <= 31; n++) {
                x.file(0, n + 31 * image);
            }
            x.build(8);
            x.over(image);
            x.clear();
        }
        for (int n = 1; n <= 59; n++) {
            due("20 view " + n, x.look(0, n), n);
        }
        due("20 sixty", x.count(3), 60);
        due("20 the 61st", x.look(0, 60), ROOM);
        due("20 known ones", x.look(0, 59), 59);
        due("20 nothing, without room", x.look(0, 65), 0);
        due("20 still sixty", x.count(3), 60);
    }

    private static void list() {
        TreeImages x = new TreeImages();
        due("21 none is laid", x.list(0, 0), UNKNOWN);
        x = threeLayers();
        due("21 unknown", x.list(1, 0), UNKNOWN);
        due("21 below 0", x.list(0, -1), OUTSIDE);
        int[] names = {1, 2, 3, 4, 5, 6, 7, 0, 0};
        for (int i = 0; i < names.length; i++) {
            due("21 all, " + i, x.list(0, i), names[i]);
        }
        due("21 highest", x.list(0, HIGH), 0);
        due("21 no view by it", x.count(3), 1);
        int one = x.look(0, 1);
        int[] below = {1, 3, 5, 0};
        for (int i = 0; i < below.length; i++) {
            due("21 below 1, " + i, x.list(one, i), below[i]);
        }
        int file = x.look(0, 7);
        due("21 a file", x.list(file, 0), STATE);
        due("21 outside ahead of state", x.list(file, LOW), OUTSIDE);
    }

    private static void view() {
        TreeImages x = new TreeImages();
        due("22 none is laid", x.view(0, 0), UNKNOWN);
        x = threeLayers();
        int[] first = {1, 2, 1, 7, 0, 0, 3};
        for (int what = 0; what < 7; what++) {
            due("22 view 0 what " + what, x.view(0, what), first[what]);
        }
        int six = x.look(0, 6);
        int[] folder = {1, 2, 6, 1, 67, 66, 2};
        for (int what = 0; what < 7; what++) {
            due("22 folder what " + what, x.view(six, what), folder[what]);
        }
        int three = x.look(x.look(0, 1), 3);
        int[] file = {2, 1, 7, 2, 0, 0, 1};
        for (int what = 0; what < 7; what++) {
            due("22 file what " + what, x.view(three, what), file[what]);
        }
        due("22 names that lead", x.view(x.look(0, 1), 3), 3);
        due("22 outside", x.view(0, 7), OUTSIDE);
        due("22 below", x.view(0, -1), OUTSIDE);
        due("22 unknown", x.view(60, 0), UNKNOWN);
        due("22 unknown first", x.view(-1, 7), UNKNOWN);
    }

    private static void read() {
        TreeImages x = new TreeImages();
        due("23 none is laid", x.read(0, 0), UNKNOWN);
        come(x, sample());
        x.over(0);
        int file = x.look(0, 5);
        for (int i = 0; i < 29; i++) {
            due("23 byte " + i, x.read(file, i), i < 10 ? 7 : i < 26 ? 0 : 1);
        }
        due("23 beyond", x.read(file, 29), OUTSIDE);
        due("23 highest", x.read(file, HIGH), OUTSIDE);
        due("23 below", x.read(file, -1), OUTSIDE);
        due("23 unknown", x.read(9, 0), UNKNOWN);
        due("23 unknown first", x.read(-1, -1), UNKNOWN);
        due("23 a folder", x.read(0, 0), STATE);
        due("23 a folder, far", x.read(0, HIGH), STATE);
        due("23 below 0 of a folder", x.read(0, -1), OUTSIDE);
        int small = x.look(x.look(0, 3), 1);
        due("23 a tail in the second block", x.read(small, 4), 9);
        due("23 behind the tail", x.read(small, 5), OUTSIDE);
        // packed otherwise than by a build: 0 2 | 128 | 254 9 | 0 5 | 128 opens to 2 9 9 9 5
        int[] m = changed(sample(), 18, 0, 19, 2, 20, 128, 21, 254, 22, 9, 23, 0, 24, 5, 25, 128,
                TAILS + 6, 18, TAILS + 8, 8, FILE_ROW + 13, 0, FILE_ROW + 15, 0);
        summed(m);
        TreeImages y = new TreeImages();
        due("23 packed otherwise", come(y, m), 0);
        y.over(0);
        small = y.look(y.look(0, 3), 1);
        int[] want = {2, 9, 9, 9, 5, OUTSIDE};
        for (int i = 0; i < want.length; i++) {
            due("23 packed otherwise " + i, y.read(small, i), want[i]);
        }
        TreeImages z = new TreeImages();
        z.file(0, 1);
        z.build(8);
        z.over(0);
        due("23 an empty file", z.read(z.look(0, 1), 0), OUTSIDE);
    }

    private static void count() {
        TreeImages x = new TreeImages();
        x.file(0, 1);
        x.file(0, 2);
        x.build(8);
        x.build(8);
        x.over(1);
        x.look(0, 2);
        x.feed(0, 0, 0, 0, 0);
        x.end(19);
        int[] want = {3, 2, 1, 2, 19};
        for (int what = 0; what < 5; what++) {
            due("24 what " + what, x.count(what), want[what]);
        }
        due("24 outside", x.count(5), OUTSIDE);
        due("24 below", x.count(-1), OUTSIDE);
        x.bare();
        due("24 no views", x.count(3), 0);
    }
}
