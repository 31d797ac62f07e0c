import java.util.Arrays;

/** What the tests share: answers that are due, rows of bytes, and objects that must stay as they were. */
abstract class Checks {
    static final int NONE = 0, UNKNOWN = -1, OUTSIDE = -2, STATE = -3, ROOM = -4;
    static final int LOW = Integer.MIN_VALUE, HIGH = Integer.MAX_VALUE;

    /** The places of the rows of sample(). */
    static final int ROOT_ROW = 32, FOLDER_ROW = 44, FILE_ROW = 56, SMALL_ROW = 74, HIDER_ROW = 86;
    static final int NAMES = 92, TAILS = 112, EXPORTS = 122;

    private static int wrong = 0;
    private static int asked = 0;

    interface Setup {
        void on(TreeImages x);
    }

    interface Call {
        int on(TreeImages x);
    }

    static void due(String what, int got, int want) {
        asked++;
        if (got != want) {
            wrong++;
            System.out.println(what + " answered " + got + ", due is " + want);
        }
    }

    static void dueBytes(String what, int[] got, int... want) {
        asked++;
        if (!Arrays.equals(got, want)) {
            wrong++;
            System.out.println(what + " are " + Arrays.toString(got) + ", due are " + Arrays.toString(want));
        }
    }

    static void dueThrow(String what, TreeImages x, int image, int i) {
        int thrown = 0;
        try {
            x.out(image, i);
        } catch (ArrayIndexOutOfBoundsException e) {
            thrown = 1;
        }
        due(what + " throws", thrown, 1);
    }

    static void finish() {
        System.out.println(wrong == 0 ? "all " + asked + " answers are as due" : wrong + " answers are not as due");
        if (wrong != 0) {
            System.exit(1);
        }
    }

    static TreeImages made(Setup setup) {
        TreeImages x = new TreeImages();
        setup.on(x);
        return x;
    }

    /** The call answers so, and leaves everything as it is on an object to which the call did not come. */
    static void refused(String what, Setup setup, int want, Call call) {
        TreeImages x = made(setup);
        due(what, call.on(x), want);
        dueBytes(what + ": all that is told then", everything(x), everything(made(setup)));
    }

    /** All that calls tell of an object. Some of them change it: behind this it is of no use. */
    static int[] everything(TreeImages x) {
        int[] all = counts(x);
        int images = all[1];
        int views = all[3];
        for (int image = 0; image < images; image++) {
            all = joined(all, brief(x, image));
        }
        for (int view = 0; view < views; view++) {
            all = joined(all, new int[] {x.view(view, 1), x.view(view, 2), x.view(view, 3), x.view(view, 6)});
        }
        all = joined(all, new int[] {x.bare()});
        for (int image = 0; image < images; image++) {
            x.drop();
        }
        return joined(all, treeTold(x, all[0]), tapeTold(x));
    }

    private static int[] counts(TreeImages x) {
        return new int[] {x.count(0), x.count(1), x.count(2), x.count(3), x.count(4)};
    }

    /** LENGTH and SUM, which hardly two images share. */
    private static int[] brief(TreeImages x, int image) {
        return new int[] {x.image(image, 0), x.out(image, 16), x.out(image, 17)};
    }

    /** The tree, and which NODE is which by owners that tell it. */
    private static int[] treeTold(TreeImages x, int nodes) {
        int[] told = brief(x, x.build(8));
        for (int node = 0; node < nodes; node++) {
            x.owner(node, 100 + node, 0);
        }
        told = joined(told, brief(x, x.build(16)));
        x.drop();
        x.drop();
        return told;
    }

    private static int[] tapeTold(TreeImages x) {
        int answer = x.load();
        return answer == 0 ? joined(new int[] {answer}, brief(x, 0)) : new int[] {answer};
    }

    static int[] bytesOf(TreeImages x, int image) {
        int[] bytes = new int[x.image(image, 0)];
        for (int i = 0; i < bytes.length; i++) {
            bytes[i] = x.out(image, i);
        }
        return bytes;
    }

    /** The bytes come by the tape. */
    static void feedAll(TreeImages x, int[] bytes) {
        int[] full = Arrays.copyOf(bytes, (bytes.length + 19) / 20 * 20);
        int[] five = new int[5];
        for (int at = 0; at < full.length; at += 20) {
            for (int i = 0; i < 5; i++) {
                int from = at + 4 * i;
                five[i] = full[from] << 24 | full[from + 1] << 16 | full[from + 2] << 8 | full[from + 3];
            }
            x.feed(five[0], five[1], five[2], five[3], five[4]);
        }
        x.end(bytes.length);
    }

    /** The bytes come by the tape and are loaded. */
    static int come(TreeImages x, int[] bytes) {
        feedAll(x, bytes);
        return x.load();
    }

    /** What the tape answers to these bytes on a new object. */
    static int comes(int... bytes) {
        return come(new TreeImages(), bytes);
    }

    /** The tree of the document's test: folder 2 (3), file 3 (5 and 9 in 2), file 4 (1 in 2), hider 5 (4 in 2). */
    static int[] sample() {
        TreeImages x = new TreeImages();
        x.file(0, 5);
        x.data(1, 7, 10);
        x.data(1, 0, 16);
        x.data(1, 1, 3);
        x.folder(0, 3);
        x.link(2, 9, 1);
        x.hide(2, 4);
        x.file(2, 1);
        x.data(4, 9, 5);
        x.owner(1, 258, 3);
        x.build(8);
        return bytesOf(x, 0);
    }

    /** Judges the sample with some bytes changed (place, byte, ..) and its SUM set anew. */
    static int judged(int... changes) {
        return comes(summed(changed(sample(), changes)));
    }

    static int[] changed(int[] bytes, int... changes) {
        for (int i = 0; i + 1 < changes.length; i += 2) {
            bytes[changes[i]] = changes[i + 1];
        }
        return bytes;
    }

    static int[] summed(int... bytes) {
        long sum = 0;
        for (int i = 0; i < bytes.length; i++) {
            sum += i == 16 || i == 17 ? 0 : (long) bytes[i] * (i + 1);
        }
        setWord(bytes, 16, (int) (sum % 65521));
        return bytes;
    }

    static void setWord(int[] bytes, int place, int word) {
        bytes[place] = word >> 8;
        bytes[place + 1] = word & 255;
    }

    static int word(int[] bytes, int place) {
        return bytes[place] * 256 + bytes[place + 1];
    }

    /** Where the row of a NUMBER begins. */
    static int row(int[] bytes, int number) {
        return word(bytes, 6) + word(bytes, word(bytes, 12) + 2 * number - 2);
    }

    static int[] part(int[] bytes, int from, int many) {
        return Arrays.copyOfRange(bytes, from, from + many);
    }

    static int[] joined(int[]... parts) {
        int[] all = {};
        for (int[] part : parts) {
            int from = all.length;
            all = Arrays.copyOf(all, from + part.length);
            System.arraycopy(part, 0, all, from, part.length);
        }
        return all;
    }

    /** An image of five parts, each as the document lays it down, with places, LENGTH and SUM set. */
    static int[] imageOf(int b, int[] data, int[] inodes, int[] folders, int[] tails, int... exports) {
        int[] head = {84, 73, b, 0, 0, 0, 0, 0, 0, 0, 0, 0, 0, 0, 0, 0, 0, 0};
        int[] rows = new int[2 * exports.length];
        for (int i = 0; i < exports.length; i++) {
            setWord(rows, 2 * i, exports[i]);
        }
        int[] all = joined(head, data, inodes, folders, tails, rows);
        setWord(all, 4, exports.length);
        setWord(all, 6, 18 + data.length);
        setWord(all, 8, 18 + data.length + inodes.length);
        setWord(all, 10, 18 + data.length + inodes.length + folders.length);
        setWord(all, 12, all.length - rows.length);
        setWord(all, 14, all.length);
        return summed(all);
    }

    /** Each word as two bytes, the higher first. */
    static int[] words(int... words) {
        int[] bytes = new int[2 * words.length];
        for (int i = 0; i < words.length; i++) {
            setWord(bytes, 2 * i, words[i]);
        }
        return bytes;
    }
}
