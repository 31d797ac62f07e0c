/**
 * 'Calls answer, the first of these that fits: UNKNOWN -1, OUTSIDE -2, STATE -3, ROOM -4; then nothing changes.'
 * Each answer that a promise names, each pair of which two would do, and all that is told of the object then.
 */
public final class RefusalsTest extends Checks {
    private static final int[] OFF = {-1, LOW, HIGH};

    public static void main(String[] args) {
        adding("2 folder", (x, folder, name) -> x.folder(folder, name));
        adding("3 file", (x, folder, name) -> x.file(folder, name));
        adding("4 hide", (x, folder, name) -> x.hide(folder, name));
        link();
        linkOrder();
        data();
        owner();
        build();
        feed();
        end();
        load();
        drop();
        out();
        imageSameAndNode();
        over();
        look();
        lookWithoutRoom();
        listViewAndRead();
        count();
        nothingLaid();
        answersOfNone();
        finish();
    }

    interface Adding {
        int on(TreeImages x, int folder, int name);
    }

    /**
     * NODES: 1 a folder (1), 2 a FILE of ten bytes (1/2), 3 a HIDER (1/3), 4 a FILE of nine names (4, 11 to 18),
     * 5 a FILE of 100 bytes (5), 6 a folder (1/6). Images 0 and 1 are there, both laid; 1 a folder, 2 and 3 FILES are VIEWS.
     * On the tape is the image of the folder 0 alone.
     */
    private static void busy(TreeImages x) {
        x.folder(0, 1);
        x.file(1, 2);
        x.data(2, 7, 10);
        x.hide(1, 3);
        x.file(0, 4);
        for (int n = 1; n < 9; n++) {
            x.link(n % 2, 10 + n, 4);
        }
        x.file(0, 5);
        x.data(5, 9, 100);
        x.folder(1, 6);
        x.owner(2, 258, 772);
        x.build(8);
        x.build(16);
        x.over(1);
        x.over(0);
        x.look(0, 1);
        x.look(1, 2);
        x.look(0, 4);
        x.feed(0x54490800, 0x00010012, 0x001e001e, 0x001e0020, 0x08150100);
        x.feed(0x00000001, 0x00000000, 0x00010000, 0, 0);
        x.end(32);
    }

    private static void fullTree(TreeImages x) {
        busy(x);
        for (int node = 7; node < 32; node++) {
            x.file(6, node);
        }
    }

    private static void threeImages(TreeImages x) {
        busy(x);
        x.build(32);
    }

    private static void fullTape(TreeImages x) {
        busy(x);
        x.end(0);
        for (int n = 0; n < 200; n++) {
            x.feed(n, n, n, n, n);
        }
    }

    /** VIEWS 1 to 58 are FILES, 59 is a folder; the names 60 to 62 lead to more. */
    private static void fullViews(TreeImages x) {
        for (int image = 0; image < 2; image++) {
            x.clear();
            for (int n = 1; n <= 30; n++) {
                x.file(0, 30 * image + n);
            }
            x.folder(0, 61 + image);
            x.build(8);
            x.over(image);
        }
        for (int n = 1; n <= 58; n++) {
            x.look(0, n);
        }
        x.look(0, 61);
    }

    private static void adding(String what, Adding add) {
        Setup[] setups = {RefusalsTest::busy, RefusalsTest::fullTree};
        String[] called = {what + ", busy", what + ", full"};
        for (int full = 0; full < 2; full++) {
            Setup setup = setups[full];
            String name = called[full];
            for (int off : OFF) {
                refused(name + ": UNKNOWN " + off, setup, UNKNOWN, x -> add.on(x, off, 50));
                refused(name + ": UNKNOWN ahead of OUTSIDE", setup, UNKNOWN, x -> add.on(x, off, off));
                refused(name + ": OUTSIDE " + off, setup, OUTSIDE, x -> add.on(x, 0, off));
                refused(name + ": OUTSIDE ahead of STATE", setup, OUTSIDE, x -> add.on(x, 2, off));
            }
            int next = full == 0 ? 7 : 32;
            refused(name + ": the next NODE is UNKNOWN", setup, UNKNOWN, x -> add.on(x, next, 50));
            refused(name + ": name 0", setup, OUTSIDE, x -> add.on(x, 0, 0));
            refused(name + ": name 1000", setup, OUTSIDE, x -> add.on(x, 0, 1000));
            refused(name + ": below a FILE", setup, STATE, x -> add.on(x, 2, 50));
            refused(name + ": below a HIDER", setup, STATE, x -> add.on(x, 3, 50));
            refused(name + ": a folder's name", setup, STATE, x -> add.on(x, 0, 1));
            refused(name + ": a FILE's name", setup, STATE, x -> add.on(x, 1, 2));
            refused(name + ": a HIDER's name", setup, STATE, x -> add.on(x, 1, 3));
            refused(name + ": a LINK's name", setup, STATE, x -> add.on(x, 0, 12));
            refused(name + ": a LINK's name elsewhere", setup, STATE, x -> add.on(x, 1, 11));
        }
        refused(what + ": ROOM", RefusalsTest::fullTree, ROOM, x -> add.on(x, 0, 50));
        refused(what + ": ROOM below a folder", RefusalsTest::fullTree, ROOM, x -> add.on(x, 6, 1));
    }

    private static void link() {
        Setup busy = RefusalsTest::busy;
        for (int off : OFF) {
            refused("5 folder " + off, busy, UNKNOWN, x -> x.link(off, 50, 2));
            refused("5 file " + off, busy, UNKNOWN, x -> x.link(0, 50, off));
            refused("5 both " + off, busy, UNKNOWN, x -> x.link(off, 50, off));
            refused("5 name " + off, busy, OUTSIDE, x -> x.link(0, off, 2));
        }
        refused("5 the next folder", busy, UNKNOWN, x -> x.link(7, 50, 2));
        refused("5 the next file", busy, UNKNOWN, x -> x.link(0, 50, 7));
        refused("5 name 0", busy, OUTSIDE, x -> x.link(0, 0, 2));
        refused("5 name 1000", busy, OUTSIDE, x -> x.link(0, 1000, 2));
        refused("5 below a FILE", busy, STATE, x -> x.link(5, 50, 2));
        refused("5 below itself", busy, STATE, x -> x.link(2, 50, 2));
        refused("5 below a HIDER", busy, STATE, x -> x.link(3, 50, 2));
        refused("5 its own name", busy, STATE, x -> x.link(1, 2, 2));
        refused("5 a folder's name", busy, STATE, x -> x.link(1, 6, 2));
        refused("5 a HIDER's name", busy, STATE, x -> x.link(1, 3, 2));
        refused("5 of a folder", busy, STATE, x -> x.link(0, 50, 1));
        refused("5 of the folder 0", busy, STATE, x -> x.link(1, 50, 0));
        refused("5 of a HIDER", busy, STATE, x -> x.link(0, 50, 3));
        refused("5 ROOM", busy, ROOM, x -> x.link(0, 50, 4));
        refused("5 ROOM elsewhere", busy, ROOM, x -> x.link(6, 50, 4));
    }

    private static void linkOrder() {
        Setup busy = RefusalsTest::busy;
        refused("5 UNKNOWN folder ahead of OUTSIDE", busy, UNKNOWN, x -> x.link(7, 0, 2));
        refused("5 UNKNOWN file ahead of OUTSIDE", busy, UNKNOWN, x -> x.link(0, 1000, 7));
        refused("5 UNKNOWN folder ahead of no FILE", busy, UNKNOWN, x -> x.link(7, 50, 1));
        refused("5 UNKNOWN file ahead of no folder", busy, UNKNOWN, x -> x.link(2, 50, 7));
        refused("5 UNKNOWN file ahead of a name that is there", busy, UNKNOWN, x -> x.link(0, 1, 7));
        refused("5 UNKNOWN folder ahead of ROOM", busy, UNKNOWN, x -> x.link(7, 50, 4));
        refused("5 OUTSIDE ahead of no folder", busy, OUTSIDE, x -> x.link(2, 0, 2));
        refused("5 OUTSIDE ahead of no FILE", busy, OUTSIDE, x -> x.link(0, 1000, 1));
        refused("5 OUTSIDE ahead of ROOM", busy, OUTSIDE, x -> x.link(0, 0, 4));
        refused("5 no folder ahead of ROOM", busy, STATE, x -> x.link(2, 50, 4));
        refused("5 a name that is there ahead of ROOM", busy, STATE, x -> x.link(0, 4, 4));
        refused("5 another's name ahead of ROOM", busy, STATE, x -> x.link(0, 1, 4));
        // a full tree is no ROOM for names
        TreeImages full = made(RefusalsTest::fullTree);
        due("5 a full tree", full.link(0, 50, 31), 2);
    }

    private static void data() {
        Setup busy = RefusalsTest::busy;
        for (int off : OFF) {
            refused("6 UNKNOWN " + off, busy, UNKNOWN, x -> x.data(off, 1, 1));
            refused("6 UNKNOWN ahead of OUTSIDE byte", busy, UNKNOWN, x -> x.data(7, off, 1));
            refused("6 UNKNOWN ahead of OUTSIDE times", busy, UNKNOWN, x -> x.data(7, 1, off));
            refused("6 byte " + off, busy, OUTSIDE, x -> x.data(2, off, 1));
            refused("6 times " + off, busy, OUTSIDE, x -> x.data(2, 1, off));
            refused("6 both " + off, busy, OUTSIDE, x -> x.data(2, off, off));
            refused("6 OUTSIDE byte ahead of STATE", busy, OUTSIDE, x -> x.data(1, off, 1));
            refused("6 OUTSIDE times ahead of STATE", busy, OUTSIDE, x -> x.data(3, 1, off));
            refused("6 OUTSIDE byte ahead of ROOM", busy, OUTSIDE, x -> x.data(5, off, 1));
            refused("6 OUTSIDE times ahead of ROOM", busy, OUTSIDE, x -> x.data(5, 1, off));
        }
        refused("6 the next NODE", busy, UNKNOWN, x -> x.data(7, 1, 1));
        refused("6 byte 256", busy, OUTSIDE, x -> x.data(2, 256, 1));
        refused("6 times 0", busy, OUTSIDE, x -> x.data(2, 1, 0));
        refused("6 times 101", busy, OUTSIDE, x -> x.data(2, 1, 101));
        refused("6 times 101 of a full FILE", busy, OUTSIDE, x -> x.data(5, 1, 101));
        refused("6 the folder 0", busy, STATE, x -> x.data(0, 1, 1));
        refused("6 a folder", busy, STATE, x -> x.data(1, 1, 100));
        refused("6 a HIDER", busy, STATE, x -> x.data(3, 1, 1));
        refused("6 ROOM for none of 91", busy, ROOM, x -> x.data(2, 1, 91));
        refused("6 ROOM for none of 100", busy, ROOM, x -> x.data(2, 1, 100));
        refused("6 ROOM in a full FILE", busy, ROOM, x -> x.data(5, 1, 1));
    }

    private static void owner() {
        Setup busy = RefusalsTest::busy;
        for (int off : OFF) {
            refused("7 UNKNOWN " + off, busy, UNKNOWN, x -> x.owner(off, 1, 1));
            refused("7 UNKNOWN ahead of OUTSIDE", busy, UNKNOWN, x -> x.owner(7, off, off));
            refused("7 owner " + off, busy, OUTSIDE, x -> x.owner(2, off, 1));
            refused("7 mode " + off, busy, OUTSIDE, x -> x.owner(2, 1, off));
        }
        refused("7 the next NODE", busy, UNKNOWN, x -> x.owner(7, 1, 1));
        refused("7 owner 65536", busy, OUTSIDE, x -> x.owner(2, 65536, 1));
        refused("7 mode 65536", busy, OUTSIDE, x -> x.owner(2, 1, 65536));
    }

    private static void build() {
        int[] blocks = {0, 7, 9, 64, -8, LOW, HIGH};
        for (int b : blocks) {
            refused("9 B " + b, RefusalsTest::busy, OUTSIDE, x -> x.build(b));
            refused("9 OUTSIDE ahead of ROOM, B " + b, RefusalsTest::threeImages, OUTSIDE, x -> x.build(b));
        }
        for (int b = 8; b <= 32; b *= 2) {
            int taken = b;
            refused("9 ROOM, B " + b, RefusalsTest::threeImages, ROOM, x -> x.build(taken));
        }
    }

    private static void feed() {
        refused("10 ROOM", RefusalsTest::fullTape, ROOM, x -> x.feed(1, 2, 3, 4, 5));
        refused("10 ROOM for less than 20", RefusalsTest::almostFullTape, ROOM, x -> x.feed(-1, -1, -1, -1, -1));
    }

    /** An image of 3981 bytes: what comes behind it would show. */
    private static void almostFullTape(TreeImages x) {
        int[] inodes = joined(new int[] {1, 0, 0, 0, 0, 1}, words(0, 0, 1));
        feedAll(x, imageOf(8, new int[3981 - 32], inodes, new int[0], new int[0], 0));
    }

    private static void end() {
        for (int off : OFF) {
            refused("11 " + off, RefusalsTest::busy, OUTSIDE, x -> x.end(off));
        }
        refused("11 33 of 32", RefusalsTest::busy, OUTSIDE, x -> x.end(33));
        refused("11 40 of 32, though fed once", RefusalsTest::busy, OUTSIDE, x -> x.end(40));
        refused("11 4001 of 4000", RefusalsTest::fullTape, OUTSIDE, x -> x.end(4001));
    }

    /** 'The tape, which is empty then (not with ROOM)' */
    private static void load() {
        refused("12 ROOM", RefusalsTest::threeImages, ROOM, x -> x.load());
        refused("12 ROOM with a tape that has a FAULT", x -> {
            threeImages(x);
            x.end(31);
        }, ROOM, x -> x.load());
        refused("12 ROOM with an empty tape", x -> {
            threeImages(x);
            x.end(0);
        }, ROOM, x -> x.load());
        // a FAULT empties the tape and changes nothing else
        TreeImages faulty = made(RefusalsTest::busy);
        faulty.end(31);
        due("12 a FAULT", faulty.load(), -12);
        TreeImages cut = made(RefusalsTest::busy);
        cut.end(0);
        dueBytes("12 a FAULT empties the tape alone", everything(faulty), everything(cut));
    }

    private static void drop() {
        refused("13 it is laid", RefusalsTest::busy, STATE, x -> x.drop());
        refused("13 it is laid, the lowest", x -> {
            busy(x);
            x.bare();
            x.over(1);
            x.over(0);
        }, STATE, x -> x.drop());
        refused("13 it is laid, the uppermost", x -> {
            busy(x);
            x.bare();
            x.over(0);
            x.over(1);
        }, STATE, x -> x.drop());
        refused("13 there is none", x -> x.folder(0, 1), STATE, x -> x.drop());
    }

    private static int thrown(TreeImages x, int image, int i) {
        try {
            return x.out(image, i);
        } catch (ArrayIndexOutOfBoundsException e) {
            return HIGH;
        }
    }

    private static void out() {
        Setup busy = RefusalsTest::busy;
        for (int off : OFF) {
            refused("14 image " + off, busy, UNKNOWN, x -> thrown(x, off, 0));
            refused("14 UNKNOWN ahead of the exception", busy, UNKNOWN, x -> thrown(x, 2, off));
            refused("14 the exception, " + off, busy, HIGH, x -> thrown(x, 0, off));
        }
        refused("14 the exception, LENGTH", busy, HIGH, x -> thrown(x, 1, x.image(1, 0)));
        refused("14 the exception, 65536", busy, HIGH, x -> thrown(x, 0, 65536));
    }

    private static void imageSameAndNode() {
        Setup busy = RefusalsTest::busy;
        for (int off : OFF) {
            refused("15 image " + off, busy, UNKNOWN, x -> x.image(off, 0));
            refused("15 UNKNOWN ahead of OUTSIDE", busy, UNKNOWN, x -> x.image(2, off));
            refused("15 what " + off, busy, OUTSIDE, x -> x.image(0, off));
            refused("16 image " + off, busy, UNKNOWN, x -> x.same(off, 0));
            refused("16 other " + off, busy, UNKNOWN, x -> x.same(0, off));
            refused("17 image " + off, busy, UNKNOWN, x -> x.node(off, 1, 0));
            refused("17 UNKNOWN ahead of a NUMBER", busy, UNKNOWN, x -> x.node(2, off, 0));
            refused("17 UNKNOWN ahead of what", busy, UNKNOWN, x -> x.node(2, 1, off));
            refused("17 NUMBER " + off, busy, OUTSIDE, x -> x.node(0, off, 0));
            refused("17 what " + off, busy, OUTSIDE, x -> x.node(0, 1, off));
        }
        refused("15 the next image", busy, UNKNOWN, x -> x.image(2, 0));
        refused("15 what 5", busy, OUTSIDE, x -> x.image(0, 5));
        refused("16 the next image", busy, UNKNOWN, x -> x.same(1, 2));
        refused("16 the next other", busy, UNKNOWN, x -> x.same(2, 1));
        refused("17 the next image", busy, UNKNOWN, x -> x.node(2, 1, 0));
        refused("17 NUMBER 0", busy, OUTSIDE, x -> x.node(0, 0, 0));
        refused("17 the next NUMBER", busy, OUTSIDE, x -> x.node(0, 8, 0));
        refused("17 what 5", busy, OUTSIDE, x -> x.node(0, 7, 5));
    }

    private static void over() {
        Setup busy = RefusalsTest::busy;
        for (int off : OFF) {
            refused("18 image " + off, busy, UNKNOWN, x -> x.over(off));
        }
        refused("18 the next image", busy, UNKNOWN, x -> x.over(2));
        refused("18 the lowest is laid", busy, STATE, x -> x.over(1));
        refused("18 the uppermost is laid", busy, STATE, x -> x.over(0));
        refused("18 no image", x -> x.folder(0, 1), UNKNOWN, x -> x.over(0));
    }

    private static void look() {
        Setup busy = RefusalsTest::busy;
        for (int off : OFF) {
            refused("20 VIEW " + off, busy, UNKNOWN, x -> x.look(off, 1));
            refused("20 UNKNOWN ahead of OUTSIDE", busy, UNKNOWN, x -> x.look(4, off));
            refused("20 name " + off, busy, OUTSIDE, x -> x.look(0, off));
            refused("20 OUTSIDE ahead of STATE", busy, OUTSIDE, x -> x.look(2, off));
        }
        refused("20 the next VIEW", busy, UNKNOWN, x -> x.look(4, 1));
        refused("20 name 0", busy, OUTSIDE, x -> x.look(1, 0));
        refused("20 name 1000", busy, OUTSIDE, x -> x.look(1, 1000));
        refused("20 a FILE", busy, STATE, x -> x.look(2, 1));
        refused("20 a FILE of several names", busy, STATE, x -> x.look(3, 4));
    }

    private static void lookWithoutRoom() {
        Setup full = RefusalsTest::fullViews;
        refused("20 ROOM for no FILE", full, ROOM, x -> x.look(0, 60));
        refused("20 ROOM for no folder", full, ROOM, x -> x.look(0, 62));
        refused("20 UNKNOWN ahead of ROOM", full, UNKNOWN, x -> x.look(60, 60));
        refused("20 OUTSIDE ahead of ROOM", full, OUTSIDE, x -> x.look(0, 1000));
        refused("20 STATE ahead of ROOM", full, STATE, x -> x.look(58, 60));
        refused("20 nothing, without ROOM", full, NONE, x -> x.look(0, 63));
        refused("20 one that is there, without ROOM", full, 58, x -> x.look(0, 58));
    }

    private static void listViewAndRead() {
        Setup busy = RefusalsTest::busy;
        for (int off : OFF) {
            refused("21 VIEW " + off, busy, UNKNOWN, x -> x.list(off, 0));
            refused("21 UNKNOWN ahead of OUTSIDE", busy, UNKNOWN, x -> x.list(4, off));
            refused("21 a FILE, " + off, busy, off < 0 ? OUTSIDE : STATE, x -> x.list(2, off));
            refused("21 a folder, " + off, busy, off < 0 ? OUTSIDE : NONE, x -> x.list(1, off));
            refused("22 VIEW " + off, busy, UNKNOWN, x -> x.view(off, 0));
            refused("22 UNKNOWN ahead of OUTSIDE", busy, UNKNOWN, x -> x.view(4, off));
            refused("22 what " + off, busy, OUTSIDE, x -> x.view(0, off));
            refused("23 VIEW " + off, busy, UNKNOWN, x -> x.read(off, 0));
            refused("23 UNKNOWN ahead of OUTSIDE", busy, UNKNOWN, x -> x.read(4, off));
            refused("23 a FILE, " + off, busy, OUTSIDE, x -> x.read(2, off));
            refused("23 a folder, " + off, busy, off < 0 ? OUTSIDE : STATE, x -> x.read(1, off));
        }
        refused("21 the next VIEW", busy, UNKNOWN, x -> x.list(4, 0));
        refused("21 a FILE", busy, STATE, x -> x.list(2, 0));
        refused("22 the next VIEW", busy, UNKNOWN, x -> x.view(4, 0));
        refused("22 what 7", busy, OUTSIDE, x -> x.view(3, 7));
        refused("23 the next VIEW", busy, UNKNOWN, x -> x.read(4, 0));
        refused("23 byte 10 of 10", busy, OUTSIDE, x -> x.read(2, 10));
        refused("23 byte 0 of none", busy, OUTSIDE, x -> x.read(3, 0));
        refused("23 a folder", busy, STATE, x -> x.read(0, 0));
    }

    private static void count() {
        for (int off : OFF) {
            refused("24 what " + off, RefusalsTest::busy, OUTSIDE, x -> x.count(off));
        }
        refused("24 what 5", RefusalsTest::busy, OUTSIDE, x -> x.count(5));
    }

    private static void nothingLaid() {
        Setup bare = x -> {
            busy(x);
            x.bare();
        };
        for (int view = 0; view < 4; view++) {
            int gone = view;
            refused("20 VIEW " + view + " is gone", bare, UNKNOWN, x -> x.look(gone, 1));
            refused("21 VIEW " + view + " is gone", bare, UNKNOWN, x -> x.list(gone, 0));
            refused("22 VIEW " + view + " is gone", bare, UNKNOWN, x -> x.view(gone, 0));
            refused("23 VIEW " + view + " is gone", bare, UNKNOWN, x -> x.read(gone, 0));
        }
        refused("19 none was laid", bare, 0, x -> x.bare());
    }

    /** Calls that only tell, or come to nothing, change nothing either. */
    private static void answersOfNone() {
        Setup busy = RefusalsTest::busy;
        refused("20 nothing by that name", busy, NONE, x -> x.look(0, 999));
        refused("20 a HIDER", busy, NONE, x -> x.look(1, 3));
        refused("20 one that is there", busy, 1, x -> x.look(0, 1));
        refused("21 a name", busy, 2, x -> x.list(1, 0));
        refused("21 behind the last name", busy, NONE, x -> x.list(1, 6));
        refused("22 names", busy, 6, x -> x.view(1, 3));
        refused("23 a byte", busy, 7, x -> x.read(2, 9));
        refused("16 not the same", busy, 0, x -> x.same(0, 1));
        refused("17 names in a folder", busy, 7, x -> x.node(0, 2, 4));
        refused("11 all are kept", busy, 32, x -> x.end(32));
        refused("8 a tree of the folder 0 alone", x -> x.build(8), 1, x -> x.clear());
        refused("12 an empty tape", x -> x.build(8), -11, x -> x.load());
    }
}
