/** The edges of 'Terms' 1 and of promises 1 to 8, a sentence of the document above each group of tests. */
public final class TreeEdgesTest extends Checks {
    public static void main(String[] args) {
        newObjectIsEmpty();
        nodesAreAtMost32();
        namesAre1To999();
        namesInOneFolderDiffer();
        filesHaveAtMost9Names();
        all31FilesHave9Names();
        linkNeedsAFolderAndAFile();
        filesHave0To100Bytes();
        bytesAre0To255();
        ownerAndModeAre0To65535();
        ownerAndModeAre0AtFirst();
        clearIsAsAtFirst();
        lastCallThatIsPromised();
        finish();
    }

    /** 'The folder 0 alone; no images.' */
    private static void newObjectIsEmpty() {
        TreeImages x = new TreeImages();
        int[] none = {1, 0, 0, 0, 0};
        for (int what = 0; what < 5; what++) {
            due("1 count " + what, x.count(what), none[what]);
        }
        due("1 NODE 1 is not there", x.owner(1, 0, 0), UNKNOWN);
        due("1 no image", x.out(0, 0), UNKNOWN);
        due("1 nothing is laid", x.view(0, 0), UNKNOWN);
        due("1 nothing to drop", x.drop(), STATE);
        due("1 nothing to take away", x.bare(), 0);
        due("1 an empty tape is too short", x.load(), -11);
        due("1 the folder 0 is there", x.owner(0, 0, 0), 1);
        due("1 it is alone", x.image(x.build(8), 2), 1);
        due("1 it is a folder", x.node(0, 1, 0), 1);
        due("1 without names", x.node(0, 1, 4), 0);
        // two objects have nothing in common
        TreeImages y = new TreeImages();
        x.folder(0, 1);
        due("1 another object", y.count(0), 1);
        due("1 its own images", y.count(1), 0);
    }

    /** 'A TREE has NODES 0, 1, .., 32 at most: the folder 0, and below ..': 31 below it, of whatever kind. */
    private static void nodesAreAtMost32() {
        for (int kind = 1; kind <= 3; kind++) {
            TreeImages x = new TreeImages();
            for (int n = 1; n <= 31; n++) {
                due("2-4 NODE " + n + " of kind " + kind, add(x, kind, 0, n), n);
            }
            due("2 the 33rd is refused, kind " + kind, x.folder(0, 32), ROOM);
            due("3 the 33rd is refused, kind " + kind, x.file(0, 32), ROOM);
            due("4 the 33rd is refused, kind " + kind, x.hide(0, 32), ROOM);
            due("2-4 NODES, kind " + kind, x.count(0), 32);
            due("2-4 NUMBERS, kind " + kind, x.image(x.build(8), 2), 32);
            due("2-4 the last one is known, kind " + kind, x.owner(31, 1, 1), 1);
            due("2-4 the next one is not, kind " + kind, x.owner(32, 1, 1), UNKNOWN);
        }
        // one below the other: as deep as there are nodes
        TreeImages deep = new TreeImages();
        for (int n = 1; n <= 31; n++) {
            due("2 deeper " + n, deep.folder(n - 1, 999), n);
        }
        due("2 deepest", deep.folder(31, 999), ROOM);
        deep.build(32);
        deep.over(0);
        for (int n = 1; n <= 31; n++) {
            due("2 look deeper " + n, deep.look(n - 1, 999), n);
        }
        due("2 nothing below", deep.look(31, 999), NONE);
    }

    private static int add(TreeImages x, int kind, int folder, int name) {
        return kind == 1 ? x.folder(folder, name) : kind == 2 ? x.file(folder, name) : x.hide(folder, name);
    }

    /** 'each of them below its folder by a NAME, 1 to 999' */
    private static void namesAre1To999() {
        int[] refused = {0, 1000, -1, LOW, HIGH, 65536 + 1, 1001};
        for (int kind = 1; kind <= 3; kind++) {
            TreeImages x = new TreeImages();
            due("2-4 name 1, kind " + kind, add(x, kind, 0, 1), 1);
            due("2-4 name 999, kind " + kind, add(x, kind, 0, 999), 2);
            for (int name : refused) {
                due("2-4 name " + name + ", kind " + kind, add(x, kind, 0, name), OUTSIDE);
            }
            due("2-4 no NODE by these", x.count(0), 3);
        }
        TreeImages x = new TreeImages();
        x.file(0, 500);
        due("5 name 1", x.link(0, 1, 1), 2);
        due("5 name 999", x.link(0, 999, 1), 3);
        for (int name : refused) {
            due("5 name " + name, x.link(0, name, 1), OUTSIDE);
        }
        x.build(8);
        due("5 no name by these", x.node(0, 2, 3), 3);
        x.over(0);
        int[] names = {1, 500, 999, NONE};
        for (int i = 0; i < names.length; i++) {
            due("5 names " + i, x.list(0, i), names[i]);
        }
        // a name of one folder is next to those of another: 999 of the folder 0, 1 of the folder 1
        TreeImages y = new TreeImages();
        y.folder(0, 999);
        due("2 name 1 of the next folder", y.folder(1, 1), 2);
        due("2 name 999 of the next folder", y.folder(1, 999), 3);
        due("2 name 1 of the first folder", y.folder(0, 1), 4);
        y.build(8);
        due("2 two names in the folder 0", y.node(0, 1, 4), 2);
        due("2 none in the folder by 1", y.node(0, 2, 4), 0);
        due("2 two names in the folder by 999", y.node(0, 3, 4), 2);
    }

    /** 'no two alike in one folder' */
    private static void namesInOneFolderDiffer() {
        for (int first = 1; first <= 4; first++) {
            TreeImages x = new TreeImages();
            x.file(0, 1);
            x.folder(0, 2);
            due("2-5 the name 7 is taken", first == 4 ? x.link(2, 7, 1) : add(x, first, 2, 7), first == 4 ? 2 : 3);
            for (int kind = 1; kind <= 3; kind++) {
                due("2-4 kind " + kind + " by a name of kind " + first, add(x, kind, 2, 7), STATE);
                due("2-4 kind " + kind + " by that name elsewhere", add(x, kind, 0, 6 + kind) > 0 ? 1 : 0, 1);
            }
            due("5 a link by a name of kind " + first, x.link(2, 7, 1), STATE);
            due("5 a link by that name elsewhere is there", x.link(0, 7, 1), STATE);
            due("5 a link by another name", x.link(2, 8, 1), first == 4 ? 3 : 2);
        }
    }

    /** 'a FILE may have more names (LINKS, 9 names at most), there and elsewhere'; 'ROOM: it has 9.' */
    private static void filesHaveAtMost9Names() {
        TreeImages x = new TreeImages();
        x.file(0, 1);
        x.folder(0, 2);
        x.file(0, 3);
        for (int n = 2; n <= 9; n++) {
            due("5 name " + n, x.link(n % 2 * 2, 10 + n, 1), n);
        }
        due("5 the 10th there", x.link(0, 30, 1), ROOM);
        due("5 the 10th elsewhere", x.link(2, 30, 1), ROOM);
        due("5 another file has room", x.link(2, 30, 3), 2);
        due("5 still 9", x.link(2, 31, 1), ROOM);
        x.build(8);
        due("5 9 are told", x.node(0, 2, 3), 9);
        due("5 in the folder 0", x.node(0, 1, 4), 7);
        due("5 in the other folder", x.node(0, 3, 4), 5);
        x.over(0);
        due("5 the first name leads to it", x.look(0, 1), 1);
        due("5 the other folder", x.look(0, 2), 2);
        for (int n = 2; n <= 9; n++) {
            due("5 name " + n + " leads to it", x.look(n % 2 * 2, 10 + n), 1);
        }
        // a full tree has room for names
        TreeImages y = new TreeImages();
        for (int n = 1; n <= 31; n++) {
            y.file(0, n);
        }
        due("5 a name in a full tree", y.link(0, 32, 31), 2);
        due("5 as many as a file takes", linked(y, 31, 7), 9);
        due("5 one of another file", y.link(0, 50, 1), 2);
    }

    private static int linked(TreeImages x, int file, int times) {
        int names = 0;
        for (int n = 0; n < times; n++) {
            names = x.link(0, 100 + n, file);
        }
        return names;
    }

    /** As many names as a tree can have: 31 FILES of 9 each. */
    private static void all31FilesHave9Names() {
        TreeImages x = new TreeImages();
        for (int file = 1; file <= 31; file++) {
            x.file(0, file);
            for (int n = 1; n < 9; n++) {
                due("5 name of " + file, x.link(0, 31 * n + file, file), n + 1);
            }
        }
        due("5 no name more", x.link(0, 999, 31), ROOM);
        x.build(8);
        due("5 all names", x.node(0, 1, 4), 279);
        for (int number = 2; number <= 32; number++) {
            due("5 names of " + number, x.node(0, number, 3), 9);
        }
        x.over(0);
        for (int i = 0; i <= 279; i += 31) {
            due("5 list " + i, x.list(0, i), i < 279 ? i + 1 : NONE);
        }
        due("5 the last name", x.list(0, 278), 279);
        due("5 it leads to the last FILE", x.view(x.look(0, 279), 2), 32);
    }

    /** 'STATE: no folder, the name is there, no FILE' */
    private static void linkNeedsAFolderAndAFile() {
        TreeImages x = new TreeImages();
        x.file(0, 1);
        x.folder(0, 2);
        x.hide(0, 3);
        due("5 below a FILE", x.link(1, 9, 1), STATE);
        due("5 below a HIDER", x.link(3, 9, 1), STATE);
        due("5 of the folder 0", x.link(2, 9, 0), STATE);
        due("5 of a folder", x.link(0, 9, 2), STATE);
        due("5 of a folder in itself", x.link(2, 9, 2), STATE);
        due("5 of a HIDER", x.link(0, 9, 3), STATE);
        due("5 of a FILE", x.link(0, 9, 1), 2);
    }

    /** 'FILES (of 0 to 100 bytes)'; 'A byte comes so often (1 to 100) ..: how many it has. ROOM: above 100.' */
    private static void filesHave0To100Bytes() {
        int[] refused = {0, -1, 101, LOW, HIGH};
        for (int had = 0; had <= 100; had += 50) {
            TreeImages x = new TreeImages();
            x.file(0, 1);
            if (had > 0) {
                due("6 bytes at first", x.data(1, 1, had), had);
            }
            for (int times : refused) {
                due("6 times " + times + " behind " + had, x.data(1, 1, times), OUTSIDE);
            }
            due("6 one too many behind " + had, x.data(1, 2, had == 0 ? 101 : 101 - had), had == 0 ? OUTSIDE : ROOM);
            if (had < 100) {
                due("6 just as many behind " + had, x.data(1, 2, 100 - had), 100);
            }
            due("6 one behind 100", x.data(1, 3, 1), ROOM);
            due("6 100 behind 100", x.data(1, 3, 100), ROOM);
            x.build(8);
            due("6 it has 100", x.node(0, 2, 4), 100);
            x.over(0);
            x.look(0, 1);
            due("6 the first byte behind " + had, x.read(1, 0), had == 0 ? 2 : 1);
            due("6 the last byte behind " + had, x.read(1, 99), had == 100 ? 1 : 2);
        }
        TreeImages y = new TreeImages();
        y.file(0, 1);
        due("6 ROOM of a file of 1", y.data(1, 1, 1), 1);
        due("6 100 behind 1", y.data(1, 1, 100), ROOM);
        due("6 99 behind 1", y.data(1, 1, 99), 100);
        // a full file leaves room in the next one, and its bytes alone
        TreeImages z = new TreeImages();
        z.file(0, 1);
        z.file(0, 2);
        z.data(2, 5, 100);
        due("6 the file before it", z.data(1, 6, 100), 100);
        z.build(32);
        z.over(0);
        due("6 the last of the first", z.read(z.look(0, 1), 99), 6);
        due("6 the first of the second", z.read(z.look(0, 2), 0), 5);
        // without any call of data a FILE has no byte
        TreeImages none = new TreeImages();
        none.file(0, 1);
        none.build(8);
        due("6 no bytes", none.node(0, 2, 4), 0);
    }

    /** 'A byte (0 to 255)'; 'STATE: no FILE' */
    private static void bytesAre0To255() {
        TreeImages x = new TreeImages();
        x.file(0, 1);
        x.folder(0, 2);
        x.hide(0, 3);
        int[] refused = {-1, 256, LOW, HIGH, 511};
        for (int b : refused) {
            due("6 byte " + b, x.data(1, b, 1), OUTSIDE);
        }
        due("6 byte 0", x.data(1, 0, 1), 1);
        due("6 byte 255", x.data(1, 255, 1), 2);
        due("6 the folder 0", x.data(0, 0, 1), STATE);
        due("6 a folder", x.data(2, 0, 1), STATE);
        due("6 a HIDER", x.data(3, 0, 1), STATE);
        x.build(8);
        x.over(0);
        x.look(0, 1);
        due("6 read 0", x.read(1, 0), 0);
        due("6 read 255", x.read(1, 1), 255);
        due("6 no more", x.read(1, 2), OUTSIDE);
    }

    /** 'Each NODE has an OWNER and a MODE, 0 to 65535'; 'Words are two bytes, the higher first.' */
    private static void ownerAndModeAre0To65535() {
        int[] refused = {-1, 65536, LOW, HIGH};
        TreeImages x = new TreeImages();
        x.folder(0, 1);
        x.file(0, 2);
        x.hide(0, 3);
        for (int node = 0; node < 4; node++) {
            due("7 both 65535 of " + node, x.owner(node, 65535, 65535), 1);
            due("7 both 0 of " + node, x.owner(node, 0, 0), 1);
            due("7 owner 65535 of " + node, x.owner(node, 65535, 258), 1);
            for (int word : refused) {
                due("7 owner " + word + " of " + node, x.owner(node, word, 0), OUTSIDE);
                due("7 mode " + word + " of " + node, x.owner(node, 0, word), OUTSIDE);
            }
        }
        x.build(8);
        int[] m = bytesOf(x, 0);
        for (int number = 1; number <= 4; number++) {
            due("7 OWNER of " + number, x.node(0, number, 2), 65535);
            due("7 MODE of " + number, x.node(0, number, 1), 258);
            dueBytes("7 words of " + number, part(m, row(m, number) + 1, 4), 1, 2, 255, 255);
        }
    }

    /** '0 at first' */
    private static void ownerAndModeAre0AtFirst() {
        TreeImages x = new TreeImages();
        x.owner(0, 1, 2);
        x.folder(0, 1);
        x.owner(1, 3, 4);
        x.file(1, 1);
        x.hide(1, 2);
        x.folder(1, 3);
        x.build(8);
        int[][] due = {{1, 2}, {3, 4}, {0, 0}, {0, 0}, {0, 0}};
        for (int number = 1; number <= 5; number++) {
            due("7 OWNER of " + number, x.node(0, number, 2), due[number - 1][0]);
            due("7 MODE of " + number, x.node(0, number, 1), due[number - 1][1]);
        }
    }

    /** 'The tree is the folder 0 alone, as at first: how many NODES it had. (Images stay.)' */
    private static void clearIsAsAtFirst() {
        TreeImages x = new TreeImages();
        due("8 the folder 0 alone", x.clear(), 1);
        due("8 again", x.clear(), 1);
        x.build(8);
        for (int n = 1; n <= 31; n++) {
            x.file(0, n);
            x.data(n, n, 100);
            x.link(0, 100 + n, n);
            x.owner(n, 9, 8);
        }
        x.owner(0, 7, 6);
        x.build(8);
        x.over(1);
        x.look(0, 31);
        x.feed(1, 2, 3, 4, 5);
        due("8 a full tree", x.clear(), 32);
        due("8 NODES", x.count(0), 1);
        due("8 images stay", x.count(1), 2);
        due("8 laid ones stay", x.count(2), 1);
        due("8 VIEWS stay", x.read(1, 99), 31);
        due("8 the tape stays", x.count(4), 20);
        due("8 NODE 1 is gone", x.owner(1, 0, 0), UNKNOWN);
        x.build(8);
        due("8 as at first", x.same(0, 2), 1);
        due("8 the cleared tree's image", x.same(0, 1), 0);
        for (int n = 1; n <= 31; n++) {
            due("8 a name of before, " + n, x.file(0, n), n);
        }
        due("8 no bytes of before", x.data(31, 1, 100), 100);
        due("8 no names of before", x.link(0, 131, 31), 2);
        due("8 full again", x.hide(0, 32), ROOM);
        due("8 cleared again", x.clear(), 32);
    }

    /** 'An object is used for at most 512 calls after it has been made': the 512th still answers. */
    private static void lastCallThatIsPromised() {
        TreeImages x = new TreeImages();
        x.file(0, 1);
        x.data(1, 9, 100);
        x.build(8);
        x.over(0);
        for (int call = 5; call < 512; call++) {
            due("call " + call, x.look(0, 1), 1);
        }
        due("call 512", x.read(1, 99), 9);
    }
}
