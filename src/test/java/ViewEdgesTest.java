/** The edges of 'Terms' 4 and of promises 13 to 24, a sentence of the document above each group of tests. */
public final class ViewEdgesTest extends Checks {
    public static void main(String[] args) {
        dropTheLatest();
        dropWhatIsLaid();
        outOfEachByte();
        outBeyond();
        imageTellsFive();
        sameByteByByte();
        nodeTellsFive();
        nodeOfAHider();
        overFromTheFirstOn();
        overLetsViewsGo();
        bareLetsAllGo();
        view0IsOfAll();
        lookFromTheUppermostDown();
        lookAtNamesOfOtherFolders();
        lookAtHiders();
        lookThroughFolders();
        whatIsNoFolderEndsThem();
        lookBelowFoldersOfSeveral();
        viewsAreNumberedOnce();
        viewsAreAtMost60();
        lookNeedsAFolderAndAName();
        listOfLayers();
        listOfAll999Names();
        listEnds();
        viewTellsSeven();
        viewOfTheUppermost();
        readFirstAndLast();
        readByBlocksAndTails();
        readOfAFolder();
        countOfFive();
        finish();
    }

    /** Builds a new tree of pairs of name and kind (1 folder, 2 FILE, 3 HIDER), all below the folder 0. */
    private static void tree(TreeImages x, int... namesAndKinds) {
        x.clear();
        for (int i = 0; i + 1 < namesAndKinds.length; i += 2) {
            add(x, 0, namesAndKinds[i], namesAndKinds[i + 1]);
        }
        x.build(8);
    }

    private static int add(TreeImages x, int folder, int name, int kind) {
        return kind == 1 ? x.folder(folder, name) : kind == 2 ? x.file(folder, name) : x.hide(folder, name);
    }

    /** 'The latest image is gone: how many are left. STATE: there is none' */
    private static void dropTheLatest() {
        TreeImages x = new TreeImages();
        due("13 none", x.drop(), STATE);
        x.build(8);
        x.build(16);
        x.build(32);
        for (int left = 2; left >= 0; left--) {
            due("13 left", x.drop(), left);
            due("13 images", x.count(1), left);
            due("13 the latest is gone", x.image(left, 1), UNKNOWN);
            for (int image = 0; image < left; image++) {
                due("13 those before are not", x.image(image, 1), 8 << image);
            }
        }
        due("13 none again", x.drop(), STATE);
        due("13 still none", x.count(1), 0);
        due("13 numbered from 0 on again", x.build(32), 0);
    }

    /** 'STATE: .. or it is laid' */
    private static void dropWhatIsLaid() {
        TreeImages x = new TreeImages();
        x.build(8);
        x.over(0);
        due("13 the only one is laid", x.drop(), STATE);
        x.build(8);
        due("13 the latest is not laid", x.drop(), 1);
        due("13 the lower one is", x.drop(), STATE);
        x.build(16);
        x.over(1);
        due("13 laid as the second", x.drop(), STATE);
        due("13 it is there still", x.image(1, 1), 16);
        due("13 it is laid still", x.count(2), 2);
        x.build(32);
        due("13 two laid, the third is not", x.drop(), 2);
        x.bare();
        x.over(1);
        due("13 laid alone", x.drop(), STATE);
        x.bare();
        due("13 laid no more", x.drop(), 1);
        due("13 nor the first", x.drop(), 0);
        // the number of one that is gone is not laid
        x.build(8);
        due("13 a new one by that number", x.over(0), 1);
    }

    /** 'Byte i of an image': 0 to 255 each */
    private static void outOfEachByte() {
        TreeImages x = new TreeImages();
        x.owner(0, 65535, 0x8000);
        x.build(8);
        dueBytes("14 bytes", part(bytesOf(x, 0), 18, 12), 1, 128, 0, 255, 255, 1, 0, 0, 0, 0, 0, 1);
        due("14 the first", x.out(0, 0), 84);
        due("14 the last", x.out(0, 31), 0);
    }

    /** 'ArrayIndexOutOfBoundsException: i beyond its bytes. UNKNOWN.' */
    private static void outBeyond() {
        TreeImages x = new TreeImages();
        int[] places = {0, -1, 31, 32, LOW, HIGH};
        for (int i : places) {
            due("14 no image, " + i, x.out(0, i), UNKNOWN);
        }
        x.build(8);
        x.file(0, 1);
        x.build(8);
        int[] unknown = {2, -1, LOW, HIGH, 3};
        for (int image : unknown) {
            for (int i : places) {
                due("14 image " + image + ", " + i, x.out(image, i), UNKNOWN);
            }
        }
        int[] beyond = {32, 33, 48, 5505, -1, LOW, HIGH};
        for (int i : beyond) {
            dueThrow("14 " + i, x, 0, i);
        }
        due("14 LENGTH of the second", x.image(1, 0), 50);
        due("14 the last of the second", x.out(1, 49), 12);
        dueThrow("14 beyond the second", x, 1, 50);
        // a shorter one where a longer one was
        x.drop();
        x.clear();
        x.build(8);
        due("14 the last of the new one", x.out(1, 31), 0);
        dueThrow("14 where the old one had a byte", x, 1, 32);
        due("14 as before", x.same(0, 1), 1);
    }

    /** 'Of an image: LENGTH (what = 0), B (1), NUMBERS (2), TAIL BLOCKS (3), bytes of DATA (4). UNKNOWN; OUTSIDE.' */
    private static void imageTellsFive() {
        TreeImages x = new TreeImages();
        come(x, sample());
        int[] due = {132, 8, 5, 2, 14};
        for (int what = 0; what < 5; what++) {
            due("15 what " + what, x.image(0, what), due[what]);
        }
        int[] refused = {-1, 5, LOW, HIGH};
        int[] unknown = {-1, 1, 3, LOW, HIGH};
        for (int what : refused) {
            due("15 what " + what, x.image(0, what), OUTSIDE);
            for (int image : unknown) {
                due("15 image " + image, x.image(image, 0), UNKNOWN);
                due("15 image " + image + " what " + what, x.image(image, what), UNKNOWN);
            }
        }
    }

    /** 'Whether two images are byte by byte the same: 1, 0. UNKNOWN.' */
    private static void sameByteByByte() {
        TreeImages x = new TreeImages();
        int[] junk = {1, 2, 3};
        int[] inodes = joined(new int[] {1, 0, 0, 0, 0, 1}, words(0, 0, 1));
        come(x, imageOf(8, junk, inodes, new int[0], new int[0], 0));
        come(x, imageOf(8, new int[] {1, 2, 4}, inodes, new int[0], new int[0], 0));
        come(x, imageOf(8, junk, inodes, new int[0], new int[0], 0));
        due("16 of two that came", x.same(0, 2), 1);
        due("16 the other way", x.same(2, 0), 1);
        due("16 itself", x.same(1, 1), 1);
        due("16 a byte that no one asks for", x.same(0, 1), 0);
        due("16 the other way", x.same(1, 2), 0);
        int[] unknown = {-1, 3, LOW, HIGH};
        for (int image : unknown) {
            due("16 the first is unknown", x.same(image, 0), UNKNOWN);
            due("16 the second is unknown", x.same(0, image), UNKNOWN);
            due("16 both are", x.same(image, image), UNKNOWN);
        }
        // the same but for its length
        x.drop();
        come(x, imageOf(8, new int[] {1, 2, 3, 0}, inodes, new int[0], new int[0], 0));
        due("16 a byte longer", x.same(0, 2), 0);
        due("16 a byte shorter", x.same(2, 0), 0);
        TreeImages y = new TreeImages();
        y.build(8);
        y.build(16);
        due("16 by another B", y.same(0, 1), 0);
    }

    /** 'Of a NUMBER of an image: .. UNKNOWN: the image; OUTSIDE: a NUMBER that there is not, too.' */
    private static void nodeTellsFive() {
        TreeImages x = new TreeImages();
        x.file(0, 1);
        x.data(1, 1, 100);
        x.hide(0, 2);
        x.folder(0, 3);
        x.owner(1, 65535, 1);
        x.owner(2, 1, 65535);
        for (int n = 2; n <= 9; n++) {
            x.link(3, n, 1);
        }
        x.build(32);
        int[][] due = {{1, 0, 0, 1, 3}, {2, 1, 65535, 9, 100}, {3, 65535, 1, 1, 0}, {1, 0, 0, 1, 8}};
        for (int number = 1; number <= 4; number++) {
            for (int what = 0; what < 5; what++) {
                due("17 NUMBER " + number + " what " + what, x.node(0, number, what), due[number - 1][what]);
            }
        }
        int[] numbers = {0, 5, -1, LOW, HIGH};
        int[] whats = {-1, 5, LOW, HIGH};
        int[] unknown = {-1, 1, LOW, HIGH};
        for (int number : numbers) {
            due("17 NUMBER " + number, x.node(0, number, 0), OUTSIDE);
            due("17 NUMBER " + number + " of no image", x.node(1, number, 0), UNKNOWN);
        }
        for (int what : whats) {
            due("17 what " + what, x.node(0, 1, what), OUTSIDE);
            due("17 what " + what + " of no NUMBER", x.node(0, 0, what), OUTSIDE);
            due("17 what " + what + " of no image", x.node(-1, 1, what), UNKNOWN);
        }
        for (int image : unknown) {
            due("17 image " + image, x.node(image, 1, 0), UNKNOWN);
        }
    }

    /** '0 of a HIDER': whatever stands behind its row */
    private static void nodeOfAHider() {
        TreeImages x = new TreeImages();
        for (int n = 1; n <= 3; n++) {
            x.hide(0, 2 * n - 1);
            x.owner(add(x, 0, 2 * n, n), 65535, 65535);
        }
        x.hide(0, 999);
        x.build(8);
        for (int number = 2; number <= 8; number += 2) {
            due("17 HIDER " + number, x.node(0, number, 0), 3);
            due("17 bytes or names of HIDER " + number, x.node(0, number, 4), 0);
        }
    }

    /** 'An image is laid over those that are laid: how many are. UNKNOWN; STATE: it is laid.' */
    private static void overFromTheFirstOn() {
        TreeImages x = new TreeImages();
        int[] unknown = {0, -1, LOW, HIGH};
        for (int image : unknown) {
            due("18 none is there: " + image, x.over(image), UNKNOWN);
        }
        x.build(8);
        x.build(8);
        x.build(8);
        due("18 the fourth", x.over(3), UNKNOWN);
        due("18 nothing is laid by these", x.count(2), 0);
        int[] order = {1, 2, 0};
        for (int i = 0; i < 3; i++) {
            due("18 laid " + i, x.over(order[i]), i + 1);
            for (int k = 0; k <= i; k++) {
                due("18 it is laid", x.over(order[k]), STATE);
            }
            due("18 uppermost", x.view(0, 1), order[i]);
            due("18 of how many", x.view(0, 6), i + 1);
            due("18 how many", x.count(2), i + 1);
        }
    }

    /** 'All VIEWS go, but 0.' */
    private static void overLetsViewsGo() {
        TreeImages x = new TreeImages();
        tree(x, 1, 1, 2, 2);
        tree(x, 3, 2);
        x.over(0);
        due("18 VIEW 0", x.count(3), 1);
        x.look(0, 1);
        x.look(0, 2);
        due("18 three VIEWS", x.count(3), 3);
        due("18 refused", x.over(0), STATE);
        due("18 they stay", x.count(3), 3);
        due("18 unknown", x.over(2), UNKNOWN);
        due("18 they stay", x.view(2, 0), 2);
        due("18 another one", x.over(1), 2);
        due("18 VIEW 0 alone", x.count(3), 1);
        due("18 VIEW 1 is gone", x.look(1, 1), UNKNOWN);
        due("18 VIEW 2 is gone", x.read(2, 0), UNKNOWN);
        due("18 numbered anew", x.look(0, 2), 1);
    }

    /** 'None is laid: how many were. All VIEWS go.' */
    private static void bareLetsAllGo() {
        TreeImages x = new TreeImages();
        due("19 none was", x.bare(), 0);
        tree(x, 1, 2);
        tree(x, 1, 2);
        tree(x, 1, 2);
        due("19 none was, of three", x.bare(), 0);
        for (int many = 1; many <= 3; many++) {
            for (int image = 0; image < many; image++) {
                x.over(image);
            }
            x.look(0, 1);
            due("19 were laid", x.bare(), many);
            due("19 none is laid", x.count(2), 0);
            due("19 no VIEW", x.count(3), 0);
            due("19 no VIEW 0", x.view(0, 0), UNKNOWN);
            due("19 no VIEW 1", x.view(1, 0), UNKNOWN);
            due("19 again none was", x.bare(), 0);
        }
        due("19 images stay", x.count(1), 3);
        due("19 the order is free again", x.over(2), 1);
        due("19 VIEW 0 is of that one", x.view(0, 1), 2);
        due("19 of one", x.view(0, 6), 1);
    }

    /** '0 is the folder of NUMBER 1 of all that are laid' */
    private static void view0IsOfAll() {
        TreeImages x = new TreeImages();
        tree(x);
        x.owner(0, 3, 4);
        x.build(8);
        x.over(1);
        x.over(0);
        int[] due = {1, 0, 1, 0, 0, 0, 2};
        for (int what = 0; what < 7; what++) {
            due("22 VIEW 0 what " + what, x.view(0, what), due[what]);
        }
        x.bare();
        x.over(0);
        x.over(1);
        due("22 MODE of the uppermost", x.view(0, 4), 4);
        due("22 OWNER of the uppermost", x.view(0, 5), 3);
    }

    /** Lays trees of one name 5 each, of the kinds from the lowest to the uppermost (0: it is not there). */
    private static TreeImages laid(int... kinds) {
        TreeImages x = new TreeImages();
        for (int i = 0; i < kinds.length; i++) {
            if (kinds[i] == 0) {
                tree(x);
            } else {
                tree(x, 5, kinds[i]);
            }
            x.over(i);
        }
        return x;
    }

    /** 'a name leads, from the uppermost image down, to the first one that has it there: a FILE: that; .. a folder: that, and ..' */
    private static void lookFromTheUppermostDown() {
        for (int low = 0; low < 4; low++) {
            for (int middle = 0; middle < 4; middle++) {
                for (int high = 0; high < 4; high++) {
                    lookAt(low, middle, high);
                }
            }
        }
    }

    private static void lookAt(int low, int middle, int high) {
        String what = "20 " + low + " " + middle + " " + high;
        int[] kinds = {low, middle, high};
        int upper = high != 0 ? 2 : middle != 0 ? 1 : low != 0 ? 0 : -1;
        boolean leads = upper >= 0 && kinds[upper] != 3;
        TreeImages x = laid(low, middle, high);
        due(what + ": list", x.list(0, 0), leads ? 5 : NONE);
        due(what + ": names", x.view(0, 3), leads ? 1 : 0);
        due(what + ": look", x.look(0, 5), leads ? 1 : NONE);
        due(what + ": VIEWS", x.count(3), leads ? 2 : 1);
        if (!leads) {
            due(what + ": no VIEW", x.view(1, 0), UNKNOWN);
            return;
        }
        int depth = 1;
        boolean ended = kinds[upper] != 1;
        for (int i = upper - 1; i >= 0; i--) {
            ended |= kinds[i] == 2 || kinds[i] == 3;
            depth += !ended && kinds[i] == 1 ? 1 : 0;
        }
        due(what + ": kind", x.view(1, 0), kinds[upper]);
        due(what + ": image", x.view(1, 1), upper);
        due(what + ": of how many", x.view(1, 6), depth);
    }

    /** 'the first one that has it there': not in the folders that stand beside it in FOLDERS */
    private static void lookAtNamesOfOtherFolders() {
        TreeImages x = new TreeImages();
        // FOLDERS: 3 and 6 of the folder 0, 7 and 8 of 3, 1 and 2 of 6
        x.folder(0, 3);
        x.folder(0, 6);
        x.file(1, 7);
        x.file(1, 8);
        x.file(2, 1);
        x.file(2, 2);
        x.build(8);
        x.over(0);
        x.look(0, 3);
        x.look(0, 6);
        int[][] there = {{3, 6}, {7, 8}, {1, 2}};
        for (int view = 0; view < 3; view++) {
            for (int name = 1; name <= 9; name++) {
                boolean has = name == there[view][0] || name == there[view][1];
                due("20 name " + name + " below " + view, x.look(view, name) > 0 ? 1 : 0, has ? 1 : 0);
            }
        }
        // the upper image's folder 0 ends with 2, behind which its folder 2 has a HIDER 5 at first
        TreeImages y = new TreeImages();
        tree(y, 5, 2);
        y.clear();
        y.folder(0, 2);
        y.hide(1, 5);
        y.build(8);
        y.over(0);
        y.over(1);
        due("21 the first name", y.list(0, 0), 2);
        due("21 one that is hidden elsewhere", y.list(0, 1), 5);
        due("22 both", y.view(0, 3), 2);
        due("20 it leads", y.view(y.look(0, 5), 1), 0);
    }

    /** 'a HIDER: nothing': whatever is below it, in its folder alone */
    private static void lookAtHiders() {
        TreeImages x = new TreeImages();
        x.folder(0, 1);
        x.file(1, 5);
        x.file(0, 5);
        x.build(8);
        tree(x, 5, 3, 6, 3);
        x.over(0);
        due("20 there without the HIDER", x.look(0, 5), 1);
        x.over(1);
        due("20 hidden", x.look(0, 5), NONE);
        due("20 a HIDER of nothing", x.look(0, 6), NONE);
        due("20 elsewhere not hidden", x.view(x.look(x.look(0, 1), 5), 0), 2);
        x.bare();
        x.over(1);
        x.over(0);
        due("20 a HIDER below hides nothing above", x.view(x.look(0, 5), 0), 2);
        x.bare();
        x.over(1);
        due("20 HIDERS alone", x.list(0, 0), NONE);
    }

    /** 'a folder: that, and those that the images below have there by that name (.. images that have no such name are passed over)' */
    private static void lookThroughFolders() {
        TreeImages x = new TreeImages();
        int[] below = {3, 0, 1};
        for (int i = 0; i < 3; i++) {
            x.clear();
            if (below[i] > 0) {
                x.folder(0, 5);
                x.file(1, below[i]);
                x.data(2, 10 + i, 1);
            }
            x.build(8);
            x.over(i);
        }
        int folder = x.look(0, 5);
        due("20 of two", x.view(folder, 6), 2);
        due("20 names of both", x.view(folder, 3), 2);
        due("20 the first name", x.list(folder, 0), 1);
        due("20 the second name", x.list(folder, 1), 3);
        due("20 of the uppermost", x.read(x.look(folder, 1), 0), 12);
        due("20 of the lowest", x.read(x.look(folder, 3), 0), 10);
    }

    /** '(what is no folder ends them ..)': what is further below is not reached */
    private static void whatIsNoFolderEndsThem() {
        for (int kind = 2; kind <= 3; kind++) {
            TreeImages x = new TreeImages();
            x.folder(0, 5);
            x.file(1, 1);
            x.build(8);
            tree(x, 5, kind);
            x.clear();
            x.folder(0, 5);
            x.file(1, 2);
            x.build(8);
            x.over(0);
            x.over(1);
            x.over(2);
            int folder = x.look(0, 5);
            due("20 ended by kind " + kind, x.view(folder, 6), 1);
            due("20 the uppermost alone, kind " + kind, x.list(folder, 0), 2);
            due("20 no more, kind " + kind, x.list(folder, 1), NONE);
            due("20 not what is below, kind " + kind, x.look(folder, 1), NONE);
            x.bare();
            x.over(0);
            x.over(2);
            due("20 not ended without it", x.view(x.look(0, 5), 6), 2);
        }
    }

    /** Below a folder of several images these alone count: another one of the same number elsewhere does not. */
    private static void lookBelowFoldersOfSeveral() {
        TreeImages x = new TreeImages();
        // lowest: 1/1/1 file; middle: 1 is a folder with a HIDER 1; upper: 1/1/2 file
        x.folder(0, 1);
        x.folder(1, 1);
        x.file(2, 1);
        x.build(8);
        x.clear();
        x.folder(0, 1);
        x.hide(1, 1);
        x.build(8);
        x.clear();
        x.folder(0, 1);
        x.folder(1, 1);
        x.file(2, 2);
        x.build(8);
        x.over(0);
        x.over(1);
        x.over(2);
        int outer = x.look(0, 1);
        int inner = x.look(outer, 1);
        due("20 the outer is of three", x.view(outer, 6), 3);
        due("20 the inner is of one", x.view(inner, 6), 1);
        due("20 its name", x.list(inner, 0), 2);
        due("20 and no other", x.list(inner, 1), NONE);
    }

    /** 'VIEWS are numbered as they are come to, .. each once.' */
    private static void viewsAreNumberedOnce() {
        TreeImages x = new TreeImages();
        x.file(0, 9);
        x.folder(0, 4);
        x.link(2, 1, 1);
        x.link(0, 1, 1);
        x.file(2, 2);
        x.build(8);
        tree(x, 9, 2, 3, 2);
        x.over(0);
        due("20 first come to", x.look(0, 4), 1);
        due("20 second", x.look(1, 2), 2);
        due("20 third, by a link", x.look(1, 1), 3);
        due("20 by its name", x.look(0, 9), 3);
        due("20 by another link", x.look(0, 1), 3);
        due("20 the folder again", x.look(0, 4), 1);
        due("20 four in all", x.count(3), 4);
        // the same NUMBERS in another image are other VIEWS
        x.over(1);
        due("20 of the upper image", x.look(0, 9), 1);
        due("20 of the lower image", x.look(0, 1), 2);
        due("20 of the upper image again", x.look(0, 3), 3);
        due("20 a NUMBER of the upper", x.view(3, 2), 2);
        due("20 the NUMBER of the lower", x.view(2, 2), 2);
        due("20 the folder", x.look(0, 4), 4);
        due("20 a link in it", x.look(4, 1), 2);
        // list and view come to none
        x.bare();
        x.over(0);
        x.list(0, 0);
        x.view(0, 3);
        x.look(0, 8);
        due("20 none but 0", x.count(3), 1);
    }

    /** '60 at most'; 'ROOM: it would be the 61st' */
    private static void viewsAreAtMost60() {
        TreeImages x = new TreeImages();
        for (int image = 0; image < 2; image++) {
            x.clear();
            for (int n = 1; n <= 30; n++) {
                x.file(0, 30 * image + n);
            }
            x.folder(0, 100 + image);
            x.build(8);
            x.over(image);
        }
        for (int n = 1; n <= 58; n++) {
            due("20 VIEW " + n, x.look(0, n), n);
        }
        due("20 59 VIEWS", x.count(3), 59);
        due("20 the 60th", x.look(0, 100), 59);
        due("20 60 VIEWS", x.count(3), 60);
        due("20 the 61st, a FILE", x.look(0, 60), ROOM);
        due("20 the 61st, a folder", x.look(0, 101), ROOM);
        due("20 still 60", x.count(3), 60);
        due("20 one that is there", x.look(0, 58), 58);
        due("20 the folder that is there", x.look(0, 100), 59);
        due("20 nothing", x.look(0, 999), NONE);
        due("20 nothing below the folder", x.look(59, 1), NONE);
        due("20 below a FILE", x.look(58, 1), STATE);
        due("20 no name", x.look(0, 1000), OUTSIDE);
        due("20 no VIEW", x.look(60, 1), UNKNOWN);
        due("20 the last VIEW", x.view(59, 0), 1);
        due("20 beyond it", x.view(60, 0), UNKNOWN);
        due("20 the list goes on", x.list(0, 61), 101);
        due("20 the list ends", x.list(0, 62), NONE);
        x.bare();
        x.over(0);
        due("20 room again", x.look(0, 30), 1);
    }

    /** 'UNKNOWN; OUTSIDE; STATE: it is a FILE' */
    private static void lookNeedsAFolderAndAName() {
        TreeImages x = new TreeImages();
        int[] unknown = {0, 1, -1, LOW, HIGH};
        for (int view : unknown) {
            due("20 nothing is laid, " + view, x.look(view, 1), UNKNOWN);
        }
        tree(x, 1, 2, 999, 2);
        x.over(0);
        for (int view : unknown) {
            due("20 VIEW " + view, x.look(view, 1), view == 0 ? 1 : view == 1 ? STATE : UNKNOWN);
        }
        int[] refused = {0, 1000, -1, LOW, HIGH};
        for (int name : refused) {
            due("20 name " + name, x.look(0, name), OUTSIDE);
            due("20 name " + name + " below a FILE", x.look(1, name), OUTSIDE);
            due("20 name " + name + " below no VIEW", x.look(2, name), UNKNOWN);
        }
        due("20 name 999", x.look(0, 999), 2);
        due("20 name 998", x.look(0, 998), NONE);
    }

    /** 'The i-th name, from 0 on, by which something is led to below a VIEW': each once, in order, of all images */
    private static void listOfLayers() {
        TreeImages x = new TreeImages();
        tree(x, 1, 2, 4, 2, 7, 1, 999, 2, 500, 3);
        tree(x, 2, 2, 4, 1, 7, 1, 998, 3, 1, 2);
        tree(x, 3, 2, 4, 3, 500, 2, 999, 3);
        x.over(0);
        int[][] due = {{1, 4, 7, 999, NONE, NONE}, {1, 2, 4, 7, 999, NONE}, {1, 2, 3, 7, 500, NONE}};
        for (int laid = 0; laid < 3; laid++) {
            if (laid > 0) {
                x.over(laid);
            }
            for (int i = 0; i < due[laid].length; i++) {
                due("21 of " + (laid + 1) + ", " + i, x.list(0, i), due[laid][i]);
            }
            due("22 names of " + (laid + 1), x.view(0, 3), laid == 0 ? 4 : 5);
        }
    }

    /** 'NAME, 1 to 999': all of them below one folder, by two images that came */
    private static void listOfAll999Names() {
        TreeImages x = new TreeImages();
        come(x, namesFrom(1, 900));
        come(x, namesFrom(900, 999));
        x.over(0);
        due("22 names of the lower", x.view(0, 3), 900);
        due("21 the last of the lower", x.list(0, 899), 900);
        due("21 behind the last of the lower", x.list(0, 900), NONE);
        x.over(1);
        due("22 all names", x.view(0, 3), 999);
        int[] indices = {0, 1, 898, 899, 900, 997, 998};
        for (int i : indices) {
            due("21 name " + i, x.list(0, i), i + 1);
        }
        due("21 behind all names", x.list(0, 999), NONE);
        due("20 the last name", x.view(x.look(0, 999), 1), 1);
        due("20 the first name", x.view(x.look(0, 1), 1), 0);
    }

    /** An image whose folder has these names of FILES without bytes, 200 for each at most. */
    private static int[] namesFrom(int first, int last) {
        int[] inodes = joined(new int[] {1, 0, 0, 0, 0, 1}, words(0, last - first + 1, 1));
        int[] names = new int[0];
        int files = (last - first) / 200 + 1;
        int[] exports = new int[files + 1];
        for (int name = first; name <= last; name++) {
            names = joined(names, words(name, (name - first) / 200 + 2));
        }
        for (int file = 0; file < files; file++) {
            int many = Math.min(200, last - first + 1 - 200 * file);
            exports[file + 1] = inodes.length;
            inodes = joined(inodes, new int[] {2, 0, 0, 0, 0, many, 0, 0, 0, 0, 0, 0});
        }
        return imageOf(8, new int[0], inodes, names, new int[0], exports);
    }

    /** 'NONE. UNKNOWN; OUTSIDE: i below 0; STATE: it is a FILE.' */
    private static void listEnds() {
        TreeImages x = new TreeImages();
        due("21 nothing is laid", x.list(0, 0), UNKNOWN);
        due("21 nothing is laid, -1", x.list(0, -1), UNKNOWN);
        x.build(8);
        x.over(0);
        due("21 an empty folder", x.list(0, 0), NONE);
        due("21 an empty folder, -1", x.list(0, -1), OUTSIDE);
        x.bare();
        tree(x, 8, 2, 9, 1);
        x.over(1);
        int[] indices = {0, 1, 2, 3, HIGH, -1, LOW};
        int[] due = {8, 9, NONE, NONE, NONE, OUTSIDE, OUTSIDE};
        for (int i = 0; i < indices.length; i++) {
            due("21 " + indices[i], x.list(0, indices[i]), due[i]);
        }
        x.look(0, 8);
        due("21 a FILE, 0", x.list(1, 0), STATE);
        due("21 a FILE, far", x.list(1, HIGH), STATE);
        due("21 a FILE, -1", x.list(1, -1), OUTSIDE);
        int[] unknown = {2, -1, LOW, HIGH};
        for (int view : unknown) {
            due("21 VIEW " + view, x.list(view, 0), UNKNOWN);
            due("21 VIEW " + view + ", -1", x.list(view, -1), UNKNOWN);
        }
    }

    /** 'Of a VIEW: 1 a folder, 2 a FILE (what = 0), .. of how many images it is (6). UNKNOWN; OUTSIDE.' */
    private static void viewTellsSeven() {
        TreeImages x = new TreeImages();
        due("22 nothing is laid", x.view(0, 0), UNKNOWN);
        due("22 nothing is laid, what 7", x.view(0, 7), UNKNOWN);
        x.file(0, 5);
        x.data(1, 1, 100);
        x.owner(1, 65535, 1);
        x.folder(0, 3);
        x.owner(2, 1, 65535);
        x.hide(2, 1);
        x.file(2, 2);
        x.build(8);
        x.over(0);
        x.look(0, 5);
        x.look(0, 3);
        x.look(2, 2);
        int[][] due = {{1, 0, 1, 2, 0, 0, 1}, {2, 0, 3, 100, 1, 65535, 1}, {1, 0, 2, 1, 65535, 1, 1}, {2, 0, 5, 0, 0, 0, 1}};
        for (int view = 0; view < 4; view++) {
            for (int what = 0; what < 7; what++) {
                due("22 VIEW " + view + " what " + what, x.view(view, what), due[view][what]);
            }
            int[] refused = {-1, 7, LOW, HIGH};
            for (int what : refused) {
                due("22 VIEW " + view + " what " + what, x.view(view, what), OUTSIDE);
            }
        }
        int[] unknown = {4, -1, LOW, HIGH};
        for (int view : unknown) {
            due("22 VIEW " + view, x.view(view, 0), UNKNOWN);
            due("22 VIEW " + view + " what 7", x.view(view, 7), UNKNOWN);
        }
    }

    /** 'the uppermost image that it is of (1), its NUMBER there (2)': not the uppermost that is laid */
    private static void viewOfTheUppermost() {
        TreeImages x = new TreeImages();
        tree(x, 1, 1, 2, 1, 3, 2);
        x.clear();
        x.folder(0, 2);
        x.owner(1, 7, 8);
        x.build(8);
        x.build(8);
        x.over(2);
        x.over(0);
        x.over(1);
        int[][] due = {{1, 0, 2, 0, 0, 0, 1}, {1, 1, 2, 0, 8, 7, 3}, {2, 0, 4, 0, 0, 0, 1}};
        for (int name = 1; name <= 3; name++) {
            int view = x.look(0, name);
            for (int what = 0; what < 7; what++) {
                due("22 name " + name + " what " + what, x.view(view, what), due[name - 1][what]);
            }
        }
    }

    /** 'Byte i of a VIEW that is a FILE; OUTSIDE: it has none such. UNKNOWN' */
    private static void readFirstAndLast() {
        TreeImages x = new TreeImages();
        int[] indices = {0, -1, LOW, HIGH};
        for (int i : indices) {
            due("23 nothing is laid, " + i, x.read(0, i), UNKNOWN);
        }
        int[] sizes = {0, 1, 8, 100};
        for (int f = 0; f < sizes.length; f++) {
            x.file(0, f + 1);
            if (sizes[f] > 0) {
                x.data(f + 1, 200 + f, sizes[f]);
            }
        }
        x.build(8);
        x.over(0);
        for (int f = 0; f < sizes.length; f++) {
            int view = x.look(0, f + 1);
            due("23 the first of " + sizes[f], x.read(view, 0), sizes[f] == 0 ? OUTSIDE : 200 + f);
            due("23 the last of " + sizes[f], x.read(view, sizes[f] - 1), sizes[f] == 0 ? OUTSIDE : 200 + f);
            due("23 beyond " + sizes[f], x.read(view, sizes[f]), OUTSIDE);
            due("23 far beyond " + sizes[f], x.read(view, HIGH), OUTSIDE);
            due("23 below 0 of " + sizes[f], x.read(view, -1), OUTSIDE);
            due("23 far below 0 of " + sizes[f], x.read(view, LOW), OUTSIDE);
        }
        int[] unknown = {5, -1, LOW, HIGH};
        for (int view : unknown) {
            for (int i : indices) {
                due("23 VIEW " + view + ", " + i, x.read(view, i), UNKNOWN);
            }
        }
    }

    /** 'read at any place': on both sides of each block's end, in any order */
    private static void readByBlocksAndTails() {
        for (int b = 8; b <= 32; b *= 2) {
            TreeImages x = new TreeImages();
            x.file(0, 1);
            x.data(1, 3, b - 1);
            x.data(1, 4, 2);
            x.data(1, 0, b - 1);
            x.data(1, 5, 3);
            x.file(0, 2);
            x.data(2, 6, 2);
            x.build(b);
            x.over(0);
            int view = x.look(0, 1);
            int[][] edges = {{2 * b + 2, 5}, {2 * b, 5}, {2 * b - 1, 0}, {b + 1, 0}, {b, 4}, {b - 1, 4}, {b - 2, 3}, {0, 3}, {2 * b + 3, OUTSIDE}};
            for (int[] edge : edges) {
                due("23 by " + b + ", " + edge[0], x.read(view, edge[0]), edge[1]);
            }
            due("23 by " + b + ", the tail behind it", x.read(x.look(0, 2), 0), 6);
            due("23 by " + b + ", its last", x.read(x.look(0, 2), 1), 6);
        }
    }

    /** 'UNKNOWN; OUTSIDE; STATE: a folder.' */
    private static void readOfAFolder() {
        TreeImages x = new TreeImages();
        tree(x, 1, 1);
        x.over(0);
        x.look(0, 1);
        for (int view = 0; view < 2; view++) {
            due("23 a folder, 0", x.read(view, 0), STATE);
            due("23 a folder, far", x.read(view, HIGH), STATE);
            due("23 a folder, -1", x.read(view, -1), OUTSIDE);
        }
    }

    /** '0 NODES, 1 images, 2 those that are laid, 3 VIEWS (0 without any that is laid), 4 bytes of the tape. OUTSIDE.' */
    private static void countOfFive() {
        TreeImages x = new TreeImages();
        int[] refused = {-1, 5, LOW, HIGH};
        for (int what : refused) {
            due("24 what " + what, x.count(what), OUTSIDE);
        }
        x.file(0, 1);
        x.build(8);
        due("24 images but none laid", x.count(3), 0);
        x.over(0);
        due("24 VIEW 0 counts", x.count(3), 1);
        x.look(0, 1);
        due("24 another one", x.count(3), 2);
        x.look(0, 1);
        due("24 once", x.count(3), 2);
        x.feed(0, 0, 0, 0, 0);
        x.end(1);
        int[] due = {2, 1, 1, 2, 1};
        for (int what = 0; what < 5; what++) {
            due("24 what " + what, x.count(what), due[what]);
        }
        x.bare();
        due("24 none laid", x.count(2), 0);
        due("24 no VIEWS", x.count(3), 0);
    }
}
