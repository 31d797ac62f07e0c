import java.util.Arrays;

/** The edges of 'Terms' 3 and of promises 10 to 12, a sentence of the document above each group of tests. */
public final class JudgeEdgesTest extends Checks {
    private static final int[] NOTHING = {};
    private static final int[] JUNK = {1, 2, 3, 4, 5, 6, 7, 8, 9, 10, 11, 12, 13, 14, 15, 16, 17, 18, 19, 20};

    public static void main(String[] args) {
        feedTakes20UpTo4000();
        feedPutsTheHighestFirst();
        endKeepsTheFirst();
        loadEmptiesTheTape();
        loadOfAFullTape();
        headOf18Bytes();
        headMarks();
        lengthIsHowManyTheyAre();
        placesRise();
        exportsAreAWordForEach();
        sum();
        tailsOfFiveBytes();
        tailLengths();
        tailBlocksWithinData();
        tailBlocksAsTheyAre();
        tailBlocksPacked();
        tailsByRows();
        rowsBeginWhereTheOneBeforeEnds();
        firstBytes();
        rowsWithinInodes();
        tailsOfFiles();
        tailsWithinL();
        blocksOfFiles();
        blocksBehindEachOther();
        namesBeginWhereThoseBeforeEnd();
        namesWithinFolders();
        namesRise();
        numbersInFolders();
        number1();
        namesAsTold();
        foldersAndHidersOnce();
        foldersWhereTheyTell();
        foldersComeTo1();
        firstFault();
        finish();
    }

    /** 'Twenty bytes come behind the tape (4000 at most) ..: how many it has. ROOM.' */
    private static void feedTakes20UpTo4000() {
        TreeImages x = new TreeImages();
        for (int n = 1; n <= 200; n++) {
            due("10 feed " + n, x.feed(n, n, n, n, n), 20 * n);
        }
        due("10 above 4000", x.feed(0, 0, 0, 0, 0), ROOM);
        due("10 still 4000", x.count(4), 4000);
        int[] cut = {3999, 3990, 3981};
        for (int n : cut) {
            due("10 cut", x.end(n), n);
            due("10 no room behind " + n, x.feed(0, 0, 0, 0, 0), ROOM);
            due("10 still " + n, x.count(4), n);
        }
        due("10 cut to 3980", x.end(3980), 3980);
        due("10 just room", x.feed(0, 0, 0, 0, 0), 4000);
        due("10 none again", x.feed(0, 0, 0, 0, 0), ROOM);
        due("10 room does not depend on what is judged", x.load(), -11);
        due("10 room again", x.feed(0, 0, 0, 0, 0), 20);
    }

    /** 'the highest of each number first': also of those below 0 */
    private static void feedPutsTheHighestFirst() {
        int[] data = {255, 255, 255, 255, 128, 0, 0, 0, 127, 255, 255, 255, 0, 0, 0, 1, 128, 0, 0, 1, 255, 0, 255, 0};
        int[] bytes = imageOf(8, data, folder(0, 0, 1), NOTHING, NOTHING, 0);
        TreeImages x = new TreeImages();
        due("10 comes", come(x, bytes), 0);
        dueBytes("10 bytes", bytesOf(x, 0), bytes);
        // as written in a number of hexadecimal digits: the tree's least image, fed by hand
        TreeImages y = new TreeImages();
        y.feed(0x54490800, 0x00010012, 0x001e001e, 0x001e0020, 0x08150100);
        y.feed(0x00000001, 0x00000000, 0x00010000, 0x7fffffff, -1);
        due("10 forty", y.count(4), 40);
        y.end(32);
        due("10 the least image", y.load(), 0);
        y.build(8);
        due("10 it is the one that is built", y.same(0, 1), 1);
    }

    /** 'The tape keeps its first n bytes: n. OUTSIDE.' */
    private static void endKeepsTheFirst() {
        TreeImages x = new TreeImages();
        due("11 empty: 0", x.end(0), 0);
        due("11 empty: 1", x.end(1), OUTSIDE);
        due("11 empty: -1", x.end(-1), OUTSIDE);
        x.feed(1, 2, 3, 4, 5);
        int[] refused = {21, -1, LOW, HIGH, 4000};
        for (int n : refused) {
            due("11 of 20: " + n, x.end(n), OUTSIDE);
            due("11 still 20", x.count(4), 20);
        }
        due("11 of 20: 20", x.end(20), 20);
        due("11 of 20: 19", x.end(19), 19);
        due("11 of 19: 20", x.end(20), OUTSIDE);
        due("11 of 19: 0", x.end(0), 0);
        due("11 of 0: 1", x.end(1), OUTSIDE);
        // what was cut off does not come back
        int[] bytes = sample();
        feedAll(x, bytes);
        x.end(120);
        x.feed(0, 0, 0, 0, 0);
        x.end(132);
        due("11 other bytes behind those kept", x.load(), -13);
        feedAll(x, bytes);
        due("11 those kept are as they were", x.load(), 0);
        for (int n = 0; n < 200; n++) {
            x.feed(0, 0, 0, 0, 0);
        }
        due("11 of 4000: 4001", x.end(4001), OUTSIDE);
        due("11 of 4000: 4000", x.end(4000), 4000);
    }

    /** 'The tape, which is empty then (not with ROOM), is judged: an image: its number; -10 less the FAULT. ROOM.' */
    private static void loadEmptiesTheTape() {
        TreeImages x = new TreeImages();
        due("12 an empty tape", x.load(), -11);
        due("12 the first", come(x, sample()), 0);
        due("12 empty behind an image", x.count(4), 0);
        due("12 an empty tape again", x.load(), -11);
        due("12 a fault", come(x, new int[18]), -11);
        due("12 empty behind a fault", x.count(4), 0);
        due("12 the second", come(x, sample()), 1);
        due("12 the third", come(x, sample()), 2);
        due("12 ROOM with an empty tape", x.load(), ROOM);
        feedAll(x, sample());
        due("12 ROOM", x.load(), ROOM);
        due("12 the tape stays", x.count(4), 132);
        due("12 ROOM again", x.load(), ROOM);
        due("12 three are there", x.count(1), 3);
        x.drop();
        due("12 the same tape comes", x.load(), 2);
        due("12 all of it", x.same(1, 2), 1);
        feedAll(x, new int[] {1, 2, 3});
        due("12 ROOM for what is no image", x.load(), ROOM);
        due("12 that stays too", x.count(4), 3);
        x.drop();
        due("12 and is judged then", x.load(), -11);
        due("12 the tree is not touched", x.count(0), 1);
    }

    /** 'the tape (4000 at most)': an image of all of them, and one of as many NUMBERS as find room */
    private static void loadOfAFullTape() {
        int[] data = new int[4000 - 32];
        Arrays.fill(data, 255);
        TreeImages x = new TreeImages();
        due("12 of 4000 bytes", come(x, imageOf(32, data, folder(0, 0, 1), NOTHING, NOTHING, 0)), 0);
        due("12 LENGTH 4000", x.image(0, 0), 4000);
        due("12 DATA of it", x.image(0, 4), 3968);
        due("12 byte 3985", x.out(0, 3985), 255);
        due("12 the last byte", x.out(0, 3999), 0);
        dueThrow("12 beyond", x, 0, 4000);
        int many = 330;
        int[] inodes = folder(0, many, 1);
        int[] names = NOTHING;
        int[] exports = new int[many + 1];
        for (int n = 1; n <= many; n++) {
            inodes = joined(inodes, hider(1));
            names = joined(names, words(n, n + 1));
            exports[n] = 12 + 6 * (n - 1);
        }
        TreeImages y = new TreeImages();
        due("12 of 331 NUMBERS", come(y, imageOf(8, NOTHING, inodes, names, NOTHING, exports)), 0);
        due("12 NUMBERS", y.image(0, 2), 331);
        due("12 the last NUMBER", y.node(0, 331, 0), 3);
        due("12 the next one", y.node(0, 332, 0), OUTSIDE);
        y.over(0);
        due("12 all of them hide", y.view(0, 3), 0);
        due("12 no name", y.list(0, 0), NONE);
        // the most rows at all: HIDERS alone, the first too
        int[] exportsAlone = new int[497];
        int[] rows = NOTHING;
        for (int n = 0; n < 497; n++) {
            rows = joined(rows, hider(1));
            exportsAlone[n] = 6 * n;
        }
        due("12 497 HIDERS", comes(imageOf(8, NOTHING, rows, NOTHING, NOTHING, exportsAlone)), -17);
    }

    private static int[] folder(int namesAt, int names, int home) {
        return joined(new int[] {1, 0, 0, 0, 0, 1}, words(namesAt, names, home));
    }

    private static int[] hider(int names) {
        return new int[] {3, 0, 0, 0, 0, names};
    }

    private static int[] file(int names, int size, int place, int tailBlock, int start, int... sizes) {
        return joined(new int[] {2, 0, 0, 0, 0, names}, words(size, place), new int[] {tailBlock, start}, words(sizes));
    }

    /** '1 HEAD: fewer than 18 bytes' */
    private static void headOf18Bytes() {
        for (int many = 0; many < 18; many++) {
            due("12.1 of " + many, comes(Arrays.copyOf(sample(), many)), -11);
        }
        due("12.1 of 18", comes(Arrays.copyOf(sample(), 18)), -12);
        due("12.1 of 18 that tell so", comes(summed(84, 73, 8, 0, 0, 0, 0, 18, 0, 18, 0, 18, 0, 18, 0, 18, 0, 0)), -12);
        due("12.1 the least", comes(imageOf(8, NOTHING, folder(0, 0, 1), NOTHING, NOTHING, 0)), 0);
    }

    /** '84, 73, B, 0 are not so' */
    private static void headMarks() {
        int[] places = {0, 1, 3};
        int[] due = {84, 73, 0};
        for (int i = 0; i < 3; i++) {
            for (int b = 0; b < 256; b += b == due[i] - 1 || b == due[i] ? 1 : 5) {
                due("12.1 byte " + places[i] + " is " + b, judged(places[i], b), b == due[i] ? 0 : -11);
            }
            due("12.1 byte " + places[i] + " is one less", judged(places[i], due[i] + 255 & 255), -11);
            due("12.1 byte " + places[i] + " is one more", judged(places[i], due[i] + 1), -11);
        }
        for (int b = 0; b < 256; b++) {
            boolean taken = b == 8 || b == 16 || b == 32;
            due("12.1 B " + b, comes(imageOf(b, NOTHING, folder(0, 0, 1), NOTHING, NOTHING, 0)), taken ? 0 : -11);
        }
    }

    /** '2 LENGTH is not how many they are' */
    private static void lengthIsHowManyTheyAre() {
        due("12.2 LENGTH less", judged(15, 131), -12);
        due("12.2 LENGTH more", judged(15, 133), -12);
        due("12.2 LENGTH much more", judged(14, 1), -12);
        due("12.2 LENGTH 0", judged(15, 0), -12);
        due("12.2 one byte more", comes(summed(Arrays.copyOf(sample(), 133))), -12);
        due("12.2 one byte less", comes(summed(Arrays.copyOf(sample(), 131))), -12);
    }

    /** 'the places do not rise (18 at least, each at least the one before, LENGTH at most)' */
    private static void placesRise() {
        due("12.2 INODES at 18", comes(imageOf(8, NOTHING, folder(0, 0, 1), NOTHING, NOTHING, 0)), 0);
        due("12.2 INODES at 17", comes(summed(changed(imageOf(8, NOTHING, folder(0, 0, 1), NOTHING, NOTHING, 0), 7, 17))), -12);
        due("12.2 INODES at 0", judged(7, 0), -12);
        // each one beyond the next, by one; and just at it, which is no FAULT 2
        due("12.2 INODES behind FOLDERS", judged(7, NAMES + 1), -12);
        due("12.2 INODES at FOLDERS", judged(7, NAMES), -15);
        due("12.2 FOLDERS behind TAILS", judged(9, TAILS + 1), -12);
        due("12.2 FOLDERS at TAILS", judged(9, TAILS), -15);
        due("12.2 TAILS behind EXPORTS", judged(11, EXPORTS + 1), -12);
        due("12.2 TAILS at EXPORTS", judged(11, EXPORTS), -15);
        due("12.2 EXPORTS behind LENGTH", judged(13, 133), -12);
        due("12.2 EXPORTS far behind LENGTH", judged(12, 255), -12);
        due("12.2 INODES far behind", judged(6, 255), -12);
        due("12.2 FOLDERS far behind", judged(8, 255), -12);
        due("12.2 TAILS far behind", judged(10, 255), -12);
    }

    /** 'there is no NUMBER, or EXPORTS are not a word for each (up to LENGTH)' */
    private static void exportsAreAWordForEach() {
        due("12.2 no NUMBER, no EXPORTS", comes(imageOf(8, NOTHING, NOTHING, NOTHING, NOTHING)), -12);
        due("12.2 no NUMBER", judged(5, 0), -12);
        due("12.2 a NUMBER less", judged(5, 4), -12);
        due("12.2 a NUMBER more", judged(5, 6), -12);
        due("12.2 32768 NUMBERS more", judged(4, 128), -12);
        due("12.2 EXPORTS a byte longer", judged(13, EXPORTS - 1), -12);
        due("12.2 EXPORTS a byte shorter", judged(13, EXPORTS + 1), -12);
        due("12.2 EXPORTS a word longer", judged(13, EXPORTS - 2), -12);
        due("12.2 EXPORTS a word shorter", judged(13, EXPORTS + 2), -12);
        // TAILS lose four bytes then, and there is a FAULT 4
        due("12.2 both a word longer", judged(13, EXPORTS - 4, 5, 7), -14);
    }

    /** '3 SUM', 'mod 65521' */
    private static void sum() {
        int[] changes = {1, 255, 128};
        for (int change : changes) {
            due("12.3 the higher byte " + change, comes(changedBy(sample(), 16, change)), -13);
            due("12.3 the lower byte " + change, comes(changedBy(sample(), 17, change)), -13);
            due("12.3 the first of DATA " + change, comes(changedBy(sample(), 18, change)), -13);
            due("12.3 the last of all " + change, comes(changedBy(sample(), 131, change)), -13);
        }
        // places count: two bytes that change seats
        int[] bytes = sample();
        int kept = bytes[18];
        bytes[18] = bytes[19];
        bytes[19] = kept;
        due("12.3 two bytes change seats", comes(bytes), -13);
        for (int wanted = 65520; wanted <= 65536; wanted++) {
            int[] image = withSum(wanted);
            due("12.3 a sum of " + wanted, word(image, 16), wanted % 65521);
            due("12.3 a sum of " + wanted + " is right", comes(image), 0);
            setWord(image, 16, Math.min(wanted, 65535));
            due("12.3 a sum of " + wanted + " without mod", comes(image), wanted < 65521 ? 0 : -13);
        }
    }

    private static int[] changedBy(int[] bytes, int place, int change) {
        bytes[place] ^= change;
        return bytes;
    }

    /** The least image with bytes in DATA, which no one asks for, that make its sum this one. */
    private static int[] withSum(int wanted) {
        int[] image = imageOf(8, new int[100], folder(0, 0, 1), NOTHING, NOTHING, 0);
        int left = wanted;
        for (int i = 0; i < image.length; i++) {
            left -= i / 2 == 8 ? 0 : image[i] * (i + 1);
        }
        for (int place = 117; place >= 18; place--) {
            image[place] = Math.min(255, Math.max(0, left - 1000) / (place + 1));
            left -= image[place] * (place + 1);
        }
        for (int many = 0; many < 20 && left > 0; many++) {
            if ((left - 19 * many) % 20 == 0) {
                image[18] += many;
                image[19] += (left - 19 * many) / 20;
                left = 0;
            }
        }
        return summed(image);
    }

    private static int tails(int b, int[] data, int... tails) {
        return comes(imageOf(b, data, folder(0, 0, 1), NOTHING, tails, 0));
    }

    private static int[] tail(int place, int size, int length) {
        return joined(words(place, size), new int[] {length});
    }

    /** '4 TAILS (by rows): not five bytes each' */
    private static void tailsOfFiveBytes() {
        for (int many = 0; many <= 20; many++) {
            int[] rows = new int[many];
            for (int i = 4; i < many; i += 5) {
                rows[i] = 1;
            }
            due("12.4 " + many + " bytes", tails(8, NOTHING, rows), many % 5 == 0 ? 0 : -14);
        }
    }

    /** 'L not 1 to B' */
    private static void tailLengths() {
        for (int b = 8; b <= 32; b *= 2) {
            int[] lengths = {0, 1, b - 1, b, b + 1, 255};
            for (int length : lengths) {
                due("12.4 B " + b + ", L " + length, tails(b, NOTHING, tail(0, 0, length)), length >= 1 && length <= b ? 0 : -14);
            }
        }
        due("12.4 a full TAIL BLOCK as it is", tails(16, JUNK, tail(18, 32784, 16)), 0);
        due("12.4 more than a full one", tails(16, JUNK, tail(18, 32785, 17)), -14);
    }

    /** 'its bytes do not lie within DATA', '(A SIZE of 0: L zeros; a place counts for nothing then.)' */
    private static void tailBlocksWithinData() {
        // DATA are 18 to 37
        due("12.4 at DATA's begin", tails(8, JUNK, tail(18, 32776, 8)), 0);
        due("12.4 a byte ahead", tails(8, JUNK, tail(17, 32776, 8)), -14);
        due("12.4 at 0", tails(8, JUNK, tail(0, 32776, 8)), -14);
        due("12.4 up to DATA's end", tails(8, JUNK, tail(30, 32776, 8)), 0);
        due("12.4 a byte beyond", tails(8, JUNK, tail(31, 32776, 8)), -14);
        due("12.4 at the end", tails(8, JUNK, tail(38, 32769, 1)), -14);
        due("12.4 the last byte", tails(8, JUNK, tail(37, 32769, 1)), 0);
        due("12.4 far beyond", tails(8, JUNK, tail(65535, 32769, 1)), -14);
        int[] runs = {254, 9, 0, 0, 254, 9};
        due("12.4 packed at DATA's begin", tails(8, runs, tail(18, 2, 3)), 0);
        due("12.4 packed a byte ahead", tails(8, runs, tail(17, 3, 3)), -14);
        due("12.4 packed up to DATA's end", tails(8, runs, tail(22, 2, 3)), 0);
        due("12.4 packed beyond, though the bytes would do", comes(imageOf(8, new int[] {254}, folder(0, 0, 1), NOTHING,
                tail(18, 2, 3), 0)), -14);
        int[] places = {0, 17, 18, 38, 65535};
        for (int place : places) {
            due("12.4 nothing at " + place, tails(8, JUNK, tail(place, 0, 8)), 0);
            due("12.4 nothing at " + place + " without DATA", tails(8, NOTHING, tail(place, 0, 1)), 0);
        }
    }

    /** 'a SIZE of 32768 and more is not 32768 + L' */
    private static void tailBlocksAsTheyAre() {
        for (int length = 1; length <= 8; length++) {
            for (int more = 0; more <= 9; more++) {
                due("12.4 L " + length + ", SIZE 32768 + " + more, tails(8, JUNK, tail(18, 32768 + more, length)),
                        more == length ? 0 : -14);
            }
        }
        due("12.4 SIZE 65535", tails(8, JUNK, tail(18, 65535, 8)), -14);
        due("12.4 SIZE 32767", tails(8, JUNK, tail(18, 32767, 8)), -14);
    }

    /** 'PACKED, all of them together do not open to just L bytes (a 128 opens to nothing, also as the last one)' */
    private static void tailBlocksPacked() {
        packed("a run of 2", 2, 255, 9);
        packed("a run of 3", 3, 254, 9);
        packed("a run of 8", 8, 249, 9);
        packed("one byte", 1, 0, 9);
        packed("eight bytes", 8, 7, 1, 2, 3, 4, 5, 6, 7, 8);
        packed("two rows", 5, 254, 9, 1, 3, 3);
        packed("128 ahead", 3, 128, 254, 9);
        packed("128 amidst", 5, 254, 9, 128, 255, 8);
        packed("128 as the last one", 3, 254, 9, 128);
        packed("128 thrice", 1, 128, 0, 7, 128, 128);
        packed("zeros", 3, 254, 0);
        packed("128 as a byte", 2, 1, 128, 128);
        due("12.4 128 as the last one, without it", tails(8, new int[] {254, 9, 128}, tail(18, 2, 3)), 0);
        due("12.4 128 as a byte, without it", tails(8, new int[] {1, 128, 128}, tail(18, 2, 2)), -14);
        due("12.4 128 alone", tails(8, new int[] {128}, tail(18, 1, 1)), -14);
        due("12.4 a run without its byte", tails(8, new int[] {254, 9}, tail(18, 1, 3)), -14);
        due("12.4 a run without its byte at the end", tails(8, new int[] {0, 9, 254}, tail(18, 3, 4)), -14);
        due("12.4 a byte too few", tails(8, new int[] {2, 9, 8, 7}, tail(18, 3, 3)), -14);
        due("12.4 two bytes too few", tails(8, new int[] {2, 9, 8, 7}, tail(18, 2, 3)), -14);
        due("12.4 a byte behind that opens to one more", tails(8, new int[] {0, 9, 0, 9}, tail(18, 4, 1)), -14);
        due("12.4 the same, taken for two", tails(8, new int[] {0, 9, 0, 9}, tail(18, 4, 2)), 0);
        due("12.4 the longest run", tails(32, new int[] {129, 9}, tail(18, 2, 32)), -14);
        due("12.4 the longest row of bytes", tails(32, joined(new int[] {127}, new int[128]), tail(18, 129, 32)), -14);
        due("12.4 a run of 32", tails(32, new int[] {225, 9}, tail(18, 2, 32)), 0);
        due("12.4 a run of 33", tails(32, new int[] {224, 9}, tail(18, 2, 32)), -14);
    }

    /** The bytes open to just so many: neither one more nor one less is right. */
    private static void packed(String what, int opens, int... bytes) {
        for (int length = 1; length <= 8; length++) {
            due("12.4 " + what + ", L " + length, tails(8, bytes, tail(18, bytes.length, length)), length == opens ? 0 : -14);
        }
    }

    /** 'TAILS (by rows)': any of them; those that no FILE asks for too */
    private static void tailsByRows() {
        int[] right = tail(18, 32776, 8);
        int[] wrong = tail(18, 32775, 8);
        due("12.4 three right", tails(8, JUNK, joined(right, right, right)), 0);
        due("12.4 the first wrong", tails(8, JUNK, joined(wrong, right, right)), -14);
        due("12.4 the second wrong", tails(8, JUNK, joined(right, wrong, right)), -14);
        due("12.4 the last wrong", tails(8, JUNK, joined(right, right, wrong)), -14);
    }

    /** Folder 1 with a FILE 2 by 1 and a HIDER 3 by 2; TAIL BLOCKS of 5 and 8 bytes; DATA of JUNK. */
    private static int withFile(int[] file, int... exports) {
        return comes(imageOf(8, JUNK, joined(folder(0, 2, 1), file, hider(1)), words(1, 2, 2, 3),
                joined(tail(18, 32773, 5), tail(18, 32776, 8)), exports));
    }

    private static int withFile(int[] file) {
        return withFile(file, 0, 12, 12 + file.length);
    }

    /** '5 INODES (by NUMBERS): a row that does not begin where the one before ends (the first at 0), as EXPORTS tell' */
    private static void rowsBeginWhereTheOneBeforeEnds() {
        int[] file = file(1, 5, 0, 1, 0);
        due("12.5 as they are", withFile(file, 0, 12, 24), 0);
        due("12.5 the first at 1", withFile(file, 1, 12, 24), -15);
        due("12.5 the first at 65535", withFile(file, 65535, 12, 24), -15);
        due("12.5 the second one less", withFile(file, 0, 11, 24), -15);
        due("12.5 the second one more", withFile(file, 0, 13, 24), -15);
        due("12.5 the second as the first", withFile(file, 0, 0, 24), -15);
        due("12.5 the last one less", withFile(file, 0, 12, 23), -15);
        due("12.5 the last one more", withFile(file, 0, 12, 25), -15);
        due("12.5 the last at 65535", withFile(file, 0, 12, 65535), -15);
        due("12.5 two that change seats", withFile(file, 0, 24, 12), -15);
    }

    /** 'another first byte' */
    private static void firstBytes() {
        int[] kinds = {0, 4, 5, 128, 255};
        for (int kind : kinds) {
            due("12.5 the first, " + kind, judged(ROOT_ROW, kind), -15);
            due("12.5 one amidst, " + kind, judged(FILE_ROW, kind), -15);
            due("12.5 the last, " + kind, judged(HIDER_ROW, kind), -15);
        }
    }

    /** 'a row that goes beyond INODES, or the last one ends ahead of it' */
    private static void rowsWithinInodes() {
        int[] inodes = joined(folder(0, 0, 1), hider(1));
        for (int many = 0; many <= 20; many++) {
            int[] rows = Arrays.copyOf(inodes, many);
            // 18 are right but for names: the HIDER has none
            due("12.5 INODES of " + many, comes(imageOf(8, NOTHING, rows, NOTHING, NOTHING, 0, 12)), many == 18 ? -17 : -15);
        }
        int[] file = file(1, 16, 18, 0, 0, 0, 0);
        for (int many = 12; many <= 30; many++) {
            int[] rows = Arrays.copyOf(joined(folder(0, 1, 1), file), many);
            due("12.5 INODES of " + many + " with a FILE of two blocks",
                    comes(imageOf(8, NOTHING, rows, words(1, 2), NOTHING, 0, 12)), many == 28 ? 0 : -15);
        }
        // a FILE of 65535 bytes tells more blocks than there is room for
        due("12.5 a FILE of 65535 bytes", withFile(file(1, 65535, 18, 1, 0)), -15);
        due("12.5 a FILE of a block more", withFile(file(1, 8, 18, 0, 0)), -15);
        due("12.5 a FILE of a block less", withFile(file(1, 0, 18, 0, 0, 0)), -15);
    }

    /** 'a TAIL BLOCK that there is not, or one (or a place in it) though its bytes are blocks of B, or none though they are not' */
    private static void tailsOfFiles() {
        due("12.5 TAIL BLOCK 1", withFile(file(1, 1, 0, 1, 0)), 0);
        due("12.5 TAIL BLOCK 2", withFile(file(1, 1, 0, 2, 0)), 0);
        due("12.5 TAIL BLOCK 3", withFile(file(1, 1, 0, 3, 0)), -15);
        due("12.5 TAIL BLOCK 255", withFile(file(1, 1, 0, 255, 0)), -15);
        due("12.5 none though a tail", withFile(file(1, 1, 0, 0, 0)), -15);
        due("12.5 none though a tail behind a block", withFile(file(1, 9, 18, 0, 0, 0)), -15);
        due("12.5 none, and none is due", withFile(file(1, 8, 18, 0, 0, 0)), 0);
        due("12.5 one though a block", withFile(file(1, 8, 18, 1, 0, 0)), -15);
        due("12.5 one that is not, though a block", withFile(file(1, 8, 18, 3, 0, 0)), -15);
        due("12.5 a place though a block", withFile(file(1, 8, 18, 0, 1, 0)), -15);
        due("12.5 no bytes", withFile(file(1, 0, 0, 0, 0)), 0);
        due("12.5 no bytes, a TAIL BLOCK", withFile(file(1, 0, 0, 1, 0)), -15);
        due("12.5 no bytes, a place", withFile(file(1, 0, 0, 0, 1)), -15);
        due("12.5 no bytes, a place of blocks", withFile(file(1, 0, 65535, 0, 0)), 0);
        due("12.5 no block, a place of blocks", withFile(file(1, 1, 65535, 1, 0)), 0);
    }

    /** 'a tail beyond its TAIL BLOCK's L' */
    private static void tailsWithinL() {
        for (int size = 1; size <= 7; size++) {
            for (int start = 0; start <= 8; start++) {
                due("12.5 " + size + " from " + start + " of 5", withFile(file(1, size, 0, 1, start)), start + size <= 5 ? 0 : -15);
                due("12.5 " + size + " from " + start + " of 8", withFile(file(1, size, 0, 2, start)), start + size <= 8 ? 0 : -15);
            }
        }
        due("12.5 from 255", withFile(file(1, 1, 0, 2, 255)), -15);
        due("12.5 behind a block", withFile(file(1, 13, 18, 1, 0, 0)), 0);
        due("12.5 behind a block, beyond", withFile(file(1, 14, 18, 1, 0, 0)), -15);
        due("12.5 a tail that two have", comes(imageOf(8, JUNK,
                joined(folder(0, 2, 1), file(1, 3, 0, 1, 0), file(1, 3, 0, 1, 1)), words(1, 2, 2, 3), tail(18, 32772, 4), 0, 12, 24)), 0);
    }

    /** 'a block that can't be' of a FILE */
    private static void blocksOfFiles() {
        due("12.5 as it is", withFile(file(1, 8, 18, 0, 0, 32776)), 0);
        due("12.5 as it is, one less", withFile(file(1, 8, 18, 0, 0, 32775)), -15);
        due("12.5 as it is, one more", withFile(file(1, 8, 18, 0, 0, 32777)), -15);
        due("12.5 SIZE 32768", withFile(file(1, 8, 18, 0, 0, 32768)), -15);
        due("12.5 SIZE 32767", withFile(file(1, 8, 18, 0, 0, 32767)), -15);
        due("12.5 SIZE 65535", withFile(file(1, 8, 18, 0, 0, 65535)), -15);
        due("12.5 a byte ahead of DATA", withFile(file(1, 8, 17, 0, 0, 32776)), -15);
        due("12.5 up to DATA's end", withFile(file(1, 8, 30, 0, 0, 32776)), 0);
        due("12.5 a byte beyond", withFile(file(1, 8, 31, 0, 0, 32776)), -15);
        due("12.5 at 65535", withFile(file(1, 8, 65535, 0, 0, 32776)), -15);
        due("12.5 nothing at 65535", withFile(file(1, 8, 65535, 0, 0, 0)), 0);
        due("12.5 nothing at 0", withFile(file(1, 8, 0, 0, 0, 0)), 0);
        // JUNK from 24 on: 7, then eight bytes
        due("12.5 packed", withFile(file(1, 8, 24, 0, 0, 9)), 0);
        due("12.5 packed, a byte less", withFile(file(1, 8, 24, 0, 0, 8)), -15);
        due("12.5 packed, a byte more", withFile(file(1, 8, 24, 0, 0, 10)), -15);
        due("12.5 packed to nine", withFile(file(1, 8, 25, 0, 0, 10)), -15);
        due("12.5 packed to seven", withFile(file(1, 8, 23, 0, 0, 8)), -15);
        due("12.5 packed beyond DATA", withFile(file(1, 8, 37, 0, 0, 2)), -15);
        // a block of a FILE has B bytes, though a TAIL BLOCK may have less
        due("12.5 a block of five", withFile(file(1, 8, 18, 0, 0, 32773)), -15);
        due("12.5 by 16", comes(imageOf(16, JUNK, joined(folder(0, 1, 1), file(1, 16, 18, 0, 0, 32784)), words(1, 2), NOTHING, 0, 12)), 0);
        due("12.5 by 16, as by 8", comes(imageOf(16, JUNK, joined(folder(0, 1, 1), file(1, 16, 18, 0, 0, 32776)), words(1, 2), NOTHING, 0, 12)), -15);
    }

    /** 'A FILE's blocks lie one behind the other from its place on.' */
    private static void blocksBehindEachOther() {
        due("12.5 two up to DATA's end", withFile(file(1, 16, 22, 0, 0, 32776, 32776)), 0);
        due("12.5 two a byte beyond", withFile(file(1, 16, 23, 0, 0, 32776, 32776)), -15);
        due("12.5 a hole takes no place", withFile(file(1, 24, 22, 0, 0, 32776, 0, 32776)), 0);
        due("12.5 a hole at first", withFile(file(1, 24, 22, 0, 0, 0, 32776, 32776)), 0);
        due("12.5 a hole at first, beyond", withFile(file(1, 16, 31, 0, 0, 0, 32776)), -15);
        due("12.5 a hole behind DATA's end", withFile(file(1, 16, 30, 0, 0, 32776, 0)), 0);
        due("12.5 the second wrong", withFile(file(1, 16, 18, 0, 0, 32776, 32775)), -15);
        due("12.5 the first wrong", withFile(file(1, 16, 18, 0, 0, 32775, 32776)), -15);
        // 9 bytes from 24 on are packed; what follows them begins at 33
        due("12.5 behind a packed one", withFile(file(1, 16, 24, 0, 0, 9, 5)), -15);
        TreeImages x = new TreeImages();
        int[] data = {9, 249, 5, 7, 1, 2, 3, 4, 5, 6, 7, 8, 254, 6};
        due("12.5 all sorts", come(x, imageOf(8, data,
                joined(folder(0, 1, 1), file(1, 35, 19, 1, 0, 2, 9, 0, 0)), words(999, 2), tail(30, 2, 3), 0, 12)), 0);
        x.over(0);
        int view = x.look(0, 999);
        for (int i = 0; i < 35; i++) {
            due("12.5 all sorts: read " + i, x.read(view, i), i < 8 ? 5 : i < 16 ? i - 7 : i < 32 ? 0 : 6);
        }
        due("12.5 all sorts: beyond", x.read(view, 35), OUTSIDE);
    }

    /** Folder 1 with folder 2 by 1 and 3 by 2; 2 with 4 by 1; 3 and 4 without any: where their names begin, how many. */
    private static int withFolders(int[] at, int[] many, int... folders) {
        int[] inodes = joined(folder(at[0], many[0], 1), folder(at[1], many[1], 1), folder(at[2], many[2], 1), folder(at[3], many[3], 2));
        return comes(imageOf(8, NOTHING, inodes, words(folders), NOTHING, 0, 12, 24, 36));
    }

    private static int[] row(int... numbers) {
        return numbers;
    }

    /** '6 ..: names that do not begin where those of the folder before end (the first at 0)': also of folders without */
    private static void namesBeginWhereThoseBeforeEnd() {
        int[] many = {2, 1, 0, 0};
        int[] names = {1, 2, 2, 3, 1, 4};
        due("12.6 as they are", withFolders(row(0, 8, 12, 12), many, names), 0);
        due("12.6 the first at 1", withFolders(row(1, 8, 12, 12), many, names), -16);
        due("12.6 the first at 4", withFolders(row(4, 8, 12, 12), many, names), -16);
        due("12.6 the second one less", withFolders(row(0, 7, 12, 12), many, names), -16);
        due("12.6 the second one more", withFolders(row(0, 9, 12, 12), many, names), -16);
        due("12.6 one without at 8", withFolders(row(0, 8, 8, 12), many, names), -16);
        due("12.6 one without at 13", withFolders(row(0, 8, 13, 12), many, names), -16);
        due("12.6 the last, without, at 0", withFolders(row(0, 8, 12, 0), many, names), -16);
        due("12.6 the last, without, at 16", withFolders(row(0, 8, 12, 16), many, names), -16);
        due("12.6 the last, without, at 65535", withFolders(row(0, 8, 12, 65535), many, names), -16);
    }

    /** 'go beyond FOLDERS, or the last ones end ahead of it' */
    private static void namesWithinFolders() {
        int[] at = {0, 8, 12, 12};
        int[] names = {1, 2, 2, 3, 1, 4, 3, 4};
        due("12.6 a name less than FOLDERS", withFolders(at, row(2, 1, 0, 0), names), -16);
        due("12.6 a name more than FOLDERS", withFolders(at, row(2, 1, 0, 1), Arrays.copyOf(names, 6)), -16);
        due("12.6 65535 names", withFolders(at, row(2, 1, 0, 65535), Arrays.copyOf(names, 6)), -16);
        due("12.6 16384 names, 65536 bytes", withFolders(at, row(2, 1, 0, 16384), Arrays.copyOf(names, 6)), -16);
        due("12.6 half a name more", withFolders(at, row(2, 1, 0, 0), Arrays.copyOf(names, 7)), -16);
        due("12.6 no name in FOLDERS of none", comes(imageOf(8, NOTHING, folder(0, 0, 1), NOTHING, NOTHING, 0)), 0);
        due("12.6 a name in FOLDERS of none", comes(imageOf(8, NOTHING, folder(0, 1, 1), NOTHING, NOTHING, 0)), -16);
        for (int bytes = 1; bytes < 4; bytes++) {
            due("12.6 FOLDERS of " + bytes, comes(imageOf(8, NOTHING, folder(0, 0, 1), new int[bytes], NOTHING, 0)), -16);
        }
    }

    /** 'a name not 1 to 999, not above the one before' */
    private static void namesRise() {
        int[] at = {0, 8, 12, 12};
        int[] many = {2, 1, 0, 0};
        int[][] taken = {{1, 2, 1}, {1, 999, 1}, {998, 999, 999}, {1, 2, 999}};
        for (int[] names : taken) {
            due("12.6 names " + Arrays.toString(names), withFolders(at, many, names[0], 2, names[1], 3, names[2], 4), 0);
        }
        int[][] refused = {{0, 1, 1}, {1, 1000, 1}, {1, 2, 0}, {1, 2, 1000}, {1, 1, 1}, {2, 1, 1}, {999, 998, 1}, {1, 2, 65535},
            {999, 999, 1}, {999, 1000, 1}, {0, 999, 1}, {1, 0, 1}, {65535, 1, 1}};
        for (int[] names : refused) {
            due("12.6 names " + Arrays.toString(names), withFolders(at, many, names[0], 2, names[1], 3, names[2], 4), -16);
        }
    }

    /** 'a NUMBER that there is not' */
    private static void numbersInFolders() {
        int[] at = {0, 8, 12, 12};
        int[] many = {2, 1, 0, 0};
        int[] refused = {0, 5, 256, 65535, 32768};
        for (int number : refused) {
            due("12.6 the first NUMBER " + number, withFolders(at, many, 1, number, 2, 3, 1, 4), -16);
            due("12.6 the last NUMBER " + number, withFolders(at, many, 1, 2, 2, 3, 1, number), -16);
        }
        // these are there, but not so
        due("12.6 NUMBER 1 is there", withFolders(at, many, 1, 2, 2, 3, 1, 1), -17);
        due("12.6 NUMBER 3 is there", withFolders(at, many, 1, 2, 2, 3, 1, 3), -17);
    }

    /** '7 NUMBER 1 is no folder, tells not 1 as its names, not itself as its folder, or is named' */
    private static void number1() {
        due("12.7 1 is a FILE", comes(imageOf(8, NOTHING, file(1, 0, 0, 0, 0), NOTHING, NOTHING, 0)), -17);
        due("12.7 1 is a HIDER", comes(imageOf(8, NOTHING, hider(1), NOTHING, NOTHING, 0)), -17);
        int[] names = {0, 1, 2, 255};
        for (int told : names) {
            due("12.7 1 tells names " + told, judged(ROOT_ROW + 5, told), told == 1 ? 0 : -17);
        }
        int[] homes = {0, 1, 2, 5, 6, 255};
        for (int home : homes) {
            due("12.7 1 tells the folder " + home, judged(ROOT_ROW + 11, home), home == 1 ? 0 : -17);
        }
        due("12.7 1 tells the folder 257", judged(ROOT_ROW + 10, 1), -17);
        due("12.7 1 is named in itself", comes(imageOf(8, NOTHING, folder(0, 1, 1), words(1, 1), NOTHING, 0)), -17);
        due("12.7 1 is named in 2",
                comes(imageOf(8, NOTHING, joined(folder(0, 1, 1), folder(4, 1, 1)), words(1, 2, 1, 1), NOTHING, 0, 12)), -17);
        due("12.7 1 is named in 2, and tells so", comes(imageOf(8, NOTHING,
                joined(folder(0, 1, 2), folder(4, 1, 1)), words(1, 2, 1, 1), NOTHING, 0, 12)), -17);
    }

    /** A folder with so many names of one FILE that tells so many. */
    private static int named(int told, int times) {
        int[] names = NOTHING;
        for (int n = 1; n <= times; n++) {
            names = joined(names, words(n, 2));
        }
        return comes(imageOf(8, NOTHING, joined(folder(0, times, 1), file(told, 0, 0, 0, 0)), names, NOTHING, 0, 12));
    }

    /** 'another one is named another number of times than told, or not at all' */
    private static void namesAsTold() {
        int[] times = {1, 2, 9, 10, 255};
        for (int n : times) {
            due("12.7 " + n + " names, told so", named(n, n), 0);
            due("12.7 " + n + " names, one less told", named(n - 1, n), -17);
            due("12.7 " + n + " names, one more told", named(n + 1 & 255, n), -17);
        }
        due("12.7 no name, none told", named(0, 0), -17);
        due("12.7 no name, one told", named(1, 0), -17);
        due("12.7 256 names, none told", named(0, 256), -17);
        due("12.7 257 names, one told", named(1, 257), -17);
        due("12.7 a HIDER tells none", judged(HIDER_ROW + 5, 0), -17);
        due("12.7 a HIDER tells two", judged(HIDER_ROW + 5, 2), -17);
        due("12.7 a folder tells none", judged(FOLDER_ROW + 5, 0), -17);
        due("12.7 a folder tells two", judged(FOLDER_ROW + 5, 2), -17);
        due("12.7 a HIDER that no one names", comes(imageOf(8, NOTHING, joined(folder(0, 0, 1), hider(0)), NOTHING, NOTHING, 0, 12)), -17);
        due("12.7 a folder that no one names", comes(imageOf(8, NOTHING,
                joined(folder(0, 0, 1), changed(folder(0, 0, 1), 5, 0)), NOTHING, NOTHING, 0, 12)), -17);
        due("12.7 the last one is not named", comes(imageOf(8, NOTHING,
                joined(folder(0, 1, 1), hider(1), hider(1)), words(1, 2), NOTHING, 0, 12, 18)), -17);
    }

    /** 'a folder or HIDER more than once' */
    private static void foldersAndHidersOnce() {
        due("12.7 a HIDER once", comes(imageOf(8, NOTHING, joined(folder(0, 1, 1), hider(1)), words(1, 2), NOTHING, 0, 12)), 0);
        due("12.7 a HIDER twice", comes(imageOf(8, NOTHING, joined(folder(0, 2, 1), hider(2)), words(1, 2, 2, 2), NOTHING, 0, 12)), -17);
        due("12.7 a folder once", comes(imageOf(8, NOTHING, joined(folder(0, 1, 1), folder(4, 0, 1)), words(1, 2), NOTHING, 0, 12)), 0);
        due("12.7 a folder twice", comes(imageOf(8, NOTHING,
                joined(folder(0, 2, 1), changed(folder(8, 0, 1), 5, 2)), words(1, 2, 2, 2), NOTHING, 0, 12)), -17);
        due("12.7 a FILE twice", named(2, 2), 0);
    }

    /** 'a folder is named elsewhere than in the one that it tells' */
    private static void foldersWhereTheyTell() {
        // 1 has 2 and 3; 4 is named in 2
        int[] homes = {0, 1, 2, 3, 4, 5, 65535};
        for (int home : homes) {
            due("12.7 4 tells " + home, comes(imageOf(8, NOTHING,
                    joined(folder(0, 2, 1), folder(8, 1, 1), folder(12, 0, 1), folder(12, 0, home)),
                    words(1, 2, 2, 3, 1, 4), NOTHING, 0, 12, 24, 36)), home == 2 ? 0 : -17);
        }
    }

    /** 'or it does not come to 1 by these' */
    private static void foldersComeTo1() {
        due("12.7 one in itself", comes(imageOf(8, NOTHING,
                joined(folder(0, 0, 1), folder(0, 1, 2)), words(1, 2), NOTHING, 0, 12)), -17);
        due("12.7 two in a ring", comes(imageOf(8, NOTHING,
                joined(folder(0, 0, 1), folder(0, 1, 3), folder(4, 1, 2)), words(1, 3, 1, 2), NOTHING, 0, 12, 24)), -17);
        due("12.7 a ring beside a right one", comes(imageOf(8, NOTHING,
                joined(folder(0, 1, 1), folder(4, 0, 1), folder(4, 1, 4), folder(8, 1, 3)),
                words(1, 2, 1, 4, 1, 3), NOTHING, 0, 12, 24, 36)), -17);
        due("12.7 a FILE in a ring", comes(imageOf(8, NOTHING,
                joined(folder(0, 0, 1), folder(0, 2, 2), file(1, 0, 0, 0, 0)), words(1, 2, 2, 3), NOTHING, 0, 12, 24)), -17);
        // the greatest NUMBER next to 1, the least one deepest: as long a way as there are folders
        int deep = 150;
        int[] inodes = folder(0, 1, 1);
        int[] names = words(7, deep);
        int[] exports = new int[deep];
        for (int number = 2; number <= deep; number++) {
            inodes = joined(inodes, folder(4 * Math.max(1, number - 2), number == 2 ? 0 : 1, number == deep ? 1 : number + 1));
            names = number == 2 ? names : joined(names, words(7, number - 1));
            exports[number - 1] = 12 * (number - 1);
        }
        due("12.7 150 folders, one below the other", comes(imageOf(8, NOTHING, inodes, names, NOTHING, exports)), 0);
    }

    /** 'the first FAULT of these': of two or more the lesser */
    private static void firstFault() {
        // one change for each FAULT; those that come before the sum is looked at need no right one
        int[][] changes = {{3, 1}, {15, 131}, {}, {TAILS + 4, 0}, {HIDER_ROW, 4}, {NAMES + 15, 0}, {ROOT_ROW + 5, 2}};
        for (int first = 1; first <= 7; first++) {
            for (int second = first + 1; second <= 7; second++) {
                int[] bytes = changed(changed(sample(), changes[second - 1]), changes[first - 1]);
                bytes = first == 3 || second == 3 ? bytes : summed(bytes);
                if (first == 3 || second == 3) {
                    bytes[17] ^= 1;
                }
                due("12 " + first + " ahead of " + second, comes(bytes), -10 - first);
            }
        }
        int[] all = sample();
        for (int fault = 7; fault >= 1; fault--) {
            changed(all, changes[fault - 1]);
            summed(all);
            all[17] ^= fault <= 3 ? 1 : 0;
            due("12 all from " + fault + " on", comes(all), -10 - fault);
        }
    }
}
