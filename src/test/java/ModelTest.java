import java.io.ByteArrayOutputStream;
import java.util.ArrayList;
import java.util.Arrays;
import java.util.LinkedHashMap;
import java.util.List;
import java.util.Map;
import java.util.Random;
import java.util.TreeMap;

/** Random runs of calls, with a fixed seed: the class against a second, naive reading of the document. */
public final class ModelTest {
    private static final int THROWS = Integer.MIN_VALUE;
    private static final int RUNS = 4000;
    private static final int CALLS = 512;

    public static void main(String[] args) {
        Map<String, Integer> answers = new TreeMap<>();
        for (int run = 0; run < RUNS; run++) {
            Driver driver = new Driver(new Random(7919L * run + 13), answers);
            try {
                driver.run();
            } catch (Driver.Full full) {
                // the run has had its calls
            }
            if (driver.wrong != null) {
                System.out.println("run " + run + ": " + driver.wrong);
                System.out.println(String.join("\n", driver.told));
                System.exit(1);
            }
        }
        requireSeen(answers);
        System.out.println(RUNS + " random runs agree with the model");
        if (args.length > 0) {
            answers.forEach((kind, n) -> System.out.println(kind + ": " + n));
        }
    }

    /** A run that never comes to an answer tests nothing about it. */
    private static void requireSeen(Map<String, Integer> answers) {
        String[] due = {
            "folder -1", "folder -2", "folder -3", "folder -4", "folder +", "file -1", "file -2", "file -3", "file -4",
            "file +", "hide -1", "hide -2", "hide -3", "hide -4", "hide +", "link -1", "link -2", "link -3", "link -4",
            "link +", "data -1", "data -2", "data -3", "data -4", "data +", "owner -1", "owner -2", "owner +",
            "clear +", "build -2", "build -4", "build 0", "build +", "feed -4", "feed +", "end -2", "end +", "load -4",
            "load -11", "load -12", "load -13", "load -14", "load -15", "load -16", "load -17", "load +", "drop -3",
            "drop 0", "drop +", "out -1", "out throws", "out +", "image -1", "image -2", "image +", "same -1", "same 0",
            "same +", "node -1", "node -2", "node +", "over -1", "over -3", "over +", "bare 0", "bare +", "look -1",
            "look -2", "look -3", "look -4", "look 0", "look +", "list -1", "list -2", "list -3", "list 0", "list +",
            "view -1", "view -2", "view 0", "view +", "read -1", "read -2", "read -3", "read 0", "read +", "count -2",
            "count 0", "count +"
        };
        for (String kind : due) {
            if (!answers.containsKey(kind)) {
                System.out.println("no random run came to " + kind);
                System.exit(1);
            }
        }
    }

    /** Chooses calls, gives each to the class and to the model, and compares. */
    private static final class Driver {
        static final class Full extends RuntimeException {
            private static final long serialVersionUID = 1L;
        }

        final Random random;
        final Map<String, Integer> answers;
        final TreeImages tested = new TreeImages();
        final Model model = new Model();
        final List<String> told = new ArrayList<>();
        String wrong;

        Driver(Random random, Map<String, Integer> answers) {
            this.random = random;
            this.answers = answers;
        }

        void run() {
            int shape = random.nextInt(10);
            if (shape == 0) {
                for (int i = 0; i < CALLS; i++) {
                    anyCall();
                }
            }
            if (shape == 1) {
                manyViews();
            }
            if (shape == 2 && random.nextInt(10) == 0) {
                fullTape();
            }
            if (shape == 3 || shape == 4) {
                for (int i = 0; i < 60; i++) {
                    comeByTape();
                    layAndWalk();
                    if (model.images.size() == 3 || random.nextInt(3) == 0) {
                        call("bare");
                        call("drop");
                    }
                }
            }
            for (int round = 0; round < 4; round++) {
                if (random.nextInt(3) == 0) {
                    comeByTape();
                } else {
                    growTree();
                    call("build", random.nextInt(12) == 0 ? some(-1, 40) : 8 << random.nextInt(3));
                    if (random.nextInt(3) > 0) {
                        call("clear");
                    }
                }
                for (int i = random.nextInt(8); i > 0; i--) {
                    anyCall();
                }
                layAndWalk();
                if (random.nextInt(4) == 0) {
                    call("bare");
                    call("drop");
                }
            }
            for (int i = 0; i < CALLS; i++) {
                anyCall();
            }
        }

        void growTree() {
            int calls = 5 + random.nextInt(random.nextInt(4) == 0 ? 120 : 30);
            int bytes = random.nextInt(3);
            if (random.nextInt(8) == 0) {
                int file = aFile();
                for (int i = 0; i < 10; i++) {
                    call("link", aFolder(), 1 + random.nextInt(999), file);
                }
            }
            for (int i = 0; i < calls; i++) {
                int node = random.nextInt(10) == 0 ? some(-1, 33) : random.nextInt(model.nodes.size());
                int folder = random.nextInt(6) == 0 ? node : aFolder();
                switch (random.nextInt(8)) {
                    case 0 -> call("folder", folder, aName());
                    case 1, 2 -> call("file", folder, aName());
                    case 3 -> call(random.nextInt(2) == 0 ? "hide" : "file", folder, aName());
                    case 4 -> call("link", folder, aName(), random.nextInt(3) == 0 ? node : aFile());
                    case 5, 6 -> call("data", random.nextInt(8) == 0 ? node : aFile(), aByte(bytes), aTimes());
                    default -> call("owner", node, aWord(), aWord());
                }
            }
        }

        /** Wide folders and many looks, up to more VIEWS than there may be. */
        void manyViews() {
            for (int image = 0; image < 2; image++) {
                for (int i = 0; i < 40; i++) {
                    call(random.nextInt(4) == 0 ? "folder" : "file", 0, 1 + image * 40 + i);
                }
                call("build", 8);
                call("over", image);
                call("clear");
            }
            for (int i = 0; i < 90; i++) {
                call("look", 0, i);
            }
            call("count", 3);
            for (int i = 0; i < 40; i++) {
                anyCall();
            }
        }

        void fullTape() {
            byte[] bytes = new byte[4000];
            random.nextBytes(bytes);
            feedAll(bytes);
            call("feed", 1, 2, 3, 4, 5);
            call("end", 3981);
            call("feed", 1, 2, 3, 4, 5);
            call("end", 3980);
            call("feed", 1, 2, 3, 4, 5);
            call("load");
            call("count", 4);
        }

        void comeByTape() {
            byte[] bytes = random.nextInt(3) == 0 && !model.images.isEmpty()
                    ? model.images.get(random.nextInt(model.images.size())).clone() : new Maker(random).make();
            int twists = random.nextInt(3);
            for (int i = 0; i < twists && bytes.length > 0; i++) {
                bytes = twist(bytes);
            }
            if (bytes.length >= 18 && random.nextInt(12) > 0) {
                Model.setSum(bytes);
            }
            if (bytes.length > 4000) {
                return;
            }
            call("end", 0);
            feedAll(bytes);
            call("load");
        }

        void feedAll(byte[] bytes) {
            byte[] full = Arrays.copyOf(bytes, (bytes.length + 19) / 20 * 20);
            for (int at = 0; at < full.length; at += 20) {
                int[] five = new int[5];
                for (int i = 0; i < 20; i++) {
                    five[i / 4] = five[i / 4] << 8 | full[at + i] & 255;
                }
                call("feed", five);
            }
            call("end", bytes.length);
        }

        byte[] twist(byte[] bytes) {
            int kind = random.nextInt(12);
            int exports = bytes.length < 14 ? 0 : Model.word(bytes, 12);
            int inodes = bytes.length < 14 ? 0 : Model.word(bytes, 6);
            if (kind == 0) {
                return Arrays.copyOf(bytes, random.nextInt(bytes.length));
            }
            int at = random.nextInt(bytes.length);
            if (kind > 3 && inodes < bytes.length) {
                at = inodes + random.nextInt(bytes.length - inodes);
            }
            if (kind > 8 && inodes < exports && exports < bytes.length) {
                at = inodes + random.nextInt(exports - inodes);
            }
            byte[] twisted = bytes.clone();
            twisted[at] = (byte) switch (random.nextInt(5)) {
                case 0 -> random.nextInt(256);
                case 1 -> twisted[at] + 1;
                case 2 -> twisted[at] - 1;
                case 3 -> random.nextInt(4);
                default -> 128;
            };
            return twisted;
        }

        void layAndWalk() {
            int images = model.images.size();
            for (int i = random.nextInt(3); i > 0; i--) {
                call("over", random.nextInt(8) == 0 ? some(-1, 3) : random.nextInt(Math.max(1, images)));
            }
            for (int i = random.nextInt(25); i > 0; i--) {
                int view = random.nextInt(8) == 0 ? some(-1, 61) : random.nextInt(Math.max(1, model.views.size()));
                switch (random.nextInt(8)) {
                    case 0, 1, 2 -> call("look", view, aNameBelow(view));
                    case 3 -> call("list", view, some(-1, 9));
                    case 4 -> call("view", view, some(-1, 7));
                    case 5, 6 -> call("read", view, random.nextInt(4) == 0 ? some(-1, 70000) : some(0, 101));
                    default -> call("count", some(-1, 5));
                }
            }
        }

        void anyCall() {
            int image = some(-1, 3);
            int view = random.nextInt(3) == 0 ? some(-1, 61) : random.nextInt(Math.max(1, model.views.size()));
            int node = random.nextInt(4) == 0 ? some(-2, 35) : random.nextInt(model.nodes.size());
            switch (random.nextInt(25)) {
                case 0 -> call("folder", node, aName());
                case 1 -> call("file", node, aName());
                case 2 -> call("hide", node, aName());
                case 3 -> call("link", node, aName(), random.nextInt(3) == 0 ? some(-1, 33) : aFile());
                case 4 -> call("data", node, aByte(0), aTimes());
                case 5 -> call("owner", node, aWord(), aWord());
                case 6 -> { if (random.nextInt(6) == 0) call("clear"); }
                case 7 -> call("build", random.nextInt(4) == 0 ? some(-1, 40) : 8 << random.nextInt(3));
                case 8 -> call("feed", random.nextInt(), random.nextInt(), random.nextInt(), random.nextInt(), random.nextInt());
                case 9 -> call("end", random.nextInt(3) == 0 ? some(-1, 4001) : random.nextInt(model.tape.length + 1));
                case 10 -> call("load");
                case 11 -> call("drop");
                case 12 -> call("image", image, some(-1, 5));
                case 13 -> call("same", image, some(-1, 3));
                case 14 -> call("node", image, some(0, 12), some(-1, 5));
                case 15 -> call("over", image);
                case 16 -> { if (random.nextInt(4) == 0) call("bare"); }
                case 17 -> call("look", view, aNameBelow(view));
                case 18 -> call("list", view, some(-1, 6));
                case 19 -> call("view", view, some(-1, 7));
                case 20 -> call("read", view, some(-1, 101));
                case 21 -> call("count", some(-1, 5));
                default -> call("out", image, random.nextInt(8) == 0 ? some(-2, 6000) : some(0, 200));
            }
        }

        int some(int least, int most) {
            int edge = random.nextInt(30);
            if (edge == 0) {
                return Integer.MIN_VALUE;
            }
            if (edge == 1) {
                return Integer.MAX_VALUE;
            }
            return least + random.nextInt(most - least + 1);
        }

        int aName() {
            int kind = random.nextInt(30);
            return kind == 0 ? some(-1, 1001) : kind == 1 ? 999 : kind == 2 ? 1000 : kind == 3 ? 0
                    : kind < 8 ? 1 + random.nextInt(999) : 1 + random.nextInt(9);
        }

        int aNameBelow(int view) {
            if (view >= 0 && view < model.views.size() && random.nextInt(4) > 0) {
                List<Integer> names = model.namesBelow(model.views.get(view));
                if (!names.isEmpty()) {
                    return names.get(random.nextInt(names.size()));
                }
            }
            return aName();
        }

        int aByte(int kind) {
            int pick = random.nextInt(12);
            return pick == 0 ? some(-1, 256) : kind == 0 ? random.nextInt(256) : pick < 6 ? 0 : random.nextInt(3);
        }

        int aTimes() {
            int kind = random.nextInt(8);
            return kind == 0 ? some(-1, 101) : kind == 1 ? 8 << random.nextInt(3) : 1 + random.nextInt(kind < 4 ? 20 : 4);
        }

        int aWord() {
            int kind = random.nextInt(12);
            return kind == 0 ? some(-1, 65536) : kind == 1 ? 65535 : kind == 2 ? 65536 : random.nextInt(65536);
        }

        int aFolder() {
            for (int i = 0; i < 20; i++) {
                int node = random.nextInt(model.nodes.size());
                if (model.nodes.get(node).kind == 1) {
                    return node;
                }
            }
            return 0;
        }

        int aFile() {
            for (int i = 0; i < 20; i++) {
                int node = random.nextInt(model.nodes.size());
                if (model.nodes.get(node).kind == 2) {
                    return node;
                }
            }
            return 1;
        }

        void call(String name, int... a) {
            if (wrong != null || told.size() >= CALLS) {
                throw new Full();
            }
            int want = answer(name, a, true);
            int got;
            String shown = name + Arrays.toString(a);
            try {
                got = answer(name, a, false);
            } catch (RuntimeException e) {
                wrong = shown + " threw " + e + ", due is " + want;
                throw new Full();
            }
            told.add(shown + " = " + got);
            answers.merge(name + (want == THROWS ? " throws" : want > 0 ? " +" : " " + want), 1, Integer::sum);
            if (got != want) {
                wrong = shown + " answered " + got + ", due is " + want;
                throw new Full();
            }
            if (want >= 0 && (name.equals("build") || name.equals("load"))) {
                compareImage(want);
            }
            if (want > 0 && name.equals("look")) {
                compareView(want);
            }
        }

        /** Beside the run's calls: the whole image. */
        void compareImage(int image) {
            byte[] bytes = model.images.get(image);
            for (int i = 0; i <= bytes.length; i++) {
                if (outOf(tested, image, i) != model.out(image, i)) {
                    wrong = "byte " + i + " of image " + image + " is " + outOf(tested, image, i)
                            + ", due is " + model.out(image, i);
                    throw new Full();
                }
            }
        }

        /** Beside the run's calls: all bytes of a FILE, all names of a folder. */
        void compareView(int view) {
            List<Integer> parts = model.views.get(view);
            if (model.isFile(parts)) {
                byte[] bytes = model.bytesOf(parts.get(0), parts.get(1));
                for (int i = 0; i < bytes.length; i++) {
                    if (tested.read(view, i) != (bytes[i] & 255)) {
                        wrong = "read of " + view + " at " + i + " is " + tested.read(view, i);
                        throw new Full();
                    }
                }
                return;
            }
            List<Integer> names = model.namesBelow(parts);
            for (int i = 0; i <= names.size(); i++) {
                if (tested.list(view, i) != (i < names.size() ? names.get(i) : 0)) {
                    wrong = "list of " + view + " at " + i + " is " + tested.list(view, i);
                    throw new Full();
                }
            }
        }

        int answer(String name, int[] a, boolean ofModel) {
            TreeImages t = tested;
            Model m = model;
            return switch (name) {
                case "folder" -> ofModel ? m.add(a[0], a[1], 1) : t.folder(a[0], a[1]);
                case "file" -> ofModel ? m.add(a[0], a[1], 2) : t.file(a[0], a[1]);
                case "hide" -> ofModel ? m.add(a[0], a[1], 3) : t.hide(a[0], a[1]);
                case "link" -> ofModel ? m.link(a[0], a[1], a[2]) : t.link(a[0], a[1], a[2]);
                case "data" -> ofModel ? m.data(a[0], a[1], a[2]) : t.data(a[0], a[1], a[2]);
                case "owner" -> ofModel ? m.owner(a[0], a[1], a[2]) : t.owner(a[0], a[1], a[2]);
                case "clear" -> ofModel ? m.clear() : t.clear();
                case "build" -> ofModel ? m.build(a[0]) : t.build(a[0]);
                case "feed" -> ofModel ? m.feed(a) : t.feed(a[0], a[1], a[2], a[3], a[4]);
                case "end" -> ofModel ? m.end(a[0]) : t.end(a[0]);
                case "load" -> ofModel ? m.load() : t.load();
                case "drop" -> ofModel ? m.drop() : t.drop();
                case "out" -> ofModel ? m.out(a[0], a[1]) : outOf(t, a[0], a[1]);
                case "image" -> ofModel ? m.image(a[0], a[1]) : t.image(a[0], a[1]);
                case "same" -> ofModel ? m.same(a[0], a[1]) : t.same(a[0], a[1]);
                case "node" -> ofModel ? m.node(a[0], a[1], a[2]) : t.node(a[0], a[1], a[2]);
                case "over" -> ofModel ? m.over(a[0]) : t.over(a[0]);
                case "bare" -> ofModel ? m.bare() : t.bare();
                case "look" -> ofModel ? m.look(a[0], a[1]) : t.look(a[0], a[1]);
                case "list" -> ofModel ? m.list(a[0], a[1]) : t.list(a[0], a[1]);
                case "view" -> ofModel ? m.view(a[0], a[1]) : t.view(a[0], a[1]);
                case "read" -> ofModel ? m.read(a[0], a[1]) : t.read(a[0], a[1]);
                case "count" -> ofModel ? m.count(a[0]) : t.count(a[0]);
                default -> throw new IllegalStateException(name);
            };
        }

        int outOf(TreeImages t, int image, int i) {
            try {
                return t.out(image, i);
            } catch (ArrayIndexOutOfBoundsException e) {
                return THROWS;
            }
        }
    }

    /** Makes images that no build makes: blocks packed in other ways, shared bytes, NUMBERS in another order. */
    private static final class Maker {
        final Random random;
        final ByteArrayOutputStream data = new ByteArrayOutputStream();

        Maker(Random random) {
            this.random = random;
        }

        byte[] make() {
            int b = 8 << random.nextInt(3);
            int many = 1 + random.nextInt(random.nextInt(8) == 0 ? 60 : 8);
            int[] kinds = new int[many + 1];
            int[] homes = new int[many + 1];
            List<TreeMap<Integer, Integer>> below = new ArrayList<>();
            int[] names = new int[many + 1];
            for (int n = 0; n <= many; n++) {
                below.add(new TreeMap<>());
            }
            // a folder's home may have the greater NUMBER
            List<Integer> order = new ArrayList<>();
            for (int n = 2; n <= many; n++) {
                order.add(random.nextInt(order.size() + 1), n);
            }
            List<Integer> folders = new ArrayList<>(List.of(1));
            kinds[1] = 1;
            homes[1] = 1;
            names[1] = 1;
            for (int n : order) {
                kinds[n] = 1 + random.nextInt(3);
                int times = kinds[n] == 2 ? 1 + random.nextInt(random.nextInt(5) == 0 ? 12 : 2) : 1;
                homes[n] = folders.get(random.nextInt(folders.size()));
                for (int i = 0; i < times; i++) {
                    int in = i == 0 ? homes[n] : folders.get(random.nextInt(folders.size()));
                    if (below.get(in).size() < 900) {
                        names[n] += put(below.get(in), n);
                    }
                }
                if (kinds[n] == 1) {
                    folders.add(n);
                }
            }
            return write(b, many, kinds, homes, names, below);
        }

        int put(TreeMap<Integer, Integer> map, int number) {
            for (int i = 0; i < 10000; i++) {
                int name = 1 + random.nextInt(random.nextInt(3) == 0 ? 999 : 9);
                if (!map.containsKey(name)) {
                    map.put(name, number);
                    return 1;
                }
            }
            return 0;
        }

        byte[] write(int b, int many, int[] kinds, int[] homes, int[] names, List<TreeMap<Integer, Integer>> below) {
            ByteArrayOutputStream tails = new ByteArrayOutputStream();
            int tailCount = random.nextInt(4);
            int[] lengths = new int[tailCount];
            for (int t = 0; t < tailCount; t++) {
                lengths[t] = 1 + random.nextInt(b);
                int place = 18 + data.size();
                int size = store(lengths[t]);
                word(tails, size == 0 ? random.nextInt(65536) : place);
                word(tails, size);
                tails.write(lengths[t]);
            }
            ByteArrayOutputStream inodes = new ByteArrayOutputStream();
            ByteArrayOutputStream folders = new ByteArrayOutputStream();
            ByteArrayOutputStream exports = new ByteArrayOutputStream();
            for (int n = 1; n <= many; n++) {
                word(exports, inodes.size());
                inodes.write(kinds[n]);
                word(inodes, random.nextInt(65536));
                word(inodes, random.nextInt(65536));
                inodes.write(names[n]);
                if (kinds[n] == 1) {
                    word(inodes, folders.size());
                    word(inodes, below.get(n).size());
                    word(inodes, homes[n]);
                    below.get(n).forEach((name, number) -> { word(folders, name); word(folders, number); });
                } else if (kinds[n] == 2) {
                    writeFile(inodes, b, lengths);
                }
            }
            return join(b, many, inodes, folders, tails, exports);
        }

        void writeFile(ByteArrayOutputStream inodes, int b, int[] lengths) {
            int blocks = random.nextInt(random.nextInt(6) == 0 ? 20 : 4);
            int tail = lengths.length == 0 ? 0 : random.nextInt(lengths.length + 1);
            int most = tail == 0 ? 0 : Math.min(lengths[tail - 1], b - 1);
            int left = most == 0 ? 0 : 1 + random.nextInt(most);
            int start = left == 0 ? 0 : random.nextInt(lengths[tail - 1] - left + 1);
            int place = 18 + data.size();
            int[] sizes = new int[blocks];
            for (int k = 0; k < blocks; k++) {
                sizes[k] = store(b);
            }
            word(inodes, blocks * b + left);
            word(inodes, data.size() + 18 == place ? random.nextInt(65536) : place);
            inodes.write(left == 0 ? 0 : tail);
            inodes.write(start);
            for (int size : sizes) {
                word(inodes, size);
            }
        }

        int store(int length) {
            int kind = random.nextInt(6);
            if (kind == 0) {
                return 0;
            }
            if (kind == 1) {
                for (int i = 0; i < length; i++) {
                    data.write(random.nextInt(256));
                }
                return 32768 + length;
            }
            int before = data.size();
            int left = length;
            while (left > 0) {
                if (random.nextInt(5) == 0) {
                    data.write(128);
                }
                int part = 1 + random.nextInt(left);
                if (part >= 2 && random.nextInt(2) == 0) {
                    data.write(257 - part);
                    data.write(random.nextInt(256));
                } else {
                    data.write(part - 1);
                    for (int i = 0; i < part; i++) {
                        data.write(random.nextInt(256));
                    }
                }
                left -= part;
            }
            if (random.nextInt(4) == 0) {
                data.write(128);
            }
            return data.size() - before;
        }

        byte[] join(int b, int many, ByteArrayOutputStream inodes, ByteArrayOutputStream folders,
                ByteArrayOutputStream tails, ByteArrayOutputStream exports) {
            for (int i = random.nextInt(3); i > 0; i--) {
                data.write(random.nextInt(256));
            }
            ByteArrayOutputStream all = new ByteArrayOutputStream();
            all.write(84);
            all.write(73);
            all.write(b);
            all.write(0);
            word(all, many);
            int place = 18 + data.size();
            word(all, place);
            word(all, place += inodes.size());
            word(all, place += folders.size());
            word(all, place += tails.size());
            word(all, place + exports.size());
            word(all, 0);
            for (ByteArrayOutputStream part : List.of(data, inodes, folders, tails, exports)) {
                all.writeBytes(part.toByteArray());
            }
            byte[] bytes = all.toByteArray();
            Model.setSum(bytes);
            return bytes;
        }

        static void word(ByteArrayOutputStream to, int word) {
            to.write(word >> 8);
            to.write(word);
        }
    }

    /** The document once more, as plainly as can be: images are decoded whole, VIEWS are kept by all their parts. */
    private static final class Model {
        static final class Node {
            int kind;
            int owner;
            int mode;
            int names;
            Node home;
            byte[] bytes = new byte[0];
            final TreeMap<Integer, Node> below = new TreeMap<>();
        }

        static final class Bad extends RuntimeException {
            private static final long serialVersionUID = 1L;
            final int fault;

            Bad(int fault) {
                this.fault = fault;
            }
        }

        final List<Node> nodes = new ArrayList<>();
        final List<byte[]> images = new ArrayList<>();
        final List<Integer> laid = new ArrayList<>();
        final List<List<Integer>> views = new ArrayList<>();
        byte[] tape = new byte[0];

        Model() {
            clear();
        }

        int clear() {
            int had = nodes.size();
            nodes.clear();
            Node first = new Node();
            first.kind = 1;
            first.home = first;
            first.names = 1;
            nodes.add(first);
            return had;
        }

        boolean no(List<?> list, int i) {
            return i < 0 || i >= list.size();
        }

        int add(int folder, int name, int kind) {
            if (no(nodes, folder)) return -1;
            if (name < 1 || name > 999) return -2;
            Node in = nodes.get(folder);
            if (in.kind != 1 || in.below.containsKey(name)) return -3;
            if (nodes.size() == 32) return -4;
            Node node = new Node();
            node.kind = kind;
            node.home = in;
            node.names = 1;
            in.below.put(name, node);
            nodes.add(node);
            return nodes.size() - 1;
        }

        int link(int folder, int name, int file) {
            if (no(nodes, folder) || no(nodes, file)) return -1;
            if (name < 1 || name > 999) return -2;
            Node in = nodes.get(folder);
            Node to = nodes.get(file);
            if (in.kind != 1 || in.below.containsKey(name) || to.kind != 2) return -3;
            if (to.names == 9) return -4;
            in.below.put(name, to);
            return ++to.names;
        }

        int data(int file, int b, int times) {
            if (no(nodes, file)) return -1;
            if (b < 0 || b > 255 || times < 1 || times > 100) return -2;
            Node node = nodes.get(file);
            if (node.kind != 2) return -3;
            if (node.bytes.length + times > 100) return -4;
            int from = node.bytes.length;
            node.bytes = Arrays.copyOf(node.bytes, from + times);
            Arrays.fill(node.bytes, from, from + times, (byte) b);
            return node.bytes.length;
        }

        int owner(int node, int owner, int mode) {
            if (no(nodes, node)) return -1;
            if (owner < 0 || owner > 65535 || mode < 0 || mode > 65535) return -2;
            nodes.get(node).owner = owner;
            nodes.get(node).mode = mode;
            return 1;
        }

        int build(int b) {
            if (b != 8 && b != 16 && b != 32) return -2;
            if (images.size() == 3) return -4;
            images.add(imageOfTree(b));
            return images.size() - 1;
        }

        byte[] imageOfTree(int b) {
            List<Node> order = new ArrayList<>(List.of(nodes.get(0)));
            for (int i = 0; i < order.size(); i++) {
                for (Node node : order.get(i).below.values()) {
                    if (!order.contains(node)) {
                        order.add(node);
                    }
                }
            }
            ByteArrayOutputStream data = new ByteArrayOutputStream();
            Map<String, int[]> places = new LinkedHashMap<>();
            Map<String, List<Integer>> sizes = new LinkedHashMap<>();
            for (Node node : order) {
                String key = Arrays.toString(node.bytes);
                if (node.kind == 2 && node.bytes.length > 0 && !places.containsKey(key)) {
                    int place = 18 + data.size();
                    List<Integer> ofFile = new ArrayList<>();
                    for (int at = 0; at + b <= node.bytes.length; at += b) {
                        ofFile.add(store(data, Arrays.copyOfRange(node.bytes, at, at + b)));
                    }
                    places.put(key, new int[] {ofFile.isEmpty() ? 0 : place, 0, 0});
                    sizes.put(key, ofFile);
                }
            }
            List<ByteArrayOutputStream> tailBlocks = new ArrayList<>();
            for (Node node : order) {
                int left = node.bytes.length % b;
                int[] told = places.get(Arrays.toString(node.bytes));
                if (node.kind == 2 && left > 0 && told[1] == 0) {
                    if (tailBlocks.isEmpty() || tailBlocks.get(tailBlocks.size() - 1).size() + left > b) {
                        tailBlocks.add(new ByteArrayOutputStream());
                    }
                    ByteArrayOutputStream last = tailBlocks.get(tailBlocks.size() - 1);
                    told[1] = tailBlocks.size();
                    told[2] = last.size();
                    last.write(node.bytes, node.bytes.length - left, left);
                }
            }
            ByteArrayOutputStream tails = new ByteArrayOutputStream();
            for (ByteArrayOutputStream block : tailBlocks) {
                word(tails, 18 + data.size());
                word(tails, store(data, block.toByteArray()));
                tails.write(block.size());
            }
            ByteArrayOutputStream inodes = new ByteArrayOutputStream();
            ByteArrayOutputStream folders = new ByteArrayOutputStream();
            ByteArrayOutputStream exports = new ByteArrayOutputStream();
            for (Node node : order) {
                word(exports, inodes.size());
                inodes.write(node.kind);
                word(inodes, node.mode);
                word(inodes, node.owner);
                inodes.write(node.names);
                if (node.kind == 1) {
                    word(inodes, folders.size());
                    word(inodes, node.below.size());
                    word(inodes, order.indexOf(node.home) + 1);
                    node.below.forEach((name, to) -> { word(folders, name); word(folders, order.indexOf(to) + 1); });
                }
                if (node.kind == 2) {
                    int[] told = places.getOrDefault(Arrays.toString(node.bytes), new int[3]);
                    word(inodes, node.bytes.length);
                    word(inodes, told[0]);
                    inodes.write(told[1]);
                    inodes.write(told[2]);
                    sizes.getOrDefault(Arrays.toString(node.bytes), List.of()).forEach(size -> word(inodes, size));
                }
            }
            ByteArrayOutputStream all = new ByteArrayOutputStream();
            all.writeBytes(new byte[] {84, 73, (byte) b, 0});
            int place = 18 + data.size();
            word(all, order.size());
            word(all, place);
            word(all, place += inodes.size());
            word(all, place += folders.size());
            word(all, place += tails.size());
            word(all, place + exports.size());
            word(all, 0);
            for (ByteArrayOutputStream part : List.of(data, inodes, folders, tails, exports)) {
                all.writeBytes(part.toByteArray());
            }
            byte[] bytes = all.toByteArray();
            setSum(bytes);
            return bytes;
        }

        static void word(ByteArrayOutputStream to, int word) {
            to.write(word / 256);
            to.write(word % 256);
        }

        static int word(byte[] bytes, int at) {
            return (bytes[at] & 255) * 256 + (bytes[at + 1] & 255);
        }

        static int sum(byte[] bytes) {
            long sum = 0;
            for (int i = 0; i < bytes.length; i++) {
                sum += i == 16 || i == 17 ? 0 : (bytes[i] & 255L) * (i + 1);
            }
            return (int) (sum % 65521);
        }

        static void setSum(byte[] bytes) {
            bytes[16] = (byte) (sum(bytes) >> 8);
            bytes[17] = (byte) sum(bytes);
        }

        static int store(ByteArrayOutputStream data, byte[] block) {
            if (Arrays.equals(block, new byte[block.length])) {
                return 0;
            }
            ByteArrayOutputStream packed = new ByteArrayOutputStream();
            ByteArrayOutputStream plain = new ByteArrayOutputStream();
            int at = 0;
            while (at < block.length) {
                int to = at;
                while (to < block.length && block[to] == block[at]) {
                    to++;
                }
                if (to - at >= 3) {
                    flush(plain, packed);
                    packed.write(257 - (to - at));
                    packed.write(block[at]);
                } else {
                    plain.write(block, at, to - at);
                }
                at = to;
            }
            flush(plain, packed);
            boolean shorter = packed.size() < block.length;
            data.writeBytes(shorter ? packed.toByteArray() : block);
            return shorter ? packed.size() : 32768 + block.length;
        }

        static void flush(ByteArrayOutputStream plain, ByteArrayOutputStream packed) {
            if (plain.size() > 0) {
                packed.write(plain.size() - 1);
                packed.writeBytes(plain.toByteArray());
                plain.reset();
            }
        }

        int feed(int[] five) {
            if (tape.length + 20 > 4000) return -4;
            int at = tape.length;
            tape = Arrays.copyOf(tape, at + 20);
            for (int i = 0; i < 20; i++) {
                tape[at + i] = (byte) (five[i / 4] >>> 24 - 8 * (i % 4));
            }
            return tape.length;
        }

        int end(int n) {
            if (n < 0 || n > tape.length) return -2;
            tape = Arrays.copyOf(tape, n);
            return n;
        }

        int load() {
            if (images.size() == 3) return -4;
            byte[] bytes = tape;
            tape = new byte[0];
            try {
                judge(bytes);
            } catch (Bad bad) {
                return -10 - bad.fault;
            }
            images.add(bytes);
            return images.size() - 1;
        }

        static void need(boolean right, int fault) {
            if (!right) {
                throw new Bad(fault);
            }
        }

        static void judge(byte[] m) {
            need(m.length >= 18 && m[0] == 84 && m[1] == 73 && (m[2] == 8 || m[2] == 16 || m[2] == 32) && m[3] == 0, 1);
            int many = word(m, 4);
            need(word(m, 14) == m.length, 2);
            int last = 18;
            for (int at = 6; at <= 14; at += 2) {
                need(word(m, at) >= last, 2);
                last = word(m, at);
            }
            need(many > 0 && m.length - word(m, 12) == 2 * many, 2);
            need(word(m, 16) == sum(m), 3);
            int b = m[2];
            byte[] data = Arrays.copyOfRange(m, 18, word(m, 6));
            byte[] inodes = Arrays.copyOfRange(m, word(m, 6), word(m, 8));
            byte[] folders = Arrays.copyOfRange(m, word(m, 8), word(m, 10));
            byte[] tails = Arrays.copyOfRange(m, word(m, 10), word(m, 12));
            byte[] exports = Arrays.copyOfRange(m, word(m, 12), m.length);
            need(tails.length % 5 == 0, 4);
            for (int at = 0; at < tails.length; at += 5) {
                int length = tails[at + 4] & 255;
                need(length >= 1 && length <= b, 4);
                need(open(data, word(tails, at), word(tails, at + 2), length) != null, 4);
            }
            judgeInodes(many, b, data, inodes, tails, exports);
            judgeFolders(many, inodes, folders, exports);
            judgeTree(many, inodes, folders, exports);
        }

        static void judgeInodes(int many, int b, byte[] data, byte[] inodes, byte[] tails, byte[] exports) {
            int at = 0;
            for (int n = 0; n < many; n++) {
                need(word(exports, 2 * n) == at && at + 6 <= inodes.length, 5);
                int kind = inodes[at];
                need(kind >= 1 && kind <= 3, 5);
                need(kind == 3 || at + 12 <= inodes.length, 5);
                if (kind == 2) {
                    int size = word(inodes, at + 6);
                    int place = word(inodes, at + 8);
                    int tail = inodes[at + 10] & 255;
                    int start = inodes[at + 11] & 255;
                    need(at + 12 + 2 * (size / b) <= inodes.length, 5);
                    need(tail <= tails.length / 5, 5);
                    need((size % b == 0) == (tail == 0), 5);
                    need(tail != 0 || start == 0, 5);
                    need(tail == 0 || start + size % b <= (tails[5 * tail - 1] & 255), 5);
                    for (int k = 0; k < size / b; k++) {
                        int stored = word(inodes, at + 12 + 2 * k);
                        need(open(data, place, stored, b) != null, 5);
                        place += stored % 32768;
                    }
                    at += 2 * (size / b);
                }
                at += kind == 3 ? 6 : 12;
            }
            need(at == inodes.length, 5);
        }

        static void judgeFolders(int many, byte[] inodes, byte[] folders, byte[] exports) {
            int at = 0;
            for (int n = 0; n < many; n++) {
                int row = word(exports, 2 * n);
                if (inodes[row] == 1) {
                    need(word(inodes, row + 6) == at, 6);
                    int to = at + 4 * word(inodes, row + 8);
                    need(to <= folders.length, 6);
                    for (int last = 0; at < to; at += 4) {
                        int name = word(folders, at);
                        need(name > last && name <= 999, 6);
                        need(word(folders, at + 2) >= 1 && word(folders, at + 2) <= many, 6);
                        last = name;
                    }
                }
            }
            need(at == folders.length, 6);
        }

        static void judgeTree(int many, byte[] inodes, byte[] folders, byte[] exports) {
            List<List<Integer>> namedIn = new ArrayList<>();
            for (int n = 0; n <= many; n++) {
                namedIn.add(new ArrayList<>());
            }
            for (int n = 1; n <= many; n++) {
                int row = word(exports, 2 * n - 2);
                if (inodes[row] == 1) {
                    for (int i = 0; i < word(inodes, row + 8); i++) {
                        namedIn.get(word(folders, word(inodes, row + 6) + 4 * i + 2)).add(n);
                    }
                }
            }
            need(inodes[0] == 1 && inodes[5] == 1 && word(inodes, 10) == 1 && namedIn.get(1).isEmpty(), 7);
            for (int n = 2; n <= many; n++) {
                int row = word(exports, 2 * n - 2);
                need(namedIn.get(n).size() == (inodes[row + 5] & 255) && !namedIn.get(n).isEmpty(), 7);
                need(inodes[row] == 2 || namedIn.get(n).size() == 1, 7);
                need(inodes[row] != 1 || namedIn.get(n).get(0) == word(inodes, row + 10), 7);
            }
            for (int n = 2; n <= many; n++) {
                if (inodes[word(exports, 2 * n - 2)] == 1) {
                    List<Integer> way = new ArrayList<>();
                    for (int at = n; at != 1; at = namedIn.get(at).get(0)) {
                        need(!way.contains(at), 7);
                        way.add(at);
                    }
                }
            }
        }

        /** What a block opens to, null if it can't be. */
        static byte[] open(byte[] data, int place, int size, int length) {
            if (size == 0) {
                return new byte[length];
            }
            int from = place - 18;
            int to = from + size % 32768;
            if (from < 0 || to > data.length) {
                return null;
            }
            if (size >= 32768) {
                return size == 32768 + length ? Arrays.copyOfRange(data, from, to) : null;
            }
            ByteArrayOutputStream opened = new ByteArrayOutputStream();
            int at = from;
            while (at < to) {
                int lead = data[at++] & 255;
                if (lead < 128) {
                    if (at + lead + 1 > to) {
                        return null;
                    }
                    opened.write(data, at, lead + 1);
                    at += lead + 1;
                } else if (lead > 128) {
                    if (at + 1 > to) {
                        return null;
                    }
                    for (int i = 0; i < 257 - lead; i++) {
                        opened.write(data[at]);
                    }
                    at++;
                }
            }
            return opened.size() == length ? opened.toByteArray() : null;
        }

        int drop() {
            if (images.isEmpty() || laid.contains(images.size() - 1)) return -3;
            images.remove(images.size() - 1);
            return images.size();
        }

        int out(int image, int i) {
            if (no(images, image)) return -1;
            byte[] bytes = images.get(image);
            return i < 0 || i >= bytes.length ? THROWS : bytes[i] & 255;
        }

        int image(int image, int what) {
            if (no(images, image)) return -1;
            byte[] m = images.get(image);
            return switch (what) {
                case 0 -> m.length;
                case 1 -> m[2];
                case 2 -> word(m, 4);
                case 3 -> (word(m, 12) - word(m, 10)) / 5;
                case 4 -> word(m, 6) - 18;
                default -> -2;
            };
        }

        int same(int image, int other) {
            if (no(images, image) || no(images, other)) return -1;
            return Arrays.equals(images.get(image), images.get(other)) ? 1 : 0;
        }

        int row(int image, int number) {
            byte[] m = images.get(image);
            return word(m, 6) + word(m, word(m, 12) + 2 * number - 2);
        }

        int node(int image, int number, int what) {
            if (no(images, image)) return -1;
            byte[] m = images.get(image);
            if (number < 1 || number > word(m, 4) || what < 0 || what > 4) return -2;
            int row = row(image, number);
            return switch (what) {
                case 0 -> m[row];
                case 1 -> word(m, row + 1);
                case 2 -> word(m, row + 3);
                case 3 -> m[row + 5] & 255;
                default -> m[row] == 3 ? 0 : m[row] == 2 ? word(m, row + 6) : word(m, row + 8);
            };
        }

        int over(int image) {
            if (no(images, image)) return -1;
            if (laid.contains(image)) return -3;
            laid.add(image);
            views.clear();
            List<Integer> first = new ArrayList<>();
            for (int i = laid.size() - 1; i >= 0; i--) {
                first.add(laid.get(i));
                first.add(1);
            }
            views.add(first);
            return laid.size();
        }

        int bare() {
            int were = laid.size();
            laid.clear();
            views.clear();
            return were;
        }

        TreeMap<Integer, Integer> below(int image, int folder) {
            byte[] m = images.get(image);
            int row = row(image, folder);
            TreeMap<Integer, Integer> map = new TreeMap<>();
            for (int i = 0; i < word(m, row + 8); i++) {
                int at = word(m, 8) + word(m, row + 6) + 4 * i;
                map.put(word(m, at), word(m, at + 2));
            }
            return map;
        }

        boolean isFile(List<Integer> view) {
            return node(view.get(0), view.get(1), 0) == 2;
        }

        List<Integer> led(List<Integer> view, int name) {
            List<Integer> found = new ArrayList<>();
            for (int i = 0; i < view.size(); i += 2) {
                Integer number = below(view.get(i), view.get(i + 1)).get(name);
                int kind = number == null ? 0 : node(view.get(i), number, 0);
                if (kind == 1 || kind == 2 && found.isEmpty()) {
                    found.add(view.get(i));
                    found.add(number);
                }
                if (kind > 1) {
                    break;
                }
            }
            return found;
        }

        List<Integer> namesBelow(List<Integer> view) {
            List<Integer> names = new ArrayList<>();
            if (isFile(view)) {
                return names;
            }
            TreeMap<Integer, Integer> all = new TreeMap<>();
            for (int i = 0; i < view.size(); i += 2) {
                all.putAll(below(view.get(i), view.get(i + 1)));
            }
            for (int name : all.keySet()) {
                if (!led(view, name).isEmpty()) {
                    names.add(name);
                }
            }
            return names;
        }

        int look(int view, int name) {
            if (no(views, view)) return -1;
            if (name < 1 || name > 999) return -2;
            if (isFile(views.get(view))) return -3;
            List<Integer> led = led(views.get(view), name);
            if (led.isEmpty()) return 0;
            if (views.contains(led)) return views.indexOf(led);
            if (views.size() == 60) return -4;
            views.add(led);
            return views.size() - 1;
        }

        int list(int view, int i) {
            if (no(views, view)) return -1;
            if (i < 0) return -2;
            if (isFile(views.get(view))) return -3;
            List<Integer> names = namesBelow(views.get(view));
            return i < names.size() ? names.get(i) : 0;
        }

        int view(int view, int what) {
            if (no(views, view)) return -1;
            List<Integer> parts = views.get(view);
            int image = parts.get(0);
            int number = parts.get(1);
            return switch (what) {
                case 0 -> node(image, number, 0);
                case 1 -> image;
                case 2 -> number;
                case 3 -> isFile(parts) ? node(image, number, 4) : namesBelow(parts).size();
                case 4 -> node(image, number, 1);
                case 5 -> node(image, number, 2);
                case 6 -> parts.size() / 2;
                default -> -2;
            };
        }

        byte[] bytesOf(int image, int number) {
            byte[] m = images.get(image);
            byte[] data = Arrays.copyOfRange(m, 18, word(m, 6));
            int row = row(image, number);
            int size = word(m, row + 6);
            int place = word(m, row + 8);
            ByteArrayOutputStream all = new ByteArrayOutputStream();
            for (int k = 0; k < size / m[2]; k++) {
                int stored = word(m, row + 12 + 2 * k);
                all.writeBytes(open(data, place, stored, m[2]));
                place += stored % 32768;
            }
            if (size % m[2] != 0) {
                int tail = word(m, 10) + 5 * (m[row + 10] & 255) - 5;
                byte[] block = open(data, word(m, tail), word(m, tail + 2), m[tail + 4] & 255);
                all.write(block, m[row + 11] & 255, size % m[2]);
            }
            return all.toByteArray();
        }

        int read(int view, int i) {
            if (no(views, view)) return -1;
            if (i < 0) return -2;
            if (!isFile(views.get(view))) return -3;
            byte[] bytes = bytesOf(views.get(view).get(0), views.get(view).get(1));
            return i < bytes.length ? bytes[i] & 255 : -2;
        }

        int count(int what) {
            return switch (what) {
                case 0 -> nodes.size();
                case 1 -> images.size();
                case 2 -> laid.size();
                case 3 -> views.size();
                case 4 -> tape.length;
                default -> -2;
            };
        }
    }
}
