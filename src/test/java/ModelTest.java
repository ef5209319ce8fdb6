import java.util.ArrayList;
import java.util.Arrays;
import java.util.List;
import java.util.Random;
import java.util.TreeSet;

/**
 * Random runs, the same each time, beside a model that keeps items as objects and draws the whole
 * disk anew from them; every answer and every byte of the disk must be alike.
 */
public final class ModelTest {
    private static final int NOTHING = 0;
    private static final int STATE = 1;
    private static final int INDEX = 2;
    private static final int ARGUMENT = 3;
    private static final int UNSUPPORTED = 4;
    private static int wrong = 0;
    private static int compared = 0;

    public static void main(String[] args) {
        int runs = args.length > 0 ? Integer.parseInt(args[0]) : 150;
        for (int run = 0; run < runs && wrong < 20; run++) {
            new Run(run).go(512);
        }
        System.out.println("ModelTest: " + runs + " runs, " + compared + " disks compared, " + wrong + " wrong");
        if (wrong != 0) {
            System.exit(1);
        }
    }

    /** What a refused call says: the kind of exception. */
    private static final class Refused extends RuntimeException {
        private static final long serialVersionUID = 1L;
        final int kind;

        Refused(int kind) {
            this.kind = kind;
        }
    }

    private static final class Node {
        int inode;
        boolean directory;
        Node parent;
        int size;
        final long[] times = new long[3];
        final List<Integer> blocks = new ArrayList<>();
        final List<byte[]> data = new ArrayList<>();
        // The indirect one, the doubly indirect one, then its indirect ones.
        final List<Integer> indirect = new ArrayList<>();
        final List<List<Slot>> slots = new ArrayList<>();
    }

    private static final class Slot {
        int at;
        int length;
        Node node;
        String name;

        int used() {
            return node == null ? 0 : space(name.length());
        }
    }

    private static int space(int letters) {
        return 8 + letters + (4 - letters % 4) % 4;
    }

    private static final class Model {
        final int B;
        boolean made;
        int P;
        int Q;
        int G;
        int id;
        Node root;
        Node here;
        final TreeSet<Integer> freeBlocks = new TreeSet<>();
        final TreeSet<Integer> freeInodes = new TreeSet<>();
        final StringBuilder tape = new StringBuilder();
        byte[] ready = new byte[20];

        Model(int blocks) {
            B = blocks < 128 ? 128 : blocks > 512 ? 512 : blocks;
        }

        int end(int n) {
            if (n < 0 || n > 20 || tape.length() + n > 4096) {
                return -1;
            }
            for (int i = 0; i < n; i++) {
                tape.append((char) (ready[i] & 255));
            }
            ready = new byte[20];
            return tape.length();
        }

        String useTape() {
            String text = tape.toString();
            tape.setLength(0);
            return text;
        }

        int format(int p, int inodes, int newId) {
            if (p != 64 && p != 128 && p != 256 || inodes < 12 || inodes > 2000) {
                throw new Refused(ARGUMENT);
            }
            int q = (int) Math.ceil((B - 1) / (double) p);
            int g = 8;
            while (q * g < inodes) {
                g += 8;
            }
            for (int i = 0; i < q; i++) {
                int first = 1 + i * p;
                int behind = Math.min(B, first + p);
                if (behind - first - (4 + g / 8) < 8) {
                    throw new Refused(ARGUMENT);
                }
            }
            made = true;
            P = p;
            Q = q;
            G = g;
            id = newId;
            freeBlocks.clear();
            freeInodes.clear();
            for (int b = 1; b < B; b++) {
                if ((b - 1) % P >= 4 + G / 8) {
                    freeBlocks.add(b);
                }
            }
            for (int i = 12; i <= Q * G; i++) {
                freeInodes.add(i);
            }
            root = new Node();
            root.inode = 2;
            begin(root, root);
            here = root;
            return freeBlocks.size();
        }

        void begin(Node node, Node parent) {
            node.directory = true;
            node.parent = parent;
            addBlock(node);
            node.size = 1024;
            List<Slot> first = new ArrayList<>();
            first.add(slot(0, 12, node, "."));
            first.add(slot(12, 1012, parent, ".."));
            node.slots.add(first);
            for (Slot slot : first) {
                draw(node.data.get(0), slot);
            }
        }

        Slot slot(int at, int length, Node node, String name) {
            Slot slot = new Slot();
            slot.at = at;
            slot.length = length;
            slot.node = node;
            slot.name = name;
            return slot;
        }

        void draw(byte[] block, Slot slot) {
            Arrays.fill(block, slot.at, slot.at + space(slot.name.length()), (byte) 0);
            number(block, slot.at, 4, slot.node.inode);
            number(block, slot.at + 4, 2, slot.length);
            block[slot.at + 6] = (byte) slot.name.length();
            block[slot.at + 7] = (byte) (slot.node.directory ? 2 : 1);
            for (int i = 0; i < slot.name.length(); i++) {
                block[slot.at + 8 + i] = (byte) slot.name.charAt(i);
            }
        }

        int pollBlock() {
            return freeBlocks.pollFirst();
        }

        void addBlock(Node node) {
            int n = node.blocks.size();
            if (n == 12 || n == 268) {
                node.indirect.add(pollBlock());
            }
            if (n >= 268 && (n - 268) % 256 == 0) {
                node.indirect.add(pollBlock());
            }
            node.blocks.add(pollBlock());
            node.data.add(new byte[1024]);
        }

        int indirectFor(int n) {
            int count = 0;
            if (n > 12) {
                count++;
            }
            if (n > 268) {
                count++;
            }
            for (int m = 268; m < n; m += 256) {
                count++;
            }
            return count;
        }

        int costOf(Node node, int size) {
            int n = (int) Math.ceil(size / 1024.0);
            return n + indirectFor(n) - node.blocks.size() - node.indirect.size();
        }

        List<Slot> itemSlots(Node node) {
            List<Slot> list = new ArrayList<>();
            for (List<Slot> block : node.slots) {
                list.addAll(block);
            }
            list.remove(0);
            list.remove(0);
            list.removeIf(slot -> slot.node == null);
            return list;
        }

        void needVolume() {
            if (!made) {
                throw new Refused(STATE);
            }
        }

        Slot item(int k) {
            needVolume();
            List<Slot> list = itemSlots(here);
            if (k < 0 || k >= list.size()) {
                throw new Refused(INDEX);
            }
            return list.get(k);
        }

        Node file(int k) {
            Node node = item(k).node;
            if (node.directory) {
                throw new Refused(ARGUMENT);
            }
            return node;
        }

        int links(Node node) {
            if (!node.directory) {
                return 1;
            }
            int count = 2;
            for (Slot slot : itemSlots(node)) {
                count += slot.node.directory ? 1 : 0;
            }
            return count;
        }

        long about(int k, int what) {
            Node node = item(k).node;
            if (what < 0 || what > 6) {
                throw new Refused(ARGUMENT);
            }
            long[] told = {node.inode, node.directory ? 1 : 0, node.size, links(node),
                node.times[0], node.times[1], node.times[2]};
            return told[what];
        }

        int content(int k, int at) {
            Node node = item(k).node;
            if (node.directory || at < 0 || at >= node.size) {
                return -1;
            }
            return node.data.get(at / 1024)[at % 1024] & 255;
        }

        int make(boolean directory) {
            String name = useTape();
            needVolume();
            boolean bad = name.length() < 1 || name.length() > 255 || name.indexOf(0) >= 0
                || name.indexOf('/') >= 0 || name.equals(".") || name.equals("..");
            for (Slot slot : itemSlots(here)) {
                bad |= slot.name.equals(name);
            }
            if (bad) {
                throw new Refused(ARGUMENT);
            }
            int[] room = roomFor(space(name.length()));
            int wanted = (directory ? 1 : 0) + (room == null ? costOf(here, here.size + 1024) : 0);
            if (freeInodes.isEmpty() || freeBlocks.size() < wanted) {
                throw new Refused(UNSUPPORTED);
            }
            Node node = new Node();
            node.inode = freeInodes.pollFirst();
            node.directory = directory;
            Slot slot = room == null ? newBlock(node, name) : split(room[0], room[1], node, name);
            if (directory) {
                begin(node, here);
            }
            return itemSlots(here).indexOf(slot);
        }

        int[] roomFor(int wanted) {
            for (int b = 0; b < here.slots.size(); b++) {
                for (int s = 0; s < here.slots.get(b).size(); s++) {
                    Slot slot = here.slots.get(b).get(s);
                    if (slot.length - slot.used() >= wanted) {
                        return new int[] {b, s};
                    }
                }
            }
            return null;
        }

        Slot newBlock(Node node, String name) {
            addBlock(here);
            here.size += 1024;
            Slot slot = slot(0, 1024, node, name);
            here.slots.add(new ArrayList<>(List.of(slot)));
            draw(here.data.get(here.data.size() - 1), slot);
            return slot;
        }

        Slot split(int b, int s, Node node, String name) {
            List<Slot> block = here.slots.get(b);
            Slot old = block.get(s);
            Slot slot;
            if (old.node == null) {
                slot = slot(old.at, old.length, node, name);
                block.set(s, slot);
            } else {
                slot = slot(old.at + old.used(), old.length - old.used(), node, name);
                old.length = old.used();
                number(here.data.get(b), old.at + 4, 2, old.length);
                block.add(s + 1, slot);
            }
            draw(here.data.get(b), slot);
            return slot;
        }

        int append(Node node, byte[] bytes) {
            if (freeBlocks.size() < costOf(node, node.size + bytes.length)) {
                throw new Refused(UNSUPPORTED);
            }
            for (byte one : bytes) {
                if (node.size == 1024 * node.blocks.size()) {
                    addBlock(node);
                }
                node.data.get(node.size / 1024)[node.size % 1024] = one;
                node.size++;
            }
            return node.size;
        }

        int write(int k) {
            String text = useTape();
            byte[] bytes = new byte[text.length()];
            for (int i = 0; i < bytes.length; i++) {
                bytes[i] = (byte) text.charAt(i);
            }
            return append(file(k), bytes);
        }

        int grow(int k, int n, int seed) {
            Node node = file(k);
            if (n < 0 || n > 400000) {
                throw new Refused(ARGUMENT);
            }
            byte[] bytes = new byte[n];
            for (int i = 0; i < n; i++) {
                bytes[i] = (byte) ((long) seed + (long) i * i + i / 256);
            }
            return append(node, bytes);
        }

        int shorten(Node node, int size) {
            int before = freeBlocks.size();
            node.size = size;
            while (1024 * (node.blocks.size() - 1) >= size && !node.blocks.isEmpty()) {
                freeBlocks.add(node.blocks.remove(node.blocks.size() - 1));
                node.data.remove(node.data.size() - 1);
            }
            while (node.indirect.size() > indirectFor(node.blocks.size())) {
                freeBlocks.add(node.indirect.remove(node.indirect.size() - 1));
            }
            return freeBlocks.size() - before;
        }

        int cut(int k, int size) {
            Node node = file(k);
            if (size < 0 || size > node.size) {
                throw new Refused(ARGUMENT);
            }
            return shorten(node, size);
        }

        void remove(int k) {
            Slot slot = item(k);
            if (slot.node.directory && !itemSlots(slot.node).isEmpty()) {
                throw new Refused(ARGUMENT);
            }
            shorten(slot.node, 0);
            freeInodes.add(slot.node.inode);
            for (int b = 0; b < here.slots.size(); b++) {
                List<Slot> block = here.slots.get(b);
                int s = block.indexOf(slot);
                if (s == 0) {
                    slot.node = null;
                    number(here.data.get(b), 0, 4, 0);
                } else if (s > 0) {
                    Slot before = block.get(s - 1);
                    before.length += slot.length;
                    number(here.data.get(b), before.at + 4, 2, before.length);
                    block.remove(s);
                }
            }
        }

        void stamp(int k, int which, long time) {
            Node node = item(k).node;
            if (which < 0 || which > 2) {
                throw new Refused(ARGUMENT);
            }
            node.times[which] = time & 0xFFFFFFFFL;
        }

        /** Every byte as byteAt should tell it. */
        int[] picture() {
            int[] told = new int[1024 * B];
            if (!made) {
                return told;
            }
            byte[] image = new byte[1024 * B];
            int[] directories = new int[Q];
            for (Node node : nodes()) {
                drawNode(image, node);
                directories[(node.inode - 1) / G] += node.directory ? 1 : 0;
            }
            for (int g = 0; g < Q; g++) {
                drawMaps(image, g);
                drawHeads(image, g, directories);
            }
            for (int at = 0; at < told.length; at++) {
                told[at] = freeBlocks.contains(at / 1024) ? -1 : image[at] & 255;
            }
            return told;
        }

        List<Node> nodes() {
            List<Node> all = new ArrayList<>(List.of(root));
            for (int i = 0; i < all.size(); i++) {
                if (all.get(i).directory) {
                    for (Slot slot : itemSlots(all.get(i))) {
                        all.add(slot.node);
                    }
                }
            }
            return all;
        }

        void drawNode(byte[] image, Node node) {
            int group = (node.inode - 1) / G;
            int at = 1024 * (1 + group * P + 4) + 128 * ((node.inode - 1) % G);
            number(image, at, 2, node.directory ? 16877 : 33188);
            number(image, at + 4, 4, node.size);
            for (int i = 0; i < 3; i++) {
                number(image, at + 8 + 4 * i, 4, node.times[i]);
            }
            number(image, at + 26, 2, links(node));
            number(image, at + 28, 4, 2 * (node.blocks.size() + node.indirect.size()));
            if (node.indirect.size() > 0) {
                number(image, at + 88, 4, node.indirect.get(0));
            }
            if (node.indirect.size() > 1) {
                number(image, at + 92, 4, node.indirect.get(1));
            }
            for (int i = 2; i < node.indirect.size(); i++) {
                number(image, 1024 * node.indirect.get(1) + 4 * (i - 2), 4, node.indirect.get(i));
            }
            for (int n = 0; n < node.blocks.size(); n++) {
                int block = node.blocks.get(n);
                System.arraycopy(node.data.get(n), 0, image, 1024 * block, 1024);
                int pointer = at + 40 + 4 * n;
                if (n >= 12) {
                    pointer = 1024 * node.indirect.get(0) + 4 * (n - 12);
                }
                if (n >= 268) {
                    pointer = 1024 * node.indirect.get(2 + (n - 268) / 256) + 4 * ((n - 268) % 256);
                }
                number(image, pointer, 4, block);
            }
        }

        void drawMaps(byte[] image, int g) {
            int first = 1 + g * P;
            for (int k = 0; k < 8192; k++) {
                boolean freeBlock = k < P && freeBlocks.contains(first + k);
                boolean freeInode = k < G && freeInodes.contains(1 + g * G + k);
                if (!freeBlock) {
                    image[1024 * (first + 2) + k / 8] |= (byte) (1 << k % 8);
                }
                if (!freeInode) {
                    image[1024 * (first + 3) + k / 8] |= (byte) (1 << k % 8);
                }
            }
        }

        void drawHeads(byte[] image, int g, int[] directories) {
            int at = 1024 * (1 + g * P);
            int[] fields = {0, 4, Q * G, 4, 4, B, 12, 4, freeBlocks.size(), 16, 4, freeInodes.size(),
                20, 4, 1, 32, 4, P, 36, 4, P, 40, 4, G, 54, 2, 65535, 56, 2, 61267, 58, 2, 1, 60, 2, 1,
                76, 4, 1, 84, 4, 11, 88, 2, 128, 90, 2, g, 96, 4, 2, 104, 4, id};
            for (int i = 0; i < fields.length; i += 3) {
                number(image, at + fields[i], fields[i + 1], fields[i + 2]);
            }
            for (int h = 0; h < Q; h++) {
                int to = at + 1024 + 32 * h;
                int first = 1 + h * P;
                number(image, to, 4, first + 2);
                number(image, to + 4, 4, first + 3);
                number(image, to + 8, 4, first + 4);
                number(image, to + 12, 2, freeBlocks.subSet(first, first + P).size());
                number(image, to + 14, 2, freeInodes.subSet(1 + h * G, 1 + h * G + G).size());
                number(image, to + 16, 2, directories[h]);
            }
        }
    }

    private static void number(byte[] to, int at, int bytes, long value) {
        for (int i = 0; i < bytes; i++) {
            to[at + i] = (byte) (value >> 8 * i);
        }
    }

    /** One call, of the class or of the model. */
    private interface Call {
        long answer();
    }

    private static final class Run {
        final int run;
        final Random random;
        final InodeDesk desk;
        final Model model;
        final int style;
        final List<String> names = new ArrayList<>();

        Run(int run) {
            this.run = run;
            random = new Random(run);
            int[] sizes = {128, 512, 300, 100, 1000, 138, 200, 129 + random.nextInt(384)};
            int blocks = sizes[run % sizes.length];
            style = random.nextInt(5);
            desk = new InodeDesk(blocks);
            model = new Model(blocks);
        }

        void go(int calls) {
            if (random.nextInt(8) != 0) {
                formatSomehow();
            }
            for (int i = 0; i < calls && wrong < 20; i++) {
                one();
                if (i % 37 == 0) {
                    comparePicture();
                }
            }
            comparePicture();
        }

        void compare(String call, Call got, Call due) {
            String one = told(got);
            String other = told(due);
            if (!one.equals(other)) {
                wrong++;
                System.out.println("run " + run + ": " + call + " answered " + one + ", due is " + other);
            }
        }

        String told(Call call) {
            int kind;
            try {
                return Long.toString(call.answer());
            } catch (Refused e) {
                kind = e.kind;
            } catch (RuntimeException e) {
                // By the very class, as what the machine throws is of a class below.
                kind = e.getClass() == IllegalStateException.class ? STATE
                    : e.getClass() == IndexOutOfBoundsException.class ? INDEX
                    : e.getClass() == IllegalArgumentException.class ? ARGUMENT
                    : e.getClass() == UnsupportedOperationException.class ? UNSUPPORTED : NOTHING;
                if (kind == NOTHING) {
                    return e.toString();
                }
            }
            return "exception " + kind;
        }

        void comparePicture() {
            compared++;
            int[] picture = model.picture();
            for (int at = 0; at < picture.length; at++) {
                int got = desk.byteAt(at);
                if (got != picture[at]) {
                    wrong++;
                    System.out.println("run " + run + ": byteAt(" + at + ") (block " + at / 1024 + ", byte "
                        + at % 1024 + ") answered " + got + ", due is " + picture[at]);
                    return;
                }
            }
            compare("fault()", () -> desk.fault(), () -> model.made ? 0 : -1);
        }

        void formatSomehow() {
            int[] sizes = {64, 128, 256, 64, 128, 256, 65, 0, -64};
            int p = sizes[random.nextInt(sizes.length)];
            int[] counts = {12, 13, 16, 30, 100, 400, 1000, 2000, 11, 2001, 12 + random.nextInt(1989)};
            int inodes = counts[random.nextInt(counts.length)];
            int id = random.nextInt();
            compare("format(" + p + ", " + inodes + ", " + id + ")",
                () -> desk.format(p, inodes, id), () -> model.format(p, inodes, id));
        }

        void put(String text) {
            for (int from = 0; from < text.length(); from += 20) {
                byte[] bytes = new byte[20];
                int n = Math.min(20, text.length() - from);
                for (int i = 0; i < n; i++) {
                    bytes[i] = (byte) text.charAt(from + i);
                }
                ready(bytes);
                compare("end(" + n + ")", () -> desk.end(n), () -> model.end(n));
            }
        }

        void ready(byte[] bytes) {
            int[] words = new int[5];
            for (int i = 0; i < 20; i++) {
                words[i / 4] = words[i / 4] << 8 | bytes[i] & 255;
            }
            desk.feed(words[0], words[1], words[2], words[3], words[4]);
            model.ready = bytes;
        }

        String someName() {
            int kind = random.nextInt(20);
            if (kind == 0) {
                String[] bad = {"", ".", "..", "a/b", "a\0b", "x".repeat(256), "..."};
                return bad[random.nextInt(bad.length)];
            }
            if (kind == 1 && model.made && !model.itemSlots(model.here).isEmpty()) {
                return model.itemSlots(model.here).get(0).name;
            }
            // Names of before come again: in other directories, and where they have gone.
            if (kind < 7 && !names.isEmpty()) {
                return names.get(random.nextInt(names.size()));
            }
            int length = 1 + random.nextInt(style == 0 ? 250 : style == 1 ? 120 : 12);
            StringBuilder name = new StringBuilder();
            name.append(names.size());
            while (name.length() < length) {
                char letter = (char) (1 + random.nextInt(255));
                name.append(letter == '/' ? 'x' : letter);
            }
            names.add(name.toString());
            return name.toString();
        }

        int someItem() {
            int count = model.made ? model.itemSlots(model.here).size() : 3;
            return random.nextInt(12) == 0 ? random.nextInt(4) - 2 + count : random.nextInt(Math.max(1, count));
        }

        void one() {
            int what = random.nextInt(100);
            if (what < 30) {
                put(someName());
                boolean directory = random.nextInt(3) == 0;
                compare("make(" + directory + ")", () -> desk.make(directory), () -> model.make(directory));
            } else if (what < 75) {
                change(what);
            } else {
                look(what);
            }
        }

        void change(int what) {
            int k = someItem();
            if (what < 40) {
                int[] most = {3000, 3000, 20000, 300000, 500000};
                int n = random.nextInt(15) == 0 ? -1 + random.nextInt(2) * 400002 : random.nextInt(most[style]);
                int seed = random.nextInt();
                compare("grow(" + k + ", " + n + ", " + seed + ")",
                    () -> desk.grow(k, n, seed), () -> model.grow(k, n, seed));
            } else if (what < 46) {
                put("x".repeat(random.nextInt(90)) + "end");
                compare("write(" + k + ")", () -> desk.write(k), () -> model.write(k));
            } else if (what < 53) {
                int size = someSize(k);
                compare("cut(" + k + ", " + size + ")", () -> desk.cut(k, size), () -> model.cut(k, size));
            } else if (what < 63) {
                compare("remove(" + k + ")", () -> removed(k), () -> modelRemoved(k));
            } else if (what < 67) {
                int which = random.nextInt(5) - 1;
                long time = random.nextLong();
                compare("stamp(" + k + ", " + which + ", " + time + ")",
                    () -> stamped(k, which, time), () -> modelStamped(k, which, time));
            } else if (what < 71) {
                compare("enter(" + k + ")", () -> desk.enter(k), () -> modelEnter(k));
            } else if (what < 74) {
                compare("up()", () -> desk.up() ? 1 : 0, () -> modelUp());
            } else if (random.nextInt(4) == 0) {
                formatSomehow();
            }
        }

        int someSize(int k) {
            int had = 0;
            if (model.made && k >= 0 && k < model.itemSlots(model.here).size()) {
                had = model.itemSlots(model.here).get(k).node.size;
            }
            int[] edges = {0, 1024, 12288, 12289, 274432, 274433, had, had + 1, -1, had / 1024 * 1024};
            return random.nextBoolean() ? edges[random.nextInt(edges.length)] : random.nextInt(had + 1);
        }

        long removed(int k) {
            desk.remove(k);
            return 0;
        }

        long modelRemoved(int k) {
            model.remove(k);
            return 0;
        }

        long stamped(int k, int which, long time) {
            desk.stamp(k, which, time);
            return 0;
        }

        long modelStamped(int k, int which, long time) {
            model.stamp(k, which, time);
            return 0;
        }

        long modelEnter(int k) {
            Node node = model.item(k).node;
            if (!node.directory) {
                throw new Refused(ARGUMENT);
            }
            model.here = node;
            return model.itemSlots(node).size();
        }

        long modelUp() {
            model.needVolume();
            boolean below = model.here != model.root;
            model.here = model.here.parent;
            return below ? 1 : 0;
        }

        void look(int what) {
            int k = someItem();
            if (what < 79) {
                int i = random.nextInt(16) - 1;
                compare("letter(" + k + ", " + i + ")", () -> desk.letter(k, i), () -> modelLetter(k, i));
            } else if (what < 85) {
                int of = random.nextInt(9) - 1;
                compare("about(" + k + ", " + of + ")", () -> desk.about(k, of), () -> model.about(k, of));
            } else if (what < 90) {
                int at = someSize(k);
                compare("content(" + k + ", " + at + ")", () -> desk.content(k, at), () -> model.content(k, at));
            } else if (what < 94) {
                int of = random.nextInt(6) - 1;
                compare("many(" + of + ")", () -> desk.many(of), () -> modelMany(of));
            } else if (what < 96) {
                compare("items()", () -> desk.items(), () -> modelItems());
            } else if (what < 98) {
                compare("fault()", () -> desk.fault(), () -> model.made ? 0 : -1);
            } else {
                int n = random.nextInt(24) - 2;
                byte[] bytes = new byte[20];
                random.nextBytes(bytes);
                ready(bytes);
                compare("end(" + n + ")", () -> desk.end(n), () -> model.end(n));
            }
        }

        long modelItems() {
            model.needVolume();
            return model.itemSlots(model.here).size();
        }

        long modelLetter(int k, int i) {
            String name = model.item(k).name;
            return i < 0 || i >= name.length() ? -1 : name.charAt(i);
        }

        long modelMany(int of) {
            if (!model.made || of < 0 || of > 3) {
                return -1;
            }
            int[] told = {model.freeBlocks.size(), model.freeInodes.size(), model.Q, model.G};
            return told[of];
        }
    }
}
