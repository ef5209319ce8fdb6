import java.util.function.LongSupplier;

/** Each promise of the document by its number: ordinary calls, edges and wrong inputs. */
public final class PromisesTest {
    private static final Class<?> STATE = IllegalStateException.class;
    private static final Class<?> INDEX = IndexOutOfBoundsException.class;
    private static final Class<?> ARGUMENT = IllegalArgumentException.class;
    private static final Class<?> UNSUPPORTED = UnsupportedOperationException.class;
    private static int promise = 0;
    private static int wrong = 0;

    public static void main(String[] args) {
        newObject();
        feedAndEnd();
        format();
        formatRefused();
        superblock();
        descriptorsAndMaps();
        bytes();
        faults();
        counts();
        items();
        letters();
        about();
        content();
        walk();
        make();
        makeEntries();
        makeRefused();
        makeWithoutRoom();
        write();
        grow();
        growPointers();
        growDoubly();
        growRefused();
        growEdges();
        cut();
        cutPointers();
        remove();
        removeEntries();
        stamp();
        withoutVolume();
        orderOfExceptions();
        System.out.println("PromisesTest: " + wrong + " wrong");
        if (wrong != 0) {
            System.exit(1);
        }
    }

    private static void due(String call, long got, long want) {
        if (got != want) {
            wrong++;
            System.out.println("promise " + promise + ": " + call + " answered " + got + ", due is " + want);
        }
    }

    private static void refused(String call, Class<?> want, LongSupplier run) {
        String got;
        try {
            got = "the answer " + run.getAsLong();
        } catch (RuntimeException e) {
            // The very class: what the machine throws is often of a class below.
            got = e.getClass() == want ? null : e.toString();
        }
        if (got != null) {
            wrong++;
            System.out.println("promise " + promise + ": " + call + " gave " + got + ", due is " + want);
        }
    }

    private static long remove(InodeDesk desk, int k) {
        desk.remove(k);
        return 0;
    }

    private static long stamp(InodeDesk desk, int k, int which, long time) {
        desk.stamp(k, which, time);
        return 0;
    }

    private static InodeDesk volume(int blocks, int p, int inodes) {
        InodeDesk desk = new InodeDesk(blocks);
        desk.format(p, inodes, 0);
        return desk;
    }

    private static void put(InodeDesk desk, String text) {
        for (int from = 0; from < text.length(); from += 20) {
            int[] words = new int[5];
            int n = Math.min(20, text.length() - from);
            for (int i = 0; i < n; i++) {
                words[i / 4] |= text.charAt(from + i) << 24 - 8 * (i % 4);
            }
            desk.feed(words[0], words[1], words[2], words[3], words[4]);
            desk.end(n);
        }
    }

    private static int make(InodeDesk desk, String name, boolean directory) {
        put(desk, name);
        return desk.make(directory);
    }

    /** The number that stands there, in so many bytes. */
    private static long number(InodeDesk desk, int at, int bytes) {
        long value = 0;
        for (int i = bytes - 1; i >= 0; i--) {
            value = value << 8 | desk.byteAt(at + i);
        }
        return value;
    }

    private static long hash(InodeDesk desk, int blocks) {
        long sum = 0;
        for (int at = 0; at < 1024 * blocks; at++) {
            sum = 31 * sum + desk.byteAt(at);
        }
        return sum;
    }

    private static void lastByte(int blocks, int kept) {
        InodeDesk desk = new InodeDesk(blocks);
        due("byteAt of the last byte of " + blocks + " blocks", desk.byteAt(1024 * kept - 1), 0);
        due("byteAt behind the last byte of " + blocks + " blocks", desk.byteAt(1024 * kept), -1);
    }

    private static void newObject() {
        promise = 1;
        lastByte(128, 128);
        lastByte(127, 128);
        lastByte(0, 128);
        lastByte(-5, 128);
        lastByte(Integer.MIN_VALUE, 128);
        lastByte(129, 129);
        lastByte(511, 511);
        lastByte(512, 512);
        lastByte(513, 512);
        lastByte(Integer.MAX_VALUE, 512);
        due("many(0) without a volume", new InodeDesk(128).many(0), -1);
        due("NONE", InodeDesk.NONE, -1);
    }

    private static void feedAndEnd() {
        promise = 2;
        InodeDesk desk = volume(128, 64, 12);
        make(desk, "a", false);
        desk.feed(0x01020304, 0x85868788, -1, 0, 0x7F000009);
        due("end(20)", desk.end(20), 20);
        due("write(0)", desk.write(0), 20);
        int[] want = {1, 2, 3, 4, 0x85, 0x86, 0x87, 0x88, 255, 255, 255, 255, 0, 0, 0, 0, 0x7F, 0, 0, 9};
        for (int i = 0; i < 20; i++) {
            due("content(0, " + i + ")", desk.content(0, i), want[i]);
        }
        desk.feed(0x11111111, 0x11111111, 0x11111111, 0x11111111, 0x11111111);
        desk.feed(0x22222222, 0, 0, 0, 0);
        due("end(5) after a second feed", desk.end(5), 5);
        due("write(0)", desk.write(0), 25);
        due("content(0, 20)", desk.content(0, 20), 0x22);
        due("content(0, 24)", desk.content(0, 24), 0);
        due("end(2) without a feed", desk.end(2), 2);
        due("write(0)", desk.write(0), 27);
        due("content(0, 25)", desk.content(0, 25), 0);
        promise = 3;
        desk.feed(0x61626364, 0, 0, 0, 0);
        due("end(21)", desk.end(21), -1);
        due("end(-1)", desk.end(-1), -1);
        due("end(MAX)", desk.end(Integer.MAX_VALUE), -1);
        due("end(MIN)", desk.end(Integer.MIN_VALUE), -1);
        due("end(2), the bytes still ready", desk.end(2), 2);
        due("end(0)", desk.end(0), 2);
        due("write(0)", desk.write(0), 29);
        due("content(0, 27)", desk.content(0, 27), 0x61);
        desk.feed(0x63000000, 0, 0, 0, 0);
        due("end(0) makes them 0", desk.end(0), 0);
        due("end(1)", desk.end(1), 1);
        due("write(0)", desk.write(0), 30);
        due("content(0, 29)", desk.content(0, 29), 0);
        tapeLimit();
    }

    private static void tapeLimit() {
        InodeDesk desk = volume(128, 64, 12);
        make(desk, "a", false);
        for (int i = 1; i <= 204; i++) {
            desk.feed(i << 24, 0, 0, 0, 0);
            due("end(20)", desk.end(20), 20 * i);
        }
        desk.feed(0x41424344, 0, 0, 0, 0x4546);
        due("end(17) to 4097", desk.end(17), -1);
        due("end(20) to 4100", desk.end(20), -1);
        due("end(16) to 4096", desk.end(16), 4096);
        due("end(1) to 4097", desk.end(1), -1);
        due("end(0) at 4096", desk.end(0), 4096);
        due("write(0) of the whole tape", desk.write(0), 4096);
        due("content(0, 4080)", desk.content(0, 4080), 0x41);
        due("content(0, 4060)", desk.content(0, 4060), 204);
        due("content(0, 4096)", desk.content(0, 4096), -1);
        due("write(0) of an empty tape", desk.write(0), 4096);
    }

    private static void format() {
        promise = 4;
        InodeDesk desk = new InodeDesk(128);
        due("format(64, 12, 77)", desk.format(64, 12, 77), 116);
        due("many(3): 8 inodes a group do", desk.many(3), 8);
        due("format(64, 16, 77)", desk.format(64, 16, 77), 116);
        due("format(64, 17, 77)", desk.format(64, 17, 77), 114);
        due("many(3)", desk.many(3), 16);
        due("format(128, 12, 0)", desk.format(128, 12, 0), 127 - 6 - 1);
        due("many(2)", desk.many(2), 1);
        due("many(3)", desk.many(3), 16);
        due("format(256, 12, 0)", desk.format(256, 12, 0), 120);
        due("format(128, 920, 0), 12 + 115 of 127 blocks", desk.format(128, 920, 0), 7);
        make(desk, "a", true);
        desk.enter(0);
        make(desk, "b", false);
        desk.grow(0, 1000, 1);
        due("format once more", desk.format(64, 12, 5), 116);
        due("items()", desk.items(), 0);
        due("up() from the root", desk.up() ? 1 : 0, 0);
        long once = hash(desk, 128);
        InodeDesk other = new InodeDesk(128);
        other.format(64, 12, 5);
        due("the disk after a second format", once, hash(other, 128));
        InodeDesk big = new InodeDesk(512);
        due("format(64, 2000, 0)", big.format(64, 2000, 0), 222);
        due("format(256, 2000, 0)", big.format(256, 2000, 0), 511 - 2 * 129 - 1);
        due("format(128, 2000, 0)", big.format(128, 2000, 0), 511 - 4 * 67 - 1);
        due("many(3)", big.many(3), 504);
    }

    private static void formatRefused() {
        promise = 4;
        InodeDesk desk = volume(128, 64, 12);
        put(desk, "kept");
        desk.make(true);
        desk.enter(0);
        long before = hash(desk, 128);
        int[] sizes = {63, 65, 0, 1, -64, 32, 512, 1024, 192, Integer.MIN_VALUE, Integer.MAX_VALUE};
        for (int p : sizes) {
            refused("format(" + p + ", 12, 0)", ARGUMENT, () -> desk.format(p, 12, 0));
        }
        int[] counts = {11, 0, -1, 2001, Integer.MIN_VALUE, Integer.MAX_VALUE};
        for (int inodes : counts) {
            refused("format(64, " + inodes + ", 0)", ARGUMENT, () -> desk.format(64, inodes, 0));
        }
        refused("format(128, 921, 0)", ARGUMENT, () -> desk.format(128, 921, 0));
        refused("format(128, 2000, 0)", ARGUMENT, () -> desk.format(128, 2000, 0));
        due("many(3) afterwards", desk.many(3), 8);
        due("up() afterwards: HERE has stayed", desk.up() ? 1 : 0, 1);
        due("the disk afterwards", hash(desk, 128), before);
        // The last group: 13 blocks do, 12 don't; with five fixed ones.
        due("format on 142 blocks", new InodeDesk(1 + 128 + 13).format(128, 12, 0), 141 - 10 - 1);
        InodeDesk short12 = new InodeDesk(1 + 128 + 12);
        refused("format on 141 blocks", ARGUMENT, () -> short12.format(128, 12, 0));
        due("fault() without a volume", short12.fault(), -1);
        due("format(256, ..) on 141 blocks", short12.format(256, 12, 0), 140 - 6 - 1);
        InodeDesk one = new InodeDesk(130);
        refused("format on 130 blocks", ARGUMENT, () -> one.format(128, 12, 0));
        due("format on 129 blocks", new InodeDesk(129).format(128, 12, 0), 128 - 6 - 1);
    }

    private static void superblock() {
        promise = 4;
        InodeDesk desk = new InodeDesk(300);
        desk.format(128, 100, 0x89ABCDEF);
        make(desk, "d", true);
        make(desk, "f", false);
        desk.grow(1, 20000, 0);
        int[] fields = {0, 4, 120, 4, 4, 300, 12, 4, (int) free(desk), 16, 4, 107, 20, 4, 1, 32, 4, 128, 36, 4, 128,
            40, 4, 40, 54, 2, 65535, 56, 2, 61267, 58, 2, 1, 60, 2, 1, 76, 4, 1, 84, 4, 11, 88, 2, 128,
            96, 4, 2, 104, 4, 0x89ABCDEF};
        for (int group = 0; group < 3; group++) {
            int at = 1024 * (1 + 128 * group);
            byte[] seen = new byte[1024];
            for (int i = 0; i < fields.length; i += 3) {
                due("superblock " + group + " at " + fields[i],
                    number(desk, at + fields[i], fields[i + 1]), fields[i + 2] & 0xFFFFFFFFL);
                for (int j = 0; j < fields[i + 1]; j++) {
                    seen[fields[i] + j] = 1;
                }
            }
            due("superblock " + group + " at 90", number(desk, at + 90, 2), group);
            seen[90] = 1;
            for (int i = 0; i < 1024; i++) {
                if (seen[i] == 0) {
                    due("superblock " + group + " at " + i, desk.byteAt(at + i), 0);
                }
            }
        }
    }

    private static long free(InodeDesk desk) {
        return desk.many(0);
    }

    private static void descriptorsAndMaps() {
        promise = 4;
        InodeDesk desk = new InodeDesk(300);
        desk.format(128, 24, 0);
        for (int copy = 0; copy < 3; copy++) {
            for (int group = 0; group < 3; group++) {
                int at = 1024 * (2 + 128 * copy) + 32 * group;
                String name = "descriptor " + group + " in group " + copy;
                due(name + " at 0", number(desk, at, 4), 3 + 128 * group);
                due(name + " at 4", number(desk, at + 4, 4), 4 + 128 * group);
                due(name + " at 8", number(desk, at + 8, 4), 5 + 128 * group);
                due(name + " at 12", number(desk, at + 12, 2), group == 0 ? 122 : group == 1 ? 123 : 43 - 5);
                due(name + " at 14", number(desk, at + 14, 2), group == 0 ? 0 : group == 1 ? 5 : 8);
                due(name + " at 16", number(desk, at + 16, 2), group == 0 ? 1 : 0);
                due(name + " at 18", number(desk, at + 18, 4), 0);
            }
            due("behind the descriptors", number(desk, 1024 * (2 + 128 * copy) + 96, 4), 0);
        }
        int[] blockMap = {0x3F, 0, 0, 0};
        for (int i = 0; i < 4; i++) {
            due("block map 0 at " + i, desk.byteAt(3072 + i), blockMap[i]);
        }
        due("block map 0 at 15", desk.byteAt(3072 + 15), 0);
        due("block map 0 at 16", desk.byteAt(3072 + 16), 255);
        due("block map 0 at 1023", desk.byteAt(3072 + 1023), 255);
        int last = 1024 * (3 + 256);
        due("block map 2 at 0", desk.byteAt(last), 0x1F);
        due("block map 2 at 4", desk.byteAt(last + 4), 0);
        due("block map 2 at 5: 43 blocks", desk.byteAt(last + 5), 0xF8);
        due("block map 2 at 6", desk.byteAt(last + 6), 255);
        due("inode map 0 at 0", desk.byteAt(4096), 255);
        due("inode map 0 at 1", desk.byteAt(4097), 255);
        due("inode map 1 at 0: inodes 9 to 11", desk.byteAt(1024 * (4 + 128)), 7);
        due("inode map 1 at 1", desk.byteAt(1024 * (4 + 128) + 1), 255);
        due("inode map 2 at 0", desk.byteAt(1024 * (4 + 256)), 0);
        due("inode map 2 at 1", desk.byteAt(1024 * (4 + 256) + 1), 255);
        rootOnDisk(desk);
    }

    private static void rootOnDisk(InodeDesk desk) {
        int root = 5 * 1024 + 128;
        int[] fields = {0, 2, 16877, 2, 2, 0, 4, 4, 1024, 8, 4, 0, 26, 2, 2, 28, 4, 2, 32, 4, 0, 40, 4, 6, 44, 4, 0};
        for (int i = 0; i < fields.length; i += 3) {
            due("the root's inode at " + fields[i], number(desk, root + fields[i], fields[i + 1]), fields[i + 2]);
        }
        for (int i = 0; i < 128; i++) {
            due("inode 1 at " + i, desk.byteAt(root - 128 + i), 0);
            due("inode 3 at " + i, desk.byteAt(root + 128 + i), 0);
        }
        int[] dots = {2, 0, 0, 0, 12, 0, 1, 2, 46, 0, 0, 0, 2, 0, 0, 0, 0xF4, 3, 2, 2, 46, 46, 0, 0, 0};
        for (int i = 0; i < dots.length; i++) {
            due("the root's block at " + i, desk.byteAt(6 * 1024 + i), dots[i]);
        }
    }

    private static void bytes() {
        promise = 5;
        InodeDesk desk = new InodeDesk(128);
        due("byteAt(-1)", desk.byteAt(-1), -1);
        due("byteAt(MIN)", desk.byteAt(Integer.MIN_VALUE), -1);
        due("byteAt(MAX)", desk.byteAt(Integer.MAX_VALUE), -1);
        due("byteAt(0)", desk.byteAt(0), 0);
        due("byteAt(100000) without a volume", desk.byteAt(100000), 0);
        desk.format(64, 12, 0);
        due("byteAt(-1)", desk.byteAt(-1), -1);
        due("byteAt(131072)", desk.byteAt(131072), -1);
        due("byteAt(0)", desk.byteAt(0), 0);
        due("byteAt(1023)", desk.byteAt(1023), 0);
        due("byteAt(1024)", desk.byteAt(1024), 16);
        due("byteAt of the last byte of the root's block", desk.byteAt(7 * 1024 - 1), 0);
        due("byteAt of a free block", desk.byteAt(7 * 1024), -1);
        due("byteAt of the last block, free", desk.byteAt(131071), -1);
        due("byteAt of the second group's superblock", desk.byteAt(65 * 1024 + 90), 1);
        make(desk, "a", false);
        desk.grow(0, 1, 200);
        due("byteAt of a file's byte", desk.byteAt(7 * 1024), 200);
        due("byteAt behind it in its block", desk.byteAt(7 * 1024 + 1), 0);
        desk.remove(0);
        due("byteAt of a block that is free again", desk.byteAt(7 * 1024), -1);
    }

    private static void faults() {
        promise = 6;
        InodeDesk desk = new InodeDesk(128);
        due("fault() without a volume", desk.fault(), -1);
        desk.format(64, 12, 0);
        due("fault()", desk.fault(), 0);
        make(desk, "a", true);
        make(desk, "b", false);
        desk.grow(1, 20000, 3);
        due("fault() with items", desk.fault(), 0);
        refused("grow(1, 200000, 3)", UNSUPPORTED, () -> desk.grow(1, 200000, 3));
        due("fault() after a refusal", desk.fault(), 0);
    }

    private static void counts() {
        promise = 7;
        InodeDesk desk = new InodeDesk(250);
        for (int what = -1; what < 5; what++) {
            due("many(" + what + ") without a volume", desk.many(what), -1);
        }
        desk.format(64, 50, 0);
        due("many(0)", desk.many(0), 249 - 4 * 6 - 1);
        due("many(1)", desk.many(1), 64 - 11);
        due("many(2)", desk.many(2), 4);
        due("many(3)", desk.many(3), 16);
        due("many(4)", desk.many(4), -1);
        due("many(-1)", desk.many(-1), -1);
        due("many(MIN)", desk.many(Integer.MIN_VALUE), -1);
        make(desk, "d", true);
        due("many(0) with a directory more", desk.many(0), 223);
        due("many(1) with a directory more", desk.many(1), 52);
    }

    private static void items() {
        promise = 8;
        InodeDesk desk = volume(128, 64, 100);
        due("items()", desk.items(), 0);
        for (int i = 0; i < 60; i++) {
            make(desk, "item number " + (10 + i) + " of many", i % 2 == 0);
            due("items()", desk.items(), i + 1);
        }
        desk.remove(30);
        due("items()", desk.items(), 59);
        desk.enter(0);
        due("items() in another", desk.items(), 0);
    }

    private static void letters() {
        promise = 9;
        InodeDesk desk = volume(128, 64, 12);
        String whole = "n".repeat(254) + (char) 255;
        make(desk, "ab", false);
        make(desk, whole, false);
        due("letter(0, 0)", desk.letter(0, 0), 'a');
        due("letter(0, 1)", desk.letter(0, 1), 'b');
        due("letter(0, 2)", desk.letter(0, 2), -1);
        due("letter(0, -1)", desk.letter(0, -1), -1);
        due("letter(0, MAX)", desk.letter(0, Integer.MAX_VALUE), -1);
        due("letter(0, MIN)", desk.letter(0, Integer.MIN_VALUE), -1);
        due("letter(1, 253)", desk.letter(1, 253), 'n');
        due("letter(1, 254)", desk.letter(1, 254), 255);
        due("letter(1, 255)", desk.letter(1, 255), -1);
        int[] no = {-1, 2, Integer.MIN_VALUE, Integer.MAX_VALUE};
        for (int k : no) {
            refused("letter(" + k + ", 0)", INDEX, () -> desk.letter(k, 0));
        }
    }

    private static void about() {
        promise = 10;
        InodeDesk desk = volume(128, 64, 16);
        make(desk, "f", false);
        make(desk, "d", true);
        desk.grow(0, 2500, 0);
        long[] file = {12, 0, 2500, 1, 0, 0, 0};
        long[] directory = {13, 1, 1024, 2, 0, 0, 0};
        for (int what = 0; what < 7; what++) {
            due("about(0, " + what + ")", desk.about(0, what), file[what]);
            due("about(1, " + what + ")", desk.about(1, what), directory[what]);
        }
        refused("about(0, 7)", ARGUMENT, () -> desk.about(0, 7));
        refused("about(0, -1)", ARGUMENT, () -> desk.about(0, -1));
        refused("about(2, 0)", INDEX, () -> desk.about(2, 0));
        refused("about(-1, 0)", INDEX, () -> desk.about(-1, 0));
        desk.enter(1);
        make(desk, "e", true);
        make(desk, "g", false);
        desk.up();
        due("links with a directory in it", desk.about(1, 3), 3);
        due("its links on the disk", number(desk, 1024 * 69 + 128 * 4 + 26, 2), 3);
        desk.enter(1);
        desk.remove(0);
        desk.up();
        due("links when that has gone", desk.about(1, 3), 2);
    }

    private static void content() {
        promise = 11;
        InodeDesk desk = volume(512, 256, 12);
        make(desk, "f", false);
        make(desk, "d", true);
        due("content of an empty file", desk.content(0, 0), -1);
        desk.grow(0, 300000, 9);
        int[] at = {0, 1, 1023, 1024, 12287, 12288, 12289, 274431, 274432, 299999};
        for (int i : at) {
            due("content(0, " + i + ")", desk.content(0, i), 9 + (long) i * i + (i >> 8) & 255);
        }
        due("content(0, 300000)", desk.content(0, 300000), -1);
        due("content(0, -1)", desk.content(0, -1), -1);
        due("content(0, MIN)", desk.content(0, Integer.MIN_VALUE), -1);
        due("content(0, MAX)", desk.content(0, Integer.MAX_VALUE), -1);
        due("content of a directory", desk.content(1, 0), -1);
        refused("content(2, 0)", INDEX, () -> desk.content(2, 0));
        desk.cut(0, 100);
        due("content(0, 99)", desk.content(0, 99), 9 + 99 * 99 & 255);
        due("content(0, 100) after a cut", desk.content(0, 100), -1);
    }

    private static void walk() {
        promise = 12;
        InodeDesk desk = volume(128, 64, 32);
        make(desk, "f", false);
        make(desk, "d", true);
        refused("enter(0), a file", ARGUMENT, () -> desk.enter(0));
        refused("enter(2)", INDEX, () -> desk.enter(2));
        refused("enter(-1)", INDEX, () -> desk.enter(-1));
        due("enter(1)", desk.enter(1), 0);
        make(desk, "x", true);
        make(desk, "y", false);
        due("enter(0)", desk.enter(0), 0);
        promise = 13;
        due("up()", desk.up() ? 1 : 0, 1);
        due("items() there", desk.items(), 2);
        due("letter(1, 0)", desk.letter(1, 0), 'y');
        due("up()", desk.up() ? 1 : 0, 1);
        due("letter(0, 0)", desk.letter(0, 0), 'f');
        due("up() from the root", desk.up() ? 1 : 0, 0);
        due("up() from the root", desk.up() ? 1 : 0, 0);
        promise = 12;
        due("enter(1) with two items", desk.enter(1), 2);
    }

    private static void make() {
        promise = 14;
        InodeDesk desk = volume(128, 64, 32);
        due("make a file", make(desk, "a", false), 0);
        due("make a directory", make(desk, "b", true), 1);
        due("make a name of 255 bytes", make(desk, "c".repeat(255), false), 2);
        due("make \"...\"", make(desk, "...", false), 3);
        due("make \".a\"", make(desk, ".a", false), 4);
        due("make \"A\"", make(desk, "A", false), 5);
        due("make \"aa\"", make(desk, "aa", false), 6);
        due("the tape afterwards", desk.end(0), 0);
        due("inode of item 6", desk.about(6, 0), 18);
        desk.remove(3);
        due("make where one has gone", make(desk, "r", false), 3);
        due("it gets the lowest free inode", desk.about(3, 0), 15);
        desk.stamp(3, 0, 99);
        desk.remove(3);
        make(desk, "s", false);
        due("its times are 0", desk.about(3, 4), 0);
        desk.enter(1);
        due("a name of the directory above", make(desk, "a", false), 0);
        due("many(1)", desk.many(1), 32 - 11 - 8);
    }

    private static void makeEntries() {
        promise = 14;
        InodeDesk desk = volume(128, 64, 12);
        make(desk, "abcd", false);
        make(desk, "abcde", true);
        int[] want = {2, 0, 0, 0, 12, 0, 2, 2, 46, 46, 0, 0,
            12, 0, 0, 0, 12, 0, 4, 1, 'a', 'b', 'c', 'd',
            13, 0, 0, 0, 0xDC, 3, 5, 2, 'a', 'b', 'c', 'd', 'e', 0, 0, 0, 0};
        for (int i = 0; i < want.length; i++) {
            due("the root's block at " + (12 + i), desk.byteAt(6 * 1024 + 12 + i), want[i]);
        }
        int[] dots = {13, 0, 0, 0, 12, 0, 1, 2, 46, 0, 0, 0, 2, 0, 0, 0, 0xF4, 3, 2, 2, 46, 46, 0, 0};
        for (int i = 0; i < dots.length; i++) {
            due("the new directory's block at " + i, desk.byteAt(7 * 1024 + i), dots[i]);
        }
        due("directories of group 1", number(desk, 2048 + 32 + 16, 2), 1);
        due("the same in the copy", number(desk, 1024 * 66 + 32 + 16, 2), 1);
        int inode = 1024 * (65 + 4) + 128 * 4;
        due("mode of inode 13", number(desk, inode, 2), 16877);
        due("mode of inode 12", number(desk, inode - 128, 2), 33188);
        due("links of inode 12", number(desk, inode - 128 + 26, 2), 1);
        due("links of the root", number(desk, 5 * 1024 + 128 + 26, 2), 3);
        due("inode map of group 1", desk.byteAt(1024 * 68), 0x1F);
        longDirectory();
    }

    /** Names of 248 bytes use 256: three beside the dots in the first block, then four a block. */
    private static void longDirectory() {
        InodeDesk desk = volume(128, 64, 64);
        for (int i = 0; i < 8; i++) {
            due("make", make(desk, "" + (char) ('a' + i) + "-".repeat(247), i == 3), i);
        }
        int root = 1024 * 5 + 128;
        due("size of the root", number(desk, root + 4, 4), 3072);
        due("its second block, before that of the new directory", number(desk, root + 44, 4), 10);
        due("its third block", number(desk, root + 48, 4), 12);
        due("twice its blocks", number(desk, root + 28, 4), 6);
        due("length of ..'s neighbour", number(desk, 1024 * 9 + 24 + 512 + 4, 2), 1024 - 24 - 512);
        due("length of the last entry of a full block", number(desk, 1024 * 10 + 768 + 4, 2), 256);
        due("length of the entry alone in its block", number(desk, 1024 * 12 + 4, 2), 1024);
        due("a short one finds room in the first block", make(desk, "s", false), 3);
        due("so the next one of 248 bytes is the last", make(desk, "z" + "-".repeat(247), false), 9);
        desk.remove(4);
        due("the empty entry keeps its length", number(desk, 1024 * 10 + 4, 2), 256);
        due("its inode is 0", number(desk, 1024 * 10, 4), 0);
        due("its name stays", desk.byteAt(1024 * 10 + 8), 'd');
        due("items()", desk.items(), 9);
        due("its name is free again, in the empty entry itself", make(desk, "d" + "-".repeat(247), false), 4);
        desk.remove(4);
        due("the empty entry is replaced whole", make(desk, "e" + "=".repeat(247), false), 4);
        due("its length", number(desk, 1024 * 10 + 4, 2), 256);
        due("fault()", desk.fault(), 0);
    }

    private static void makeRefused() {
        promise = 14;
        InodeDesk desk = volume(128, 64, 32);
        make(desk, "there", false);
        long before = hash(desk, 128);
        String[] bad = {"", ".", "..", "/", "a/b", "\0", "ab\0", "x".repeat(256), "x".repeat(400), "there"};
        for (String name : bad) {
            for (int directory = 0; directory < 2; directory++) {
                boolean which = directory == 1;
                put(desk, name);
                refused("make of \"" + name + "\"", ARGUMENT, () -> desk.make(which));
                due("the tape is used up", desk.end(0), 0);
            }
        }
        due("nothing else has changed", hash(desk, 128), before);
        due("items()", desk.items(), 1);
    }

    private static void makeWithoutRoom() {
        promise = 14;
        InodeDesk desk = volume(128, 64, 12);
        for (int i = 0; i < 5; i++) {
            make(desk, "n" + i, false);
        }
        due("many(1)", desk.many(1), 0);
        put(desk, "more");
        refused("make without a free inode", UNSUPPORTED, () -> desk.make(false));
        due("the tape is used up", desk.end(0), 0);
        put(desk, "n1");
        refused("make of a name twice goes before", ARGUMENT, () -> desk.make(false));
        InodeDesk full = volume(128, 128, 920);
        make(full, "f", false);
        full.grow(0, 1024 * full.many(0), 1);
        due("many(0)", full.many(0), 0);
        long before = hash(full, 128);
        put(full, "d");
        refused("make of a directory without a block", UNSUPPORTED, () -> full.make(true));
        due("nothing has changed", hash(full, 128), before);
        due("make of a file needs none", make(full, "g", false), 1);
        directoryBlocks();
    }

    private static void directoryBlocks() {
        InodeDesk desk = volume(128, 128, 920);
        for (int i = 0; i < 3; i++) {
            make(desk, "" + i + "-".repeat(247), false);
        }
        desk.grow(0, 1024 * (desk.many(0) - 1), 1);
        due("many(0)", desk.many(0), 1);
        put(desk, "d" + "-".repeat(247));
        refused("make of a directory that needs two blocks", UNSUPPORTED, () -> desk.make(true));
        due("many(0) stays", desk.many(0), 1);
        due("many(1) stays", desk.many(1), 920 - 11 - 3);
        due("a short name needs one", make(desk, "d", true), 3);
        put(desk, "e" + "-".repeat(247));
        refused("make of a file that needs one", UNSUPPORTED, () -> desk.make(false));
        due("fault()", desk.fault(), 0);
    }

    private static void write() {
        promise = 15;
        InodeDesk desk = volume(128, 64, 32);
        make(desk, "f", false);
        make(desk, "d", true);
        put(desk, "one");
        due("write(0)", desk.write(0), 3);
        put(desk, "three");
        due("write(0)", desk.write(0), 8);
        due("content(0, 3)", desk.content(0, 3), 't');
        due("the tape is used up", desk.end(0), 0);
        due("write(0) of nothing", desk.write(0), 8);
        put(desk, "x");
        refused("write(1), a directory", ARGUMENT, () -> desk.write(1));
        due("the tape is used up", desk.end(0), 0);
        put(desk, "x");
        refused("write(2)", INDEX, () -> desk.write(2));
        due("the tape is used up", desk.end(0), 0);
        refused("write(-1)", INDEX, () -> desk.write(-1));
        desk.grow(0, 1014, 7);
        due("many(0)", desk.many(0), 112);
        put(desk, "yz");
        due("write(0) to the end of a block", desk.write(0), 1024);
        due("many(0)", desk.many(0), 112);
        put(desk, "ABC");
        due("write(0) to a new block", desk.write(0), 1027);
        due("many(0)", desk.many(0), 111);
        due("content(0, 1023)", desk.content(0, 1023), 'z');
        due("content(0, 1026)", desk.content(0, 1026), 'C');
        desk.grow(0, 1021 + 1024 * (desk.many(0) - 1), 7);
        due("many(0), one for the indirect block", desk.many(0), 0);
        put(desk, "x");
        refused("write(0) without a free block", UNSUPPORTED, () -> desk.write(0));
        due("the tape is used up", desk.end(0), 0);
        due("write(0) of nothing", desk.write(0), 1024 * 112);
    }

    private static void grow() {
        promise = 16;
        InodeDesk desk = volume(512, 64, 64);
        make(desk, "f", false);
        make(desk, "d", true);
        due("grow(0, 0, 5)", desk.grow(0, 0, 5), 0);
        due("about(0, 2)", desk.about(0, 2), 0);
        due("grow(0, 700, -1)", desk.grow(0, 700, -1), 700);
        due("grow(0, 1500, MAX)", desk.grow(0, 1500, Integer.MAX_VALUE), 2200);
        for (int i = 0; i < 700; i++) {
            due("content(0, " + i + ")", desk.content(0, i), -1 + i * i + (i >> 8) & 255);
        }
        for (int i = 0; i < 1500; i++) {
            due("content(0, " + (700 + i) + ")", desk.content(0, 700 + i), 255 + i * i + (i >> 8) & 255);
        }
        due("grow(0, 400000, 1)", desk.grow(0, 400000, 1), 402200);
        for (int i = 0; i < 400000; i += 997) {
            due("content(0, " + (2200 + i) + ")", desk.content(0, 2200 + i), 1 + i * i + (i >> 8) & 255);
        }
        due("fault()", desk.fault(), 0);
    }

    private static void growPointers() {
        promise = 16;
        InodeDesk desk = volume(128, 64, 32);
        make(desk, "f", false);
        int inode = 5 * 1024 + 128 * 11;
        desk.grow(0, 12 * 1024, 0);
        due("many(0) with 12 blocks", desk.many(0), 114 - 12);
        due("twice its blocks", number(desk, inode + 28, 4), 24);
        due("its indirect one", number(desk, inode + 88, 4), 0);
        desk.grow(0, 1, 0);
        due("twice its blocks", number(desk, inode + 28, 4), 28);
        due("pointer 0", number(desk, inode + 40, 4), 8);
        due("pointer 11", number(desk, inode + 84, 4), 19);
        due("the indirect one comes before block 12", number(desk, inode + 88, 4), 20);
        due("pointer 12", number(desk, 20 * 1024, 4), 21);
        due("pointer 13", number(desk, 20 * 1024 + 4, 4), 0);
        due("the doubly indirect one", number(desk, inode + 92, 4), 0);
        due("block map of group 0, blocks 17 to 24", desk.byteAt(3072 + 2), 0x1F);
        due("free blocks of group 0", number(desk, 2048 + 12, 2), 64 - 21);
        desk.grow(0, 1023 + 50 * 1024, 0);
        due("it goes on in group 1 behind the fixed blocks", number(desk, 20 * 1024 + 4 * 44, 4), 71);
        due("free blocks of group 0", number(desk, 2048 + 12, 2), 0);
        due("the same in the copy", number(desk, 66 * 1024 + 12, 2), 0);
        due("free blocks of group 1", number(desk, 2048 + 32 + 12, 2), 63 - 6 - 7);
        due("all free blocks in the copy", number(desk, 65 * 1024 + 12, 4), desk.many(0));
    }

    private static void growDoubly() {
        promise = 16;
        InodeDesk desk = volume(512, 256, 12);
        make(desk, "f", false);
        int inode = 1024 * (257 + 4) + 128 * 3;
        desk.grow(0, 268 * 1024, 0);
        int before = desk.many(0);
        due("twice its blocks", number(desk, inode + 28, 4), 2 * 269);
        due("the doubly indirect one", number(desk, inode + 92, 4), 0);
        desk.grow(0, 1, 77);
        due("three blocks more", desk.many(0), before - 3);
        long doubly = number(desk, inode + 92, 4);
        int row = (int) number(desk, (int) doubly * 1024, 4);
        due("its indirect one comes behind the doubly indirect one", row, doubly + 1);
        due("block 268 behind both", number(desk, row * 1024, 4), doubly + 2);
        due("pointer 269", number(desk, row * 1024 + 4, 4), 0);
        due("the doubly indirect one's second", number(desk, (int) doubly * 1024 + 4, 4), 0);
        due("content(0, 274432)", desk.content(0, 274432), 77);
        due("pointer 14 of the inode", number(desk, inode + 96, 4), 0);
    }

    private static void growRefused() {
        promise = 16;
        InodeDesk desk = volume(128, 64, 32);
        make(desk, "f", false);
        make(desk, "d", true);
        int[] bad = {-1, 400001, Integer.MIN_VALUE, Integer.MAX_VALUE};
        for (int n : bad) {
            refused("grow(0, " + n + ", 0)", ARGUMENT, () -> desk.grow(0, n, 0));
        }
        refused("grow(1, 5, 0), a directory", ARGUMENT, () -> desk.grow(1, 5, 0));
        refused("grow(2, 5, 0)", INDEX, () -> desk.grow(2, 5, 0));
        refused("grow(-1, 5, 0)", INDEX, () -> desk.grow(-1, 5, 0));
        int free = desk.many(0);
        due("many(0)", free, 113);
        long before = hash(desk, 128);
        refused("grow by one byte too much", UNSUPPORTED, () -> desk.grow(0, 112 * 1024 + 1, 0));
        refused("grow(0, 400000, 0)", UNSUPPORTED, () -> desk.grow(0, 400000, 0));
        due("nothing has changed", hash(desk, 128), before);
        put(desk, "tape");
        due("grow as far as it goes", desk.grow(0, 112 * 1024, 0), 112 * 1024);
        due("many(0)", desk.many(0), 0);
        due("the tape is not read", desk.end(0), 4);
        due("grow(0, 0, 0)", desk.grow(0, 0, 0), 112 * 1024);
        refused("grow(0, 1, 0)", UNSUPPORTED, () -> desk.grow(0, 1, 0));
    }

    /** As many blocks as are wanted do, and one fewer don't, at each step of the indirect ones. */
    private static void growEdges() {
        promise = 16;
        int[] blocks = {1, 11, 12, 13, 14, 267, 268, 269, 270};
        int[] wanted = {1, 11, 12, 14, 15, 268, 269, 272, 273};
        for (int i = 0; i < blocks.length; i++) {
            int n = 1024 * blocks[i];
            InodeDesk few = leaving(wanted[i] - 1);
            refused("grow to " + blocks[i] + " blocks", UNSUPPORTED, () -> few.grow(0, n, 0));
            due("many(0)", few.many(0), wanted[i] - 1);
            InodeDesk enough = leaving(wanted[i]);
            due("grow to " + blocks[i] + " blocks", enough.grow(0, n, 0), n);
            due("many(0)", enough.many(0), 0);
            due("fault()", enough.fault(), 0);
            due("cut(0, 0)", enough.cut(0, 0), wanted[i]);
        }
    }

    /** So many blocks are free; item 0 is an empty file. */
    private static InodeDesk leaving(int free) {
        InodeDesk desk = volume(512, 256, 64);
        make(desk, "f", false);
        while (desk.many(0) > free) {
            int filler = make(desk, "n" + desk.items(), false);
            desk.grow(filler, 1024 * Math.min(12, desk.many(0) - free), 0);
        }
        return desk;
    }

    private static void cut() {
        promise = 17;
        InodeDesk desk = volume(512, 256, 12);
        make(desk, "f", false);
        make(desk, "d", true);
        due("cut(0, 0) of an empty file", desk.cut(0, 0), 0);
        desk.grow(0, 280000, 0);
        int free = desk.many(0);
        due("cut to its size", desk.cut(0, 280000), 0);
        due("cut(0, 274433): blocks 269 to 273", desk.cut(0, 274433), 5);
        due("cut(0, 274432): and both indirect ones", desk.cut(0, 274432), 3);
        due("about(0, 2)", desk.about(0, 2), 274432);
        due("fault()", desk.fault(), 0);
        refused("cut(0, 274433) behind its end", ARGUMENT, () -> desk.cut(0, 274433));
        refused("cut(0, -1)", ARGUMENT, () -> desk.cut(0, -1));
        refused("cut(0, MIN)", ARGUMENT, () -> desk.cut(0, Integer.MIN_VALUE));
        refused("cut(0, MAX)", ARGUMENT, () -> desk.cut(0, Integer.MAX_VALUE));
        refused("cut(1, 0), a directory", ARGUMENT, () -> desk.cut(1, 0));
        refused("cut(2, 0)", INDEX, () -> desk.cut(2, 0));
        due("cut(0, 12289)", desk.cut(0, 12289), 255);
        due("cut(0, 12288)", desk.cut(0, 12288), 2);
        due("cut(0, 11265)", desk.cut(0, 11265), 0);
        due("cut(0, 1)", desk.cut(0, 1), 11);
        due("cut(0, 0)", desk.cut(0, 0), 1);
        due("many(0)", desk.many(0), free + 5 + 3 + 255 + 2 + 11 + 1);
        due("fault()", desk.fault(), 0);
    }

    private static void cutPointers() {
        promise = 17;
        InodeDesk desk = volume(128, 64, 32);
        make(desk, "f", false);
        int inode = 5 * 1024 + 128 * 11;
        desk.grow(0, 15 * 1024, 3);
        desk.cut(0, 13 * 1024 - 10);
        int row = (int) number(desk, inode + 88, 4);
        due("pointer 12 stays", number(desk, row * 1024, 4), row + 1);
        due("pointer 13 is 0", number(desk, row * 1024 + 4, 4), 0);
        due("twice its blocks", number(desk, inode + 28, 4), 28);
        int last = (row + 1) * 1024;
        due("a byte behind its end stays", desk.byteAt(last + 1020), 3 + 13308 * 13308 + (13308 >> 8) & 255);
        put(desk, "new");
        due("write(0)", desk.write(0), 13 * 1024 - 7);
        due("what is written takes its place", desk.byteAt(last + 1014), 'n');
        due("and what is behind it stays", desk.byteAt(last + 1020), 3 + 13308 * 13308 + (13308 >> 8) & 255);
        desk.cut(0, 5 * 1024);
        due("pointer 4 stays", number(desk, inode + 56, 4), 12);
        due("pointer 5 is 0", number(desk, inode + 60, 4), 0);
        due("the indirect one is 0", number(desk, inode + 88, 4), 0);
        desk.grow(0, 1, 9);
        due("a new block is full of 0", desk.byteAt(13 * 1024 + 1), 0);
        due("block map, blocks 9 to 16", desk.byteAt(3072 + 1), 0x1F);
    }

    private static void remove() {
        promise = 18;
        InodeDesk desk = volume(512, 256, 64);
        int free = desk.many(0);
        long before = hash(desk, 6);
        make(desk, "f", false);
        make(desk, "d", true);
        desk.enter(1);
        make(desk, "x", false);
        desk.up();
        desk.grow(0, 290000, 0);
        refused("remove(1), a directory with an item", ARGUMENT, () -> remove(desk, 1));
        refused("remove(2)", INDEX, () -> remove(desk, 2));
        refused("remove(-1)", INDEX, () -> remove(desk, -1));
        desk.remove(0);
        due("letter(0, 0)", desk.letter(0, 0), 'd');
        due("many(0)", desk.many(0), free - 1);
        due("many(1)", desk.many(1), 64 - 11 - 2);
        for (int i = 0; i < 128; i++) {
            due("its inode at " + i, desk.byteAt(5 * 1024 + 128 * 11 + i), 0);
        }
        desk.enter(0);
        desk.remove(0);
        due("items()", desk.items(), 0);
        desk.up();
        desk.remove(0);
        due("items()", desk.items(), 0);
        due("superblock, descriptors, maps and inodes are as before", hash(desk, 6), before);
        refused("remove(0)", INDEX, () -> remove(desk, 0));
        due("fault()", desk.fault(), 0);
    }

    private static void removeEntries() {
        promise = 18;
        InodeDesk desk = volume(128, 64, 64);
        for (int i = 0; i < 9; i++) {
            make(desk, "" + (char) ('a' + i) + "-".repeat(247), false);
        }
        int second = 10 * 1024;
        desk.remove(4);
        due("the length comes to the entry before", number(desk, second + 4, 2), 512);
        due("its bytes stay", desk.byteAt(second + 256 + 8), 'e');
        desk.remove(3);
        due("the first one becomes empty", number(desk, second, 4), 0);
        due("with its length", number(desk, second + 4, 2), 512);
        due("and its name's", desk.byteAt(second + 6), 248);
        due("and its kind", desk.byteAt(second + 7), 1);
        desk.remove(3);
        due("an empty one takes what comes behind it", number(desk, second + 4, 2), 768);
        due("letter(3, 0)", desk.letter(3, 0), 'g');
        desk.remove(0);
        due("\"..\" takes the first item's", number(desk, 9 * 1024 + 12 + 4, 2), 12 + 256);
        due("a short name comes behind \"..\"", make(desk, "s", false), 0);
        due("with all that is left", number(desk, 9 * 1024 + 24 + 4, 2), 256);
        due("the old name's bytes behind what it uses stay", desk.byteAt(9 * 1024 + 24 + 12), '-');
        due("what it uses is 0 but for the name", desk.byteAt(9 * 1024 + 24 + 9), 0);
        make(desk, "t", false);
        due("the next one behind it", number(desk, 9 * 1024 + 36 + 4, 2), 244);
        due("an empty one of 768 is replaced whole", make(desk, "u" + "=".repeat(247), false), 4);
        due("its length", number(desk, second + 4, 2), 768);
        due("the root keeps its blocks", number(desk, 5 * 1024 + 128 + 4, 4), 3072);
        directoryWithBlocks();
    }

    private static void directoryWithBlocks() {
        InodeDesk desk = volume(128, 64, 64);
        int free = desk.many(0);
        make(desk, "d", true);
        desk.enter(0);
        for (int i = 0; i < 9; i++) {
            make(desk, "" + i + "-".repeat(247), true);
        }
        for (int i = 0; i < 9; i++) {
            desk.remove(0);
        }
        desk.up();
        due("size of an empty directory of three blocks", desk.about(0, 2), 3072);
        due("links", desk.about(0, 3), 2);
        due("directories of group 0", number(desk, 2048 + 16, 2), 2);
        desk.remove(0);
        due("many(0)", desk.many(0), free);
        due("directories of group 0", number(desk, 2048 + 16, 2), 1);
        due("links of the root", number(desk, 5 * 1024 + 128 + 26, 2), 2);
    }

    private static void stamp() {
        promise = 19;
        InodeDesk desk = volume(128, 64, 32);
        make(desk, "f", false);
        make(desk, "d", true);
        desk.stamp(0, 0, 1);
        desk.stamp(0, 1, -1);
        desk.stamp(0, 2, 0x123456789ABCDEFL);
        desk.stamp(1, 0, 0xFFFFFFFFFL);
        due("about(0, 4)", desk.about(0, 4), 1);
        due("about(0, 5)", desk.about(0, 5), 4294967295L);
        due("about(0, 6)", desk.about(0, 6), 0x89ABCDEFL);
        due("about(1, 4)", desk.about(1, 4), 4294967295L);
        due("about(1, 5)", desk.about(1, 5), 0);
        due("its bytes", number(desk, 5 * 1024 + 128 * 11 + 16, 4), 0x89ABCDEFL);
        desk.stamp(0, 1, 1L << 32);
        due("about(0, 5)", desk.about(0, 5), 0);
        refused("stamp(0, 3, 0)", ARGUMENT, () -> stamp(desk, 0, 3, 0));
        refused("stamp(0, -1, 0)", ARGUMENT, () -> stamp(desk, 0, -1, 0));
        refused("stamp(2, 0, 0)", INDEX, () -> stamp(desk, 2, 0, 0));
        desk.grow(0, 5000, 0);
        desk.cut(0, 10);
        due("about(0, 4), which stays", desk.about(0, 4), 1);
    }

    private static void withoutVolume() {
        InodeDesk desk = new InodeDesk(128);
        promise = 8;
        refused("items()", STATE, () -> desk.items());
        promise = 9;
        refused("letter(0, 0)", STATE, () -> desk.letter(0, 0));
        promise = 10;
        refused("about(0, 9)", STATE, () -> desk.about(0, 9));
        promise = 11;
        refused("content(0, 0)", STATE, () -> desk.content(0, 0));
        promise = 12;
        refused("enter(0)", STATE, () -> desk.enter(0));
        promise = 13;
        refused("up()", STATE, () -> desk.up() ? 1 : 0);
        promise = 14;
        put(desk, "/");
        refused("make(false)", STATE, () -> desk.make(false));
        due("the tape is used up", desk.end(0), 0);
        promise = 15;
        put(desk, "a");
        refused("write(0)", STATE, () -> desk.write(0));
        due("the tape is used up", desk.end(0), 0);
        promise = 16;
        refused("grow(0, -1, 0)", STATE, () -> desk.grow(0, -1, 0));
        promise = 17;
        refused("cut(0, 0)", STATE, () -> desk.cut(0, 0));
        promise = 18;
        refused("remove(0)", STATE, () -> remove(desk, 0));
        promise = 19;
        refused("stamp(0, 9, 0)", STATE, () -> stamp(desk, 0, 9, 0));
    }

    private static void orderOfExceptions() {
        InodeDesk desk = volume(128, 64, 12);
        promise = 10;
        refused("about(0, 9) without items", INDEX, () -> desk.about(0, 9));
        promise = 16;
        refused("grow(0, -1, 0) without items", INDEX, () -> desk.grow(0, -1, 0));
        promise = 17;
        refused("cut(0, -1) without items", INDEX, () -> desk.cut(0, -1));
        promise = 19;
        refused("stamp(0, 9, 0) without items", INDEX, () -> stamp(desk, 0, 9, 0));
        make(desk, "d", true);
        promise = 16;
        refused("grow(0, 400000, 0) of a directory", ARGUMENT, () -> desk.grow(0, 400000, 0));
    }
}
