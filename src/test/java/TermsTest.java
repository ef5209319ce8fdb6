import java.util.Arrays;

/** A test for each sentence of the document's head and of its "Terms" that names an edge. */
public final class TermsTest extends Kit {
    /** On 128 blocks, with groups of 64 and 32 inodes: two blocks of inodes a group, the root's block is 7. */
    private static final int ROOT = 5 * 1024 + 128;
    private static final int INODE_12 = 5 * 1024 + 11 * 128;

    public static void main(String[] args) {
        disk();
        groups();
        heads();
        maps();
        inodes();
        directories();
        blocks();
        newItems();
        itemsThatGo();
        hereAndTape();
        finish("TermsTest");
    }

    private static void disk() {
        sentence("An object is used for at most 512 calls after it has been made", TermsTest::wholeLife);
        sentence("THE DISK has B BLOCKS of 1024 bytes, all 0 at first", TermsTest::allZeroAtFirst);
        sentence("block b's bytes are 1024 * b and on", TermsTest::blocksBegin);
        sentence("Numbers on it stand with their lowest byte first", TermsTest::lowestByteFirst);
    }

    private static void groups() {
        sentence("group g has the blocks from 1 + g * P on", TermsTest::groupsBegin);
        sentence("the last one those that are left", TermsTest::lastGroup);
        sentence("there are Q = (B - 1) / P (up)", TermsTest::howManyGroups);
        sentence("J = G / 8 blocks of inodes a group", TermsTest::blocksOfInodes);
        sentence("INODES 1 .. Q * G", TermsTest::lastInode);
        sentence("inode i is number (i - 1) % G of group (i - 1) / G, 128 bytes", TermsTest::inodesPlaces);
    }

    private static void heads() {
        sentence("SUPERBLOCK, block 1", TermsTest::superblock);
        sentence("12 (4) free blocks; 16 (4) free inodes", TermsTest::noneFree);
        sentence("90 (2) the number of the group in which it stands", TermsTest::groupNumbers);
        sentence("104 (4) its id", TermsTest::ids);
        sentence("DESCRIPTORS, block 2: 32 bytes for each group", TermsTest::descriptors);
        sentence("12 (2) its free blocks, 14 (2) its free inodes, 16 (2) its directories", TermsTest::groupCounts);
        sentence("Each other group begins with copies of both, which are always alike (but for 90 (2))",
            TermsTest::copies);
        sentence("all these are FIXED", TermsTest::fixedBlocks);
    }

    private static void maps() {
        sentence("bit k (byte k / 8, the bit of value 1 << k % 8) for the group's block k, or its inode k",
            TermsTest::mapBits);
        sentence("1 if it is used", TermsTest::fullMaps);
        sentence("bits behind the last one are 1", TermsTest::mapTails);
    }

    private static void inodes() {
        sentence("at 0 (2) 16877 a directory, 33188 a file", TermsTest::modes);
        sentence("4 (4) SIZE; 8 (4), 12 (4), 16 (4) three TIMES", TermsTest::sizeAndTimes);
        sentence("26 (2) links: 1, of a directory 2 and one for each directory in it", TermsTest::links);
        sentence("28 (4) twice its blocks, indirect ones counted", TermsTest::twiceBlocks);
        sentence("15 POINTERS at 40 (4) .. 96 (4): 12 to its first blocks", TermsTest::firstPointers);
        sentence("one to an INDIRECT block (256 pointers)", TermsTest::indirectPointers);
        sentence("one to a DOUBLY indirect one (256 pointers to indirect ones), 0", TermsTest::doublyPointers);
        sentence("pointers behind its last block are 0", TermsTest::pointersBehind);
        sentence("A free inode is 0", TermsTest::freeInode);
        sentence("and so are 1 and 3 .. 11, which are used", TermsTest::reservedInodes);
    }

    private static void directories() {
        sentence("A DIRECTORY's blocks are full of ENTRIES, each in one block, one behind another",
            TermsTest::entriesFillBlocks);
        sentence("at 0 (4) an inode, 4 (2) how long it is, 6 (1) how many bytes its name has, "
            + "7 (1) 1 for a file, 2 for a directory, then the name", TermsTest::entryFields);
        sentence("It USES 8 and its name's bytes, up to a multiple of 4", TermsTest::entryUse);
        sentence("(an empty one nothing)", TermsTest::emptyEntryUse);
        sentence("The first two are \".\" (12 bytes) and \"..\", itself and its parent", TermsTest::dots);
        sentence("(the root's is the root)", TermsTest::rootDots);
        sentence("the others that are not empty are its ITEMS, in their order", TermsTest::itemsInOrder);
    }

    private static void blocks() {
        sentence("One that is wanted is the lowest that is free", TermsTest::lowestBlock);
        sentence("and full of 0 then", TermsTest::zeroBlock);
        sentence("before block 12 (from 0) its indirect one", TermsTest::beforeBlock12);
        sentence("before block 268 its doubly indirect one and then the first of its indirect ones",
            TermsTest::beforeBlock268);
        sentence("before 524, 780, .. the next one of these", TermsTest::largestFile);
        sentence("One that is not wanted any more is free", TermsTest::freeAgain);
        sentence("so are the indirect ones that no block needs", TermsTest::indirectFreeAgain);
    }

    private static void newItems() {
        sentence("A NEW ITEM gets the lowest free inode", TermsTest::lowestInode);
        sentence("(times 0)", TermsTest::newTimes);
        sentence("Its entry comes to the first entry of the directory (by blocks)", TermsTest::firstEntry);
        sentence("that is longer than what it uses by at least what the new one uses", TermsTest::exactRoom);
        sentence("the new one begins behind what that uses, and has all that is left of its length, "
            + "while that one is as long as it uses", TermsTest::splitEntry);
        sentence("(an empty one is replaced whole)", TermsTest::replacedWhole);
        sentence("Without such, the directory gets one more block, with the new entry alone (1024 long)",
            TermsTest::oneMoreBlock);
        sentence("What a new entry uses is 0, but for what is told here", TermsTest::newEntryZero);
        sentence("(First the inode, then the directory's block, then the new directory's own.)",
            TermsTest::orderOfBlocks);
    }

    private static void itemsThatGo() {
        sentence("AN ITEM THAT GOES: its blocks and inode are free", TermsTest::goneIsFree);
        sentence("its entry's length comes to that of the entry before it in the block", TermsTest::goneLength);
        sentence("the first one of a block becomes empty (its inode is 0, all else of it stays)",
            TermsTest::firstGone);
    }

    private static void hereAndTape() {
        sentence("HERE is a directory, the root, inode 2, at first", TermsTest::hereAtFirst);
        sentence("NONE = -1", () -> due("NONE", InodeDesk.NONE, -1));
        sentence("THE TAPE: at most 4096 bytes", TermsTest::fullTape);
        sentence("used up by the call that reads it, whatever comes of it", TermsTest::tapeUsedUp);
    }

    private static void wholeLife() {
        Desk desk = volume(128, 64, 32);
        desk.file("f");
        int calls = LIFE - desk.left();
        for (int i = 1; calls + i < LIFE; i++) {
            due("grow number " + i, desk.grow(0, 3, i), 3 * i);
        }
        due("calls that are left", desk.left(), 1);
        due("content(0, 0), the 512th call", desk.content(0, 0), 1);
    }

    private static void allZeroAtFirst() {
        same("the least disk", disk(128, desk -> { }), new int[128 * 1024]);
        same("the end of the largest disk", disk(512, desk -> { }, 511, 1), new int[1024]);
    }

    private static void blocksBegin() {
        Desk desk = volume(128, 64, 12);
        due("the last byte of block 0", desk.byteAt(1023), 0);
        due("the first byte of block 1", desk.byteAt(1024), 16);
        due("the last byte of block 1", desk.byteAt(2047), 0);
        due("the first byte of block 2", desk.byteAt(2048), 3);
    }

    private static void lowestByteFirst() {
        Desk desk = new Desk(300);
        desk.format(128, 12, 0x04030201);
        for (int i = 0; i < 4; i++) {
            due("the id's byte " + i, desk.byteAt(1024 + 104 + i), i + 1);
        }
        due("a number of two bytes, its lower one", desk.byteAt(1024 + 56), 61267 % 256);
        due("its higher one", desk.byteAt(1024 + 57), 61267 / 256);
        due("B's lowest byte", desk.byteAt(1024 + 4), 300 % 256);
        due("B's next byte", desk.byteAt(1024 + 5), 300 / 256);
    }

    private static void groupsBegin() {
        int[] sizes = {64, 128, 256};
        for (int p : sizes) {
            Desk desk = volume(512, p, 12);
            for (int g = 0; g < desk.many(2); g++) {
                due("the mark of group " + g + " of " + p, desk.number(1024 * (1 + g * p) + 56, 2), 61267);
            }
        }
    }

    /** What a group's descriptor tells to be free, with 8 inodes a group and none of its blocks in use. */
    private static void freeInLast(int blocks, int p, int group, int left) {
        Desk desk = volume(blocks, p, 12);
        due("free blocks of group " + group + " of " + p + " on " + blocks + " blocks",
            desk.number(2048 + 32 * group + 12, 2), left - 5);
    }

    private static void lastGroup() {
        freeInLast(128, 64, 1, 63);
        freeInLast(129, 64, 1, 64);
        freeInLast(142, 64, 2, 13);
        freeInLast(142, 128, 1, 13);
        freeInLast(257, 128, 1, 128);
        freeInLast(512, 64, 7, 63);
        freeInLast(512, 256, 1, 255);
    }

    private static void howManyGroups() {
        int[][] rows = {{128, 64, 2}, {129, 64, 2}, {142, 64, 3}, {128, 128, 1}, {129, 128, 1}, {142, 128, 2},
            {128, 256, 1}, {257, 256, 1}, {270, 256, 2}, {257, 64, 4}, {257, 128, 2}, {512, 64, 8},
            {512, 128, 4}, {512, 256, 2}};
        for (int[] row : rows) {
            due("groups of " + row[1] + " on " + row[0] + " blocks", volume(row[0], row[1], 12).many(2), row[2]);
        }
    }

    /** The root's block is the first that is not fixed. */
    private static void blocksOfInodes() {
        due("the root's block with G = 8", volume(128, 64, 16).number(5 * 1024 + 128 + 40, 4), 6);
        due("the root's block with G = 16", volume(128, 64, 17).number(5 * 1024 + 128 + 40, 4), 7);
        due("the root's block with G = 256", volume(512, 64, 2000).number(5 * 1024 + 128 + 40, 4), 5 + 32);
        due("free blocks with G = 256", volume(512, 64, 2000).many(0), 511 - 8 * 36 - 1);
    }

    /** Inodes 12 to 24, in three groups of eight, whose sizes are their numbers. */
    private static void thirteenFiles(Desk desk) {
        desk.format(64, 24, 0);
        for (int i = 12; i <= 24; i++) {
            int k = desk.file("n" + i);
            desk.grow(k, i, 0);
        }
    }

    private static void lastInode() {
        Desk desk = after(193, TermsTest::thirteenFiles);
        due("the last item's inode", desk.about(12, 0), 24);
        due("free inodes", desk.many(1), 0);
        desk.put("more");
        refused("make with all inodes used", UNSUPPORTED, () -> desk.make(false));
        desk.remove(12);
        due("free inodes", desk.many(1), 1);
        due("the last one again", desk.about(desk.file("more"), 0), 24);
        Desk most = volume(512, 64, 2000);
        due("many(1) of 8 groups of 256 inodes", most.many(1), 2048 - 11);
        due("Q * G in the superblock", most.number(1024, 4), 2048);
    }

    private static void inodesPlaces() {
        Desk desk = after(193, TermsTest::thirteenFiles);
        for (int i = 12; i <= 24; i++) {
            int at = 1024 * (1 + 64 * ((i - 1) / 8) + 4) + 128 * ((i - 1) % 8);
            due("the size in inode " + i, desk.number(at + 4, 4), i);
        }
    }

    /** Three groups, the second one in use too, and no field of the heads left as it was made. */
    private static void usedHeads(Desk desk) {
        desk.format(128, 100, 0x89ABCDEF);
        desk.directory("d");
        desk.file("f");
        desk.grow(1, 140 * 1024, 0);
    }

    private static void superblock() {
        int[] fields = {0, 4, 120, 4, 4, 300, 12, 4, 299 - 27 - 2 - 141, 16, 4, 120 - 13, 20, 4, 1, 32, 4, 128,
            36, 4, 128, 40, 4, 40, 54, 2, 65535, 56, 2, 61267, 58, 2, 1, 60, 2, 1, 76, 4, 1, 84, 4, 11,
            88, 2, 128, 96, 4, 2, 104, 4, 0x89ABCDEF};
        for (int group = 0; group < 3; group++) {
            int[] want = new int[1024];
            for (int i = 0; i < fields.length; i += 3) {
                for (int j = 0; j < fields[i + 1]; j++) {
                    want[fields[i] + j] = fields[i + 2] >> 8 * j & 255;
                }
            }
            want[90] = group;
            same("superblock " + group, disk(300, TermsTest::usedHeads, 1 + 128 * group, 1), want);
        }
    }

    private static void noneFree() {
        Desk desk = volume(128, 64, 12);
        due("free blocks at first", desk.number(1024 + 12, 4), 116);
        due("free inodes at first", desk.number(1024 + 16, 4), 5);
        for (int i = 0; i < 5; i++) {
            desk.file("n" + i);
        }
        leave(desk, 0, 0);
        due("free blocks on a full disk", desk.number(1024 + 12, 4), 0);
        due("free inodes on a full disk", desk.number(1024 + 16, 4), 0);
        due("free blocks in the copy", desk.number(65 * 1024 + 12, 4), 0);
        due("free inodes in the copy", desk.number(65 * 1024 + 16, 4), 0);
        desk.cut(0, 0);
        desk.remove(4);
        due("free blocks after a cut", desk.number(1024 + 12, 4), 116);
        due("free inodes when an item has gone", desk.number(1024 + 16, 4), 1);
    }

    private static void groupNumbers() {
        Desk desk = volume(512, 64, 12);
        for (int g = 0; g < 8; g++) {
            due("at 90 of group " + g, desk.number(1024 * (1 + 64 * g) + 90, 2), g);
        }
    }

    private static void ids() {
        int[] ids = {0, 1, -1, MIN, MAX};
        for (int id : ids) {
            Desk desk = new Desk(128);
            desk.format(64, 12, id);
            due("the id " + id, desk.number(1024 + 104, 4), id & 0xFFFFFFFFL);
            due("the id " + id + " in the copy", desk.number(65 * 1024 + 104, 4), id & 0xFFFFFFFFL);
        }
    }

    private static void put(int[] bytes, int at, int count, int value) {
        for (int i = 0; i < count; i++) {
            bytes[at + i] = value >> 8 * i & 255;
        }
    }

    private static void descriptors() {
        for (int copy = 0; copy < 8; copy += 7) {
            int[] want = new int[1024];
            for (int g = 0; g < 8; g++) {
                put(want, 32 * g, 4, 3 + 64 * g);
                put(want, 32 * g + 4, 4, 4 + 64 * g);
                put(want, 32 * g + 8, 4, 5 + 64 * g);
                put(want, 32 * g + 12, 2, g == 0 ? 64 - 5 - 1 : g == 7 ? 63 - 5 : 64 - 5);
                put(want, 32 * g + 14, 2, g == 0 ? 0 : g == 1 ? 5 : 8);
                put(want, 32 * g + 16, 2, g == 0 ? 1 : 0);
            }
            same("the descriptors in group " + copy, disk(512, desk -> desk.format(64, 12, 0), 2 + 64 * copy, 1), want);
        }
    }

    private static void counts(Desk desk, String when, int group, int freeBlocks, int freeInodes, int directories) {
        int at = 2048 + 32 * group;
        due("free blocks of group " + group + " " + when, desk.number(at + 12, 2), freeBlocks);
        due("free inodes of group " + group + " " + when, desk.number(at + 14, 2), freeInodes);
        due("directories of group " + group + " " + when, desk.number(at + 16, 2), directories);
    }

    private static void groupCounts() {
        Desk desk = volume(128, 64, 12);
        desk.file("f");
        desk.grow(0, 57 * 1024, 0);
        counts(desk, "with one free block", 0, 0, 0, 1);
        counts(desk, "with one free block", 1, 58, 4, 0);
        desk.directory("d");
        counts(desk, "with a directory in the other", 0, 0, 0, 1);
        counts(desk, "with a directory in the other", 1, 57, 3, 1);
        for (int i = 0; i < 3; i++) {
            desk.file("n" + i);
        }
        counts(desk, "without a free inode", 1, 57, 0, 1);
        desk.remove(1);
        counts(desk, "when it has gone", 1, 58, 1, 0);
        desk.remove(0);
        counts(desk, "when the file has gone", 0, 58, 0, 1);
        counts(desk, "when the file has gone", 1, 58, 2, 0);
    }

    private static final Story[] STEPS = {
        desk -> desk.format(64, 24, 77),
        desk -> desk.directory("d"),
        desk -> desk.file("f"),
        desk -> desk.grow(1, 70 * 1024, 1),
        desk -> desk.cut(1, 60 * 1024),
        desk -> desk.put("words"),
        desk -> desk.write(1),
        desk -> desk.stamp(1, 0, 5),
        desk -> desk.enter(0),
        desk -> desk.directory("e"),
        desk -> desk.remove(0),
        desk -> desk.up(),
        desk -> desk.remove(0),
        desk -> desk.remove(0),
    };

    /** The two blocks in each of four groups, behind each step. */
    private static void copies() {
        for (int steps = 1; steps <= STEPS.length; steps++) {
            int told = steps;
            Story story = desk -> {
                for (int i = 0; i < told; i++) {
                    STEPS[i].tell(desk);
                }
            };
            int[] first = disk(213, story, 1, 2);
            for (int g = 1; g < 4; g++) {
                int[] copy = disk(213, story, 1 + 64 * g, 2);
                due("at 90 of group " + g, number(copy, 90, 2), g);
                copy[90] = 0;
                same("the copies in group " + g + " behind step " + steps, copy, first);
            }
        }
    }

    /** A file that takes all that is free takes none of the fixed blocks of both groups. */
    private static void fixedBlocks() {
        Desk desk = volume(128, 64, 12);
        due("used at first: blocks 1 to 6", desk.byteAt(3 * 1024), 0x3F);
        due("used at first: blocks 65 to 69", desk.byteAt(67 * 1024), 0x1F);
        for (int i = 7; i <= 64; i++) {
            due("block " + i + " is free", desk.byteAt(1024 * i), -1);
        }
        due("block 69 is not", desk.byteAt(1024 * 69), 0);
        due("block 70 is free", desk.byteAt(1024 * 70), -1);
        desk.file("f");
        leave(desk, 0, 0);
        due("its last block in group 0", desk.number(19 * 1024 + 4 * 44, 4), 64);
        due("its first block in group 1, behind the fixed ones", desk.number(19 * 1024 + 4 * 45, 4), 70);
        due("its last block", desk.number(19 * 1024 + 4 * 102, 4), 127);
        due("the mark of the superblock's copy", desk.number(65 * 1024 + 56, 2), 61267);
        due("fault()", desk.fault(), 0);
    }

    private static void mapBits() {
        Desk desk = volume(128, 64, 32);
        due("blocks 1 to 7 are used: seven bits", desk.byteAt(3 * 1024), 0x7F);
        desk.file("f");
        desk.grow(0, 1024, 0);
        due("and block 8, the eighth bit", desk.byteAt(3 * 1024), 0xFF);
        due("block 9, the next byte", desk.byteAt(3 * 1024 + 1), 0);
        desk.grow(0, 1, 0);
        due("and block 9, its lowest bit", desk.byteAt(3 * 1024 + 1), 1);
        due("inodes 1 to 8", desk.byteAt(4 * 1024), 0xFF);
        due("inodes 9 to 12", desk.byteAt(4 * 1024 + 1), 0x0F);
        desk.cut(0, 0);
        desk.remove(0);
        due("block 8 is free again", desk.byteAt(3 * 1024), 0x7F);
        due("block 9 is free again", desk.byteAt(3 * 1024 + 1), 0);
        due("inode 12 is free again", desk.byteAt(4 * 1024 + 1), 0x07);
    }

    private static void full(Desk desk) {
        desk.format(64, 12, 0);
        for (int i = 0; i < 5; i++) {
            desk.file("n" + i);
        }
        leave(desk, 0, 0);
    }

    private static void fullMaps() {
        int[] ones = new int[2048];
        Arrays.fill(ones, 255);
        same("both maps of group 0", disk(128, TermsTest::full, 3, 2), ones);
        same("both maps of group 1", disk(128, TermsTest::full, 67, 2), ones);
    }

    /** So many bits are 0 from that one on in a map, all others 1. */
    private static int[] map(int from, int zeros) {
        int[] bytes = new int[1024];
        Arrays.fill(bytes, 255);
        for (int k = from; k < from + zeros; k++) {
            bytes[k / 8] -= 1 << k % 8;
        }
        return bytes;
    }

    private static void mapTails() {
        Story small = desk -> desk.format(64, 12, 0);
        same("blocks of group 0: 64", disk(128, small, 3, 1), map(6, 58));
        same("inodes of group 0: 8", disk(128, small, 4, 1), map(0, 0));
        same("blocks of group 1: 63", disk(128, small, 67, 1), map(5, 58));
        same("inodes of group 1: 8", disk(128, small, 68, 1), map(3, 5));
        Story large = desk -> desk.format(256, 300, 0);
        same("blocks of group 0: 256", disk(270 + 19, large, 3, 1), map(24, 232));
        same("inodes of group 0: 152", disk(270 + 19, large, 4, 1), map(11, 141));
        same("blocks of group 1: 32", disk(270 + 19, large, 259, 1), map(23, 9));
        same("inodes of group 1: 152", disk(270 + 19, large, 260, 1), map(0, 152));
    }

    private static void modes() {
        Desk desk = volume(128, 64, 32);
        due("the root", desk.number(ROOT, 2), 16877);
        desk.file("f");
        desk.directory("d");
        due("a file", desk.number(INODE_12, 2), 33188);
        due("a directory", desk.number(INODE_12 + 128, 2), 16877);
    }

    private static void sizeAndTimes() {
        Desk desk = volume(128, 64, 32);
        desk.file("f");
        due("a new file's size", desk.number(INODE_12 + 4, 4), 0);
        desk.grow(0, 70000, 0);
        due("its size", desk.number(INODE_12 + 4, 4), 70000);
        desk.stamp(0, 0, 0x01020304);
        desk.stamp(0, 1, -1);
        desk.stamp(0, 2, 1L << 31);
        due("its first time", desk.number(INODE_12 + 8, 4), 0x01020304);
        due("its second time", desk.number(INODE_12 + 12, 4), 0xFFFFFFFFL);
        due("its third time", desk.number(INODE_12 + 16, 4), 0x80000000L);
        due("before its links", desk.number(INODE_12 + 20, 4), 0);
        due("a directory's size", desk.number(ROOT + 4, 4), 1024);
    }

    private static void links() {
        Desk desk = volume(128, 64, 32);
        due("the empty root's", desk.number(ROOT + 26, 2), 2);
        desk.file("f");
        due("with a file", desk.number(ROOT + 26, 2), 2);
        due("the file's", desk.number(INODE_12 + 26, 2), 1);
        desk.directory("d");
        due("with a directory", desk.number(ROOT + 26, 2), 3);
        due("the directory's", desk.number(INODE_12 + 128 + 26, 2), 2);
        desk.directory("e");
        due("with two directories", desk.number(ROOT + 26, 2), 4);
        desk.enter(1);
        desk.directory("deep");
        due("one deeper does not count", desk.number(ROOT + 26, 2), 4);
        due("but in the one that has it", desk.number(INODE_12 + 128 + 26, 2), 3);
        desk.remove(0);
        due("until it goes", desk.number(INODE_12 + 128 + 26, 2), 2);
        desk.up();
        desk.remove(2);
        desk.remove(1);
        due("without directories again", desk.number(ROOT + 26, 2), 2);
    }

    private static void twiceBlocks() {
        int[] sizes = {0, 1, 1023, 1024, 1025, 12287, 12288, 12289, 13313, 274431, 274432, 274433, 275457};
        int[] blocks = {0, 1, 1, 1, 2, 12, 12, 14, 15, 269, 269, 272, 273};
        for (int i = 0; i < sizes.length; i++) {
            Desk desk = volume(512, 256, 32);
            desk.file("f");
            desk.grow(0, sizes[i], 0);
            due("with " + sizes[i] + " bytes", desk.number(INODE_12 + 28, 4), 2 * blocks[i]);
            due("free blocks", desk.many(0), 511 - 12 - 1 - blocks[i]);
            desk.grow(0, 275457 - sizes[i], 0);
            due("cut to " + sizes[i] + " bytes", desk.cut(0, sizes[i]), 273 - blocks[i]);
            due("with " + sizes[i] + " bytes again", desk.number(INODE_12 + 28, 4), 2 * blocks[i]);
        }
        due("a directory's", volume(128, 64, 32).number(ROOT + 28, 4), 2);
    }

    /** The pointers in inode 12, whose file has so many blocks from 8 on. */
    private static int[] pointers(int blocks, int indirect, int doubly) {
        int[] bytes = new int[60];
        for (int i = 0; i < blocks; i++) {
            put(bytes, 4 * i, 4, 8 + i);
        }
        put(bytes, 48, 4, indirect);
        put(bytes, 52, 4, doubly);
        return bytes;
    }

    private static Story sized(int... sizes) {
        return desk -> {
            desk.format(256, 32, 0);
            desk.file("f");
            for (int size : sizes) {
                int now = (int) desk.about(0, 2);
                if (size < now) {
                    desk.cut(0, size);
                } else {
                    desk.grow(0, size - now, 3);
                }
            }
        };
    }

    private static int[] pointersOf(Story story) {
        Desk desk = after(512, story);
        int[] bytes = new int[60];
        for (int i = 0; i < 60; i++) {
            bytes[i] = desk.byteAt(INODE_12 + 40 + i);
        }
        return bytes;
    }

    private static void firstPointers() {
        same("with no byte", pointersOf(sized(0)), pointers(0, 0, 0));
        same("with one byte", pointersOf(sized(1)), pointers(1, 0, 0));
        same("with one block", pointersOf(sized(1024)), pointers(1, 0, 0));
        same("with a byte more", pointersOf(sized(1025)), pointers(2, 0, 0));
        same("with 11 blocks", pointersOf(sized(11 * 1024)), pointers(11, 0, 0));
        same("with 12 blocks", pointersOf(sized(12 * 1024)), pointers(12, 0, 0));
    }

    private static void indirectPointers() {
        same("with a 13th block", pointersOf(sized(12 * 1024 + 1)), pointers(12, 20, 0));
        same("with 268 blocks", pointersOf(sized(268 * 1024)), pointers(12, 20, 0));
        int[] row = new int[1024];
        for (int i = 0; i < 256; i++) {
            // Group 1's six fixed blocks, from 257 on, stand between.
            int block = 21 + i;
            put(row, 4 * i, 4, block < 257 ? block : block + 6);
        }
        same("all 256 of them", disk(512, sized(268 * 1024), 20, 1), row);
    }

    private static void doublyPointers() {
        same("with a 269th block", pointersOf(sized(268 * 1024 + 1)), pointers(12, 20, 283));
        int[] top = new int[1024];
        put(top, 0, 4, 284);
        same("the doubly indirect one", disk(512, sized(268 * 1024 + 1), 283, 1), top);
        int[] row = new int[1024];
        put(row, 0, 4, 285);
        put(row, 4, 4, 286);
        same("its indirect one, with two blocks", disk(512, sized(269 * 1024 + 1), 284, 1), row);
    }

    private static void pointersBehind() {
        same("cut to nothing", pointersOf(sized(13 * 1024, 0)), pointers(0, 0, 0));
        same("cut to one byte", pointersOf(sized(280000, 1)), pointers(1, 0, 0));
        same("cut to 12 blocks", pointersOf(sized(280000, 12 * 1024)), pointers(12, 0, 0));
        same("cut to a byte more", pointersOf(sized(280000, 12 * 1024 + 1)), pointers(12, 20, 0));
        int[] row = new int[1024];
        put(row, 0, 4, 21);
        same("the indirect one then", disk(512, sized(280000, 12 * 1024 + 1), 20, 1), row);
        same("cut to 268 blocks", pointersOf(sized(280000, 268 * 1024)), pointers(12, 20, 0));
        same("cut to a byte more", pointersOf(sized(280000, 268 * 1024 + 1)), pointers(12, 20, 283));
        int[] last = new int[1024];
        put(last, 0, 4, 285);
        same("the doubly indirect one's then", disk(512, sized(280000, 268 * 1024 + 1), 284, 1), last);
    }

    private static void freeInode() {
        same("inodes 12 to 16 at first", disk(128, desk -> desk.format(64, 32, 0), 6, 1), new int[1024]);
        Story gone = desk -> {
            desk.format(64, 32, 0);
            desk.file("f");
            desk.grow(0, 20000, 1);
            desk.stamp(0, 0, -1);
            desk.stamp(0, 1, -1);
            desk.stamp(0, 2, -1);
            desk.directory("d");
            desk.stamp(1, 2, -1);
            desk.remove(0);
            desk.remove(0);
        };
        same("inodes 12 and 13 when they are free again", disk(128, gone, 6, 1), new int[1024]);
    }

    private static void reservedInodes() {
        int[] first = disk(128, desk -> desk.format(64, 32, 0), 5, 2);
        for (int inode = 1; inode <= 11; inode++) {
            if (inode != 2) {
                int at = 128 * (inode - 1);
                same("inode " + inode, Arrays.copyOfRange(first, at, at + 128), new int[128]);
            }
        }
        Desk desk = volume(128, 64, 32);
        due("inodes 1 to 8 are used", desk.byteAt(4 * 1024), 0xFF);
        due("inodes 9 to 11 are used", desk.byteAt(4 * 1024 + 1), 0x07);
        due("free inodes", desk.many(1), 32 - 11);
        due("the first item's inode", desk.about(desk.file("f"), 0), 12);
    }

    /** Names of 255 letters use 264 bytes: three beside the dots, then three a block. */
    private static void entriesFillBlocks() {
        Story story = desk -> {
            desk.format(64, 32, 0);
            for (int i = 0; i < 7; i++) {
                desk.file(name((char) ('a' + i), 255));
            }
        };
        int[] blocks = disk(128, story, 7, 3);
        int[] starts = {0, 12, 24, 288, 552, 1024, 1288, 1552, 2048};
        for (int i = 0; i < starts.length; i++) {
            int behind = i + 1 < starts.length ? starts[i + 1] : 3072;
            due("the length of entry " + i, number(blocks, starts[i] + 4, 2), behind - starts[i]);
        }
        for (int i = 2; i < starts.length; i++) {
            due("the name in entry " + i, blocks[starts[i] + 8], 'a' + i - 2);
        }
        due("the last entry's inode", number(blocks, 2048, 4), 18);
    }

    private static void entryFields() {
        Story story = desk -> {
            desk.format(64, 300, 0);
            for (int i = 12; i <= 20; i++) {
                desk.file("" + (char) i);
            }
            desk.file(name((char) 255, 255));
            desk.directory("d");
        };
        // 152 inodes a group in 19 blocks, so the root's block is 24; nine entries of 12 bytes behind the dots.
        int[] root = disk(128, story, 24, 1);
        int at = 24 + 9 * 12;
        due("the inode", number(root, at, 4), 21);
        due("how long it is", number(root, at + 4, 2), 264);
        due("how many bytes its name has", root[at + 6], 255);
        due("a file", root[at + 7], 1);
        due("its name's first byte", root[at + 8], 255);
        due("its name's last byte", root[at + 8 + 254], '-');
        due("behind its name", root[at + 8 + 255], 0);
        due("the next inode", number(root, at + 264, 4), 22);
        due("how long that is, in two bytes", number(root, at + 264 + 4, 2), 1024 - at - 264);
        due("a directory", root[at + 264 + 7], 2);
    }

    private static void entryUse() {
        int[] letters = {1, 2, 3, 4, 5, 8, 9, 252, 253, 254, 255};
        int[] uses = {12, 12, 12, 12, 16, 16, 20, 260, 264, 264, 264};
        for (int i = 0; i < letters.length; i++) {
            Desk desk = volume(128, 64, 32);
            desk.file(name('a', letters[i]));
            due("alone, it has all that is left", desk.number(7 * 1024 + 24 + 4, 2), 1000);
            desk.file("b");
            due("a name of " + letters[i], desk.number(7 * 1024 + 24 + 4, 2), uses[i]);
            due("the next one stands behind it", desk.byteAt(7 * 1024 + 24 + uses[i] + 8), 'b');
        }
    }

    /** Three names that use 256 fill the root's block but for 232; the others stand in its second one. */
    private static void twoBlocks(Desk desk) {
        desk.format(64, 32, 0);
        for (int i = 0; i < 3; i++) {
            desk.file(name((char) ('a' + i), 248));
        }
        desk.file(name('d', 240));
        desk.file(name('e', 248));
    }

    private static void emptyEntryUse() {
        Desk exact = after(128, TermsTest::twoBlocks);
        exact.remove(3);
        due("a name that uses all of the empty one", exact.file(name('x', 240)), 3);
        due("its inode there", exact.number(8 * 1024, 4), 15);
        Desk longer = after(128, TermsTest::twoBlocks);
        longer.remove(3);
        due("a name that uses four bytes more", longer.file(name('x', 241)), 4);
        due("the empty one stays", longer.number(8 * 1024, 4), 0);
    }

    private static void dots() {
        Story story = desk -> {
            desk.format(64, 32, 0);
            desk.directory("d");
            desk.enter(0);
            desk.directory("e");
        };
        int[] want = {13, 0, 0, 0, 12, 0, 1, 2, '.', 0, 0, 0, 12, 0, 0, 0, 0xF4, 3, 2, 2, '.', '.', 0, 0};
        int[] block = disk(128, story, 9, 1);
        same("an empty directory's block", block, Arrays.copyOf(want, 1024));
        due("\".\" of the one above", disk(128, story, 8, 1)[0], 12);
        due("\"..\" of the one above", disk(128, story, 8, 1)[12], 2);
    }

    private static void rootDots() {
        int[] want = {2, 0, 0, 0, 12, 0, 1, 2, '.', 0, 0, 0, 2, 0, 0, 0, 0xF4, 3, 2, 2, '.', '.', 0, 0};
        same("the root's block", disk(128, desk -> desk.format(64, 32, 0), 7, 1), Arrays.copyOf(want, 1024));
    }

    private static void itemsInOrder() {
        Desk desk = volume(128, 64, 32);
        due("items of a new directory", desk.items(), 0);
        desk.file("first");
        desk.file("second");
        desk.file("third");
        desk.remove(0);
        due("a new one where the first has gone", desk.file("new"), 0);
        String letters = "nst";
        for (int k = 0; k < 3; k++) {
            due("letter(" + k + ", 0)", desk.letter(k, 0), letters.charAt(k));
        }
        Desk two = after(128, TermsTest::twoBlocks);
        two.remove(3);
        due("items without the empty one", two.items(), 4);
        due("the one behind it is item 3", two.letter(3, 0), 'e');
        refused("no item is behind that", INDEX, () -> two.letter(4, 0));
    }

    private static void lowestBlock() {
        Desk desk = volume(128, 64, 32);
        desk.file("a");
        desk.grow(0, 2048, 0);
        desk.file("b");
        desk.grow(1, 60 * 1024, 0);
        due("b's first block", desk.number(INODE_12 + 128 + 40, 4), 10);
        desk.cut(0, 1024);
        desk.grow(1, 1024, 0);
        due("the next one of b, block 60, is the one that is free again", desk.number(22 * 1024 + 4 * 48, 4), 9);
        desk.remove(0);
        desk.grow(0, 2048, 0);
        due("then that before it", desk.number(22 * 1024 + 4 * 49, 4), 8);
        due("then the lowest in group 1", desk.number(22 * 1024 + 4 * 50, 4), 77);
        due("free blocks", desk.many(0), 127 - 12 - 1 - 64);
    }

    private static void zeroBlock() {
        same("a file's block with one byte", disk(128, desk -> {
            sizedSmall(desk, 5 * 1024);
            desk.grow(0, 1, 9);
        }, 8, 1), block(9));
        int[] row = new int[1024];
        put(row, 0, 4, 22);
        same("an indirect one where bytes stood", disk(128, desk -> {
            sizedSmall(desk, 16 * 1024);
            desk.file("g");
            desk.grow(1, 1, 0);
            desk.grow(0, 13 * 1024, 7);
        }, 21, 1), row);
        int[] dots = {13, 0, 0, 0, 12, 0, 1, 2, '.', 0, 0, 0, 2, 0, 0, 0, 0xF4, 3, 2, 2, '.', '.'};
        same("a directory's where bytes stood", disk(128, desk -> {
            sizedSmall(desk, 5 * 1024);
            desk.directory("d");
        }, 8, 1), Arrays.copyOf(dots, 1024));
        int[] second = Arrays.copyOf(new int[] {16, 0, 0, 0, 0, 4, 225, 1, 'x'}, 1024);
        Arrays.fill(second, 9, 8 + 225, '-');
        same("a directory's second one where bytes stood", disk(128, desk -> {
            sizedSmall(desk, 5 * 1024);
            for (int i = 0; i < 3; i++) {
                desk.file(name((char) ('a' + i), 248));
            }
            desk.file(name('x', 225));
        }, 8, 1), second);
    }

    /** A file that has had so many bytes, and has none now. */
    private static void sizedSmall(Desk desk, int size) {
        desk.format(64, 32, 0);
        desk.file("f");
        desk.grow(0, size, 3);
        desk.cut(0, 0);
    }

    private static int[] block(int first) {
        int[] bytes = new int[1024];
        bytes[0] = first;
        return bytes;
    }

    private static void beforeBlock12() {
        Desk desk = after(512, sized(12 * 1024));
        int free = desk.many(0);
        desk.grow(0, 1, 0);
        due("two blocks", free - desk.many(0), 2);
        due("the indirect one is the lower one", desk.number(INODE_12 + 88, 4), 20);
        due("block 12", desk.number(20 * 1024, 4), 21);
        desk.grow(0, 1024, 0);
        due("one more for block 13", free - desk.many(0), 3);
        due("block 13", desk.number(20 * 1024 + 4, 4), 22);
    }

    private static void beforeBlock268() {
        Desk desk = after(512, sized(268 * 1024));
        int free = desk.many(0);
        desk.grow(0, 1, 0);
        due("three blocks", free - desk.many(0), 3);
        due("the doubly indirect one is the lowest", desk.number(INODE_12 + 92, 4), 283);
        due("then its indirect one", desk.number(283 * 1024, 4), 284);
        due("then block 268", desk.number(284 * 1024, 4), 285);
        desk.grow(0, 1024, 0);
        due("one more for block 269", free - desk.many(0), 4);
        due("block 269", desk.number(284 * 1024 + 4, 4), 286);
    }

    /** No disk has 524 blocks: the largest file there can be has one indirect block in its doubly indirect one. */
    private static void largestFile() {
        Desk desk = volume(512, 256, 12);
        desk.file("f");
        due("free blocks", desk.many(0), 500);
        desk.grow(0, 400000, 0);
        due("with all free blocks but the indirect ones", desk.grow(0, 497 * 1024 - 400000, 5), 497 * 1024);
        due("free blocks", desk.many(0), 0);
        refused("a byte more", UNSUPPORTED, () -> desk.grow(0, 1, 0));
        due("its last byte", desk.content(0, 497 * 1024 - 1), grown(5, 497 * 1024 - 400001));
        int inode = 1024 * 261 + 3 * 128;
        int doubly = (int) desk.number(inode + 92, 4);
        due("a second indirect one", desk.number(1024 * doubly + 4, 4), 0);
        due("fault()", desk.fault(), 0);
        due("all come back", desk.cut(0, 0), 500);
    }

    private static void freeAgain() {
        Desk desk = volume(128, 64, 32);
        desk.file("f");
        desk.grow(0, 3 * 1024, 3);
        due("cut within the last block", desk.cut(0, 2049), 0);
        due("the last block is used", desk.byteAt(10 * 1024), grown(3, 2048));
        due("cut to two blocks", desk.cut(0, 2048), 1);
        due("the last block is not used any more", desk.byteAt(10 * 1024), -1);
        due("the one before is", desk.byteAt(10 * 1024 - 1), grown(3, 2047));
        due("cut to nothing", desk.cut(0, 0), 2);
        due("its first block is not used any more", desk.byteAt(8 * 1024), -1);
    }

    private static void indirectFreeAgain() {
        Desk desk = after(512, sized(270 * 1024));
        due("cut to 269 blocks", desk.cut(0, 269 * 1024), 1);
        due("both indirect ones are used", desk.byteAt(284 * 1024), 285 % 256);
        due("cut to 268 blocks", desk.cut(0, 268 * 1024), 3);
        due("the doubly indirect one is free", desk.byteAt(283 * 1024), -1);
        due("its indirect one is free", desk.byteAt(284 * 1024), -1);
        due("cut to 13 blocks", desk.cut(0, 13 * 1024), 255);
        due("the indirect one is used", desk.byteAt(20 * 1024), 21);
        due("cut to 12 blocks", desk.cut(0, 12 * 1024), 2);
        due("the indirect one is free", desk.byteAt(20 * 1024), -1);
    }

    private static void lowestInode() {
        Desk desk = volume(128, 64, 32);
        for (int i = 0; i < 7; i++) {
            due("inode of item " + i, desk.about(desk.file("n" + i), 0), 12 + i);
        }
        desk.remove(5);
        desk.remove(1);
        due("the lower one of two", desk.about(desk.directory("d"), 0), 13);
        due("then the other, in group 1", desk.about(desk.directory("e"), 0), 17);
        due("then the next", desk.about(desk.file("f"), 0), 19);
    }

    private static void newTimes() {
        Desk desk = volume(128, 64, 32);
        for (int round = 0; round < 2; round++) {
            int k = round == 0 ? desk.file("f") : desk.directory("d");
            for (int which = 0; which < 3; which++) {
                due("time " + which + " of a new item", desk.about(k, 4 + which), 0);
                desk.stamp(k, which, -1);
            }
            desk.remove(k);
        }
        int k = desk.file("g");
        due("the same inode once more", desk.about(k, 0), 12);
        due("its last time", desk.about(k, 6), 0);
    }

    private static void firstEntry() {
        Desk desk = volume(128, 64, 32);
        desk.file("a");
        desk.file("b");
        desk.file("ccccc");
        desk.file("d");
        desk.remove(0);
        desk.remove(1);
        due("five letters: the room behind b, not the smaller one before", desk.file("eeeee"), 1);
        due("one letter: the first room", desk.file("f"), 0);
        due("one letter more: behind all", desk.file("g"), 4);
        Desk two = after(128, TermsTest::twoBlocks);
        due("room in both blocks: the first block's", two.file("s"), 3);
        two.remove(4);
        two.remove(0);
        due("room in both blocks again", two.file(name('t', 248)), 0);
    }

    private static void exactRoom() {
        Desk exact = after(128, TermsTest::twoBlocks);
        due("224 letters use all 232 bytes that are left", exact.file(name('x', 224)), 3);
        due("the entry before is as long as it uses", exact.number(7 * 1024 + 24 + 512 + 4, 2), 256);
        due("the new one fills the block", exact.number(7 * 1024 + 792 + 4, 2), 232);
        Desk longer = after(128, TermsTest::twoBlocks);
        due("225 letters use four more", longer.file(name('x', 225)), 5);
        due("the entry stays as long", longer.number(7 * 1024 + 24 + 512 + 4, 2), 488);
        Desk none = after(128, TermsTest::twoBlocks);
        none.file(name('x', 224));
        due("no entry of the first block has any left", none.file("s"), 6);
    }

    private static void splitEntry() {
        Desk desk = volume(128, 64, 32);
        desk.file("abcde");
        due("\"..\" is as long as it uses", desk.number(7 * 1024 + 12 + 4, 2), 12);
        due("the new one has all that is left", desk.number(7 * 1024 + 24 + 4, 2), 1000);
        desk.file("fg");
        due("the first is as long as it uses", desk.number(7 * 1024 + 24 + 4, 2), 16);
        due("the second begins behind it", desk.number(7 * 1024 + 40, 4), 13);
        due("and has all that is left", desk.number(7 * 1024 + 40 + 4, 2), 984);
        desk.file("h");
        desk.remove(1);
        due("the first has the second's", desk.number(7 * 1024 + 24 + 4, 2), 28);
        desk.file("i");
        due("a new one begins behind what the first uses", desk.byteAt(7 * 1024 + 40 + 8), 'i');
        due("and has what is left", desk.number(7 * 1024 + 40 + 4, 2), 12);
        due("the first is as long as it uses again", desk.number(7 * 1024 + 24 + 4, 2), 16);
    }

    private static void replacedWhole() {
        Desk desk = after(128, TermsTest::twoBlocks);
        desk.remove(4);
        desk.remove(3);
        due("the empty one has the whole block", desk.number(8 * 1024 + 4, 2), 1024);
        due("a name of 225", desk.file(name('x', 225)), 3);
        due("it begins where the empty one did", desk.number(8 * 1024, 4), 15);
        due("with all of its length", desk.number(8 * 1024 + 4, 2), 1024);
        due("and its own name's", desk.byteAt(8 * 1024 + 6), 225);
        due("what it does not use stays", desk.byteAt(8 * 1024 + 8 + 230), '-');
        due("the size of the directory stays", desk.number(ROOT + 4, 4), 2048);
    }

    private static void oneMoreBlock() {
        Desk desk = volume(128, 64, 32);
        for (int i = 0; i < 3; i++) {
            desk.file(name((char) ('a' + i), 248));
        }
        int free = desk.many(0);
        due("with no room", desk.directory(name('d', 225)), 3);
        due("the new entry's inode", desk.number(8 * 1024, 4), 15);
        due("its length", desk.number(8 * 1024 + 4, 2), 1024);
        due("the directory's size", desk.number(ROOT + 4, 4), 2048);
        due("twice its blocks", desk.number(ROOT + 28, 4), 4);
        due("its second pointer", desk.number(ROOT + 44, 4), 8);
        due("its third pointer", desk.number(ROOT + 48, 4), 0);
        due("two blocks, one of them the new directory's", free - desk.many(0), 2);
        due("the entry before it keeps its length", desk.number(7 * 1024 + 24 + 512 + 4, 2), 488);
        desk.enter(3);
        due("the new directory's items", desk.items(), 0);
    }

    private static void newEntryZero() {
        Desk desk = volume(128, 64, 32);
        desk.file(name('a', 50));
        desk.remove(0);
        due("the old name's bytes stay behind \"..\"", desk.byteAt(7 * 1024 + 24 + 20), '-');
        desk.file("bcdef");
        int[] want = {12, 0, 0, 0, 0xE8, 3, 5, 1, 'b', 'c', 'd', 'e', 'f', 0, 0, 0};
        for (int i = 0; i < want.length; i++) {
            due("the new entry at " + i, desk.byteAt(7 * 1024 + 24 + i), want[i]);
        }
        due("behind what it uses the old bytes stay", desk.byteAt(7 * 1024 + 24 + 16), '-');
        Desk empty = after(128, TermsTest::twoBlocks);
        empty.remove(3);
        empty.file(name('x', 237));
        for (int i = 0; i < 3; i++) {
            due("behind the name in what was empty", empty.byteAt(8 * 1024 + 8 + 237 + i), 0);
        }
    }

    private static void orderOfBlocks() {
        Desk desk = volume(128, 64, 32);
        for (int i = 0; i < 3; i++) {
            desk.file(name((char) ('a' + i), 248));
        }
        desk.directory(name('d', 225));
        due("the lower block is the directory's", desk.number(ROOT + 44, 4), 8);
        due("the next one is the new directory's", desk.number(INODE_12 + 3 * 128 + 40, 4), 9);
        due("\".\" there", desk.number(9 * 1024, 4), 15);
    }

    private static void goneIsFree() {
        Desk desk = volume(512, 256, 32);
        int free = desk.many(0);
        desk.file("f");
        desk.grow(0, 280000, 0);
        desk.remove(0);
        due("blocks of a large file", desk.many(0), free);
        due("its inode", desk.many(1), 21);
        desk.file("empty");
        desk.remove(0);
        due("an empty file's inode", desk.many(1), 21);
        desk.directory("d");
        due("a directory's block", desk.many(0), free - 1);
        desk.remove(0);
        due("when it has gone", desk.many(0), free);
        due("its inode", desk.many(1), 21);
        due("all blocks behind the root's are free", desk.byteAt(8 * 1024), -1);
    }

    private static void goneLength() {
        Desk desk = volume(128, 64, 32);
        desk.file("a");
        desk.file("bbbbb");
        desk.file("c");
        desk.remove(1);
        due("one in the middle: to that before it", desk.number(7 * 1024 + 24 + 4, 2), 28);
        desk.remove(1);
        due("the last one: the rest of the block", desk.number(7 * 1024 + 24 + 4, 2), 1000);
        desk.remove(0);
        due("the first item: to \"..\"", desk.number(7 * 1024 + 12 + 4, 2), 1012);
        due("its bytes stay", desk.byteAt(7 * 1024 + 24 + 8), 'a');
        Desk two = after(128, TermsTest::twoBlocks);
        two.remove(3);
        two.remove(3);
        due("one behind an empty one", two.number(8 * 1024 + 4, 2), 1024);
        due("not to the block before", two.number(7 * 1024 + 24 + 512 + 4, 2), 488);
    }

    private static void firstGone() {
        Story story = desk -> {
            twoBlocks(desk);
            desk.remove(3);
        };
        int[] before = disk(128, TermsTest::twoBlocks, 8, 1);
        due("its inode before", before[0], 15);
        before[0] = 0;
        same("the block", disk(128, story, 8, 1), before);
        Desk desk = after(128, story);
        due("the directory keeps its blocks", desk.number(ROOT + 4, 4), 2048);
        due("the last entry of the block before", desk.number(7 * 1024 + 24 + 512 + 4, 2), 488);
        desk.remove(3);
        due("also when nothing is left in the block", desk.number(ROOT + 4, 4), 2048);
        due("fault()", desk.fault(), 0);
    }

    private static void hereAtFirst() {
        Desk desk = volume(128, 64, 32);
        due("up() at first", desk.up(), false);
        due("items() at first", desk.items(), 0);
        desk.directory("d");
        due("\"..\" of an item made here is inode 2", desk.number(8 * 1024 + 12, 4), 2);
    }

    private static void fullTape() {
        Desk desk = volume(128, 64, 32);
        desk.file("f");
        for (int i = 1; i <= 204; i++) {
            due("end(20)", desk.end(20), 20 * i);
        }
        desk.feed(0x41424344, 0x45464748, 0x494A4B4C, 0x4D4E4F50, 0x51525354);
        due("end(17): 4097", desk.end(17), -1);
        due("end(16): 4096", desk.end(16), 4096);
        due("write of a full tape", desk.write(0), 4096);
        due("its last byte", desk.content(0, 4095), 'P');
        due("the tape is empty", desk.end(0), 0);
    }

    private static void usedUp(Desk desk, String call, Runnable run) {
        desk.put("/x");
        try {
            run.run();
        } catch (RuntimeException e) {
            // Whatever comes of it: other sentences tell what is due.
        }
        due("bytes on the tape behind " + call, desk.end(0), 0);
    }

    private static void kept(Desk desk, String call, Runnable run) {
        desk.put("/x");
        try {
            run.run();
        } catch (RuntimeException e) {
            // As above.
        }
        due("bytes on the tape behind " + call, desk.end(0), 2);
        usedUp(desk, "make", () -> desk.make(false));
    }

    private static void tapeUsedUp() {
        Desk none = new Desk(128);
        usedUp(none, "make without a volume", () -> none.make(false));
        usedUp(none, "write without a volume", () -> none.write(0));
        kept(none, "grow without a volume", () -> none.grow(0, 1, 1));
        Desk desk = volume(128, 64, 12);
        usedUp(desk, "make with a bad name", () -> desk.make(true));
        usedUp(desk, "write without items", () -> desk.write(0));
        desk.directory("d");
        desk.file("f");
        due("behind make", desk.end(0), 0);
        usedUp(desk, "write to a directory", () -> desk.write(0));
        usedUp(desk, "write to a file", () -> desk.write(1));
        due("its size", desk.about(1, 2), 2);
        leave(desk, desk.file("g"), 0);
        desk.grow(1, 1022, 0);
        usedUp(desk, "write on a full disk", () -> desk.write(1));
        due("its size", desk.about(1, 2), 1024);
        desk.put("e");
        refused("make on a full disk", UNSUPPORTED, () -> desk.make(true));
        due("behind make on a full disk", desk.end(0), 0);
        tapeKept(desk);
    }

    private static void tapeKept(Desk desk) {
        kept(desk, "byteAt", () -> desk.byteAt(1));
        kept(desk, "fault", () -> desk.fault());
        kept(desk, "many", () -> desk.many(0));
        kept(desk, "items", () -> desk.items());
        kept(desk, "letter", () -> desk.letter(0, 0));
        kept(desk, "about", () -> desk.about(0, 0));
        kept(desk, "content", () -> desk.content(1, 0));
        kept(desk, "grow", () -> desk.grow(1, 0, 0));
        kept(desk, "a refused grow", () -> desk.grow(1, 1, 0));
        kept(desk, "cut", () -> desk.cut(1, 5));
        kept(desk, "stamp", () -> desk.stamp(0, 0, 0));
        kept(desk, "enter", () -> desk.enter(0));
        kept(desk, "up", () -> desk.up());
        kept(desk, "remove", () -> desk.remove(1));
        kept(desk, "a refused remove", () -> desk.remove(9));
        kept(desk, "a refused format", () -> desk.format(1, 12, 0));
        kept(desk, "format", () -> desk.format(64, 12, 0));
        desk.put("abc");
        due("end that answers NONE", desk.end(21), -1);
        due("behind it", desk.end(0), 3);
    }
}
