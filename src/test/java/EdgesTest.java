/** A test for each sentence of the document's promises, and of its order of exceptions, that names an edge. */
public final class EdgesTest extends Kit {
    public static void main(String[] args) {
        newObject();
        tape();
        format();
        wholeVolume();
        looks();
        walks();
        makes();
        writesAndGrows();
        cuts();
        removesAndStamps();
        exceptions();
        finish("EdgesTest");
    }

    private static void newObject() {
        sentence("1: B is blocks, 128 if that is less", EdgesTest::fewBlocks);
        sentence("1: 512 if it is more", EdgesTest::manyBlocks);
        sentence("1: There is no volume", EdgesTest::noVolume);
    }

    private static void tape() {
        sentence("2: Puts twenty bytes ready, those of a first, the highest of each first", EdgesTest::twentyBytes);
        sentence("2: They are 0 at first", EdgesTest::zeroAtFirst);
        sentence("2: and behind each end() that answers a number", EdgesTest::zeroBehindEnd);
        sentence("3: The first n of the bytes that are ready come to the tape: how many it has",
            EdgesTest::firstBytes);
        sentence("3: NONE, and nothing comes, if n is not 0 .. 20", EdgesTest::endOutside);
        sentence("3: or it would have more than 4096", EdgesTest::endTooMuch);
    }

    private static void format() {
        sentence("4: All bytes become 0, then a volume is made", EdgesTest::allBytesZero);
        sentence("4: G the least multiple of 8 so that Q * G is at least inodes", EdgesTest::leastMultiple);
        sentence("4: and its root, with one block: how many blocks are free", EdgesTest::freeBehindFormat);
        sentence("4: HERE is the root", EdgesTest::hereBehindFormat);
        sentence("4: P is not 64, 128 or 256", EdgesTest::wrongP);
        sentence("4: inodes is not 12 .. 2000", EdgesTest::wrongInodes);
        sentence("4: a group has not at least 8 blocks more than its fixed ones", EdgesTest::groupTooSmall);
        sentence("4: (also the last one)", EdgesTest::lastGroupTooSmall);
    }

    private static void wholeVolume() {
        sentence("5: A byte as it stands on the disk", EdgesTest::byteAsItStands);
        sentence("5: NONE if there is none such", EdgesTest::noSuchByte);
        sentence("5: and, if there is a volume, for those of blocks that aren't used", EdgesTest::unusedBlocks);
        sentence("5: (but for block 0)", EdgesTest::blockZero);
        sentence("6: 0 if all that is told here holds of the volume (which it does), else 1", EdgesTest::noFault);
        sentence("6: NONE if there is none", EdgesTest::faultWithout);
        sentence("7: How many blocks (what = 0), inodes (1) are free; groups (2), inodes a group (3)",
            EdgesTest::manyFree);
        sentence("7: NONE for another what", EdgesTest::anotherWhat);
        sentence("7: or without a volume", EdgesTest::manyWithout);
    }

    private static void looks() {
        sentence("8: How many items are here", EdgesTest::howManyItems);
        sentence("9: Byte i of the name of item k here", EdgesTest::letters);
        sentence("9: NONE behind its end", EdgesTest::lettersBehind);
        sentence("10: 0 its inode, 1 whether it is a directory (1 or 0), 2 its size, 3 its links, 4, 5, 6 its times",
            EdgesTest::aboutAll);
        sentence("10: IllegalArgumentException for another what", EdgesTest::aboutAnother);
        sentence("11: Byte at of file k here", EdgesTest::contentAt);
        sentence("11: NONE if it is a directory", EdgesTest::contentOfDirectory);
        sentence("11: or has none such", EdgesTest::contentOutside);
    }

    private static void walks() {
        sentence("12: Directory k here becomes HERE: how many items it has", EdgesTest::enterDirectory);
        sentence("12: IllegalArgumentException if it is a file", EdgesTest::enterFile);
        sentence("13: The parent of HERE becomes HERE", EdgesTest::upToParent);
        sentence("13: false if it is the root", EdgesTest::upFromRoot);
    }

    private static void makes() {
        sentence("14: A new file, of size 0, or directory, here, with the tape as its name", EdgesTest::newItems);
        sentence("14: its number among the items", EdgesTest::newNumbers);
        sentence("14: the tape has not 1 .. 255 bytes", EdgesTest::nameLengths);
        sentence("14: has a byte 0 or 47", EdgesTest::nameBytes);
        sentence("14: is \".\" or \"..\"", EdgesTest::nameDots);
        sentence("14: or the name of an item here", EdgesTest::nameTwice);
        sentence("14: UnsupportedOperationException: no free inode", EdgesTest::noInode);
        sentence("14: UnsupportedOperationException: not enough free blocks", EdgesTest::noBlockToMake);
    }

    private static void writesAndGrows() {
        sentence("15: The tape's bytes come behind those of file k: its size", EdgesTest::writeBehind);
        sentence("15: IllegalArgumentException if it is a directory", EdgesTest::writeDirectory);
        sentence("15: UnsupportedOperationException: not enough free blocks", EdgesTest::noBlockToWrite);
        sentence("16: Likewise n bytes", EdgesTest::growBehind);
        sentence("16: of which byte i is the lowest eight bits of seed + i * i + (i >> 8)", EdgesTest::growBytes);
        sentence("16: IllegalArgumentException also if n is not 0 .. 400000", EdgesTest::growOutside);
        sentence("16: likewise IllegalArgumentException if it is a directory", EdgesTest::growDirectory);
        sentence("16: UnsupportedOperationException: not enough free blocks", EdgesTest::noBlockToGrow);
    }

    private static void cuts() {
        sentence("17: File k keeps its first size bytes", EdgesTest::cutKeeps);
        sentence("17: how many blocks (with indirect ones) became free", EdgesTest::cutFrees);
        sentence("17: IllegalArgumentException also if size is not 0 .. its size", EdgesTest::cutOutside);
        sentence("17: likewise IllegalArgumentException if it is a directory", EdgesTest::cutDirectory);
        sentence("17: (The bytes behind them in its last block stay.)", EdgesTest::cutBytesStay);
    }

    private static void removesAndStamps() {
        sentence("18: Item k goes", EdgesTest::removeEach);
        sentence("18: IllegalArgumentException if it is a directory with items", EdgesTest::removeFullDirectory);
        sentence("19: Time which (0, 1, 2) of item k becomes the lowest 32 bits of time", EdgesTest::stampBits);
        sentence("19: IllegalArgumentException for another which", EdgesTest::stampAnother);
    }

    private static void exceptions() {
        sentence("IllegalStateException (there is no volume)", EdgesTest::stateOfEach);
        sentence("IndexOutOfBoundsException (no such item here)", EdgesTest::indexOfEach);
        sentence("Exceptions, in this order: IllegalStateException, then all others", EdgesTest::stateFirst);
        sentence("Exceptions, in this order: IndexOutOfBoundsException, then IllegalArgumentException",
            EdgesTest::indexBeforeArgument);
        sentence("Exceptions, in this order: IllegalArgumentException, then UnsupportedOperationException",
            EdgesTest::argumentBeforeUnsupported);
        sentence("What throws changes nothing but the tape: without a volume", EdgesTest::unchangedWithout);
        sentence("What throws changes nothing but the tape: IndexOutOfBoundsException", EdgesTest::unchangedIndex);
        sentence("What throws changes nothing but the tape: IllegalArgumentException", EdgesTest::unchangedArgument);
        sentence("What throws changes nothing but the tape: UnsupportedOperationException",
            EdgesTest::unchangedUnsupported);
    }

    private static void lastByte(int blocks, int kept) {
        Desk desk = new Desk(blocks);
        due("the last byte of a disk for " + blocks, desk.byteAt(1024 * kept - 1), 0);
        due("the one behind it", desk.byteAt(1024 * kept), -1);
        desk.format(256, 12, 0);
        due("B in the superblock", desk.number(1024 + 4, 4), kept);
    }

    private static void fewBlocks() {
        int[] few = {128, 127, 1, 0, -1, MIN};
        for (int blocks : few) {
            lastByte(blocks, 128);
        }
        lastByte(129, 129);
    }

    private static void manyBlocks() {
        int[] many = {512, 513, 1024, MAX};
        for (int blocks : many) {
            lastByte(blocks, 512);
        }
        lastByte(511, 511);
    }

    private static void noVolume() {
        Desk desk = new Desk(128);
        due("fault()", desk.fault(), -1);
        due("many(2)", desk.many(2), -1);
        refused("items()", STATE, () -> desk.items());
        desk.format(64, 12, 0);
        due("items() with a volume", desk.items(), 0);
    }

    /** A volume with an empty file, item 0. */
    private static Desk withFile() {
        Desk desk = volume(128, 64, 32);
        desk.file("f");
        return desk;
    }

    private static void written(Desk desk, int from, int... want) {
        due("write(0)", desk.write(0), from + want.length);
        for (int i = 0; i < want.length; i++) {
            due("content(0, " + (from + i) + ")", desk.content(0, from + i), want[i]);
        }
    }

    private static void twentyBytes() {
        Desk desk = withFile();
        desk.feed(0x01020304, 0x80FF7F00, MIN, -1, MAX);
        due("end(20)", desk.end(20), 20);
        written(desk, 0, 1, 2, 3, 4, 128, 255, 127, 0, 128, 0, 0, 0, 255, 255, 255, 255, 127, 255, 255, 255);
        desk.feed(-1, -1, -1, -1, -1);
        desk.feed(0x05060708, 0, 0, 0, 9);
        due("end(20) behind a second feed", desk.end(20), 20);
        written(desk, 20, 5, 6, 7, 8, 0, 0, 0, 0, 0, 0, 0, 0, 0, 0, 0, 0, 0, 0, 0, 9);
    }

    private static void zeroAtFirst() {
        Desk desk = new Desk(128);
        due("end(20) without a feed", desk.end(20), 20);
        desk.format(64, 32, 0);
        due("the tape stays at a format", desk.end(0), 20);
        refused("make with zeros", ARGUMENT, () -> desk.make(false));
        desk.file("f");
        due("end(3)", desk.end(3), 3);
        written(desk, 0, 0, 0, 0);
    }

    private static void zeroBehindEnd() {
        Desk desk = withFile();
        desk.feed(-1, -1, -1, -1, -1);
        due("end(1)", desk.end(1), 1);
        due("end(4), zeros", desk.end(4), 5);
        written(desk, 0, 255, 0, 0, 0, 0);
        desk.feed(-1, -1, -1, -1, -1);
        due("end(0), a number too", desk.end(0), 0);
        due("end(2), zeros", desk.end(2), 2);
        written(desk, 5, 0, 0);
        desk.feed(0x11223344, 0, 0, 0, 0);
        due("end(21), no number", desk.end(21), -1);
        due("end(-1), no number", desk.end(-1), -1);
        due("end(2), still ready", desk.end(2), 2);
        written(desk, 7, 0x11, 0x22);
    }

    private static void firstBytes() {
        Desk desk = withFile();
        due("end(0) at first", desk.end(0), 0);
        desk.feed(0x01020304, 0x05060708, 0, 0, 0);
        due("end(1)", desk.end(1), 1);
        desk.feed(0x0A0B0C0D, 0, 0, 0, 0x14);
        due("end(20)", desk.end(20), 21);
        desk.feed(0x15161718, 0, 0, 0, 0);
        due("end(2)", desk.end(2), 23);
        written(desk, 0, 1, 10, 11, 12, 13, 0, 0, 0, 0, 0, 0, 0, 0, 0, 0, 0, 0, 0, 0, 0, 20, 21, 22);
    }

    private static void endOutside() {
        Desk desk = withFile();
        int[] outside = {-1, 21, 22, MIN, MAX};
        for (int n : outside) {
            desk.feed(-1, -1, -1, -1, -1);
            due("end(" + n + ")", desk.end(n), -1);
        }
        due("nothing has come", desk.end(0), 0);
        due("end(20)", desk.end(20), 20);
        due("end(-1) with bytes on the tape", desk.end(-1), -1);
        due("they stay", desk.end(0), 20);
    }

    private static void endTooMuch() {
        Desk desk = withFile();
        for (int i = 0; i < 203; i++) {
            desk.end(20);
        }
        due("end(17)", desk.end(17), 4077);
        desk.feed(0x01020304, 0, 0, 0, 0x05060708);
        due("end(20): 4097", desk.end(20), -1);
        due("end(19): 4096", desk.end(19), 4096);
        due("end(1): 4097", desk.end(1), -1);
        due("end(20) of a full tape", desk.end(20), -1);
        due("end(0) of a full tape", desk.end(0), 4096);
        due("write(0)", desk.write(0), 4096);
        due("the first of the last nineteen", desk.content(0, 4077), 1);
        due("the last one", desk.content(0, 4095), 7);
        due("end(20) of an empty tape", desk.end(20), 20);
    }

    private static void allBytesZero() {
        Story used = desk -> {
            desk.format(64, 200, 9);
            desk.directory("d");
            desk.file("f");
            leave(desk, 1, 0);
            desk.stamp(0, 0, -1);
            desk.format(128, 12, 7);
        };
        same("the disk behind a second format", disk(128, used), disk(128, desk -> desk.format(128, 12, 7)));
        Story again = desk -> {
            used.tell(desk);
            desk.file("f");
            desk.grow(0, 1, 200);
        };
        int[] want = new int[1024];
        want[0] = 200;
        same("a block that had bytes before", disk(128, again, 8, 1), want);
    }

    private static void leastMultiple() {
        int[][] rows = {{128, 64, 12, 8}, {128, 64, 16, 8}, {128, 64, 17, 16}, {128, 64, 32, 16}, {128, 64, 33, 24},
            {128, 128, 12, 16}, {128, 128, 16, 16}, {128, 128, 17, 24}, {512, 64, 12, 8}, {512, 64, 64, 8},
            {512, 64, 65, 16}, {512, 64, 2000, 256}, {512, 128, 2000, 504}, {512, 256, 2000, 1000}};
        for (int[] row : rows) {
            Desk desk = volume(row[0], row[1], row[2]);
            String what = row[2] + " inodes in groups of " + row[1] + " on " + row[0] + " blocks";
            due("many(3) with " + what, desk.many(3), row[3]);
            due("many(1) with " + what, desk.many(1), row[3] * desk.many(2) - 11);
        }
    }

    private static void freeBehindFormat() {
        int[][] rows = {{128, 64, 12, 116}, {128, 128, 12, 120}, {128, 256, 12, 120}, {129, 128, 12, 121},
            {512, 64, 12, 511 - 40 - 1}, {512, 64, 2000, 222}, {512, 256, 2000, 252}, {128, 128, 920, 7}};
        for (int[] row : rows) {
            Desk desk = new Desk(row[0]);
            int free = desk.format(row[1], row[2], -1);
            due("format(" + row[1] + ", " + row[2] + ", -1) on " + row[0] + " blocks", free, row[3]);
            due("many(0)", desk.many(0), row[3]);
            due("the root's second pointer", desk.number(5 * 1024 + 128 + 44, 4), 0);
        }
    }

    private static void hereBehindFormat() {
        Desk desk = volume(128, 64, 32);
        desk.directory("d");
        desk.enter(0);
        desk.directory("e");
        desk.enter(0);
        desk.format(64, 32, 0);
        due("items()", desk.items(), 0);
        due("up()", desk.up(), false);
        due("make", desk.file("f"), 0);
        due("its entry stands in the root's block", desk.number(7 * 1024 + 24, 4), 12);
    }

    private static void wrongP() {
        Desk desk = new Desk(512);
        int[] wrong = {0, 1, -1, 8, 32, 63, 65, 127, 129, 192, 255, 257, 512, 1024, -64, -128, -256, MIN, MAX};
        for (int p : wrong) {
            refused("format(" + p + ", 12, 0)", ARGUMENT, () -> desk.format(p, 12, 0));
        }
        due("fault(), still without a volume", desk.fault(), -1);
        int[] right = {64, 128, 256};
        for (int p : right) {
            due("format(" + p + ", 12, 0)", desk.format(p, 12, 0) > 0, true);
        }
    }

    private static void wrongInodes() {
        Desk desk = new Desk(512);
        int[] wrong = {11, 1, 0, -1, 2001, 2008, 1 << 16, MIN, MAX};
        for (int inodes : wrong) {
            refused("format(64, " + inodes + ", 0)", ARGUMENT, () -> desk.format(64, inodes, 0));
            refused("format(256, " + inodes + ", 0)", ARGUMENT, () -> desk.format(256, inodes, 0));
        }
        due("fault(), still without a volume", desk.fault(), -1);
        due("format(64, 12, 0)", desk.format(64, 12, 0), 470);
        due("format(64, 2000, 0)", desk.format(64, 2000, 0), 222);
    }

    /** 127 blocks in one group: 4 and 115 of inodes fixed leave 8, one of inodes more leaves 7. */
    private static void groupTooSmall() {
        Desk desk = new Desk(128);
        refused("format(128, 921, 0), 7 more", ARGUMENT, () -> desk.format(128, 921, 0));
        due("format(128, 920, 0), 8 more", desk.format(128, 920, 0), 7);
        refused("format(256, 928, 0), 7 more", ARGUMENT, () -> desk.format(256, 928, 0));
        due("format(256, 913, 0), 8 more", desk.format(256, 913, 0), 7);
        refused("format(128, 2000, 0), fewer than fixed ones", ARGUMENT, () -> desk.format(128, 2000, 0));
        Desk two = new Desk(129);
        due("two groups of 64 with 52 of inodes each", two.format(64, 832, 0), 15);
        refused("two groups of 64 with 53 of inodes each", ARGUMENT, () -> two.format(64, 833, 0));
    }

    private static void lastGroupTooSmall() {
        int[] sizes = {64, 128, 256};
        for (int p : sizes) {
            Desk enough = new Desk(1 + 256 + 13);
            int groups = 256 / p + 1;
            due("13 blocks in the last group of " + p, enough.format(p, 12, 0), 269 - 5 * groups - 1);
            Desk few = new Desk(1 + 256 + 12);
            refused("12 blocks in the last group of " + p, ARGUMENT, () -> few.format(p, 12, 0));
            Desk one = new Desk(1 + 256 + 1);
            refused("1 block in the last group of " + p, ARGUMENT, () -> one.format(p, 12, 0));
        }
        due("no block over", new Desk(257).format(256, 12, 0), 256 - 6 - 1);
        Desk more = new Desk(1 + 128 + 13);
        refused("a second block of inodes leaves 7", ARGUMENT, () -> more.format(128, 17, 0));
        due("one block of inodes leaves 8", more.format(128, 16, 0), 130);
    }

    private static void byteAsItStands() {
        Desk desk = withFile();
        due("before it grows", desk.byteAt(8 * 1024), -1);
        desk.grow(0, 256, 0);
        int[] at = {0, 1, 15, 16, 17, 255};
        for (int i : at) {
            due("byte " + i + " of the file's block", desk.byteAt(8 * 1024 + i), i * i & 255);
        }
        desk.feed(0x7F80FF00, 0, 0, 0, 0);
        desk.end(4);
        desk.write(0);
        int[] want = {127, 128, 255, 0};
        for (int i = 0; i < 4; i++) {
            due("a written byte, never below 0", desk.byteAt(8 * 1024 + 256 + i), want[i]);
        }
    }

    private static void noSuchByte() {
        Desk desk = new Desk(128);
        int[] none = {-1, -1024, MIN, 128 * 1024, 128 * 1024 + 1, MAX};
        for (int at : none) {
            due("byteAt(" + at + ") without a volume", desk.byteAt(at), -1);
        }
        due("the last byte without a volume", desk.byteAt(128 * 1024 - 1), 0);
        desk.format(64, 12, 0);
        desk.file("f");
        leave(desk, 0, 0);
        for (int at : none) {
            due("byteAt(" + at + ") on a full disk", desk.byteAt(at), -1);
        }
        due("the last byte on a full disk", desk.byteAt(128 * 1024 - 1) >= 0, true);
    }

    private static void unusedBlocks() {
        Desk desk = new Desk(128);
        due("without a volume", desk.byteAt(127 * 1024), 0);
        desk.format(64, 32, 0);
        due("the last byte of the root's block", desk.byteAt(8 * 1024 - 1), 0);
        due("the first byte behind it", desk.byteAt(8 * 1024), -1);
        due("the last byte of group 0", desk.byteAt(65 * 1024 - 1), -1);
        due("the first byte of group 1", desk.byteAt(65 * 1024), 32);
        due("the last byte of its fixed blocks", desk.byteAt(71 * 1024 - 1), 0);
        due("the first byte behind them", desk.byteAt(71 * 1024), -1);
        due("the last byte of all", desk.byteAt(128 * 1024 - 1), -1);
        desk.file("f");
        desk.grow(0, 1, 5);
        due("a byte that has come", desk.byteAt(8 * 1024), 5);
        due("the last byte of its block", desk.byteAt(9 * 1024 - 1), 0);
        desk.cut(0, 0);
        due("when it has gone", desk.byteAt(8 * 1024), -1);
    }

    private static void blockZero() {
        Desk desk = new Desk(128);
        due("byteAt(0) without a volume", desk.byteAt(0), 0);
        desk.format(64, 12, 0);
        due("byteAt(0)", desk.byteAt(0), 0);
        due("byteAt(1023)", desk.byteAt(1023), 0);
        desk.file("f");
        leave(desk, 0, 0);
        due("byteAt(500) on a full disk", desk.byteAt(500), 0);
    }

    private static void noFault() {
        Desk desk = new Desk(300);
        desk.format(64, 12, 0);
        due("fault() of a new volume", desk.fault(), 0);
        for (int i = 0; desk.many(1) > 0; i++) {
            int k = i % 3 == 0 ? desk.directory("n" + i) : desk.file("n" + i);
            due("fault() with " + (i + 1) + " items", desk.fault(), 0);
            if (i % 3 == 1) {
                desk.grow(k, Math.min(4, desk.many(0)) * 1024 - 1, i);
            }
        }
        leave(desk, 2, 0);
        due("fault() on a full disk", desk.fault(), 0);
        refused("a byte more", UNSUPPORTED, () -> desk.grow(5, 1, 0));
        due("fault() behind a refused call", desk.fault(), 0);
        while (desk.items() > 0) {
            desk.remove(desk.items() / 2);
            due("fault() when an item has gone", desk.fault(), 0);
        }
        refused("format(64, 3, 0)", ARGUMENT, () -> desk.format(64, 3, 0));
        due("fault() behind a refused format", desk.fault(), 0);
        int[] sizes = {128, 256, 64};
        for (int p : sizes) {
            desk.format(p, 300, -1);
            due("fault() behind another format", desk.fault(), 0);
            desk.directory("d");
            due("fault() with an item then", desk.fault(), 0);
        }
    }

    private static void faultWithout() {
        Desk desk = new Desk(128);
        due("fault()", desk.fault(), -1);
        refused("format(64, 2001, 0)", ARGUMENT, () -> desk.format(64, 2001, 0));
        due("fault() behind a refused format", desk.fault(), -1);
    }

    private static void manyFree() {
        Desk desk = volume(128, 64, 12);
        int[] first = {116, 5, 2, 8};
        for (int what = 0; what < 4; what++) {
            due("many(" + what + ")", desk.many(what), first[what]);
        }
        for (int i = 0; i < 5; i++) {
            desk.file("n" + i);
        }
        leave(desk, 0, 0);
        int[] full = {0, 0, 2, 8};
        for (int what = 0; what < 4; what++) {
            due("many(" + what + ") on a full disk", desk.many(what), full[what]);
        }
    }

    private static void anotherWhat() {
        Desk desk = volume(128, 64, 12);
        int[] others = {-1, 4, 5, MIN, MAX};
        for (int what : others) {
            due("many(" + what + ")", desk.many(what), -1);
        }
    }

    private static void manyWithout() {
        Desk desk = new Desk(128);
        int[] all = {-1, 0, 1, 2, 3, 4};
        for (int what : all) {
            due("many(" + what + ")", desk.many(what), -1);
        }
    }

    private static void howManyItems() {
        Desk desk = volume(128, 64, 100);
        due("items() of the empty root", desk.items(), 0);
        // 90 bytes are not in use behind the dots once 35 names that use 28 bytes stand in a block.
        for (int i = 0; i < 80; i++) {
            desk.file("a name of " + (1000000 + i) + "..");
        }
        due("items() in three blocks", desk.items(), 80);
        for (int i = 0; i < 79; i++) {
            desk.remove(i % 2 == 0 ? 0 : 79 - i);
        }
        due("items() when all but one have gone", desk.items(), 1);
        desk.remove(0);
        due("items() when all have gone", desk.items(), 0);
    }

    private static void letters() {
        Desk desk = volume(128, 64, 32);
        desk.file("a");
        desk.file("" + (char) 1 + (char) 255 + (char) 128 + "." + " ");
        desk.file(name('l', 254) + "z");
        due("letter(0, 0)", desk.letter(0, 0), 'a');
        int[] want = {1, 255, 128, '.', ' '};
        for (int i = 0; i < want.length; i++) {
            due("letter(1, " + i + ")", desk.letter(1, i), want[i]);
        }
        due("letter(2, 0)", desk.letter(2, 0), 'l');
        due("letter(2, 253)", desk.letter(2, 253), '-');
        due("letter(2, 254)", desk.letter(2, 254), 'z');
    }

    private static void lettersBehind() {
        Desk desk = volume(128, 64, 32);
        desk.file("abcd");
        desk.file(name('l', 255));
        int[] behind = {4, 5, 255, 256, MAX, -1, MIN};
        for (int i : behind) {
            due("letter(0, " + i + ")", desk.letter(0, i), -1);
        }
        due("letter(1, 255)", desk.letter(1, 255), -1);
        due("letter(1, 256)", desk.letter(1, 256), -1);
    }

    private static void aboutAll() {
        Desk desk = volume(128, 64, 32);
        desk.file("f");
        desk.directory("d");
        long[] file = {12, 0, 0, 1, 0, 0, 0};
        long[] directory = {13, 1, 1024, 2, 0, 0, 0};
        for (int what = 0; what < 7; what++) {
            due("about(0, " + what + ") of a new file", desk.about(0, what), file[what]);
            due("about(1, " + what + ") of a new directory", desk.about(1, what), directory[what]);
        }
        desk.grow(0, 100000, 0);
        desk.enter(1);
        for (int i = 0; i < 5; i++) {
            desk.directory(name((char) ('a' + i), 250));
        }
        desk.up();
        for (int which = 0; which < 3; which++) {
            desk.stamp(0, which, -1 - which);
            desk.stamp(1, which, 7 + which);
        }
        long[] grown = {12, 0, 100000, 1, 4294967295L, 4294967294L, 4294967293L};
        long[] deep = {13, 1, 2048, 7, 7, 8, 9};
        for (int what = 0; what < 7; what++) {
            due("about(0, " + what + ")", desk.about(0, what), grown[what]);
            due("about(1, " + what + ")", desk.about(1, what), deep[what]);
        }
    }

    private static void aboutAnother() {
        Desk desk = withFile();
        int[] others = {-1, 7, 8, MIN, MAX};
        for (int what : others) {
            refused("about(0, " + what + ")", ARGUMENT, () -> desk.about(0, what));
        }
    }

    private static void contentAt() {
        Desk desk = volume(512, 256, 32);
        desk.file("f");
        desk.grow(0, 300000, 9);
        int[] at = {0, 1, 1023, 1024, 12287, 12288, 13311, 13312, 274431, 274432, 275456, 299999};
        for (int i : at) {
            due("content(0, " + i + ")", desk.content(0, i), grown(9, i));
        }
    }

    private static void contentOfDirectory() {
        Desk desk = volume(128, 64, 32);
        desk.directory("d");
        int[] at = {0, 1, 1023, 1024, -1};
        for (int i : at) {
            due("content(0, " + i + ")", desk.content(0, i), -1);
        }
    }

    private static void contentOutside() {
        Desk desk = withFile();
        due("content(0, 0) of an empty file", desk.content(0, 0), -1);
        desk.grow(0, 100, 1);
        due("content(0, 99)", desk.content(0, 99), grown(1, 99));
        int[] none = {100, 101, 1023, 1024, 300000, MAX, -1, -1024, MIN};
        for (int at : none) {
            due("content(0, " + at + ")", desk.content(0, at), -1);
        }
        desk.cut(0, 50);
        due("content(0, 49) of what is kept", desk.content(0, 49), grown(1, 49));
        due("content(0, 50) of what is cut", desk.content(0, 50), -1);
        desk.grow(0, 974, 2);
        due("the last byte of a full block", desk.content(0, 1023), grown(2, 973));
        due("behind a full block", desk.content(0, 1024), -1);
    }

    private static void enterDirectory() {
        Desk desk = volume(128, 64, 32);
        desk.file("f");
        desk.directory("d");
        due("enter of an empty one", desk.enter(1), 0);
        desk.file("a");
        desk.directory("b");
        desk.file("c");
        due("enter one deeper", desk.enter(1), 0);
        due("items() there", desk.items(), 0);
        desk.up();
        desk.up();
        due("enter of one with items", desk.enter(1), 3);
        due("letter(2, 0) there", desk.letter(2, 0), 'c');
        desk.remove(0);
        desk.up();
        due("enter when one has gone", desk.enter(1), 2);
    }

    private static void enterFile() {
        Desk desk = withFile();
        refused("enter(0)", ARGUMENT, () -> desk.enter(0));
        due("HERE stays", desk.items(), 1);
        desk.grow(0, 2000, 0);
        refused("enter(0) with bytes", ARGUMENT, () -> desk.enter(0));
    }

    private static void upToParent() {
        Desk desk = volume(128, 64, 64);
        for (int i = 0; i < 20; i++) {
            desk.file("f" + i);
            due("items() at depth " + i, desk.items(), 1);
            desk.directory("d");
            due("enter at depth " + i, desk.enter(1), 0);
        }
        for (int i = 19; i >= 0; i--) {
            due("up() to depth " + i, desk.up(), true);
            due("the first item's inode at depth " + i, desk.about(0, 0), 12 + 2 * i);
        }
        due("up() from the root", desk.up(), false);
    }

    private static void upFromRoot() {
        Desk desk = volume(128, 64, 32);
        due("up() of a new volume", desk.up(), false);
        desk.directory("d");
        due("up() again", desk.up(), false);
        due("HERE stays", desk.items(), 1);
        desk.enter(0);
        due("up() from a directory", desk.up(), true);
        due("up() from the root", desk.up(), false);
        due("HERE is the root", desk.letter(0, 0), 'd');
    }

    private static void newItems() {
        Desk desk = volume(128, 64, 32);
        int free = desk.many(0);
        desk.file("f");
        due("blocks of a new file", free - desk.many(0), 0);
        due("its size", desk.about(0, 2), 0);
        due("it is a file", desk.about(0, 1), 0);
        desk.directory("d");
        due("blocks of a new directory", free - desk.many(0), 1);
        due("it is a directory", desk.about(1, 1), 1);
        due("free inodes", desk.many(1), 32 - 11 - 2);
        due("letter(1, 0)", desk.letter(1, 0), 'd');
        due("letter(1, 1)", desk.letter(1, 1), -1);
    }

    private static void newNumbers() {
        Desk desk = volume(128, 64, 32);
        for (int i = 0; i < 5; i++) {
            due("the next one behind all", desk.file("n" + i), i);
        }
        desk.remove(4);
        due("where the last has gone", desk.directory("e"), 4);
        desk.remove(2);
        due("where one in the middle has gone", desk.file("m"), 2);
        desk.remove(0);
        due("where the first has gone", desk.file("a"), 0);
        due("behind all again", desk.file("z"), 5);
    }

    private static void nameLengths() {
        Desk desk = volume(128, 64, 32);
        refused("make with an empty tape", ARGUMENT, () -> desk.make(false));
        refused("make of a directory with an empty tape", ARGUMENT, () -> desk.make(true));
        due("a name of 1 byte", desk.file("a"), 0);
        due("a name of 255 bytes", desk.file(name('a', 255)), 1);
        desk.put(name('b', 256));
        refused("a name of 256 bytes", ARGUMENT, () -> desk.make(false));
        desk.put(name('b', 257));
        refused("a name of 257 bytes", ARGUMENT, () -> desk.make(true));
        due("a name of 254 bytes", desk.directory(name('b', 254)), 2);
        Desk full = volume(128, 64, 32);
        for (int i = 0; i < 204; i++) {
            full.feed(0x61616161, 0x61616161, 0x61616161, 0x61616161, 0x61616161);
            full.end(20);
        }
        full.feed(0x61616161, 0x61616161, 0x61616161, 0x61616161, 0);
        due("a full tape", full.end(16), 4096);
        refused("a name of 4096 bytes", ARGUMENT, () -> full.make(false));
    }

    private static void nameBytes() {
        Desk desk = volume(128, 64, 32);
        String[] wrong = {"\0", "\0a", "a\0", "a\0b", "/", "/a", "a/", "a/b", name('a', 254) + "/",
            name('a', 254) + "\0"};
        for (String name : wrong) {
            desk.put(name);
            refused("a name with a byte 0 or 47 among " + name.length(), ARGUMENT, () -> desk.make(false));
        }
        due("items()", desk.items(), 0);
        int[] right = {1, 46 + 2, 127, 128, 175, 255};
        for (int i = 0; i < right.length; i++) {
            due("a name of the byte " + right[i], desk.file("" + (char) right[i]), i);
        }
        due("a name with a dot", desk.file("a.b"), right.length);
    }

    private static void nameDots() {
        Desk desk = volume(128, 64, 32);
        String[] wrong = {".", ".."};
        for (String name : wrong) {
            desk.put(name);
            refused("a file \"" + name + "\"", ARGUMENT, () -> desk.make(false));
            desk.put(name);
            refused("a directory \"" + name + "\"", ARGUMENT, () -> desk.make(true));
        }
        String[] right = {"...", ".a", "a.", "..a", "a..", ". ", " ."};
        for (int i = 0; i < right.length; i++) {
            due("make of \"" + right[i] + "\"", desk.file(right[i]), i);
        }
    }

    private static void nameTwice() {
        Desk desk = volume(128, 64, 32);
        String last = name('n', 254);
        String[] names = {"a", "abc", last + "x", last + "y"};
        for (String name : names) {
            desk.file(name);
        }
        for (String name : names) {
            desk.put(name);
            refused("a name of " + name.length() + " twice", ARGUMENT, () -> desk.make(true));
        }
        due("one that begins so", desk.file("ab"), 4);
        due("one that goes on behind it", desk.file("abcd"), 5);
        due("in capitals", desk.file("ABC"), 6);
        desk.remove(0);
        due("when it has gone", desk.directory("a"), 0);
        desk.enter(0);
        due("in another directory", desk.file("a"), 0);
        Desk empty = volume(128, 64, 32);
        for (int i = 0; i < 4; i++) {
            empty.file(name((char) ('a' + i), 248));
        }
        empty.remove(3);
        due("when it has gone and its entry is empty", empty.file(name('d', 248)), 3);
    }

    private static void noInode() {
        Desk desk = volume(128, 64, 12);
        for (int i = 0; i < 5; i++) {
            desk.file("n" + i);
        }
        desk.put("f");
        refused("a file", UNSUPPORTED, () -> desk.make(false));
        desk.put("d");
        refused("a directory", UNSUPPORTED, () -> desk.make(true));
        desk.remove(4);
        due("when one is free again", desk.file("f"), 4);
    }

    /** So many blocks are free; the root has room for short names, but not for one of 225. */
    private static Desk short225(int free) {
        Desk desk = volume(128, 64, 32);
        desk.file(name('a', 248));
        desk.file(name('b', 248));
        desk.file(name('c', 248));
        leave(desk, 0, free);
        due("free blocks", desk.many(0), free);
        return desk;
    }

    private static void noBlockToMake() {
        Desk none = short225(0);
        none.put("d");
        refused("a directory without a block", UNSUPPORTED, () -> none.make(true));
        none.put(name('d', 225));
        refused("a file in a new block without a block", UNSUPPORTED, () -> none.make(false));
        due("a file that needs none", none.file("f"), 3);
        Desk one = short225(1);
        one.put(name('d', 225));
        refused("a directory in a new block with one block", UNSUPPORTED, () -> one.make(true));
        due("a file in a new block with one block", one.file(name('d', 225)), 3);
        due("free blocks", one.many(0), 0);
        Desk own = short225(1);
        due("a directory with one block", own.directory("d"), 3);
        Desk two = short225(2);
        due("a directory in a new block with two blocks", two.directory(name('d', 225)), 3);
        due("free blocks", two.many(0), 0);
    }

    private static void writeBehind() {
        Desk desk = withFile();
        due("nothing to an empty file", desk.write(0), 0);
        due("it has no block", desk.many(0), 127 - 12 - 1);
        desk.put("a");
        due("one byte", desk.write(0), 1);
        due("it has a block", desk.many(0), 127 - 12 - 2);
        due("nothing", desk.write(0), 1);
        desk.grow(0, 1022, 0);
        desk.put("b");
        due("to the end of the block", desk.write(0), 1024);
        due("it has one block", desk.many(0), 127 - 12 - 2);
        due("nothing behind a full block", desk.write(0), 1024);
        due("it has one block still", desk.many(0), 127 - 12 - 2);
        desk.put("cd");
        due("behind the end of the block", desk.write(0), 1026);
        due("it has two", desk.many(0), 127 - 12 - 3);
        desk.cut(0, 1023);
        desk.put("efg");
        due("across the end of the block", desk.write(0), 1026);
        int[] want = {'e', 'f', 'g'};
        for (int i = 0; i < 3; i++) {
            due("content(0, " + (1023 + i) + ")", desk.content(0, 1023 + i), want[i]);
        }
        due("content(0, 0)", desk.content(0, 0), 'a');
    }

    private static void writeDirectory() {
        Desk desk = volume(128, 64, 32);
        desk.directory("d");
        refused("write(0) of nothing", ARGUMENT, () -> desk.write(0));
        desk.put("x");
        refused("write(0)", ARGUMENT, () -> desk.write(0));
        due("its size", desk.about(0, 2), 1024);
    }

    private static void noBlockToWrite() {
        Desk desk = withFile();
        leave(desk, desk.file("g"), 1);
        desk.grow(0, 1020, 0);
        due("free blocks", desk.many(0), 0);
        desk.put("abcde");
        refused("a byte more than the block has", UNSUPPORTED, () -> desk.write(0));
        due("its size", desk.about(0, 2), 1020);
        desk.put("abcd");
        due("as many as the block has", desk.write(0), 1024);
        due("nothing", desk.write(0), 1024);
        desk.put("a");
        refused("one more", UNSUPPORTED, () -> desk.write(0));
        Desk row = withFile();
        row.grow(0, 12 * 1024, 0);
        leave(row, row.file("g"), 1);
        row.put("a");
        refused("block 12 with one block", UNSUPPORTED, () -> row.write(0));
        row.cut(1, (int) row.about(1, 2) - 1024);
        row.put("a");
        due("block 12 with two blocks", row.write(0), 12 * 1024 + 1);
        due("free blocks", row.many(0), 0);
    }

    private static void growBehind() {
        Desk desk = withFile();
        due("by nothing", desk.grow(0, 0, 1), 0);
        due("it has no block", desk.many(0), 114);
        due("by one", desk.grow(0, 1, 1), 1);
        due("by nothing again", desk.grow(0, 0, 1), 1);
        due("to a full block", desk.grow(0, 1023, 2), 1024);
        due("it has one block", desk.many(0), 113);
        due("by one behind it", desk.grow(0, 1, 3), 1025);
        due("it has two", desk.many(0), 112);
        due("content(0, 0)", desk.content(0, 0), 1);
        due("content(0, 1)", desk.content(0, 1), 2);
        due("content(0, 1023)", desk.content(0, 1023), grown(2, 1022));
        due("content(0, 1024)", desk.content(0, 1024), 3);
        Desk most = volume(512, 256, 12);
        most.file("f");
        due("by 400000", most.grow(0, 400000, 1), 400000);
    }

    private static void growBytes() {
        int[] seeds = {0, 1, 255, 256, -1, MIN, MAX};
        // i * i leaves int from 46341 on, and is 0 again in int at 65536.
        int[] at = {0, 1, 15, 16, 255, 256, 257, 511, 512, 46340, 46341, 65535, 65536, 65793, 399999};
        for (int seed : seeds) {
            Desk desk = volume(512, 256, 12);
            desk.file("f");
            desk.grow(0, 100, 77);
            desk.grow(0, 400000, seed);
            for (int i : at) {
                due("byte " + i + " with seed " + seed, desk.content(0, 100 + i), grown(seed, i));
            }
        }
    }

    private static void growOutside() {
        Desk desk = volume(512, 256, 12);
        desk.file("f");
        int[] outside = {-1, 400001, 400002, MIN, MAX};
        for (int n : outside) {
            refused("grow(0, " + n + ", 0)", ARGUMENT, () -> desk.grow(0, n, 0));
        }
        due("grow(0, 400000, 0)", desk.grow(0, 400000, 0), 400000);
        due("grow(0, 0, 0)", desk.grow(0, 0, 0), 400000);
        refused("grow(0, -1, 0) of a large file", ARGUMENT, () -> desk.grow(0, -1, 0));
    }

    private static void growDirectory() {
        Desk desk = volume(128, 64, 32);
        desk.directory("d");
        refused("grow(0, 0, 0)", ARGUMENT, () -> desk.grow(0, 0, 0));
        refused("grow(0, 5, 0)", ARGUMENT, () -> desk.grow(0, 5, 0));
    }

    /** As many blocks as are wanted do, and one fewer does not, at each step of the indirect ones. */
    private static void noBlockToGrow() {
        int[] blocks = {1, 11, 12, 13, 14, 267, 268, 269, 270};
        int[] wanted = {1, 11, 12, 14, 15, 268, 269, 272, 273};
        for (int i = 0; i < blocks.length; i++) {
            int n = 1024 * (blocks[i] - 1) + 1;
            Desk few = leaving(wanted[i] - 1);
            refused("grow to " + blocks[i] + " blocks", UNSUPPORTED, () -> few.grow(0, n, 0));
            due("blocks that are free still", few.many(0), wanted[i] - 1);
            Desk enough = leaving(wanted[i]);
            due("grow to " + blocks[i] + " blocks", enough.grow(0, n, 0), n);
            due("blocks that are free then", enough.many(0), 0);
            due("grow by nothing", enough.grow(0, 0, 0), n);
            due("grow to the block's end", enough.grow(0, 1023, 0), n + 1023);
            refused("grow by one more", UNSUPPORTED, () -> enough.grow(0, 1, 0));
        }
    }

    /** So many blocks are free; item 0 is an empty file. */
    private static Desk leaving(int free) {
        Desk desk = volume(512, 256, 64);
        desk.file("f");
        while (desk.many(0) > free) {
            int filler = desk.file("n" + desk.items());
            desk.grow(filler, 1024 * Math.min(12, desk.many(0) - free), 0);
        }
        return desk;
    }

    private static void cutKeeps() {
        Desk desk = withFile();
        due("an empty file to nothing", desk.cut(0, 0), 0);
        desk.grow(0, 2000, 3);
        due("to its size", desk.cut(0, 2000), 0);
        due("about(0, 2)", desk.about(0, 2), 2000);
        due("by one byte", desk.cut(0, 1999), 0);
        due("about(0, 2)", desk.about(0, 2), 1999);
        due("its last byte", desk.content(0, 1998), grown(3, 1998));
        due("behind it", desk.content(0, 1999), -1);
        due("to one byte", desk.cut(0, 1), 1);
        due("its only byte", desk.content(0, 0), 3);
        due("to nothing", desk.cut(0, 0), 1);
        due("about(0, 2)", desk.about(0, 2), 0);
        due("content(0, 0)", desk.content(0, 0), -1);
        due("items()", desk.items(), 1);
    }

    private static void cutFrees() {
        int[] sizes = {275457, 275456, 274433, 274432, 273409, 273408, 13313, 13312, 12289, 12288, 11265, 11264,
            1025, 1024, 1, 0};
        int[] freed = {0, 1, 0, 3, 0, 1, 253, 1, 0, 2, 0, 1, 9, 1, 0, 1};
        Desk desk = volume(512, 256, 32);
        desk.file("f");
        desk.grow(0, 275457, 0);
        for (int i = 0; i < sizes.length; i++) {
            due("cut(0, " + sizes[i] + ")", desk.cut(0, sizes[i]), freed[i]);
        }
        due("many(0)", desk.many(0), 511 - 12 - 1);
        desk.grow(0, 275457, 0);
        due("all at once", desk.cut(0, 0), 273);
    }

    private static void cutOutside() {
        Desk desk = withFile();
        int[] ofNone = {-1, 1, MIN, MAX};
        for (int size : ofNone) {
            refused("cut(0, " + size + ") of an empty file", ARGUMENT, () -> desk.cut(0, size));
        }
        desk.grow(0, 2000, 0);
        int[] outside = {-1, 2001, 2048, MIN, MAX};
        for (int size : outside) {
            refused("cut(0, " + size + ") of 2000 bytes", ARGUMENT, () -> desk.cut(0, size));
        }
        due("its size", desk.about(0, 2), 2000);
    }

    private static void cutDirectory() {
        Desk desk = volume(128, 64, 32);
        desk.directory("d");
        int[] sizes = {0, 1, 1024, 1025, -1};
        for (int size : sizes) {
            refused("cut(0, " + size + ")", ARGUMENT, () -> desk.cut(0, size));
        }
        due("its size", desk.about(0, 2), 1024);
    }

    private static void cutBytesStay() {
        Desk desk = withFile();
        desk.grow(0, 1500, 3);
        desk.cut(0, 1100);
        due("a kept byte", desk.byteAt(8 * 1024 + 1099), grown(3, 1099));
        due("the first behind", desk.byteAt(8 * 1024 + 1100), grown(3, 1100));
        due("the last behind", desk.byteAt(8 * 1024 + 1499), grown(3, 1499));
        desk.put("ab");
        desk.write(0);
        due("what is written takes their place", desk.byteAt(8 * 1024 + 1101), 'b');
        due("and no more", desk.byteAt(8 * 1024 + 1102), grown(3, 1102));
        desk.cut(0, 1024);
        desk.grow(0, 1, 9);
        due("in a block that comes anew they are 0", desk.byteAt(9 * 1024 + 1), 0);
        desk.cut(0, 10);
        due("in the first block they stay", desk.byteAt(8 * 1024 + 1023), grown(3, 1023));
    }

    private static void removeEach() {
        Desk desk = volume(128, 64, 32);
        String letters = "abcde";
        for (int i = 0; i < 5; i++) {
            desk.put(letters.substring(i, i + 1));
            desk.make(i % 2 == 1);
        }
        desk.remove(4);
        due("items() without the last", desk.items(), 4);
        desk.remove(0);
        due("items() without the first", desk.items(), 3);
        desk.remove(1);
        due("items() without one in the middle", desk.items(), 2);
        due("letter(0, 0)", desk.letter(0, 0), 'b');
        due("letter(1, 0)", desk.letter(1, 0), 'd');
        refused("letter(2, 0)", INDEX, () -> desk.letter(2, 0));
        desk.remove(0);
        desk.remove(0);
        due("items() without any", desk.items(), 0);
        due("many(0)", desk.many(0), 114);
        due("many(1)", desk.many(1), 21);
        refused("remove(0) without any", INDEX, () -> desk.remove(0));
    }

    private static void removeFullDirectory() {
        Desk desk = volume(128, 64, 32);
        desk.directory("d");
        desk.enter(0);
        desk.file("f");
        desk.directory("e");
        desk.up();
        refused("with two items", ARGUMENT, () -> desk.remove(0));
        desk.enter(0);
        desk.remove(0);
        desk.up();
        refused("with a directory", ARGUMENT, () -> desk.remove(0));
        desk.enter(0);
        desk.remove(0);
        desk.file("g");
        desk.up();
        refused("with a file", ARGUMENT, () -> desk.remove(0));
        desk.enter(0);
        desk.remove(0);
        desk.up();
        desk.remove(0);
        due("items() without it", desk.items(), 0);
        Desk two = volume(128, 64, 32);
        two.directory("d");
        two.enter(0);
        for (int i = 0; i < 4; i++) {
            two.file(name((char) ('a' + i), 248));
        }
        for (int i = 0; i < 3; i++) {
            two.remove(0);
        }
        two.up();
        refused("with an item in its second block alone", ARGUMENT, () -> two.remove(0));
        two.enter(0);
        two.remove(0);
        two.up();
        two.remove(0);
        due("both of its blocks are free", two.many(0), 114);
    }

    private static void stampBits() {
        long[] times = {0, 1, -1, 0x7FFFFFFFL, 0x80000000L, 0xFFFFFFFFL, 0x100000000L, 0x1FFFFFFFFL,
            0x123456789ABCDEFL, Long.MIN_VALUE, Long.MAX_VALUE};
        Desk desk = volume(128, 64, 32);
        desk.file("f");
        desk.directory("d");
        for (long time : times) {
            for (int which = 0; which < 3; which++) {
                desk.stamp(1, which, time);
                due("time " + which + " of " + time, desk.about(1, 4 + which), time & 0xFFFFFFFFL);
            }
        }
        for (int which = 0; which < 3; which++) {
            desk.stamp(0, which, 10 + which);
        }
        for (int which = 0; which < 3; which++) {
            due("time " + which + " of the file", desk.about(0, 4 + which), 10 + which);
            due("time " + which + " of the directory", desk.about(1, 4 + which), 0xFFFFFFFFL);
        }
        desk.grow(0, 2000, 0);
        desk.cut(0, 1);
        due("no other call sets a time", desk.about(0, 6), 12);
    }

    private static void stampAnother() {
        Desk desk = withFile();
        int[] others = {-1, 3, 4, MIN, MAX};
        for (int which : others) {
            refused("stamp(0, " + which + ", 5)", ARGUMENT, () -> desk.stamp(0, which, 5));
        }
        due("time 0", desk.about(0, 4), 0);
        due("time 2", desk.about(0, 6), 0);
    }

    /** The calls of item k; the last one's arguments are such that nothing but k can be wrong. */
    private static Story[] callsOf(int k) {
        return new Story[] {
            desk -> desk.letter(k, 0),
            desk -> desk.about(k, 0),
            desk -> desk.content(k, 0),
            desk -> desk.enter(k),
            desk -> desk.write(k),
            desk -> desk.grow(k, 0, 0),
            desk -> desk.cut(k, 0),
            desk -> desk.remove(k),
            desk -> desk.stamp(k, 0, 0),
        };
    }

    /** The same, with whatever else can be wrong. */
    private static Story[] wrongCallsOf(int k) {
        return new Story[] {
            desk -> desk.letter(k, -1),
            desk -> desk.about(k, 7),
            desk -> desk.content(k, -1),
            desk -> desk.grow(k, -1, 0),
            desk -> desk.grow(k, 400001, 0),
            desk -> desk.cut(k, -1),
            desk -> desk.cut(k, MAX),
            desk -> desk.stamp(k, 3, 0),
        };
    }

    private static void eachRefused(String when, Class<?> want, Desk desk, Story[] calls) {
        for (int i = 0; i < calls.length; i++) {
            Story call = calls[i];
            refused("call " + i + " " + when, want, () -> call.tell(desk));
        }
    }

    private static void stateOfEach() {
        Desk desk = new Desk(128);
        eachRefused("of item 0", STATE, desk, callsOf(0));
        refused("items()", STATE, () -> desk.items());
        refused("up()", STATE, () -> desk.up());
        desk.put("a");
        refused("make(false)", STATE, () -> desk.make(false));
        desk.put("a");
        refused("make(true)", STATE, () -> desk.make(true));
        refused("format(65, 12, 0)", ARGUMENT, () -> desk.format(65, 12, 0));
        refused("items() behind a refused format", STATE, () -> desk.items());
        due("format", desk.format(64, 12, 0), 116);
        due("items() behind it", desk.items(), 0);
    }

    private static void indexOfEach() {
        int[] none = {0, 1, -1, MIN, MAX};
        for (int k : none) {
            eachRefused("of item " + k + " of none", INDEX, volume(128, 64, 32), callsOf(k));
        }
        Desk desk = volume(128, 64, 32);
        for (int i = 0; i < 3; i++) {
            desk.directory("d" + i);
        }
        int[] others = {3, 4, -1, -2, MIN, MAX};
        for (int k : others) {
            eachRefused("of item " + k + " of three", INDEX, desk, callsOf(k));
        }
        desk.enter(2);
        eachRefused("of item 0 of none in another", INDEX, desk, callsOf(0));
        desk.up();
        desk.remove(2);
        eachRefused("of item 2 of two", INDEX, desk, callsOf(2));
        due("item 1 is there", desk.about(1, 0), 13);
    }

    private static void stateFirst() {
        Desk desk = new Desk(128);
        int[] items = {0, -1, MAX};
        for (int k : items) {
            eachRefused("of item " + k, STATE, desk, callsOf(k));
            eachRefused("of item " + k + ", with more that is wrong", STATE, desk, wrongCallsOf(k));
        }
        refused("make with an empty tape", STATE, () -> desk.make(false));
        desk.put("/");
        refused("make with a bad name", STATE, () -> desk.make(true));
    }

    private static void indexBeforeArgument() {
        Desk desk = volume(128, 64, 32);
        desk.file("f");
        int[] items = {1, -1, MAX};
        for (int k : items) {
            eachRefused("of item " + k + ", with more that is wrong", INDEX, desk, wrongCallsOf(k));
        }
        leave(desk, 0, 0);
        refused("grow without an item and without blocks", INDEX, () -> desk.grow(1, 5000, 0));
        desk.put("a");
        refused("write without an item and without blocks", INDEX, () -> desk.write(1));
    }

    private static void argumentBeforeUnsupported() {
        Desk desk = volume(128, 64, 12);
        desk.directory("d");
        for (int i = 1; i < 5; i++) {
            desk.file("n" + i);
        }
        leave(desk, 1, 0);
        String[] names = {"", ".", "/", "n1", "d", "\0"};
        for (String name : names) {
            desk.put(name);
            refused("make(true) of \"" + name + "\" on a full disk", ARGUMENT, () -> desk.make(true));
            desk.put(name);
            refused("make(false) of \"" + name + "\" on a full disk", ARGUMENT, () -> desk.make(false));
        }
        desk.put("new");
        refused("make of a new name on a full disk", UNSUPPORTED, () -> desk.make(false));
        desk.put("words");
        refused("write to a directory on a full disk", ARGUMENT, () -> desk.write(0));
        refused("grow of a directory on a full disk", ARGUMENT, () -> desk.grow(0, 5000, 0));
        refused("grow by too much on a full disk", ARGUMENT, () -> desk.grow(2, 400001, 0));
        refused("grow by 400000 on a full disk", UNSUPPORTED, () -> desk.grow(2, 400000, 0));
    }

    /** HERE is not the root, and has a file with an indirect block and a directory with an item. */
    private static void furnished(Desk desk) {
        desk.format(64, 32, 5);
        desk.directory("h");
        desk.file("other");
        desk.enter(0);
        desk.file("f");
        desk.grow(0, 13000, 1);
        desk.stamp(0, 1, 77);
        desk.directory("d");
        desk.enter(1);
        desk.file("x");
        desk.up();
    }

    /** The same with no free block. */
    private static void fullOfBlocks(Desk desk) {
        furnished(desk);
        int g = desk.file("g");
        leave(desk, g, 0);
    }

    /** The same with one free block, and in HERE's block no room for a name of 225. */
    private static void oneBlockLeft(Desk desk) {
        furnished(desk);
        desk.file(name('p', 248));
        desk.file(name('q', 248));
        desk.file(name('r', 236));
        leave(desk, 2, 1);
    }

    /** The same with no free inode. */
    private static void fullOfInodes(Desk desk) {
        furnished(desk);
        for (int i = 0; desk.many(1) > 0; i++) {
            desk.file("n" + i);
        }
    }

    private static void tellRefused(Desk desk, Story call) {
        try {
            call.tell(desk);
        } catch (RuntimeException e) {
            // What it throws is looked at once, in unchanged.
        }
    }

    /** The call is refused behind the story and that tape, and leaves all as the story did, but for the tape. */
    private static void unchanged(String call, Class<?> want, Story story, String tape, Story refusedCall) {
        Story before = desk -> {
            story.tell(desk);
            desk.put(tape);
        };
        Story behind = desk -> {
            before.tell(desk);
            tellRefused(desk, refusedCall);
        };
        Desk once = after(128, before);
        refused(call, want, () -> refusedCall.tell(once));
        same("the disk behind " + call, disk(128, behind), disk(128, before));
        same("what is told behind " + call, after(128, behind).view(), after(128, before).view());
        readyStays(call, before, refusedCall);
    }

    /** What is ready for the tape stays ready; it is read as a name, behind what the tape has still. */
    private static void readyStays(String call, Story before, Story refusedCall) {
        Desk desk = after(128, before);
        desk.feed(0x31323334, 0x35363738, 0x31323334, 0x35363738, 0x41424344);
        tellRefused(desk, refusedCall);
        int had = desk.end(20) - 20;
        desk.format(64, 12, 0);
        desk.make(false);
        due("the first byte that was ready behind " + call, desk.letter(0, had), 0x31);
        due("the last one", desk.letter(0, had + 19), 0x44);
    }

    private static void unchangedWithout() {
        Story nothing = desk -> { };
        Story[] calls = callsOf(0);
        for (int i = 0; i < calls.length; i++) {
            unchanged("call " + i + " without a volume", STATE, nothing, "tape", calls[i]);
        }
        unchanged("items()", STATE, nothing, "tape", desk -> desk.items());
        unchanged("up()", STATE, nothing, "tape", desk -> desk.up());
        unchanged("make(true)", STATE, nothing, "tape", desk -> desk.make(true));
        unchanged("format(64, 11, 0)", ARGUMENT, nothing, "tape", desk -> desk.format(64, 11, 0));
    }

    private static void unchangedIndex() {
        Story[] calls = callsOf(2);
        for (int i = 0; i < calls.length; i++) {
            unchanged("call " + i + " of item 2", INDEX, EdgesTest::furnished, "tape", calls[i]);
        }
        unchanged("remove(-1)", INDEX, EdgesTest::furnished, "tape", desk -> desk.remove(-1));
    }

    private static void unchangedArgument() {
        Story story = EdgesTest::furnished;
        unchanged("format(63, 12, 0)", ARGUMENT, story, "tape", desk -> desk.format(63, 12, 0));
        unchanged("format(64, 11, 0)", ARGUMENT, story, "tape", desk -> desk.format(64, 11, 0));
        unchanged("format(128, 921, 0)", ARGUMENT, story, "tape", desk -> desk.format(128, 921, 0));
        unchanged("about(0, 7)", ARGUMENT, story, "tape", desk -> desk.about(0, 7));
        unchanged("enter(0)", ARGUMENT, story, "tape", desk -> desk.enter(0));
        unchanged("make(false) of a name twice", ARGUMENT, story, "f", desk -> desk.make(false));
        unchanged("make(true) of a name twice", ARGUMENT, story, "d", desk -> desk.make(true));
        unchanged("make(true) of \"..\"", ARGUMENT, story, "..", desk -> desk.make(true));
        unchanged("make(true) without a name", ARGUMENT, story, "", desk -> desk.make(true));
        unchanged("make(true) of a long name", ARGUMENT, story, name('a', 256), desk -> desk.make(true));
        unchanged("write(1)", ARGUMENT, story, "tape", desk -> desk.write(1));
        unchanged("grow(1, 10, 0)", ARGUMENT, story, "tape", desk -> desk.grow(1, 10, 0));
        unchanged("grow(0, 400001, 0)", ARGUMENT, story, "tape", desk -> desk.grow(0, 400001, 0));
        unchanged("grow(0, -1, 0)", ARGUMENT, story, "tape", desk -> desk.grow(0, -1, 0));
        unchanged("cut(1, 0)", ARGUMENT, story, "tape", desk -> desk.cut(1, 0));
        unchanged("cut(0, -1)", ARGUMENT, story, "tape", desk -> desk.cut(0, -1));
        unchanged("cut(0, 13001)", ARGUMENT, story, "tape", desk -> desk.cut(0, 13001));
        unchanged("remove(1)", ARGUMENT, story, "tape", desk -> desk.remove(1));
        unchanged("stamp(0, 3, 9)", ARGUMENT, story, "tape", desk -> desk.stamp(0, 3, 9));
        unchanged("stamp(0, -1, 9)", ARGUMENT, story, "tape", desk -> desk.stamp(0, -1, 9));
    }

    private static void unchangedUnsupported() {
        Story blocks = EdgesTest::fullOfBlocks;
        unchanged("make(true) without a block", UNSUPPORTED, blocks, "new", desk -> desk.make(true));
        unchanged("write(0) without a block", UNSUPPORTED, desk -> {
            fullOfBlocks(desk);
            desk.grow(0, 310, 0);
        }, "tape", desk -> desk.write(0));
        unchanged("grow(0, 400000, 3) without a block", UNSUPPORTED, blocks, "tape",
            desk -> desk.grow(0, 400000, 3));
        unchanged("grow(0, 313, 3) without a block", UNSUPPORTED, blocks, "tape", desk -> desk.grow(0, 313, 3));
        Story one = EdgesTest::oneBlockLeft;
        unchanged("make(true) with one block", UNSUPPORTED, one, name('n', 225), desk -> desk.make(true));
        unchanged("grow(0, 1337, 3) with one block", UNSUPPORTED, one, "tape", desk -> desk.grow(0, 1337, 3));
        Story inodes = EdgesTest::fullOfInodes;
        unchanged("make(false) without an inode", UNSUPPORTED, inodes, "new", desk -> desk.make(false));
        unchanged("make(true) without an inode", UNSUPPORTED, inodes, "new", desk -> desk.make(true));
        unchanged("make(true) of a long name without an inode", UNSUPPORTED, inodes, name('n', 225),
            desk -> desk.make(true));
    }
}
