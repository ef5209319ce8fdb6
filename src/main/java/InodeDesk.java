import java.util.Arrays;

/** A volume of inodes on a disk of blocks; README.md tells how it is used. */
public final class InodeDesk {
    public static final int NONE = -1;

    private static final int BLOCK = 1024;
    private static final int LEAST_BLOCKS = 128;
    private static final int MOST_BLOCKS = 512;
    private static final int LEAST_INODES = 12;
    private static final int MOST_INODES = 2000;
    private static final int SPARE_BLOCKS = 8;
    private static final int MOST_GROWTH = 400000;
    private static final int MOST_NAME = 255;

    private static final int ROOT = 2;
    private static final int LAST_RESERVED = 11;
    // At most eight groups round the wanted inodes up, each by fewer than eight.
    private static final int INODE_LIMIT = MOST_INODES + 64;

    private static final int DESCRIPTORS = 1;
    private static final int BLOCK_MAP = 2;
    private static final int INODE_MAP = 3;
    private static final int FIRST_INODES = 4;
    private static final int DESCRIPTOR = 32;
    private static final int SUPER_FREE_BLOCKS = 12;
    private static final int SUPER_FREE_INODES = 16;
    private static final int SUPER_GROUP = 90;
    private static final int SUPER_ID = 104;
    private static final int GROUP_FREE_BLOCKS = 12;
    private static final int GROUP_FREE_INODES = 14;
    private static final int GROUP_DIRECTORIES = 16;

    private static final int INODE_BYTES = 128;
    private static final int DIRECTORY_MODE = 16877;
    private static final int FILE_MODE = 33188;
    private static final int SIZE = 4;
    private static final int TIMES = 8;
    private static final int LINKS = 26;
    private static final int TWICE_BLOCKS = 28;
    private static final int POINTERS = 40;
    private static final int INDIRECT = 88;
    private static final int DOUBLY = 92;
    private static final int DIRECT = 12;
    private static final int ROW = 256;
    private static final int FIRST_DOUBLY = DIRECT + ROW;

    private static final int ENTRY_HEAD = 8;
    private static final int ENTRY_LENGTH = 4;
    private static final int ENTRY_NAME_LENGTH = 6;
    private static final int ENTRY_KIND = 7;
    private static final int DOT_LENGTH = 12;
    private static final int DOT = 46;
    private static final int SLASH = 47;

    private final Disk disk;
    private final Layout layout;
    private final Pool blockPool;
    private final Pool inodePool;
    private final Inodes inodes;
    private final Listing listing;
    private final Heads heads;
    private final Checker checker;
    private final Tape tape;
    private boolean made;
    private int here;

    public InodeDesk(int blocks) {
        int kept = Math.max(LEAST_BLOCKS, Math.min(MOST_BLOCKS, blocks));
        disk = new Disk(kept);
        layout = new Layout(kept);
        blockPool = new Pool(disk, layout, BLOCK_MAP);
        inodePool = new Pool(disk, layout, INODE_MAP);
        inodes = new Inodes(disk, layout, blockPool);
        listing = new Listing(disk, inodes);
        heads = new Heads(layout, blockPool, inodePool, inodes);
        checker = new Checker(disk, layout, blockPool, inodePool, inodes, listing, heads);
        tape = new Tape();
        here = ROOT;
    }

    public void feed(int a, int b, int c, int d, int e) {
        tape.prepare(0, a);
        tape.prepare(1, b);
        tape.prepare(2, c);
        tape.prepare(3, d);
        tape.prepare(4, e);
    }

    public int end(int n) {
        return tape.bring(n);
    }

    public int format(int P, int inodes, int id) throws IllegalArgumentException {
        if (!layout.choose(P, inodes)) {
            throw new IllegalArgumentException("no volume can be made so on this disk");
        }
        disk.fill(0, disk.length(), 0);
        blockPool.lay();
        inodePool.lay();
        heads.lay(disk, id);
        for (int i = 1; i <= LAST_RESERVED; i++) {
            inodePool.take();
        }
        this.inodes.begin(ROOT, true);
        this.inodes.countDirectories(ROOT, 1);
        listing.layDots(this.inodes.addDirectoryBlock(ROOT), ROOT, ROOT);
        made = true;
        here = ROOT;
        return blockPool.free();
    }

    public int byteAt(int at) {
        if (at < 0 || at >= disk.length()) {
            return NONE;
        }
        int block = at / BLOCK;
        boolean hidden = made && block > 0 && !blockPool.isUsed(block);
        return hidden ? NONE : disk.get(at);
    }

    public int fault() {
        if (!made) {
            return NONE;
        }
        return checker.allHolds(here) ? 0 : 1;
    }

    public int many(int what) {
        if (!made) {
            return NONE;
        }
        switch (what) {
            case 0:
                return blockPool.free();
            case 1:
                return inodePool.free();
            case 2:
                return layout.groups();
            case 3:
                return layout.groupInodes();
            default:
                return NONE;
        }
    }

    public int items() throws IllegalStateException {
        needVolume();
        listing.read(here);
        return listing.itemCount();
    }

    public int letter(int k, int i) throws IllegalStateException, IndexOutOfBoundsException {
        return listing.letterOf(itemHere(k), i);
    }

    public long about(int k, int what)
            throws IllegalStateException, IndexOutOfBoundsException, IllegalArgumentException {
        int inode = listing.inodeOf(itemHere(k));
        switch (what) {
            case 0:
                return inode;
            case 1:
                return inodes.isDirectory(inode) ? 1 : 0;
            case 2:
                return inodes.size(inode);
            case 3:
                return inodes.links(inode);
            case 4:
            case 5:
            case 6:
                return inodes.time(inode, what - 4);
            default:
                throw new IllegalArgumentException("there is nothing such to tell");
        }
    }

    public int content(int k, int at) throws IllegalStateException, IndexOutOfBoundsException {
        int inode = listing.inodeOf(itemHere(k));
        if (inodes.isDirectory(inode) || at < 0 || at >= inodes.size(inode)) {
            return NONE;
        }
        return disk.get(inodes.blockOf(inode, at / BLOCK) * BLOCK + at % BLOCK);
    }

    public int enter(int k)
            throws IllegalStateException, IndexOutOfBoundsException, IllegalArgumentException {
        int inode = listing.inodeOf(itemHere(k));
        if (!inodes.isDirectory(inode)) {
            throw new IllegalArgumentException("a file can't be entered");
        }
        here = inode;
        listing.read(here);
        return listing.itemCount();
    }

    public boolean up() throws IllegalStateException {
        needVolume();
        if (here == ROOT) {
            return false;
        }
        listing.read(here);
        here = listing.parent();
        return true;
    }

    public int make(boolean directory)
            throws IllegalStateException, IllegalArgumentException, UnsupportedOperationException {
        int length = tape.drain();
        needVolume();
        listing.read(here);
        if (!tape.isName(length) || listing.has(tape, length)) {
            throw new IllegalArgumentException("the tape is no name for a new item here");
        }
        int room = listing.roomFor(length);
        int wanted = directory ? 1 : 0;
        if (room == NONE) {
            wanted += inodes.costOf(here, BLOCK);
        }
        if (inodePool.free() < 1 || blockPool.free() < wanted) {
            throw new UnsupportedOperationException("there is no free inode, or too few blocks are free");
        }
        int inode = inodePool.take();
        int entry = room == NONE ? listing.open(inodes.addDirectoryBlock(here)) : listing.split(room);
        listing.fillEntry(entry, inode, directory, tape, length);
        inodes.begin(inode, directory);
        if (directory) {
            inodes.countDirectories(inode, 1);
            inodes.addLinks(here, 1);
            listing.layDots(inodes.addDirectoryBlock(inode), inode, here);
        }
        listing.read(here);
        return listing.numberOf(entry);
    }

    public int write(int k) throws IllegalStateException, IndexOutOfBoundsException,
            IllegalArgumentException, UnsupportedOperationException {
        int length = tape.drain();
        int inode = fileAt(itemHere(k));
        needBlocks(inodes.costOf(inode, length));
        return inodes.append(inode, tape, length);
    }

    public int grow(int k, int n, int seed) throws IllegalStateException, IndexOutOfBoundsException,
            IllegalArgumentException, UnsupportedOperationException {
        int inode = fileAt(itemHere(k));
        if (n < 0 || n > MOST_GROWTH) {
            throw new IllegalArgumentException("a file can't grow by so many bytes");
        }
        needBlocks(inodes.costOf(inode, n));
        return inodes.append(inode, new Pattern(seed), n);
    }

    public int cut(int k, int size)
            throws IllegalStateException, IndexOutOfBoundsException, IllegalArgumentException {
        int inode = fileAt(itemHere(k));
        if (size < 0 || size > inodes.size(inode)) {
            throw new IllegalArgumentException("the file has not so many bytes to keep");
        }
        return inodes.shorten(inode, size);
    }

    public void remove(int k)
            throws IllegalStateException, IndexOutOfBoundsException, IllegalArgumentException {
        int place = itemHere(k);
        int inode = listing.inodeOf(place);
        boolean directory = inodes.isDirectory(inode);
        if (directory) {
            listing.read(inode);
            if (listing.itemCount() > 0) {
                throw new IllegalArgumentException("the directory has items");
            }
            listing.read(here);
            inodes.addLinks(here, -1);
            inodes.countDirectories(inode, -1);
        }
        listing.drop(place);
        inodes.shorten(inode, 0);
        inodes.erase(inode);
        inodePool.giveBack(inode);
    }

    public void stamp(int k, int which, long time)
            throws IllegalStateException, IndexOutOfBoundsException, IllegalArgumentException {
        int inode = listing.inodeOf(itemHere(k));
        if (which < 0 || which > 2) {
            throw new IllegalArgumentException("an item has three times");
        }
        inodes.setTime(inode, which, time);
    }

    private void needVolume() {
        if (!made) {
            throw new IllegalStateException("there is no volume");
        }
    }

    /** Where item k of HERE stands in the listing, which is read anew. */
    private int itemHere(int k) {
        needVolume();
        listing.read(here);
        int place = listing.placeOf(k);
        if (place == NONE) {
            throw new IndexOutOfBoundsException("there is no such item here");
        }
        return place;
    }

    /** The inode of the item at that place in the listing, which must be a file. */
    private int fileAt(int place) {
        int inode = listing.inodeOf(place);
        if (inodes.isDirectory(inode)) {
            throw new IllegalArgumentException("the item is a directory");
        }
        return inode;
    }

    private void needBlocks(int wanted) {
        if (blockPool.free() < wanted) {
            throw new UnsupportedOperationException("too few blocks are free");
        }
    }

    /** The bytes; those that are not there are read as 0, and writing them does nothing. */
    private static final class Disk {
        private final byte[] bytes;

        Disk(int blocks) {
            bytes = new byte[Math.max(1, blocks) * BLOCK];
        }

        int length() {
            return bytes.length;
        }

        int get(int at) {
            return at >= 0 && at < bytes.length ? bytes[at] & 255 : 0;
        }

        void put(int at, int value) {
            if (at >= 0 && at < bytes.length) {
                bytes[at] = (byte) value;
            }
        }

        int get2(int at) {
            if (at < 0 || at > bytes.length - 2) {
                return 0;
            }
            return bytes[at] & 255 | (bytes[at + 1] & 255) << 8;
        }

        void put2(int at, int value) {
            if (at >= 0 && at <= bytes.length - 2) {
                bytes[at] = (byte) value;
                bytes[at + 1] = (byte) (value >> 8);
            }
        }

        int get4(int at) {
            if (at < 0 || at > bytes.length - 4) {
                return 0;
            }
            return bytes[at] & 255 | (bytes[at + 1] & 255) << 8
                    | (bytes[at + 2] & 255) << 16 | (bytes[at + 3] & 255) << 24;
        }

        void put4(int at, int value) {
            if (at >= 0 && at <= bytes.length - 4) {
                bytes[at] = (byte) value;
                bytes[at + 1] = (byte) (value >> 8);
                bytes[at + 2] = (byte) (value >> 16);
                bytes[at + 3] = (byte) (value >> 24);
            }
        }

        void fill(int from, int to, int value) {
            if (from >= 0 && from <= to && to <= bytes.length) {
                Arrays.fill(bytes, from, to, (byte) value);
            }
        }

        void copy(int from, int to, int count) {
            if (count >= 0 && from >= 0 && to >= 0
                    && from <= bytes.length - count && to <= bytes.length - count) {
                System.arraycopy(bytes, from, bytes, to, count);
            }
        }

        boolean isZero(int from, int to) {
            int at = from;
            while (at <= to - 4) {
                if (get4(at) != 0) {
                    return false;
                }
                at += 4;
            }
            while (at < to) {
                if (get(at) != 0) {
                    return false;
                }
                at++;
            }
            return true;
        }
    }

    /** How the disk is parted into groups, and where their parts stand. */
    private static final class Layout {
        private final int blocks;
        private int groupBlocks;
        private int groups;
        private int groupInodes;

        Layout(int blocks) {
            this.blocks = blocks;
        }

        /** False, and all stays as it was, if no volume can be parted so. */
        boolean choose(int size, int wanted) {
            boolean known = size == 64 || size == 128 || size == 256;
            if (!known || wanted < LEAST_INODES || wanted > MOST_INODES) {
                return false;
            }
            int count = (blocks - 1 + size - 1) / size;
            if (count < 1) {
                return false;
            }
            int rows = (wanted + 8 * count - 1) / (8 * count);
            int last = blocks - 1 - (count - 1) * size;
            if (last < FIRST_INODES + rows + SPARE_BLOCKS) {
                return false;
            }
            groupBlocks = size;
            groups = count;
            groupInodes = 8 * rows;
            return true;
        }

        int blocks() {
            return blocks;
        }

        int groups() {
            return groups;
        }

        int groupBlocks() {
            return groupBlocks;
        }

        int groupInodes() {
            return groupInodes;
        }

        int inodes() {
            return groups * groupInodes;
        }

        int fixedBlocks() {
            return FIRST_INODES + groupInodes / 8;
        }

        int firstBlock(int group) {
            return 1 + group * groupBlocks;
        }

        int blocksIn(int group) {
            return Math.min(groupBlocks, blocks - firstBlock(group));
        }

        /** Where the group's block of that number in it begins. */
        int partAt(int group, int part) {
            return (1 + group * groupBlocks + part) * BLOCK;
        }

        int groupOfInode(int inode) {
            return groupInodes > 0 ? (inode - 1) / groupInodes : 0;
        }

        int inodeAt(int inode) {
            if (groupInodes < 1) {
                return NONE;
            }
            int first = 1 + (inode - 1) / groupInodes * groupBlocks + FIRST_INODES;
            return first * BLOCK + (inode - 1) % groupInodes * INODE_BYTES;
        }
    }

    /** The blocks, or the inodes, numbered from 1 on: which are used, by the groups' maps. */
    private static final class Pool {
        private final Disk disk;
        private final Layout layout;
        private final int map;
        private final int superCount;
        private final int groupCount;
        private int each;

        Pool(Disk disk, Layout layout, int map) {
            this.disk = disk;
            this.layout = layout;
            this.map = map;
            superCount = map == BLOCK_MAP ? SUPER_FREE_BLOCKS : SUPER_FREE_INODES;
            groupCount = map == BLOCK_MAP ? GROUP_FREE_BLOCKS : GROUP_FREE_INODES;
        }

        /** How many of a group's bits stand for something. */
        private int realIn(int group) {
            return map == BLOCK_MAP ? layout.blocksIn(group) : layout.groupInodes();
        }

        /** Maps in which only the fixed blocks are used. */
        void lay() {
            each = map == BLOCK_MAP ? layout.groupBlocks() : layout.groupInodes();
            int first = map == BLOCK_MAP ? layout.fixedBlocks() : 0;
            for (int group = 0; group < layout.groups(); group++) {
                int at = layout.partAt(group, map);
                disk.fill(at, at + BLOCK, 255);
                for (int bit = first; bit < realIn(group); bit++) {
                    disk.put(at + bit / 8, disk.get(at + bit / 8) & ~(1 << bit % 8));
                }
            }
        }

        int free() {
            return disk.get4(BLOCK + superCount);
        }

        int freeIn(int group) {
            int at = layout.partAt(group, map);
            int count = 0;
            for (int i = 0; i < each / 8; i++) {
                count += 8 - Integer.bitCount(disk.get(at + i));
            }
            return count;
        }

        boolean isUsed(int number) {
            if (each < 1 || number < 1) {
                return true;
            }
            int bit = (number - 1) % each;
            return (disk.get(layout.partAt((number - 1) / each, map) + bit / 8) >> bit % 8 & 1) == 1;
        }

        /** The lowest that is free, used from now on; NONE if all are used. */
        int take() {
            for (int group = 0; group < layout.groups(); group++) {
                int at = layout.partAt(group, map);
                for (int i = 0; i < each / 8; i++) {
                    if (disk.get(at + i) != 255) {
                        int number = 1 + group * each + 8 * i + lowestClear(disk.get(at + i));
                        mark(number, true);
                        return number;
                    }
                }
            }
            return NONE;
        }

        void giveBack(int number) {
            if (number >= 1 && isUsed(number)) {
                mark(number, false);
            }
        }

        private static int lowestClear(int bits) {
            int bit = 0;
            while (bit < 7 && (bits >> bit & 1) == 1) {
                bit++;
            }
            return bit;
        }

        private void mark(int number, boolean used) {
            if (each < 1) {
                return;
            }
            int group = (number - 1) / each;
            int bit = (number - 1) % each;
            int at = layout.partAt(group, map) + bit / 8;
            int value = 1 << bit % 8;
            disk.put(at, used ? disk.get(at) | value : disk.get(at) & ~value);
            int change = used ? -1 : 1;
            for (int copy = 0; copy < layout.groups(); copy++) {
                int all = layout.partAt(copy, 0) + superCount;
                int one = layout.partAt(copy, DESCRIPTORS) + DESCRIPTOR * group + groupCount;
                disk.put4(all, disk.get4(all) + change);
                disk.put2(one, disk.get2(one) + change);
            }
        }

        /** Whether the bits behind the last one are 1. */
        boolean tailHolds(int group) {
            int from = realIn(group);
            int at = layout.partAt(group, map);
            for (int i = from / 8; i < BLOCK; i++) {
                int due = i == from / 8 ? 255 << from % 8 & 255 : 255;
                if ((disk.get(at + i) & due) != due) {
                    return false;
                }
            }
            return true;
        }
    }

    /** The superblock and the descriptors. */
    private static final class Heads {
        private final Layout layout;
        private final Pool blockPool;
        private final Pool inodePool;
        private final Inodes inodes;

        Heads(Layout layout, Pool blockPool, Pool inodePool, Inodes inodes) {
            this.layout = layout;
            this.blockPool = blockPool;
            this.inodePool = inodePool;
            this.inodes = inodes;
        }

        /** Writes the first group's and copies it to the others. */
        void lay(Disk disk, int id) {
            sketch(disk, BLOCK, id);
            for (int group = 1; group < layout.groups(); group++) {
                int at = layout.partAt(group, 0);
                disk.copy(BLOCK, at, 2 * BLOCK);
                disk.put2(at + SUPER_GROUP, group);
            }
        }

        /** Both blocks as they must be by the maps and the inodes, where all is 0. */
        void sketch(Disk to, int at, int id) {
            int freeBlocks = 0;
            int freeInodes = 0;
            for (int group = 0; group < layout.groups(); group++) {
                freeBlocks += blockPool.freeIn(group);
                freeInodes += inodePool.freeIn(group);
                describe(to, at + BLOCK + DESCRIPTOR * group, group);
            }
            to.put4(at, layout.inodes());
            to.put4(at + 4, layout.blocks());
            to.put4(at + SUPER_FREE_BLOCKS, freeBlocks);
            to.put4(at + SUPER_FREE_INODES, freeInodes);
            to.put4(at + 20, 1);
            to.put4(at + 32, layout.groupBlocks());
            to.put4(at + 36, layout.groupBlocks());
            to.put4(at + 40, layout.groupInodes());
            to.put2(at + 54, 65535);
            to.put2(at + 56, 61267);
            to.put2(at + 58, 1);
            to.put2(at + 60, 1);
            to.put4(at + 76, 1);
            to.put4(at + 84, LAST_RESERVED);
            to.put2(at + 88, INODE_BYTES);
            to.put4(at + 96, 2);
            to.put4(at + SUPER_ID, id);
        }

        private void describe(Disk to, int at, int group) {
            int first = layout.firstBlock(group);
            to.put4(at, first + BLOCK_MAP);
            to.put4(at + 4, first + INODE_MAP);
            to.put4(at + 8, first + FIRST_INODES);
            to.put2(at + GROUP_FREE_BLOCKS, blockPool.freeIn(group));
            to.put2(at + GROUP_FREE_INODES, inodePool.freeIn(group));
            to.put2(at + GROUP_DIRECTORIES, inodes.directoriesIn(group));
        }
    }

    /** The inodes, and the blocks that they point to. */
    private static final class Inodes {
        private final Disk disk;
        private final Layout layout;
        private final Pool blockPool;

        Inodes(Disk disk, Layout layout, Pool blockPool) {
            this.disk = disk;
            this.layout = layout;
            this.blockPool = blockPool;
        }

        boolean isDirectory(int inode) {
            return disk.get2(layout.inodeAt(inode)) == DIRECTORY_MODE;
        }

        int size(int inode) {
            return disk.get4(layout.inodeAt(inode) + SIZE);
        }

        private void setSize(int inode, int size) {
            disk.put4(layout.inodeAt(inode) + SIZE, size);
        }

        int links(int inode) {
            return disk.get2(layout.inodeAt(inode) + LINKS);
        }

        void addLinks(int inode, int change) {
            int at = layout.inodeAt(inode) + LINKS;
            disk.put2(at, disk.get2(at) + change);
        }

        long time(int inode, int which) {
            return disk.get4(layout.inodeAt(inode) + TIMES + 4 * which) & 0xFFFFFFFFL;
        }

        void setTime(int inode, int which, long time) {
            disk.put4(layout.inodeAt(inode) + TIMES + 4 * which, (int) time);
        }

        int directoriesIn(int group) {
            int count = 0;
            int first = layout.partAt(group, FIRST_INODES);
            for (int i = 0; i < layout.groupInodes(); i++) {
                if (disk.get2(first + i * INODE_BYTES) == DIRECTORY_MODE) {
                    count++;
                }
            }
            return count;
        }

        /** Its group has one directory more, or fewer, in each copy of the descriptors. */
        void countDirectories(int inode, int change) {
            int group = layout.groupOfInode(inode);
            for (int copy = 0; copy < layout.groups(); copy++) {
                int at = layout.partAt(copy, DESCRIPTORS) + DESCRIPTOR * group + GROUP_DIRECTORIES;
                disk.put2(at, disk.get2(at) + change);
            }
        }

        void begin(int inode, boolean directory) {
            int at = layout.inodeAt(inode);
            disk.put2(at, directory ? DIRECTORY_MODE : FILE_MODE);
            disk.put2(at + LINKS, directory ? 2 : 1);
        }

        void erase(int inode) {
            int at = layout.inodeAt(inode);
            disk.fill(at, at + INODE_BYTES, 0);
        }

        static int blocksFor(int size) {
            return (size + BLOCK - 1) / BLOCK;
        }

        /** So many blocks and the indirect ones that they need. */
        static int withIndirect(int count) {
            if (count <= DIRECT) {
                return count;
            }
            if (count <= FIRST_DOUBLY) {
                return count + 1;
            }
            return count + 2 + (count - FIRST_DOUBLY + ROW - 1) / ROW;
        }

        /** How many blocks it takes to have so many bytes more. */
        int costOf(int inode, int bytes) {
            int size = size(inode);
            return withIndirect(blocksFor(size + bytes)) - withIndirect(blocksFor(size));
        }

        int blockOf(int inode, int n) {
            return disk.get4(pointerAt(layout.inodeAt(inode), n));
        }

        /** Where the pointer to block n stands, for the inode whose bytes begin at at. */
        private int pointerAt(int at, int n) {
            if (n < DIRECT) {
                return at + POINTERS + 4 * n;
            }
            if (n < FIRST_DOUBLY) {
                return disk.get4(at + INDIRECT) * BLOCK + 4 * (n - DIRECT);
            }
            int row = disk.get4(at + DOUBLY) * BLOCK + 4 * ((n - FIRST_DOUBLY) / ROW);
            return disk.get4(row) * BLOCK + 4 * ((n - FIRST_DOUBLY) % ROW);
        }

        /** Where the doubly indirect block points to the indirect one of block n. */
        private int rowPointerAt(int at, int n) {
            return disk.get4(at + DOUBLY) * BLOCK + 4 * ((n - FIRST_DOUBLY) / ROW);
        }

        private static boolean beginsRow(int n) {
            return n >= FIRST_DOUBLY && (n - FIRST_DOUBLY) % ROW == 0;
        }

        /** Block n, the next one, comes to the inode, and before it what must point to it. */
        private void addBlock(int inode, int n) {
            int at = layout.inodeAt(inode);
            if (n == DIRECT) {
                gain(at, at + INDIRECT);
            }
            if (n == FIRST_DOUBLY) {
                gain(at, at + DOUBLY);
            }
            if (beginsRow(n)) {
                gain(at, rowPointerAt(at, n));
            }
            gain(at, pointerAt(at, n));
        }

        private void gain(int at, int pointer) {
            int block = blockPool.take();
            if (block == NONE) {
                return;
            }
            disk.fill(block * BLOCK, block * BLOCK + BLOCK, 0);
            disk.put4(pointer, block);
            disk.put4(at + TWICE_BLOCKS, disk.get4(at + TWICE_BLOCKS) + 2);
        }

        /** Block n, the last one, goes, and then what needs not point any more. */
        private void dropBlock(int inode, int n) {
            int at = layout.inodeAt(inode);
            lose(at, pointerAt(at, n));
            if (n == DIRECT) {
                lose(at, at + INDIRECT);
            }
            if (beginsRow(n)) {
                lose(at, rowPointerAt(at, n));
            }
            if (n == FIRST_DOUBLY) {
                lose(at, at + DOUBLY);
            }
        }

        private void lose(int at, int pointer) {
            blockPool.giveBack(disk.get4(pointer));
            disk.put4(pointer, 0);
            disk.put4(at + TWICE_BLOCKS, disk.get4(at + TWICE_BLOCKS) - 2);
        }

        int addDirectoryBlock(int inode) {
            int n = blocksFor(size(inode));
            addBlock(inode, n);
            setSize(inode, (n + 1) * BLOCK);
            return blockOf(inode, n);
        }

        /** The first so many bytes of the source come behind those of the file: its size. */
        int append(int inode, Source source, int count) {
            int size = size(inode);
            int blocks = blocksFor(size + count);
            for (int n = blocksFor(size); n < blocks; n++) {
                addBlock(inode, n);
            }
            setSize(inode, size + count);
            int base = blockOf(inode, size / BLOCK) * BLOCK;
            for (int i = 0; i < count; i++) {
                int in = (size + i) % BLOCK;
                if (in == 0) {
                    base = blockOf(inode, (size + i) / BLOCK) * BLOCK;
                }
                disk.put(base + in, source.valueAt(i));
            }
            return size + count;
        }

        /** Only the first so many bytes stay: how many blocks became free. */
        int shorten(int inode, int size) {
            int before = blockPool.free();
            int kept = blocksFor(size);
            for (int n = blocksFor(size(inode)) - 1; n >= kept; n--) {
                dropBlock(inode, n);
            }
            setSize(inode, size);
            return blockPool.free() - before;
        }
    }

    /** The entries of one directory in their order, empty ones too, as they were last read. */
    private static final class Listing {
        private final Disk disk;
        private final Inodes inodes;
        // Only the first entry of a block is ever empty; two more are "." and "..".
        private final int[] entries = new int[INODE_LIMIT + MOST_BLOCKS + 2];
        private int count;

        Listing(Disk disk, Inodes inodes) {
            this.disk = disk;
            this.inodes = inodes;
        }

        void read(int directory) {
            count = 0;
            int blocks = Math.min(MOST_BLOCKS, Inodes.blocksFor(inodes.size(directory)));
            for (int n = 0; n < blocks; n++) {
                int base = inodes.blockOf(directory, n) * BLOCK;
                int in = 0;
                while (in < BLOCK && count < entries.length) {
                    entries[count] = base + in;
                    count++;
                    in += Math.max(ENTRY_HEAD, disk.get2(base + in + ENTRY_LENGTH));
                }
            }
        }

        int count() {
            return count;
        }

        int entryAt(int place) {
            return place >= 0 && place < count ? entries[place] : NONE;
        }

        int inodeOf(int place) {
            return disk.get4(entryAt(place));
        }

        int lengthOf(int place) {
            return disk.get2(entryAt(place) + ENTRY_LENGTH);
        }

        int nameLengthOf(int place) {
            return disk.get(entryAt(place) + ENTRY_NAME_LENGTH);
        }

        int letterOf(int place, int i) {
            int entry = entryAt(place);
            boolean inside = i >= 0 && i < disk.get(entry + ENTRY_NAME_LENGTH);
            return inside ? disk.get(entry + ENTRY_HEAD + i) : NONE;
        }

        int usedBy(int place) {
            int entry = entryAt(place);
            return disk.get4(entry) == 0 ? 0 : spaceFor(disk.get(entry + ENTRY_NAME_LENGTH));
        }

        static int spaceFor(int nameLength) {
            return (ENTRY_HEAD + nameLength + 3) / 4 * 4;
        }

        int parent() {
            return inodeOf(1);
        }

        int itemCount() {
            int items = 0;
            for (int place = 2; place < count; place++) {
                if (inodeOf(place) != 0) {
                    items++;
                }
            }
            return items;
        }

        /** The place of item k; NONE if there is none such. */
        int placeOf(int k) {
            int number = 0;
            for (int place = 2; place < count; place++) {
                if (inodeOf(place) != 0) {
                    if (number == k) {
                        return place;
                    }
                    number++;
                }
            }
            return NONE;
        }

        /** Which item stands in that entry; NONE if none does. */
        int numberOf(int entry) {
            int number = 0;
            for (int place = 2; place < count; place++) {
                if (entryAt(place) == entry) {
                    return number;
                }
                if (inodeOf(place) != 0) {
                    number++;
                }
            }
            return NONE;
        }

        boolean has(Source name, int length) {
            for (int place = 2; place < count; place++) {
                if (inodeOf(place) != 0 && isNamed(place, name, length)) {
                    return true;
                }
            }
            return false;
        }

        private boolean isNamed(int place, Source name, int length) {
            if (nameLengthOf(place) != length) {
                return false;
            }
            for (int i = 0; i < length; i++) {
                if (letterOf(place, i) != name.valueAt(i)) {
                    return false;
                }
            }
            return true;
        }

        /** The first place with room for an entry with such a name; NONE if there is none. */
        int roomFor(int nameLength) {
            int wanted = spaceFor(nameLength);
            for (int place = 0; place < count; place++) {
                if (lengthOf(place) - usedBy(place) >= wanted) {
                    return place;
                }
            }
            return NONE;
        }

        /** Where a new entry that is alone in its block begins, with its length there already. */
        int open(int block) {
            disk.put2(block * BLOCK + ENTRY_LENGTH, BLOCK);
            return block * BLOCK;
        }

        /** Where a new entry behind what that one uses begins, with its length there already. */
        int split(int place) {
            int old = entryAt(place);
            int kept = usedBy(place);
            int length = lengthOf(place);
            disk.put2(old + ENTRY_LENGTH, kept);
            disk.put2(old + kept + ENTRY_LENGTH, length - kept);
            return old + kept;
        }

        /** The first two entries of a directory, in its new block. */
        void layDots(int block, int inode, int parent) {
            int first = block * BLOCK;
            disk.put4(first, inode);
            disk.put2(first + ENTRY_LENGTH, DOT_LENGTH);
            disk.put(first + ENTRY_NAME_LENGTH, 1);
            disk.put(first + ENTRY_KIND, 2);
            disk.put(first + ENTRY_HEAD, DOT);
            int second = first + DOT_LENGTH;
            disk.put4(second, parent);
            disk.put2(second + ENTRY_LENGTH, BLOCK - DOT_LENGTH);
            disk.put(second + ENTRY_NAME_LENGTH, 2);
            disk.put(second + ENTRY_KIND, 2);
            disk.put2(second + ENTRY_HEAD, DOT << 8 | DOT);
        }

        void fillEntry(int entry, int inode, boolean directory, Source name, int nameLength) {
            int length = disk.get2(entry + ENTRY_LENGTH);
            disk.fill(entry, entry + spaceFor(nameLength), 0);
            disk.put4(entry, inode);
            disk.put2(entry + ENTRY_LENGTH, length);
            disk.put(entry + ENTRY_NAME_LENGTH, nameLength);
            disk.put(entry + ENTRY_KIND, directory ? 2 : 1);
            for (int i = 0; i < nameLength; i++) {
                disk.put(entry + ENTRY_HEAD + i, name.valueAt(i));
            }
        }

        void drop(int place) {
            int entry = entryAt(place);
            if (entry % BLOCK == 0) {
                disk.put4(entry, 0);
            } else {
                int both = lengthOf(place - 1) + lengthOf(place);
                disk.put2(entryAt(place - 1) + ENTRY_LENGTH, both);
            }
        }
    }

    /** Bytes that can come to a file. */
    private abstract static class Source {
        abstract int valueAt(int i);
    }

    /** The bytes by which a file grows. */
    private static final class Pattern extends Source {
        private final int seed;

        Pattern(int seed) {
            this.seed = seed;
        }

        int valueAt(int i) {
            return seed + i * i + (i >> 8) & 255;
        }
    }

    /** The tape, and the bytes that are ready for it. */
    private static final class Tape extends Source {
        private final byte[] bytes = new byte[4096];
        private final byte[] ready = new byte[20];
        private int length;

        void prepare(int word, int value) {
            for (int i = 0; i < 4; i++) {
                int at = 4 * word + i;
                if (at >= 0 && at < ready.length) {
                    ready[at] = (byte) (value >> 24 - 8 * i);
                }
            }
        }

        int bring(int n) {
            if (n < 0 || n > ready.length || n > bytes.length - length) {
                return NONE;
            }
            System.arraycopy(ready, 0, bytes, length, n);
            Arrays.fill(ready, (byte) 0);
            length += n;
            return length;
        }

        /** Uses the tape up: how many bytes it had. They can be read until more are brought. */
        int drain() {
            int had = length;
            length = 0;
            return had;
        }

        int valueAt(int i) {
            return i >= 0 && i < bytes.length ? bytes[i] & 255 : 0;
        }

        /** Whether the first so many bytes can be a name. */
        boolean isName(int n) {
            if (n < 1 || n > MOST_NAME) {
                return false;
            }
            for (int i = 0; i < n; i++) {
                if (valueAt(i) == 0 || valueAt(i) == SLASH) {
                    return false;
                }
            }
            boolean dots = valueAt(0) == DOT && (n == 1 || n == 2 && valueAt(1) == DOT);
            return !dots;
        }
    }

    /** Looks whether all that the document tells of a volume holds. */
    private static final class Checker {
        private final Disk disk;
        private final Layout layout;
        private final Pool blockPool;
        private final Pool inodePool;
        private final Inodes inodes;
        private final Listing listing;
        private final Heads heads;
        private final Disk draft = new Disk(2);
        private final byte[] claimed;
        // The directory that has the inode as an item, and its "..", if it is a directory; 0 if none was seen.
        private final int[] holders = new int[INODE_LIMIT + 1];
        private final int[] parents = new int[INODE_LIMIT + 1];

        Checker(Disk disk, Layout layout, Pool blockPool, Pool inodePool, Inodes inodes,
                Listing listing, Heads heads) {
            this.disk = disk;
            this.layout = layout;
            this.blockPool = blockPool;
            this.inodePool = inodePool;
            this.inodes = inodes;
            this.listing = listing;
            this.heads = heads;
            claimed = new byte[Math.max(1, layout.blocks())];
        }

        boolean allHolds(int here) {
            claimFixed();
            Arrays.fill(holders, 0);
            Arrays.fill(parents, 0);
            return inodesHold() && directoriesHold() && treeHolds() && mapsHold()
                    && headsHold() && inodes.isDirectory(here);
        }

        private void claimFixed() {
            Arrays.fill(claimed, (byte) 0);
            for (int group = 0; group < layout.groups(); group++) {
                for (int k = 0; k < layout.fixedBlocks(); k++) {
                    claim(layout.firstBlock(group) + k);
                }
            }
        }

        /** False if there is no such block, or if it has been claimed before. */
        private boolean claim(int block) {
            if (block < 1 || block >= claimed.length || claimed[block] != 0) {
                return false;
            }
            claimed[block] = 1;
            return true;
        }

        private boolean inodesHold() {
            for (int inode = 1; inode <= layout.inodes(); inode++) {
                int at = layout.inodeAt(inode);
                boolean live = inode == ROOT || inode > LAST_RESERVED && inodePool.isUsed(inode);
                if (live ? !inodeHolds(at) : !disk.isZero(at, at + INODE_BYTES)) {
                    return false;
                }
            }
            return true;
        }

        private boolean inodeHolds(int at) {
            int mode = disk.get2(at);
            int size = disk.get4(at + SIZE);
            if (mode != DIRECTORY_MODE && mode != FILE_MODE || size < 0 || size > disk.length()) {
                return false;
            }
            int count = Inodes.blocksFor(size);
            return disk.isZero(at + 2, at + SIZE)
                    && disk.isZero(at + TIMES + 12, at + LINKS)
                    && disk.get4(at + TWICE_BLOCKS) == 2 * Inodes.withIndirect(count)
                    && disk.isZero(at + TWICE_BLOCKS + 4, at + POINTERS)
                    && disk.isZero(at + DOUBLY + 4, at + INODE_BYTES)
                    && pointersHold(at, count);
        }

        private boolean pointersHold(int at, int count) {
            int behind = Math.max(0, count - DIRECT);
            int doubly = Math.max(0, count - FIRST_DOUBLY);
            if (!rowHolds(at + POINTERS, DIRECT, count)
                    || !rowHolds(at + INDIRECT, 1, behind)
                    || !rowHolds(at + DOUBLY, 1, doubly)) {
                return false;
            }
            if (behind > 0 && !rowHolds(disk.get4(at + INDIRECT) * BLOCK, ROW, behind)) {
                return false;
            }
            int top = disk.get4(at + DOUBLY) * BLOCK;
            int rows = (doubly + ROW - 1) / ROW;
            if (rows > 0 && !rowHolds(top, ROW, rows)) {
                return false;
            }
            for (int row = 0; row < rows; row++) {
                if (!rowHolds(disk.get4(top + 4 * row) * BLOCK, ROW, doubly - ROW * row)) {
                    return false;
                }
            }
            return true;
        }

        /** Whether the first so many of these pointers point to blocks of their own, the others to none. */
        private boolean rowHolds(int at, int pointers, int used) {
            for (int i = 0; i < pointers; i++) {
                int block = disk.get4(at + 4 * i);
                if (i < used ? !claim(block) : block != 0) {
                    return false;
                }
            }
            return true;
        }

        private boolean directoriesHold() {
            for (int inode = ROOT; inode <= layout.inodes(); inode++) {
                if (inodes.isDirectory(inode)) {
                    listing.read(inode);
                    if (inodes.size(inode) % BLOCK != 0 || !dotsHold(inode) || !itemsHold(inode)) {
                        return false;
                    }
                    if (inode < parents.length) {
                        parents[inode] = listing.parent();
                    }
                }
            }
            return true;
        }

        private boolean dotsHold(int inode) {
            return listing.count() >= 2 && entryHolds(0) && entryHolds(1)
                    && listing.inodeOf(0) == inode && listing.lengthOf(0) == DOT_LENGTH
                    && listing.nameLengthOf(0) == 1 && listing.letterOf(0, 0) == DOT
                    && listing.nameLengthOf(1) == 2 && listing.letterOf(1, 0) == DOT
                    && listing.letterOf(1, 1) == DOT && inodes.isDirectory(listing.parent());
        }

        private boolean itemsHold(int directory) {
            int links = 2;
            for (int place = 2; place < listing.count(); place++) {
                if (!entryHolds(place)) {
                    return false;
                }
                int inode = listing.inodeOf(place);
                if (inode != 0) {
                    if (!nameHolds(place) || !hold(inode, directory)) {
                        return false;
                    }
                    links += inodes.isDirectory(inode) ? 1 : 0;
                }
            }
            return inodes.links(directory) == links;
        }

        /** Whether its length, kind and fill are right; an empty one stands only where a block begins. */
        private boolean entryHolds(int place) {
            int entry = listing.entryAt(place);
            int length = listing.lengthOf(place);
            int inode = listing.inodeOf(place);
            boolean fits = length >= DOT_LENGTH && length % 4 == 0 && entry % BLOCK + length <= BLOCK
                    && length >= listing.usedBy(place);
            if (inode == 0) {
                return fits && entry % BLOCK == 0;
            }
            int kind = inodes.isDirectory(inode) ? 2 : 1;
            int behind = entry + ENTRY_HEAD + listing.nameLengthOf(place);
            return fits && disk.get(entry + ENTRY_KIND) == kind
                    && disk.isZero(behind, entry + listing.usedBy(place));
        }

        private boolean nameHolds(int place) {
            int length = listing.nameLengthOf(place);
            for (int i = 0; i < length; i++) {
                int letter = listing.letterOf(place, i);
                if (letter == 0 || letter == SLASH) {
                    return false;
                }
            }
            for (int other = 0; other < place; other++) {
                if (listing.inodeOf(other) != 0 && sameName(other, place)) {
                    return false;
                }
            }
            return length > 0;
        }

        private boolean sameName(int one, int other) {
            int first = listing.entryAt(one) + ENTRY_NAME_LENGTH;
            int second = listing.entryAt(other) + ENTRY_NAME_LENGTH;
            int length = disk.get(first);
            if (length != disk.get(second)) {
                return false;
            }
            int toName = ENTRY_HEAD - ENTRY_NAME_LENGTH;
            for (int i = 0; i < length; i++) {
                if (disk.get(first + toName + i) != disk.get(second + toName + i)) {
                    return false;
                }
            }
            return true;
        }

        /** False if it can't be an item, or if it is one already. */
        private boolean hold(int inode, int directory) {
            if (inode <= LAST_RESERVED || inode > layout.inodes() || inode >= holders.length
                    || holders[inode] != 0) {
                return false;
            }
            holders[inode] = directory;
            return true;
        }

        private int holderOf(int inode) {
            return inode >= 0 && inode < holders.length ? holders[inode] : 0;
        }

        private int parentOf(int inode) {
            return inode >= 0 && inode < parents.length ? parents[inode] : 0;
        }

        /** Whether each used inode is an item, and each directory below the root. */
        private boolean treeHolds() {
            for (int inode = LAST_RESERVED + 1; inode <= layout.inodes(); inode++) {
                boolean held = holderOf(inode) != 0;
                if (held != inodePool.isUsed(inode)) {
                    return false;
                }
                if (held && !inodes.isDirectory(inode) && inodes.links(inode) != 1) {
                    return false;
                }
                if (inodes.isDirectory(inode) && !parentHolds(inode)) {
                    return false;
                }
            }
            return inodes.isDirectory(ROOT) && parentOf(ROOT) == ROOT;
        }

        private boolean parentHolds(int directory) {
            if (parentOf(directory) != holderOf(directory)) {
                return false;
            }
            int above = directory;
            for (int i = 0; i < INODE_LIMIT && above != ROOT && above != 0; i++) {
                above = holderOf(above);
            }
            return above == ROOT;
        }

        private boolean mapsHold() {
            for (int block = 1; block < claimed.length; block++) {
                if (blockPool.isUsed(block) != (claimed[block] != 0)) {
                    return false;
                }
            }
            for (int inode = 1; inode <= LAST_RESERVED; inode++) {
                if (!inodePool.isUsed(inode)) {
                    return false;
                }
            }
            for (int group = 0; group < layout.groups(); group++) {
                if (!blockPool.tailHolds(group) || !inodePool.tailHolds(group)) {
                    return false;
                }
            }
            return true;
        }

        private boolean headsHold() {
            draft.fill(0, draft.length(), 0);
            heads.sketch(draft, 0, disk.get4(BLOCK + SUPER_ID));
            for (int group = 0; group < layout.groups(); group++) {
                draft.put2(SUPER_GROUP, group);
                int at = layout.partAt(group, 0);
                for (int i = 0; i < draft.length(); i++) {
                    if (disk.get(at + i) != draft.get(i)) {
                        return false;
                    }
                }
            }
            return true;
        }
    }
}
