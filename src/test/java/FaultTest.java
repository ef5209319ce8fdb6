import java.lang.reflect.Field;
import java.util.Arrays;
import java.util.Random;

/**
 * Promise 6: fault() looks whether all holds. No call can spoil a volume, so this test reaches for
 * the bytes behind the object, spoils them one after another and puts them right again.
 */
public final class FaultTest {
    private static int wrong = 0;
    private static InodeDesk desk;
    private static byte[] disk;
    private static Field here;

    public static void main(String[] args) throws ReflectiveOperationException {
        build();
        due("as it was made", 0);
        fixedBlocks();
        pointers();
        entries();
        wholeTree();
        sharedBlock();
        reservedInodes();
        itemsInodes();
        manyFaults();
        buildLarge();
        doublyIndirect();
        emptyEntry();
        longNames();
        System.out.println("FaultTest: " + wrong + " wrong");
        if (wrong != 0) {
            System.exit(1);
        }
    }

    private static void due(String what, int want) {
        int got = desk.fault();
        if (got != want) {
            wrong++;
            System.out.println(what + ": fault() answered " + got + ", due is " + want);
        }
    }

    private static void name(String name) {
        int word = 0;
        for (int i = 0; i < 4; i++) {
            word = word << 8 | (i < name.length() ? name.charAt(i) : 0);
        }
        desk.feed(word, 0, 0, 0, 0);
        desk.end(name.length());
    }

    private static int make(String name, boolean directory) {
        name(name);
        return desk.make(directory);
    }

    /**
     * Inode 12 "f", a file of 13000 bytes; 13 "d", a directory with 14 "e", a directory, and 15 "x";
     * root's block 7, f's 8 to 19, 20 its indirect one, 21; d's 22, e's 23.
     */
    private static void build() throws ReflectiveOperationException {
        desk = new InodeDesk(128);
        desk.format(64, 32, 0x01020304);
        make("f", false);
        desk.grow(0, 13000, 1);
        desk.stamp(0, 1, 77);
        make("d", true);
        desk.enter(1);
        make("e", true);
        make("x", false);
        reach();
    }

    /** Inode 12 is a file of 280000 bytes; the root's second block begins with an empty entry. */
    private static void buildLarge() throws ReflectiveOperationException {
        desk = new InodeDesk(512);
        desk.format(256, 100, 9);
        make("f", false);
        desk.grow(0, 280000, 1);
        for (int i = 0; desk.items() < 8; i++) {
            for (int j = 0; j < 12; j++) {
                desk.feed(0x2D2D2D2D, 0x2D2D2D2D, 0x2D2D2D2D, 0x2D2D2D2D, 0x2D2D2D2D);
                desk.end(20);
            }
            make("" + i, false);
        }
        desk.remove(4);
        reach();
    }

    private static void reach() throws ReflectiveOperationException {
        Field field = InodeDesk.class.getDeclaredField("disk");
        field.setAccessible(true);
        Object inside = field.get(desk);
        Field bytes = inside.getClass().getDeclaredField("bytes");
        bytes.setAccessible(true);
        disk = (byte[]) bytes.get(inside);
        here = InodeDesk.class.getDeclaredField("here");
        here.setAccessible(true);
    }

    private static void spoil(String what, int at, int value, int want) {
        byte kept = disk[at];
        disk[at] = (byte) value;
        due(what + " (byte " + at + " is " + value + ")", want);
        disk[at] = kept;
    }

    private static void flip(String what, int at, int want) {
        for (int bit = 0; bit < 8; bit += 7) {
            spoil(what, at, disk[at] ^ 1 << bit, want);
        }
    }

    private static int inodeAt(int inode) {
        return 1024 * (5 + 64 * ((inode - 1) / 16)) + 128 * ((inode - 1) % 16);
    }

    /** Times are free, and so are the sizes of a file that have the same blocks. */
    private static boolean isFree(int at) {
        int[] live = {2, 12, 13, 14, 15};
        for (int inode : live) {
            int in = at - inodeAt(inode);
            if (in >= 8 && in < 20 || inode == 12 && (in == 4 || in == 5)) {
                return true;
            }
        }
        return false;
    }

    private static void fixedBlocks() {
        for (int group = 0; group < 2; group++) {
            for (int at = 1024 * (1 + 64 * group); at < 1024 * (7 + 64 * group); at++) {
                if (!isFree(at)) {
                    flip("a fixed block", at, 1);
                }
            }
        }
        spoil("a time", inodeAt(13) + 8, 5, 0);
        spoil("a size with the same blocks", inodeAt(12) + 4, 1, 0);
        due("put right again", 0);
    }

    private static void pointers() {
        for (int at = 20 * 1024; at < 21 * 1024; at++) {
            flip("the indirect block", at, 1);
        }
        spoil("a block of two inodes", inodeAt(12) + 40, 22, 1);
        spoil("a fixed block as a file's", inodeAt(12) + 40, 3, 1);
        spoil("block 0 as a file's", inodeAt(12) + 40, 0, 1);
        spoil("a file's byte", 8 * 1024, 99, 0);
        spoil("links of a file", inodeAt(12) + 26, 2, 1);
        spoil("links of a directory", inodeAt(13) + 26, 2, 1);
        due("put right again", 0);
    }

    private static void entries() {
        int[] heads = {7 * 1024, 7 * 1024 + 12, 7 * 1024 + 24, 7 * 1024 + 36,
            22 * 1024, 22 * 1024 + 12, 22 * 1024 + 24, 22 * 1024 + 36, 23 * 1024, 23 * 1024 + 12};
        for (int head : heads) {
            for (int i = 0; i < 8; i++) {
                flip("an entry", head + i, 1);
            }
            spoil("a name with a 0", head + 8, 0, 1);
            spoil("a name with a slash", head + 8, 47, 1);
            spoil("what fills up a name", head + 11, 1, 1);
        }
        spoil("another name", 7 * 1024 + 24 + 8, 'z', 0);
        spoil("a name twice", 7 * 1024 + 24 + 8, 'd', 1);
        spoil("an item that is named \".\"", 7 * 1024 + 24 + 8, '.', 1);
        spoil("the name of \".\"", 7 * 1024 + 8, 'a', 1);
        spoil("the second dot", 7 * 1024 + 12 + 9, 'a', 1);
        spoil("behind the last entry", 7 * 1024 + 48, 1, 0);
        due("put right again", 0);
    }

    private static void wholeTree() {
        spoil("\"..\" of d is e", 22 * 1024 + 12, 14, 1);
        spoil("\"..\" of e is the root", 23 * 1024 + 12, 2, 1);
        spoil("\"..\" of the root is d", 7 * 1024 + 12, 13, 1);
        // d and e hold one another, away from the root; all else is as it must be for that.
        byte[] kept = disk.clone();
        disk[7 * 1024 + 24 + 4] = (byte) (1000 % 256);
        disk[7 * 1024 + 24 + 5] = (byte) (1000 / 256);
        disk[inodeAt(2) + 26] = 2;
        disk[22 * 1024 + 12] = 14;
        disk[23 * 1024 + 12 + 4] = 12;
        disk[23 * 1024 + 12 + 5] = 0;
        disk[23 * 1024 + 24] = 13;
        disk[23 * 1024 + 28] = (byte) (1000 % 256);
        disk[23 * 1024 + 29] = (byte) (1000 / 256);
        disk[23 * 1024 + 30] = 1;
        disk[23 * 1024 + 31] = 2;
        disk[23 * 1024 + 32] = 'd';
        disk[inodeAt(14) + 26] = 3;
        due("a ring of directories", 1);
        System.arraycopy(kept, 0, disk, 0, disk.length);
        due("put right again", 0);
    }

    /** The file has a block of d, and its own one is free: all counts and maps are right. */
    private static void sharedBlock() {
        byte[] kept = disk.clone();
        disk[inodeAt(12) + 40] = 22;
        disk[3 * 1024] &= (byte) ~(1 << 7);
        for (int head = 1; head < 128; head += 64) {
            disk[1024 * head + 12]++;
            disk[1024 * head + 1024 + 12]++;
        }
        due("a block of two inodes, all else right", 1);
        System.arraycopy(kept, 0, disk, 0, disk.length);
        due("put right again", 0);
    }

    /** The map and all counts tell that an inode of group 0 is free. */
    private static void tellFree(int inode) {
        disk[4 * 1024 + (inode - 1) / 8] &= (byte) ~(1 << (inode - 1) % 8);
        for (int head = 1; head < 128; head += 64) {
            disk[1024 * head + 16]++;
            disk[1024 * head + 1024 + 14]++;
        }
    }

    private static void reservedInodes() {
        byte[] kept = disk.clone();
        for (int inode = 1; inode <= 11; inode++) {
            tellFree(inode);
            due("inode " + inode + " is free, all else right", 1);
            System.arraycopy(kept, 0, disk, 0, disk.length);
        }
        due("put right again", 0);
    }

    /** The inode of the item "x" is free, all else is right, and its entry has another one. */
    private static void itemsInodes() {
        byte[] kept = disk.clone();
        int[] others = {1, 3, 11, 12, 15, 16, 32, 33};
        for (int inode : others) {
            tellFree(15);
            Arrays.fill(disk, inodeAt(15), inodeAt(16), (byte) 0);
            disk[22 * 1024 + 36] = (byte) inode;
            due("an item with inode " + inode, 1);
            System.arraycopy(kept, 0, disk, 0, disk.length);
        }
        due("put right again", 0);
    }

    private static int number(int at) {
        return disk[at] & 255 | (disk[at + 1] & 255) << 8;
    }

    private static void doublyIndirect() {
        due("a large file", 0);
        int doubly = 1024 * number(1024 * 5 + 128 * 11 + 92);
        int row = 1024 * number(doubly);
        for (int i = 0; i < 1024; i++) {
            flip("the doubly indirect block", doubly + i, 1);
            flip("its indirect block", row + i, 1);
        }
        due("put right again", 0);
    }

    private static void emptyEntry() {
        int second = 1024 * number(1024 * 5 + 128 + 44);
        if (number(second) != 0 || number(second + 4) == 0) {
            wrong++;
            System.out.println("the root's second block does not begin with an empty entry");
        }
        int length = number(second + 4);
        spoil("an empty entry that is longer", second + 4, length + 4, 1);
        spoil("an empty entry that is shorter", second + 4, length - 4, 1);
        spoil("an empty entry of length 0", second + 4, 0, 1);
        spoil("an empty entry that crosses the block", second + 5, 5, 1);
        spoil("what stays of an empty entry", second + 6, 3, 0);
        spoil("what stays of an empty entry", second + 7, 9, 0);
        spoil("what stays of an empty entry", second + 8, 0, 0);
        int next = second + length;
        spoil("an empty entry that is not the first", next, 0, 1);
        spoil("an item with the name that stays in an empty entry", next + 8 + 240, disk[second + 8 + 240], 0);
        due("put right again", 0);
    }

    /** The second item's name has 241 letters, as the third's has, and only its last one differs. */
    private static void longNames() {
        int root = 1024 * number(1024 * 5 + 128 + 40);
        int second = root + 36;
        int third = second + 252;
        spoil("a letter in the middle of a name", second + 8 + 100, 'x', 0);
        spoil("the last letter that makes two names alike", second + 8 + 240, disk[third + 8 + 240], 1);
        spoil("the first letter of what must not be two dots", second + 8, '.', 0);
        due("put right again", 0);
    }

    /** Whatever stands on the disk, calls end, and throw nothing but what the document names. */
    private static void manyFaults() throws ReflectiveOperationException {
        byte[] kept = disk.clone();
        Random random = new Random(6);
        for (int i = 0; i < 3000; i++) {
            here.setInt(desk, random.nextBoolean() ? 2 : 13);
            int spoiled = 1 + random.nextInt(200);
            for (int j = 0; j < spoiled; j++) {
                int block = random.nextInt(3) == 0 ? 1 + random.nextInt(127) : 1 + random.nextInt(24);
                disk[1024 * block + random.nextInt(1024)] = (byte) random.nextInt();
                disk[inodeAt(12 + random.nextInt(4)) + random.nextInt(128)] = (byte) random.nextInt();
                disk[1024 * (random.nextBoolean() ? 7 : 22) + random.nextInt(60)] = (byte) random.nextInt();
            }
            for (int call = 0; call < 20; call++) {
                anyCall(random);
            }
            System.arraycopy(kept, 0, disk, 0, disk.length);
        }
        here.setInt(desk, 14);
        due("put right again", 0);
        here.setInt(desk, 12);
        due("HERE is a file", 1);
    }

    private static void anyCall(Random random) {
        int k = random.nextInt(3);
        int n = random.nextInt(20000);
        try {
            switch (random.nextInt(12)) {
                case 0: desk.fault(); break;
                case 1: desk.items(); break;
                case 2: desk.letter(k, n % 10); break;
                case 3: desk.about(k, n % 8); break;
                case 4: desk.content(k, n); break;
                case 5: desk.enter(k); break;
                case 6: desk.up(); break;
                case 7: make("n" + n % 100, n % 3 == 0); break;
                case 8: desk.grow(k, n, 0); break;
                case 9: desk.cut(k, n % 3000); break;
                case 10: desk.remove(k); break;
                default: name("abc"); desk.write(k); break;
            }
        } catch (RuntimeException e) {
            Class<?> kind = e.getClass();
            if (kind != IllegalStateException.class && kind != IndexOutOfBoundsException.class
                    && kind != IllegalArgumentException.class && kind != UnsupportedOperationException.class) {
                wrong++;
                System.out.println("on a spoiled disk: " + e + " at " + e.getStackTrace()[0]);
            }
        }
    }
}
