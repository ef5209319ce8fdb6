import java.util.ArrayList;
import java.util.Arrays;
import java.util.List;

/**
 * What the tests of the document's edges share. They see the public face alone, and use no object
 * for more calls than the document tells of.
 */
class Kit {
    static final Class<?> STATE = IllegalStateException.class;
    static final Class<?> INDEX = IndexOutOfBoundsException.class;
    static final Class<?> ARGUMENT = IllegalArgumentException.class;
    static final Class<?> UNSUPPORTED = UnsupportedOperationException.class;
    static final int MIN = Integer.MIN_VALUE;
    static final int MAX = Integer.MAX_VALUE;
    static final int LIFE = 512;
    private static String words = "";
    private static int sentences = 0;
    private static int wrong = 0;

    /** Calls on a new object, told again on as many objects as it takes to read all that they leave. */
    interface Story {
        void tell(Desk desk);
    }

    /** An object whose calls are counted. */
    static final class Desk {
        private final InodeDesk inside;
        private int calls = 0;

        Desk(int blocks) {
            inside = new InodeDesk(blocks);
        }

        int left() {
            return LIFE - calls;
        }

        private InodeDesk next() {
            calls++;
            if (calls > LIFE) {
                throw new AssertionError("a test makes more calls than the document tells of: " + words);
            }
            return inside;
        }

        void feed(int a, int b, int c, int d, int e) {
            next().feed(a, b, c, d, e);
        }

        int end(int n) {
            return next().end(n);
        }

        int format(int p, int inodes, int id) {
            return next().format(p, inodes, id);
        }

        int byteAt(int at) {
            return next().byteAt(at);
        }

        int fault() {
            return next().fault();
        }

        int many(int what) {
            return next().many(what);
        }

        int items() {
            return next().items();
        }

        int letter(int k, int i) {
            return next().letter(k, i);
        }

        long about(int k, int what) {
            return next().about(k, what);
        }

        int content(int k, int at) {
            return next().content(k, at);
        }

        int enter(int k) {
            return next().enter(k);
        }

        boolean up() {
            return next().up();
        }

        int make(boolean directory) {
            return next().make(directory);
        }

        int write(int k) {
            return next().write(k);
        }

        int grow(int k, int n, int seed) {
            return next().grow(k, n, seed);
        }

        int cut(int k, int size) {
            return next().cut(k, size);
        }

        void remove(int k) {
            next().remove(k);
        }

        void stamp(int k, int which, long time) {
            next().stamp(k, which, time);
        }

        /** The text comes to the tape, by as few calls as do. */
        void put(String text) {
            for (int from = 0; from < text.length(); from += 20) {
                int[] word = new int[5];
                int n = Math.min(20, text.length() - from);
                for (int i = 0; i < n; i++) {
                    word[i / 4] |= text.charAt(from + i) << 24 - 8 * (i % 4);
                }
                feed(word[0], word[1], word[2], word[3], word[4]);
                end(n);
            }
        }

        int file(String name) {
            put(name);
            return make(false);
        }

        int directory(String name) {
            put(name);
            return make(true);
        }

        /** The number that stands there, in so many bytes. */
        long number(int at, int bytes) {
            long value = 0;
            for (int i = bytes - 1; i >= 0; i--) {
                value = value << 8 | byteAt(at + i);
            }
            return value;
        }

        /** What can be told of the volume and of HERE without the disk's bytes. */
        String view() {
            List<Long> seen = new ArrayList<>();
            for (int what = 0; what < 4; what++) {
                seen.add((long) many(what));
            }
            if (many(2) != InodeDesk.NONE) {
                int items = items();
                for (int k = 0; k < items; k++) {
                    for (int what = 0; what < 7; what++) {
                        seen.add(about(k, what));
                    }
                }
                while (up()) {
                    seen.add((long) items());
                }
            }
            return seen.toString();
        }
    }

    /** Runs the test of one sentence, whose words stand in front of what goes wrong in it. */
    static void sentence(String sentence, Runnable test) {
        words = sentence;
        sentences++;
        int before = wrong;
        try {
            test.run();
        } catch (RuntimeException e) {
            fail("a call threw " + e);
        }
        if (wrong > before) {
            System.out.println((wrong - before) + " wrong of \"" + words + "\"");
        }
    }

    static void finish(String name) {
        System.out.println(name + ": " + sentences + " sentences, " + wrong + " wrong");
        if (wrong != 0) {
            System.exit(1);
        }
    }

    private static void fail(String what) {
        wrong++;
        if (wrong <= 50) {
            System.out.println("\"" + words + "\": " + what);
        }
    }

    static void due(String call, long got, long want) {
        if (got != want) {
            fail(call + " answered " + got + ", due is " + want);
        }
    }

    static void due(String call, boolean got, boolean want) {
        due(call, got ? 1 : 0, want ? 1 : 0);
    }

    static void same(String what, String got, String want) {
        if (!got.equals(want)) {
            fail(what + ": " + got + ", due is " + want);
        }
    }

    static void same(String what, int[] got, int[] want) {
        int at = Arrays.mismatch(got, want);
        if (at >= 0) {
            fail(what + ": " + got.length + " bytes, byte " + at + " differs");
        }
    }

    static void refused(String call, Class<?> want, Runnable run) {
        String got;
        try {
            run.run();
            got = "no exception";
        } catch (RuntimeException e) {
            // The very class: what the machine throws is often of a class below.
            got = e.getClass() == want ? null : e.toString();
        }
        if (got != null) {
            fail(call + " gave " + got + ", due is " + want);
        }
    }

    static Desk volume(int blocks, int p, int inodes) {
        Desk desk = new Desk(blocks);
        desk.format(p, inodes, 0);
        return desk;
    }

    static Desk after(int blocks, Story story) {
        Desk desk = new Desk(blocks);
        story.tell(desk);
        return desk;
    }

    /** The bytes of so many blocks from that one on, as the story leaves them. */
    static int[] disk(int blocks, Story story, int first, int count) {
        int[] bytes = new int[1024 * count];
        int at = 0;
        while (at < bytes.length) {
            Desk desk = after(blocks, story);
            if (desk.left() < 1) {
                throw new AssertionError("a story leaves no call to read the disk: " + words);
            }
            int behind = Math.min(bytes.length, at + desk.left());
            while (at < behind) {
                bytes[at] = desk.byteAt(1024 * first + at);
                at++;
            }
        }
        return bytes;
    }

    static int[] disk(int blocks, Story story) {
        return disk(blocks, story, 0, blocks);
    }

    /** The number that stands there in bytes of the disk. */
    static long number(int[] bytes, int at, int count) {
        long value = 0;
        for (int i = count - 1; i >= 0; i--) {
            value = value << 8 | bytes[at + i];
        }
        return value;
    }

    /** A name of so many letters that begins with the given one. */
    static String name(char first, int letters) {
        return first + "-".repeat(letters - 1);
    }

    /** The empty file grows until so many blocks are free; an indirect one comes with more than twelve. */
    static void leave(Desk desk, int file, int free) {
        int cost = desk.many(0) - free;
        desk.grow(file, 1024 * (cost > 12 ? cost - 1 : cost), 0);
    }

    /** Byte i of those by which a file grows. */
    static int grown(int seed, int i) {
        return (int) (seed + (long) i * i + (i >> 8) & 255);
    }
}
