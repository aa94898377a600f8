/** What the tests of edges share. */
final class Edges {
    static final int LEAST = Integer.MIN_VALUE;
    static final int MOST = Integer.MAX_VALUE;

    private Edges() {
    }

    /** Works are in all spaces of a chest but those of a set. */
    static void keepFree(WoodenTurk x, int chest, int free) {
        for (int s = 0; s < 16; s++) {
            x.works(chest, s, (free >>> s & 1) == 0);
        }
    }

    static int[] film(WoodenTurk x, int chest, int show) {
        int[] views = new int[Math.max(0, x.run(chest, show, 0))];
        for (int i = 0; i < views.length; i++) {
            views[i] = x.seen(chest, show, i);
        }
        return views;
    }

    static int[] run(WoodenTurk x, int chest, int show) {
        return new int[] {x.run(chest, show, 0), x.run(chest, show, 1), x.run(chest, show, 2), x.run(chest, show, 3)};
    }

    static int[] hide(WoodenTurk x, int chest, int show, int size) {
        return new int[] {x.hide(chest, show, size, 0), x.hide(chest, show, size, 1), x.hide(chest, show, size, 2)};
    }

    static int[] way(WoodenTurk x, int chest, int show, int size) {
        int[] poses = new int[x.run(chest, show, 0) + 1];
        for (int k = 0; k < poses.length; k++) {
            poses[k] = x.way(chest, show, size, k);
        }
        return poses;
    }

    /** An order of chest 0: spaces seen, how many doors, each of them. */
    static int[] order(WoodenTurk x, int doors, int wait, int size) {
        int count = x.order(0, doors, wait, size, 1);
        int[] told = new int[Math.max(0, count) + 2];
        told[0] = x.order(0, doors, wait, size, 0);
        told[1] = count;
        for (int k = 0; k < count; k++) {
            told[2 + k] = x.order(0, doors, wait, size, 2 + k);
        }
        return told;
    }

    /** What text(k) answers, then the fault and its place. */
    static int[] text(WoodenTurk x, int k, String text) {
        return new int[] {Texts.read(x, k, text), x.fault(0), x.fault(1)};
    }

    static int[] reasons(WoodenTurk x, int count) {
        int[] told = new int[count];
        for (int k = 0; k < count; k++) {
            told[k] = x.reason(k);
        }
        return told;
    }
}
