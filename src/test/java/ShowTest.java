/** Promises 10 to 13: shows second by second, and hiding in them. */
public final class ShowTest {
    private static final Check c = new Check();

    public static void main(String[] args) {
        seen();
        candles();
        sides();
        run();
        wrongAsks();
        hide();
        hideWithoutPoses();
        way();
        longShow();
        c.end();
    }

    private static int[] film(WoodenTurk x, int chest, int show) {
        int[] views = new int[x.run(chest, show, 0)];
        for (int i = 0; i < views.length; i++) {
            views[i] = x.seen(chest, show, i);
        }
        return views;
    }

    private static void seen() {
        c.test("10 what is seen behind each step, for all its seconds");
        WoodenTurk x = new WoodenTurk();
        x.door(0, 0, 0, 3, false);
        x.door(0, 9, 0, 6, false);
        Texts.read(x, 0, "open 0; wait 2; open 0; open 9; shut 0; shut 0; wait 1; shut 9; open 5;");
        c.row("film", film(x, 0, 0), 3, 3, 3, 3, 7, 6, 6, 6, 0, 0);
        x.works(0, 1, true);
        c.due("works of an open door are seen", x.seen(0, 0, 0), 3);
        c.row("another chest", film(x, 1, 0), 0, 0, 0, 0, 0, 0, 0, 0, 0, 0);
    }

    private static void candles() {
        c.test("10 a candle shows the neighbours behind spaces without works");
        WoodenTurk x = new WoodenTurk();
        x.door(0, 0, 0, 7, false);
        x.door(0, 1, 0, 0x18, false);
        x.works(0, 1, true);
        x.works(0, 10, true);
        x.wall(0, 0, 8, true);
        Texts.read(x, 0, "open 0; candle 0; open 1; candle 1; dark; candle 0; shut 0;");
        c.row("film", film(x, 0, 0), 0x7, 0x507, 0x51F, 0x181F, 0x1F, 0x51F, 0x18);
        x.door(0, 0, 0, 7, true);
        c.row("a false door", film(x, 0, 0), 0x7, 0x7, 0x1F, 0x181F, 0x1F, 0x1F, 0x18);
    }

    private static void sides() {
        c.test("10 doors of the side to the watchers alone");
        WoodenTurk x = new WoodenTurk();
        x.door(0, 0, 0, 1, false);
        x.door(0, 1, 1, 0x8100, false);
        Texts.read(x, 0, "candle 1; open 1; turn; open 0; wait 2; turn; turn;");
        c.row("film", film(x, 0, 0), 0, 0, 0x8181, 0x8181, 0x8181, 0x8181, 1, 0x8181);
        Texts.read(x, 1, "open 1; turn;");
        c.row("every show begins anew", film(x, 0, 1), 0, 0x8100);
    }

    private static void run() {
        c.test("11 seconds, all seen, most open, turns");
        WoodenTurk x = new WoodenTurk();
        x.door(1, 0, 0, 1, false);
        x.door(1, 1, 1, 0x0200, false);
        Texts.read(x, 0, "open 0; open 1; open 2; shut 2; wait 20; turn; turn; turn; shut 0; open 0;");
        c.row("run", new int[] {x.run(1, 0, 0), x.run(1, 0, 1), x.run(1, 0, 2), x.run(1, 0, 3)}, 29, 0x201, 3, 3);
        Texts.read(x, 1, "open 4; open 4; shut 5; open 6;");
        c.due("the same door counts once", x.run(1, 1, 2), 2);
        c.row("empty", new int[] {x.run(1, 2, 0), x.run(1, 2, 1), x.run(1, 2, 2), x.run(1, 2, 3)}, 0, 0, 0, 0);
    }

    private static void wrongAsks() {
        c.test("10 to 13 wrong asks");
        WoodenTurk x = new WoodenTurk();
        Texts.read(x, 0, "wait 5;");
        c.row("seen", new int[] {x.seen(0, 0, 4), x.seen(0, 0, 5), x.seen(0, 0, -1), x.seen(0, 1, 0), x.seen(3, 0, 0),
            x.seen(-1, 0, 0), x.seen(0, 4, 0), x.seen(0, -1, 0)}, 0, -1, -1, -1, -1, -1, -1, -1);
        c.row("run", new int[] {x.run(0, 0, 4), x.run(0, 0, -1), x.run(3, 0, 0), x.run(0, 4, 0), x.run(-1, -1, 0)},
            -1, -1, -1, -1, -1);
        c.row("hide", new int[] {x.hide(0, 0, 1, 3), x.hide(0, 0, 1, -1), x.hide(0, 0, 0, 0), x.hide(0, 0, 5, 0),
            x.hide(3, 0, 1, 0), x.hide(0, 4, 1, 0)}, -1, -1, -1, -1, -1, -1);
        c.row("way", new int[] {x.way(0, 0, 1, 5), x.way(0, 0, 1, 6), x.way(0, 0, 1, -1), x.way(0, 0, 0, 0),
            x.way(0, 0, 5, 0), x.way(3, 0, 1, 0), x.way(0, 4, 1, 0)}, 1, -1, -1, -1, -1, -1, -1);
    }

    /** Three spaces in a row: 0, 1, 2; each has a door of its own. */
    private static WoodenTurk corridor() {
        WoodenTurk x = new WoodenTurk();
        for (int s = 3; s < 16; s++) {
            x.works(0, s, true);
        }
        for (int s = 0; s < 3; s++) {
            x.door(0, s, 0, 1 << s, false);
        }
        return x;
    }

    private static void hide() {
        c.test("12 he stays or moves once a second");
        WoodenTurk x = corridor();
        Texts.read(x, 0, "open 0; shut 0; open 2; open 1; open 0;");
        c.row("size 1", new int[] {x.hide(0, 0, 1, 0), x.hide(0, 0, 1, 1), x.hide(0, 0, 1, 2)}, 0, 4, 0);
        c.row("size 2", new int[] {x.hide(0, 0, 2, 0), x.hide(0, 0, 2, 1), x.hide(0, 0, 2, 2)}, 0, 3, 0);
        c.row("size 3", new int[] {x.hide(0, 0, 3, 0), x.hide(0, 0, 3, 1), x.hide(0, 0, 3, 2)}, 0, 0, 0);
        Texts.read(x, 0, "open 0; open 1; shut 1; shut 0; open 2;");
        c.row("size 1", new int[] {x.hide(0, 0, 1, 0), x.hide(0, 0, 1, 1), x.hide(0, 0, 1, 2)}, 1, -1, 2);
        Texts.read(x, 0, "open 0; open 1; shut 0; shut 1; shut 2; open 2; open 1;");
        c.row("to the other end", new int[] {x.hide(0, 0, 1, 0), x.hide(0, 0, 1, 1), x.hide(0, 0, 1, 2)}, 1, -1, 1);
        x.wall(0, 0, 1, true);
        c.row("behind a wall", new int[] {x.hide(0, 0, 1, 0), x.hide(0, 0, 1, 1), x.hide(0, 0, 1, 2)}, 0, 6, 0);
        c.due("no show", x.hide(0, 1, 2, 2), 1);
    }

    private static void hideWithoutPoses() {
        c.test("12 nobody hides where there is no pose");
        WoodenTurk x = corridor();
        Texts.read(x, 0, "turn;");
        c.row("size 4", new int[] {x.hide(0, 0, 4, 0), x.hide(0, 0, 4, 1), x.hide(0, 0, 4, 2)}, 0, 0, 0);
        c.due("no way", x.way(0, 0, 4, 0), -1);
        c.row("no show", new int[] {x.hide(0, 1, 4, 0), x.hide(0, 1, 4, 1), x.hide(0, 1, 4, 2)}, 0, 0, 0);
        c.due("no way", x.way(0, 1, 4, 0), -1);
        c.row("size 3 has one pose", new int[] {x.hide(0, 1, 3, 0), x.hide(0, 1, 3, 1), x.hide(0, 1, 3, 2)}, 1, -1, 1);
        c.row("then size 4 again", new int[] {x.hide(0, 1, 4, 0), x.hide(0, 1, 4, 1), x.hide(0, 1, 4, 2)}, 0, 0, 0);
        x.works(0, 3, false);
        c.row("room for size 4", new int[] {x.hide(0, 1, 4, 0), x.hide(0, 1, 4, 1), x.hide(0, 1, 4, 2)}, 1, -1, 1);
        for (int s = 0; s < 16; s++) {
            x.works(0, s, true);
        }
        for (int size = 1; size <= 4; size++) {
            c.row("all works, size " + size, new int[] {x.hide(0, 1, size, 0), x.hide(0, 1, size, 1),
                x.hide(0, 1, size, 2), x.way(0, 1, size, 0)}, 0, 0, 0, -1);
            c.row("in a show", new int[] {x.hide(0, 0, size, 0), x.hide(0, 0, size, 1),
                x.hide(0, 0, size, 2), x.way(0, 0, size, 0)}, 0, 0, 0, -1);
        }
    }

    private static void way() {
        c.test("13 the first way by poses as numbers");
        WoodenTurk x = corridor();
        Texts.read(x, 0, "open 0; open 1; shut 0; shut 1; shut 2; open 2; open 1;");
        int[] poses = new int[8];
        for (int k = 0; k < 8; k++) {
            poses[k] = x.way(0, 0, 1, k);
        }
        c.row("way", poses, 1, 2, 4, 4, 2, 1, 1, 1);
        c.due("behind the end", x.way(0, 0, 1, 8), -1);
        c.row("not well", new int[] {x.way(0, 0, 2, 0), x.way(0, 0, 2, 1)}, -1, -1);
        c.due("no show", x.way(0, 3, 2, 0), 3);
        c.due("no second in it", x.way(0, 3, 2, 1), -1);
    }

    private static void longShow() {
        c.test("10 to 13 the longest show");
        WoodenTurk x = corridor();
        Texts.read(x, 0, "open 2;" + "wait 20;".repeat(37) + "wait 20; open 1;");
        c.due("seconds", x.run(0, 0, 0), 762);
        c.due("steps", Texts.read(x, 1, "wait 20;".repeat(40)), 40);
        c.due("800 seconds", x.run(0, 1, 0), 800);
        c.row("seen", new int[] {x.seen(0, 1, 799), x.seen(0, 1, 800)}, 0, -1);
        c.row("way", new int[] {x.way(0, 1, 3, 0), x.way(0, 1, 3, 800), x.way(0, 1, 3, 801)}, 7, 7, -1);
        c.row("way", new int[] {x.way(0, 0, 1, 0), x.way(0, 0, 1, 762), x.way(0, 0, 2, 0)}, 1, 1, -1);
        Texts.read(x, 2, "wait 20;".repeat(35) + "open 0; open 1; shut 1; shut 0; open 2;");
        c.row("late in a show", new int[] {x.way(0, 2, 1, 700), x.way(0, 2, 1, 701), x.way(0, 2, 1, 702),
            x.way(0, 2, 1, 703), x.way(0, 2, 1, 704), x.way(0, 2, 1, 705)}, 1, 2, 4, 2, 1, 1);
        c.due("fails in the last second", x.hide(0, 0, 2, 1), 761);
        c.due("in the first", x.hide(0, 0, 3, 1), 0);
    }
}
