/** Edges of "What it is", of the constants and of promise 1. */
public final class ObjectEdgesTest {
    private static final Check c = new Check();

    public static void main(String[] args) {
        lastCall();
        lastCallOfChests();
        none();
        emptyChests();
        nothingElse();
        objectsApart();
        c.end();
    }

    private static void lastCall() {
        c.edge("What it is", "An object is used for at most 512 calls after it has been made", "rows that are full");
        WoodenTurk x = new WoodenTurk();
        int calls = 0;
        for (int i = 0; i < 12; i++, calls++) {
            c.due("master", x.master(1, 50, 0, 99), i);
        }
        for (int i = 0; i < 200; i++, calls++) {
            c.due("was", x.was(i % 12, i / 12 % 10, i / 120), true);
        }
        for (int i = 0; i < 60; i++, calls++) {
            c.due("night", x.night(99, 9, 50, 2, -1), i);
        }
        for (int i = 0; i < 60; i++, calls++) {
            c.due("cam", x.cam(0, 1, 2, 3), i + 1);
        }
        for (int i = 0; i < 40; i++, calls++) {
            c.due("game", x.game(i % 2 * 2, i % 2 * 2 + 1), i + 1);
        }
        for (int i = 0; i < 20; i++, calls++) {
            c.due("writer", x.writer(i, 1), i);
        }
        for (; calls < 507; calls++) {
            c.due("piece", x.piece(calls % 64, calls % 13), true);
        }
        c.due("all(0, 59, 11)", x.all(0, 59, 11), 1000 / 12);
        c.due("alone(0)", x.alone(0), 20);
        c.due("story(19, 4)", x.story(19, 4), 20);
        c.due("board(506 % 64, 0)", x.board(506 % 64, 0), 506 % 13);
        c.due("the 512th call", x.was(0, 9, 99), false);
    }

    private static void lastCallOfChests() {
        c.edge("What it is", "An object is used for at most 512 calls after it has been made", "the dearest calls");
        WoodenTurk x = new WoodenTurk();
        int calls = 0;
        for (int door = 0; door < 4; door++, calls++) {
            x.door(0, door, 0, 1 << door, true);
        }
        while (calls < 508) {
            c.due("works", x.works(0, 15, calls % 4 == 0), true);
            c.due("order", x.order(0, 15, 5, 4, 0), 4);
            calls += 2;
        }
        c.row("the last calls", new int[] {x.poses(0, 4), x.proof(0, 4, 0), x.order(0, 15, 5, 4, 1),
            x.order(0, 15, 5, 4, 5)}, 180, -1, 4, 3);
    }

    private static void none() {
        c.edge("The public face", "public static final int NONE = -1;");
        c.due("NONE", WoodenTurk.NONE, -1);
    }

    private static void emptyChests() {
        c.edge("Promise 1", "Three empty CHESTS.");
        WoodenTurk x = new WoodenTurk();
        String open = "open 0;open 1;open 2;open 3;open 4;open 5;open 6;open 7;open 8;open 9;candle 0;turn;candle 9;";
        Texts.read(x, 0, open);
        for (int chest = 0; chest < 3; chest++) {
            c.row("no works, no walls", new int[] {x.poses(chest, 1), x.poses(chest, 2), x.poses(chest, 3),
                x.poses(chest, 4)}, 16, 28, 72, 180);
            c.row("no doors", new int[] {x.run(chest, 0, 1), x.proof(chest, 4, 0), x.order(chest, 15, 1, 1, 0)}, 0, -1, 0);
            c.row("air", new int[] {x.air(chest, 0, 0), x.air(chest, 1, 0)}, 960, 470);
        }
        c.row("no fourth one", new int[] {x.poses(3, 1), x.air(3, 0, 0), x.poses(-1, 1), x.air(-1, 0, 0)},
            -1, -1, -1, -1);
    }

    private static void nothingElse() {
        c.edge("Promise 1", "`WoodenTurk()`", "nothing has been told to it");
        WoodenTurk x = new WoodenTurk();
        c.due("the tape is empty", x.end(1), false);
        for (int show = 0; show < 4; show++) {
            c.row("show " + show, Edges.run(x, 0, show), 0, 0, 0, 0);
        }
        c.row("the pamphlet", new int[] {x.reason(0), x.pamphlet(0), x.pamphlet(1), x.pamphlet(2)}, -1, 0, 0, 0);
        c.row("no fault", new int[] {x.fault(0), x.fault(1)}, 0, -1);
        for (int square = 0; square < 64; square++) {
            c.row("square " + square, new int[] {x.board(square, 0), x.board(square, 1)}, 0, 0);
        }
        c.row("counts", new int[] {x.board(0, 2), x.board(0, 3)}, 0, 0);
        c.row("nobody, no night", new int[] {x.who(0, 0, 1), x.all(0, 0, 0)}, -1, -1);
        c.row("no couple, no move", new int[] {x.alone(0), x.alone(1), x.alone(2)}, 0, 1, 0);
        c.row("nobody wrote", new int[] {x.story(0, 0), x.first(0)}, -1, -1);
    }

    private static void objectsApart() {
        c.edge("Promise 1", "Three empty CHESTS.", "also behind another object that was filled");
        WoodenTurk full = new WoodenTurk();
        Edges.keepFree(full, 0, 0);
        full.door(0, 0, 0, 255, false);
        Texts.read(full, 0, "open 0;");
        Texts.read(full, 4, "man when 1=1;");
        full.feed(0, 0, 0, 0, 0);
        full.piece(0, 1);
        full.stick(0, true);
        full.master(1, 1, 1, 1);
        full.writer(1, 1);
        full.truth(1);
        full.cam(0, 1, 2, 3);
        full.game(0, 1);
        WoodenTurk x = new WoodenTurk();
        c.row("empty", new int[] {x.poses(0, 1), x.proof(0, 1, 0), x.run(0, 0, 0), x.reason(0), x.board(0, 0),
            x.story(0, 0), x.alone(2)}, 16, -1, 0, -1, 0, -1, 0);
        c.due("the tape", x.end(1), false);
        c.row("the first", new int[] {x.master(1, 1, 1, 1), x.writer(1, 1), x.cam(0, 1, 2, 3), x.game(0, 1)}, 0, 0, 1, 1);
        c.due("no truth", x.story(0, 0), 0);
        x.piece(0, 1);
        x.move(0, 1, -1);
        c.due("no magnet sticks", x.board(1, 1), 1);
        c.row("the full one is as it was", new int[] {full.poses(0, 1), full.run(0, 0, 0), full.reason(0)}, 0, 1, 1);
    }
}
