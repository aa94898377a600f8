/** Promises 29 to 31: what the works were told to answer, and games that they could play alone. */
public final class AnswersTest {
    private static final Check c = new Check();

    public static void main(String[] args) {
        cams();
        games();
        alone();
        lastToldHolds();
        emptied();
        c.end();
    }

    private static void cams() {
        c.test("29 couples are told, 60 at most");
        WoodenTurk x = new WoodenTurk();
        c.row("wrong", new int[] {x.cam(1, 1, 2, 3), x.cam(1, 2, 3, 3), x.cam(-1, 2, 3, 4), x.cam(1, 64, 3, 4),
            x.cam(1, 2, -1, 4), x.cam(1, 2, 3, 64)}, -1, -1, -1, -1, -1, -1);
        for (int i = 1; i <= 60; i++) {
            c.due("cam", x.cam(0, 63, 1, 2), i);
        }
        c.due("the 61st", x.cam(0, 63, 3, 4), -1);
        x.game(0, 63);
        x.game(1, 2);
        c.due("nothing was told", x.alone(0), 1);
    }

    private static void games() {
        c.test("30 moves come behind the game, 40 at most");
        WoodenTurk x = new WoodenTurk();
        c.row("wrong", new int[] {x.game(1, 1), x.game(-1, 2), x.game(1, 64), x.game(64, 1), x.game(1, -1)},
            -1, -1, -1, -1, -1);
        for (int i = 1; i <= 40; i++) {
            c.due("game", x.game(0, 63), i);
        }
        c.due("the 41st", x.game(0, 63), -1);
        c.due("forty were there", x.alone(2), 40);
    }

    private static void alone() {
        c.test("31 how many moves of the works are those told");
        WoodenTurk x = new WoodenTurk();
        c.row("empty", new int[] {x.alone(0), x.alone(1)}, 0, 1);
        x.cam(52, 36, 12, 28);
        x.cam(51, 35, 11, 27);
        x.game(52, 36);
        c.row("not answered yet", new int[] {x.alone(0), x.alone(1)}, 0, 1);
        x.game(12, 28);
        c.row("answered", new int[] {x.alone(0), x.alone(1)}, 1, 1);
        x.game(50, 34);
        c.row("a move without answer, not answered yet", new int[] {x.alone(0), x.alone(1)}, 1, 1);
        x.game(11, 27);
        c.row("somebody did", new int[] {x.alone(0), x.alone(1)}, 1, 0);
        x.game(51, 35);
        x.game(11, 27);
        c.row("from the first on alone", new int[] {x.alone(0), x.alone(1)}, 1, 0);
        x.cam(50, 34, 11, 27);
        c.row("told behind the game", new int[] {x.alone(0), x.alone(1)}, 3, 1);
        c.row("wrong", new int[] {x.alone(3), x.alone(-1)}, -1, -1);
    }

    private static void lastToldHolds() {
        c.test("29 the last one told for a move holds");
        WoodenTurk x = new WoodenTurk();
        x.game(52, 36);
        x.game(12, 28);
        c.due("nothing told", x.alone(0), 0);
        x.cam(52, 36, 12, 20);
        c.due("another answer", x.alone(0), 0);
        c.due("told anew", x.cam(52, 36, 12, 28), 2);
        c.due("holds", x.alone(0), 1);
        x.cam(36, 52, 1, 2);
        c.due("the move backwards is another one", x.alone(0), 1);
        x.cam(52, 36, 12, 20);
        c.due("told back", x.alone(0), 0);
    }

    private static void emptied() {
        c.test("31 the game is emptied");
        WoodenTurk x = new WoodenTurk();
        x.game(1, 2);
        x.game(2, 3);
        x.game(3, 4);
        c.row("emptied", new int[] {x.alone(1), x.alone(2), x.alone(2), x.alone(0), x.alone(1)}, 0, 3, 0, 0, 1);
        x.cam(5, 6, 7, 8);
        c.row("from the first again", new int[] {x.game(5, 6), x.game(7, 8), x.alone(0)}, 1, 2, 1);
    }
}
