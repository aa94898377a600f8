/** Edges of what the works answer and of the game (section 4, promises 29 to 31). */
public final class GameEdgesTest {
    private static final Check c = new Check();

    public static void main(String[] args) {
        sixty();
        lastOneHolds();
        camRefused();
        forty();
        gameRefused();
        opponentFirst();
        fromTheFirstOn();
        nobody();
        toTheMoveAhead();
        emptied();
        anotherWhat();
        c.end();
    }

    private static void sixty() {
        c.edge("Terms 4", "told are up to 60 couples");
        WoodenTurk x = new WoodenTurk();
        c.row("none yet", new int[] {x.game(0, 1), x.game(2, 3), x.alone(0), x.alone(2)}, 1, 2, 0, 2);
        for (int i = 0; i < 60; i++) {
            c.due("cam", x.cam(i, i + 1, i + 3, i + 2), i + 1);
        }
        c.due("the 61st", x.cam(60, 61, 1, 0), -1);
        for (int i = 0; i < 60; i += 59) {
            x.game(i, i + 1);
            x.game(i + 3, i + 2);
        }
        c.row("the first and the last", new int[] {x.alone(0), x.alone(1)}, 2, 1);
        x.game(60, 61);
        x.game(1, 0);
        c.row("not the 61st", new int[] {x.alone(0), x.alone(1)}, 2, 0);
    }

    private static void lastOneHolds() {
        c.edge("Promise 29", "(the last one told for it holds)", "and a refused one does not");
        WoodenTurk x = new WoodenTurk();
        x.game(0, 63);
        x.game(63, 0);
        for (int i = 1; i <= 59; i++) {
            c.due("cam", x.cam(0, 63, 62, i), i);
        }
        c.due("none is it", x.alone(0), 0);
        c.due("told", x.cam(0, 63, 63, 0), 60);
        c.due("it is", x.alone(0), 1);
        c.due("there are 60", x.cam(0, 63, 62, 0), -1);
        c.due("it is still", x.alone(0), 1);
        c.due("can't be", x.cam(0, 63, 5, 5), -1);
        c.due("it is still", x.alone(0), 1);
    }

    private static void camRefused() {
        c.edge("Promise 29", "NONE if one can't be (SQUARES alike), or there are 60.");
        WoodenTurk x = new WoodenTurk();
        for (int square : new int[] {Edges.LEAST, -1, 64, 65, Edges.MOST}) {
            c.row("square " + square, new int[] {x.cam(square, 1, 2, 3), x.cam(0, square, 2, 3), x.cam(0, 1, square, 3),
                x.cam(0, 1, 2, square)}, -1, -1, -1, -1);
        }
        c.row("alike", new int[] {x.cam(0, 0, 2, 3), x.cam(63, 63, 2, 3), x.cam(0, 1, 0, 0), x.cam(0, 1, 63, 63)},
            -1, -1, -1, -1);
        c.due("the same move back is a couple", x.cam(0, 63, 0, 63), 1);
        for (int i = 2; i <= 60; i++) {
            c.due("told again it counts again", x.cam(0, 63, 0, 63), i);
        }
        c.due("there are 60", x.cam(0, 63, 0, 63), -1);
    }

    private static void forty() {
        c.edge("Terms 4", "A GAME is a row of MOVES 0 .. 39");
        WoodenTurk x = new WoodenTurk();
        x.cam(0, 1, 2, 3);
        for (int i = 0; i < 40; i += 2) {
            c.row("game", new int[] {x.game(0, 1), x.game(2, 3)}, i + 1, i + 2);
        }
        c.row("all twenty", new int[] {x.alone(0), x.alone(1)}, 20, 1);
        c.row("the 41st", new int[] {x.game(0, 1), x.game(0, 1)}, -1, -1);
        c.row("as it was", new int[] {x.alone(0), x.alone(1), x.alone(2)}, 20, 1, 40);
        c.due("from the first again", x.game(0, 1), 1);
    }

    private static void gameRefused() {
        c.edge("Promise 30", "NONE if one can't be, or there are 40.");
        WoodenTurk x = new WoodenTurk();
        for (int square : new int[] {Edges.LEAST, -1, 64, 65, Edges.MOST}) {
            c.row("square " + square, new int[] {x.game(square, 1), x.game(1, square)}, -1, -1);
        }
        c.row("squares alike", new int[] {x.game(0, 0), x.game(63, 63)}, -1, -1);
        c.due("nothing came", x.alone(2), 0);
        c.row("the corners", new int[] {x.game(0, 63), x.game(63, 0)}, 1, 2);
        for (int i = 3; i <= 40; i++) {
            c.due("game", x.game(0, 63), i);
        }
        c.row("there are 40", new int[] {x.game(0, 63), x.game(0, 0)}, -1, -1);
        c.due("forty", x.alone(2), 40);
    }

    private static void opponentFirst() {
        c.edge("Terms 4", "the opponent's first, one after another", "a move that is not answered yet");
        WoodenTurk x = new WoodenTurk();
        x.cam(0, 1, 2, 3);
        x.cam(2, 3, 0, 1);
        x.game(2, 3);
        c.row("one", new int[] {x.alone(0), x.alone(1)}, 0, 1);
        x.game(0, 1);
        c.row("two", new int[] {x.alone(0), x.alone(1)}, 1, 1);
        x.game(4, 5);
        c.row("three, no answer told to it", new int[] {x.alone(0), x.alone(1)}, 1, 1);
        x.game(0, 1);
        c.row("four", new int[] {x.alone(0), x.alone(1)}, 1, 0);
    }

    private static void fromTheFirstOn() {
        c.edge("Terms 4", "ALONE: how many of the works' MOVES, from the first on, are those told for the MOVE ahead");
        for (int other = 0; other < 20; other++) {
            WoodenTurk x = new WoodenTurk();
            x.cam(0, 1, 2, 3);
            for (int i = 0; i < 20; i++) {
                x.game(0, 1);
                x.game(2, i == other ? 4 : 3);
            }
            c.row("up to " + other, new int[] {x.alone(0), x.alone(1)}, other, 0);
        }
    }

    private static void nobody() {
        c.edge("Terms 4", "a GAME needs NOBODY, if all are", "also if there is none");
        WoodenTurk x = new WoodenTurk();
        c.row("no moves, no couples", new int[] {x.alone(0), x.alone(1)}, 0, 1);
        x.game(5, 6);
        c.row("none of the works'", new int[] {x.alone(0), x.alone(1)}, 0, 1);
        x.game(7, 8);
        c.row("one that is not told", new int[] {x.alone(0), x.alone(1)}, 0, 0);
        x.cam(5, 6, 7, 8);
        c.row("told behind it", new int[] {x.alone(0), x.alone(1)}, 1, 1);
        x.cam(5, 6, 7, 9);
        c.row("another one told", new int[] {x.alone(0), x.alone(1)}, 0, 0);
    }

    private static void toTheMoveAhead() {
        c.edge("Terms 4", "to a MOVE (f, t) of the opponent they play a MOVE (f, t)", "both squares of both moves count");
        WoodenTurk x = new WoodenTurk();
        x.cam(0, 63, 62, 1);
        int[][] games = {{0, 63, 62, 1, 1}, {63, 0, 62, 1, 0}, {0, 63, 1, 62, 0}, {0, 62, 62, 1, 0}, {1, 63, 62, 1, 0},
            {0, 63, 62, 2, 0}, {0, 63, 61, 1, 0}, {62, 1, 0, 63, 0}};
        for (int[] game : games) {
            x.game(game[0], game[1]);
            x.game(game[2], game[3]);
            c.row("played", new int[] {x.alone(0), x.alone(1), x.alone(2)}, game[4], game[4], 2);
        }
    }

    private static void emptied() {
        c.edge("Promise 31", "2: THE GAME is emptied: how many MOVES it had.", "none, one, forty; the couples stay");
        WoodenTurk x = new WoodenTurk();
        x.cam(0, 1, 2, 3);
        c.row("none", new int[] {x.alone(2), x.alone(2)}, 0, 0);
        x.game(0, 1);
        c.row("one", new int[] {x.alone(2), x.alone(2)}, 1, 0);
        for (int i = 0; i < 40; i++) {
            x.game(0, 1);
        }
        c.row("forty", new int[] {x.alone(2), x.alone(2), x.alone(0), x.alone(1)}, 40, 0, 0, 1);
        c.row("the first again", new int[] {x.game(0, 1), x.game(2, 3), x.alone(0)}, 1, 2, 1);
    }

    private static void anotherWhat() {
        c.edge("Promise 31", "NONE for another what.", "and nothing is emptied");
        WoodenTurk x = new WoodenTurk();
        x.game(0, 1);
        for (int what : new int[] {Edges.LEAST, -2, -1, 3, 4, Edges.MOST}) {
            c.due("what " + what, x.alone(what), -1);
        }
        c.due("one move", x.alone(2), 1);
    }
}
