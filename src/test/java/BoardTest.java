/** Promises 19 to 22: the true board and what he below knows. */
public final class BoardTest {
    private static final Check c = new Check();

    public static void main(String[] args) {
        pieces();
        sticks();
        moves();
        wrongMoves();
        fromSticks();
        toSticks();
        openPiecesMove();
        boardAsks();
        c.end();
    }

    private static void pieces() {
        c.test("19 a square has a piece, true and known");
        WoodenTurk x = new WoodenTurk();
        c.due("piece(0, 12)", x.piece(0, 12), true);
        c.due("piece(63, 1)", x.piece(63, 1), true);
        c.row("both", new int[] {x.board(0, 0), x.board(0, 1), x.board(63, 0), x.board(63, 1)}, 12, 12, 1, 1);
        c.due("piece(0, 0)", x.piece(0, 0), true);
        c.row("gone", new int[] {x.board(0, 0), x.board(0, 1)}, 0, 0);
        c.due("piece 13", x.piece(63, 13), false);
        c.due("piece -1", x.piece(63, -1), false);
        c.due("square 64", x.piece(64, 1), false);
        c.due("square -1", x.piece(-1, 1), false);
        c.due("as it was", x.board(63, 0), 1);
        x.stick(5, true);
        x.piece(5, 7);
        c.row("told of a square that sticks", new int[] {x.board(5, 0), x.board(5, 1)}, 7, 7);
    }

    private static void sticks() {
        c.test("20 a magnet sticks, or not");
        WoodenTurk x = new WoodenTurk();
        c.due("stick(0, true)", x.stick(0, true), true);
        c.due("stick(63, false)", x.stick(63, false), true);
        c.due("square 64", x.stick(64, true), false);
        c.due("square -1", x.stick(-1, true), false);
        x.piece(0, 3);
        x.move(0, 1, -1);
        c.row("it stuck", new int[] {x.board(0, 1), x.board(1, 1)}, 3, 13);
        c.due("stick(0, false)", x.stick(0, false), true);
        x.piece(0, 3);
        x.move(0, 2, -1);
        c.row("it does not", new int[] {x.board(0, 1), x.board(2, 1)}, 0, 3);
    }

    private static void moves() {
        c.test("21 a piece goes, takes and becomes another");
        WoodenTurk x = new WoodenTurk();
        x.piece(8, 1);
        x.piece(9, 5);
        c.due("takes", x.move(8, 9, -1), true);
        c.row("true and known", new int[] {x.board(8, 0), x.board(9, 0), x.board(8, 1), x.board(9, 1)}, 0, 1, 0, 1);
        c.due("becomes", x.move(9, 1, 12), true);
        c.row("what it became he does not know", new int[] {x.board(1, 0), x.board(1, 1), x.board(9, 1)}, 12, 1, 0);
        c.row("wrong and open", new int[] {x.board(0, 2), x.board(0, 3)}, 1, 0);
        c.due("becomes the same", x.move(1, 2, 12), true);
        c.row("then", new int[] {x.board(2, 0), x.board(2, 1)}, 12, 1);
    }

    private static void wrongMoves() {
        c.test("21 moves that can't be change nothing");
        WoodenTurk x = new WoodenTurk();
        x.piece(8, 1);
        c.due("no piece", x.move(7, 8, -1), false);
        c.due("the same square", x.move(8, 8, -1), false);
        c.due("becomes 0", x.move(8, 9, 0), false);
        c.due("becomes 13", x.move(8, 9, 13), false);
        c.due("becomes -2", x.move(8, 9, -2), false);
        c.due("to 64", x.move(8, 64, -1), false);
        c.due("to -1", x.move(8, -1, -1), false);
        c.due("from 64", x.move(64, 8, -1), false);
        c.due("from -1", x.move(-1, 8, -1), false);
        c.row("as it was", new int[] {x.board(8, 0), x.board(8, 1), x.board(9, 0), x.board(0, 2)}, 1, 1, 0, 0);
    }

    private static void fromSticks() {
        c.test("21 from a square that sticks");
        WoodenTurk x = new WoodenTurk();
        x.piece(8, 1);
        x.stick(8, true);
        x.move(8, 16, -1);
        c.row("he still sees it there, and one unlike all", new int[] {x.board(8, 1), x.board(16, 1)}, 1, 13);
        c.row("wrong 1, open 1", new int[] {x.board(0, 2), x.board(0, 3)}, 1, 1);
        x.stick(16, true);
        x.piece(8, 1);
        x.move(8, 16, -1);
        c.row("both stick: nothing changes", new int[] {x.board(8, 1), x.board(16, 1)}, 1, 13);
    }

    private static void toSticks() {
        c.test("21 to a square that sticks");
        WoodenTurk x = new WoodenTurk();
        x.piece(8, 1);
        x.piece(16, 9);
        x.stick(16, true);
        x.move(8, 16, -1);
        c.row("what was there seems to be there", new int[] {x.board(8, 1), x.board(16, 1), x.board(16, 0)}, 0, 9, 1);
        c.row("wrong 1, open 0", new int[] {x.board(0, 2), x.board(0, 3)}, 1, 0);
        x.stick(16, false);
        x.move(16, 17, -1);
        c.row("he thinks that 9 goes on", new int[] {x.board(16, 1), x.board(17, 1), x.board(17, 0)}, 0, 9, 1);
    }

    private static void openPiecesMove() {
        c.test("21 what he does not know of goes as one unlike all");
        WoodenTurk x = new WoodenTurk();
        x.piece(8, 1);
        x.stick(16, true);
        x.move(8, 16, -1);
        x.stick(16, false);
        x.move(16, 24, -1);
        c.row("he knew nothing at 16", new int[] {x.board(16, 1), x.board(24, 1)}, 0, 13);
        x.move(24, 25, -1);
        c.row("13 goes on", new int[] {x.board(24, 1), x.board(25, 1)}, 0, 13);
        c.row("wrong 0, open 1", new int[] {x.board(0, 2), x.board(0, 3)}, 0, 1);
        x.piece(25, 1);
        c.row("told", new int[] {x.board(0, 2), x.board(0, 3)}, 0, 0);
    }

    private static void boardAsks() {
        c.test("22 the square is not asked for counts");
        WoodenTurk x = new WoodenTurk();
        x.piece(8, 1);
        x.stick(8, true);
        x.move(8, 16, -1);
        c.row("counts", new int[] {x.board(-1, 2), x.board(64, 3)}, 1, 1);
        x.piece(0, 4);
        x.stick(0, true);
        x.move(0, 63, -1);
        c.row("square 0 and square 63", new int[] {x.board(0, 2), x.board(0, 3)}, 2, 2);
        x.stick(0, false);
        x.piece(9, 4);
        x.stick(9, true);
        x.move(9, 0, -1);
        c.row("now 0 is open", new int[] {x.board(0, 2), x.board(0, 3)}, 2, 3);
        c.row("wrong", new int[] {x.board(64, 0), x.board(-1, 1), x.board(0, 4), x.board(0, -1)}, -1, -1, -1, -1);
    }
}
