/** Edges of boards and magnets (section 3, promises 19 to 22). */
public final class BoardEdgesTest {
    private static final Check c = new Check();

    public static void main(String[] args) {
        squares();
        piecesOfAKind();
        alikeAtFirst();
        pieceRefused();
        pieceTold();
        stickRefused();
        stickTold();
        anotherSquare();
        whatWasThere();
        anotherPiece();
        theSamePiece();
        moveRefused();
        goneAtF();
        stuckAtF();
        knewAtF();
        knewNothing();
        stuckAtBoth();
        unlikeAll();
        wrong();
        open();
        notAsked();
        boardRefused();
        c.end();
    }

    private static int[] known(WoodenTurk x, int... squares) {
        int[] told = new int[squares.length];
        for (int i = 0; i < told.length; i++) {
            told[i] = x.board(squares[i], 1);
        }
        return told;
    }

    private static int[] counts(WoodenTurk x) {
        return new int[] {x.board(0, 2), x.board(0, 3)};
    }

    private static void squares() {
        c.edge("Terms 3", "BOARDS have 64 SQUARES", "0 to 63");
        WoodenTurk x = new WoodenTurk();
        for (int square = 0; square < 64; square++) {
            c.due("piece " + square, x.piece(square, 1 + square % 12), true);
            c.due("stick " + square, x.stick(square, false), true);
        }
        for (int square = 0; square < 64; square++) {
            c.row("square " + square, new int[] {x.board(square, 0), x.board(square, 1)}, 1 + square % 12, 1 + square % 12);
        }
        for (int square : new int[] {Edges.LEAST, -1, 64, 65, 128, Edges.MOST}) {
            c.due("piece " + square, x.piece(square, 1), false);
            c.due("stick " + square, x.stick(square, true), false);
            c.due("from " + square, x.move(square, 0, -1), false);
            c.due("to " + square, x.move(0, square, -1), false);
            c.row("board " + square, new int[] {x.board(square, 0), x.board(square, 1)}, -1, -1);
        }
        c.row("nothing is done", new int[] {x.board(0, 0), x.board(63, 0), x.board(0, 2), x.board(0, 3)}, 1, 4, 0, 0);
    }

    private static void piecesOfAKind() {
        c.edge("Terms 3", "with PIECES 0 (none) .. 12");
        WoodenTurk x = new WoodenTurk();
        for (int piece = 0; piece <= 12; piece++) {
            c.due("piece " + piece, x.piece(7, piece), true);
            c.row("it stands", new int[] {x.board(7, 0), x.board(7, 1)}, piece, piece);
        }
        for (int piece : new int[] {Edges.LEAST, -1, 13, 14, Edges.MOST}) {
            c.due("piece " + piece, x.piece(7, piece), false);
            c.row("as it was", new int[] {x.board(7, 0), x.board(7, 1)}, 12, 12);
        }
    }

    private static void alikeAtFirst() {
        c.edge("Terms 3", "TRUE and KNOWN BOARDS are alike at first (told)");
        WoodenTurk x = new WoodenTurk();
        for (int square = 0; square < 64; square++) {
            c.due("alike", x.board(square, 1), x.board(square, 0));
        }
        c.row("none wrong, none open", counts(x), 0, 0);
    }

    private static void pieceRefused() {
        c.edge("Promise 19", "true; false if one can't be.");
        WoodenTurk x = new WoodenTurk();
        x.piece(63, 5);
        c.due("square 64", x.piece(64, 1), false);
        c.due("square -1", x.piece(-1, 1), false);
        c.due("piece 13", x.piece(63, 13), false);
        c.due("piece -1", x.piece(63, -1), false);
        c.row("as it was", new int[] {x.board(63, 0), x.board(63, 1), x.board(0, 0)}, 5, 5, 0);
    }

    private static void pieceTold() {
        c.edge("Promise 19", "A SQUARE has a PIECE, TRUE and KNOWN", "whatever was there, and if it sticks");
        WoodenTurk x = new WoodenTurk();
        x.piece(8, 1);
        x.stick(8, true);
        x.move(8, 9, -1);
        c.row("9 is open, 8 is wrong", counts(x), 1, 1);
        c.due("told of 9", x.piece(9, 3), true);
        c.due("told of 8", x.piece(8, 0), true);
        c.row("none wrong, none open", counts(x), 0, 0);
        c.row("as told", new int[] {x.board(8, 0), x.board(8, 1), x.board(9, 0), x.board(9, 1)}, 0, 0, 3, 3);
        x.piece(8, 4);
        x.move(8, 10, -1);
        c.due("8 still sticks", x.board(8, 1), 4);
    }

    private static void stickRefused() {
        c.edge("Promise 20", "true; false if one can't be.");
        WoodenTurk x = new WoodenTurk();
        for (int square : new int[] {Edges.LEAST, -1, 64, Edges.MOST}) {
            c.due("stick " + square, x.stick(square, true), false);
            c.due("not " + square, x.stick(square, false), false);
        }
        c.due("0", x.stick(0, true), true);
        c.due("63", x.stick(63, true), true);
    }

    private static void stickTold() {
        c.edge("Promise 20", "A SQUARE's magnet STICKS, or not", "told twice, and taken back");
        WoodenTurk x = new WoodenTurk();
        c.due("it did not", x.stick(3, false), true);
        c.due("sticks", x.stick(3, true), true);
        c.due("again", x.stick(3, true), true);
        x.piece(3, 2);
        c.row("what stands there stays", known(x, 3), 2);
        x.move(3, 4, -1);
        c.row("stuck", known(x, 3, 4), 2, 13);
        c.due("not any more", x.stick(3, false), true);
        c.row("that changes nothing by itself", known(x, 3, 4), 2, 13);
        x.piece(3, 6);
        x.move(3, 5, -1);
        c.row("not stuck", known(x, 3, 5), 0, 6);
    }

    private static void anotherSquare() {
        c.edge("Terms 3", "the PIECE of SQUARE f goes to t (another one)");
        WoodenTurk x = new WoodenTurk();
        x.piece(5, 3);
        c.due("the same", x.move(5, 5, -1), false);
        c.due("the same, to become another", x.move(5, 5, 4), false);
        c.row("as it was", new int[] {x.board(5, 0), x.board(5, 1)}, 3, 3);
        c.due("another", x.move(5, 63, -1), true);
        c.row("it went", new int[] {x.board(5, 0), x.board(63, 0)}, 0, 3);
    }

    private static void whatWasThere() {
        c.edge("Terms 3", "what was there is gone");
        WoodenTurk x = new WoodenTurk();
        x.piece(0, 1);
        x.piece(63, 12);
        c.due("takes", x.move(0, 63, -1), true);
        c.row("the taken one is gone", new int[] {x.board(0, 0), x.board(63, 0), x.board(0, 1), x.board(63, 1)}, 0, 1, 0, 1);
        c.due("nothing is left at 0", x.move(0, 1, -1), false);
    }

    private static void anotherPiece() {
        c.edge("Terms 3", "it may become another PIECE", "1 to 12, and what it became he does not KNOW");
        for (int piece = 1; piece <= 12; piece++) {
            WoodenTurk x = new WoodenTurk();
            x.piece(0, 6);
            c.due("becomes " + piece, x.move(0, 1, piece), true);
            c.row("true and known", new int[] {x.board(1, 0), x.board(1, 1)}, piece, 6);
            c.row("wrong, if it is another", counts(x), piece == 6 ? 0 : 1, 0);
        }
    }

    private static void theSamePiece() {
        c.edge("Promise 21", "becomes NONE: the same PIECE");
        WoodenTurk x = new WoodenTurk();
        x.piece(0, 12);
        c.due("move", x.move(0, 1, -1), true);
        c.row("the same", new int[] {x.board(1, 0), x.board(1, 1)}, 12, 12);
    }

    private static void moveRefused() {
        c.edge("Promise 21", "false, and nothing is done, if one can't be (no PIECE at f; it becomes 0).");
        WoodenTurk x = new WoodenTurk();
        x.piece(8, 1);
        x.piece(9, 2);
        c.due("no piece", x.move(7, 9, -1), false);
        c.due("no piece, to become one", x.move(7, 9, 5), false);
        for (int becomes : new int[] {Edges.LEAST, -2, 0, 13, Edges.MOST}) {
            c.due("becomes " + becomes, x.move(8, 9, becomes), false);
        }
        for (int square : new int[] {Edges.LEAST, -1, 64, Edges.MOST}) {
            c.due("from " + square, x.move(square, 9, -1), false);
            c.due("to " + square, x.move(8, square, -1), false);
        }
        c.due("the same square", x.move(8, 8, -1), false);
        c.row("as it was", new int[] {x.board(8, 0), x.board(8, 1), x.board(9, 0), x.board(9, 1), x.board(7, 1)},
            1, 1, 2, 2, 0);
        x.stick(8, true);
        x.move(8, 10, -1);
        c.due("known at 8, but not there", x.move(8, 11, -1), false);
    }

    private static void goneAtF() {
        c.edge("Terms 3", "if f does not STICK: what he KNOWS at f is gone");
        WoodenTurk x = new WoodenTurk();
        x.piece(8, 1);
        x.stick(9, true);
        x.move(8, 9, -1);
        c.row("gone, also where t sticks", known(x, 8, 9), 0, 0);
        x.stick(9, false);
        x.move(9, 10, -1);
        c.row("13 comes of none", known(x, 9, 10), 0, 13);
        x.move(10, 11, -1);
        c.row("a 13 is gone as well", known(x, 10, 11), 0, 13);
    }

    private static void stuckAtF() {
        c.edge("Terms 3", "if f does not STICK and he KNEW something there, else 13 (unlike all)", "f sticks");
        WoodenTurk x = new WoodenTurk();
        x.piece(8, 1);
        x.piece(9, 7);
        x.stick(8, true);
        x.move(8, 9, -1);
        c.row("he keeps 8, and 9 is unlike all, though he knew one there", known(x, 8, 9), 1, 13);
    }

    private static void knewAtF() {
        c.edge("Terms 3", "if t does not STICK: there is now what he KNEW at f", "true or not");
        WoodenTurk x = new WoodenTurk();
        x.piece(8, 1);
        x.move(8, 9, 12);
        x.move(9, 10, 11);
        x.move(10, 11, -1);
        c.row("1 goes on, though it is 11", new int[] {x.board(11, 0), x.board(11, 1), x.board(10, 1)}, 11, 1, 0);
    }

    private static void knewNothing() {
        c.edge("Terms 3", "and he KNEW something there, else 13 (unlike all)", "he knew nothing there");
        WoodenTurk x = new WoodenTurk();
        x.piece(8, 1);
        x.stick(9, true);
        x.move(8, 9, -1);
        x.stick(9, false);
        x.piece(10, 4);
        x.move(9, 10, -1);
        c.row("unlike all, though he knew one at t", known(x, 9, 10), 0, 13);
        c.due("true", x.board(10, 0), 1);
    }

    private static void stuckAtBoth() {
        c.edge("Terms 3", "if t does not STICK", "both stick, or t alone: t stays as he knew it");
        WoodenTurk x = new WoodenTurk();
        x.piece(8, 1);
        x.piece(9, 7);
        x.stick(8, true);
        x.stick(9, true);
        x.move(8, 9, -1);
        c.row("both as they were", known(x, 8, 9), 1, 7);
        c.row("both wrong", counts(x), 2, 0);
        x.piece(20, 3);
        x.move(20, 9, -1);
        c.row("f is gone, t as it was", known(x, 20, 9), 0, 7);
    }

    private static void unlikeAll() {
        c.edge("Terms 3", "13 (unlike all)", "it goes on as 13, and stays where the magnet sticks");
        WoodenTurk x = new WoodenTurk();
        x.piece(8, 1);
        x.stick(8, true);
        x.move(8, 9, -1);
        x.move(9, 10, -1);
        c.row("on", known(x, 9, 10), 0, 13);
        x.stick(10, true);
        x.move(10, 11, -1);
        c.row("it stays, and another comes", known(x, 10, 11), 13, 13);
        c.row("two are open, 10 though none is there", counts(x), 1, 2);
    }

    private static void wrong() {
        c.edge("Terms 3", "WRONG are SQUARES where what he KNOWS is not 13 and not TRUE", "the first, the last, all");
        WoodenTurk x = new WoodenTurk();
        for (int square = 0; square < 64; square += 2) {
            x.piece(square, 1);
            x.stick(square, true);
            x.stick(square + 1, true);
        }
        c.row("none", counts(x), 0, 0);
        for (int square = 0; square < 64; square += 2) {
            x.move(square, square + 1, -1);
            c.row("two more", counts(x), square + 2, 0);
        }
    }

    private static void open() {
        c.edge("Terms 3", "OPEN those with 13.", "the first, the last, as many as there are");
        WoodenTurk x = new WoodenTurk();
        for (int square = 0; square < 63; square++) {
            x.piece(square, 1);
            x.stick(square, true);
            x.move(square, 63, -1);
            x.piece(square, 0);
            c.row("63 is open", counts(x), 0, 1);
        }
        WoodenTurk y = new WoodenTurk();
        y.stick(63, true);
        for (int square = 0; square < 63; square++) {
            y.piece(63, 2);
            y.move(63, square, -1);
            c.row("one more", counts(y), 1, square + 1);
        }
    }

    private static void notAsked() {
        c.edge("Promise 22", "2 WRONG, 3 OPEN in all (the square not asked)");
        WoodenTurk x = new WoodenTurk();
        x.piece(8, 1);
        x.stick(8, true);
        x.move(8, 9, -1);
        for (int square : new int[] {Edges.LEAST, -1, 0, 8, 9, 63, 64, Edges.MOST}) {
            c.row("square " + square, new int[] {x.board(square, 2), x.board(square, 3)}, 1, 1);
        }
    }

    private static void boardRefused() {
        c.edge("Promise 22", "NONE if one can't be, or another what.");
        WoodenTurk x = new WoodenTurk();
        for (int what : new int[] {Edges.LEAST, -1, 4, 5, Edges.MOST}) {
            c.row("what " + what, new int[] {x.board(0, what), x.board(63, what), x.board(64, what), x.board(-1, what)},
                -1, -1, -1, -1);
        }
        for (int square : new int[] {Edges.LEAST, -1, 64, Edges.MOST}) {
            c.row("square " + square, new int[] {x.board(square, 0), x.board(square, 1)}, -1, -1);
        }
    }
}
