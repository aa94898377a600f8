/** Edges of orders of doors and of proofs (section 2, promises 14 and 15). */
public final class DoorEdgesTest {
    private static final Check c = new Check();

    public static void main(String[] args) {
        fourAtMost();
        waits();
        waitsAsLong();
        orNone();
        mostSpaces();
        fewestDoors();
        firstByNumbers();
        firstThatCanBe();
        candleAtEach();
        orderOfTheBack();
        orderRefused();
        noSuchDoorOfTheRow();
        anotherWhat();
        orderWithoutPoses();
        proofRefusedDoors();
        proofOfTheFewest();
        proofOfTheLeast();
        proofOfBothSides();
        proofWithCandles();
        noProof();
        proofRefused();
        proofWithoutPoses();
        c.end();
    }

    private static void fourAtMost() {
        c.edge("Terms 2", "ORDER of a set of DOORS (4 at most) of a CHEST");
        WoodenTurk x = new WoodenTurk();
        for (int door = 0; door < 10; door++) {
            x.door(0, door, 0, 1 << door % 8, true);
        }
        c.row("none", Edges.order(x, 0, 1, 1), 0, 0);
        c.row("one", Edges.order(x, 512, 1, 1), 1, 1, 9);
        c.row("four", Edges.order(x, 0x0F, 1, 1), 4, 4, 0, 1, 2, 3);
        c.row("the last four, two of them alike", Edges.order(x, 0x3C0, 1, 1), 4, 4, 6, 7, 8, 9);
        c.row("alike are 0 and 8, 1 and 9", Edges.order(x, 0x303, 1, 1), 2, 2, 0, 1);
        for (int doors : new int[] {0x1F, 0x3E0, 0x2AB, 0x3FF}) {
            c.row("five at least " + doors, new int[] {x.order(0, doors, 1, 1, 0), x.order(0, doors, 1, 1, 1),
                x.order(0, doors, 1, 1, 2)}, -1, -1, -1);
        }
    }

    private static void waits() {
        c.edge("Terms 2", "each is opened, waited for w seconds (1 .. 5), shut");
        WoodenTurk x = new WoodenTurk();
        x.door(0, 0, 0, 1, true);
        for (int wait = 1; wait <= 5; wait++) {
            c.row("wait " + wait, Edges.order(x, 1, wait, 1), 1, 1, 0);
        }
        for (int wait : new int[] {Edges.LEAST, -1, 0, 6, 20, Edges.MOST}) {
            c.row("wait " + wait, new int[] {x.order(0, 1, wait, 1, 0), x.order(0, 1, wait, 1, 1),
                x.order(0, 1, wait, 1, 2), x.order(0, 0, wait, 1, 0)}, -1, -1, -1, -1);
        }
    }

    /** A row of seven spaces, 0 1 2 3 7 6 5: door 0 leaves him 0, door 1 leaves him 5, door 2 leaves him one between. */
    private static WoodenTurk sevenInARow(int between) {
        WoodenTurk x = new WoodenTurk();
        Edges.keepFree(x, 0, 0xEF);
        x.wall(0, 1, 5, true);
        x.wall(0, 2, 6, true);
        x.door(0, 0, 0, 0xEE, false);
        x.door(0, 1, 0, 0xDF, true);
        x.door(0, 2, 0, 0xEF & ~(1 << between), true);
        return x;
    }

    private static void waitsAsLong() {
        c.edge("Terms 2", "(candle, open, wait, shut: as STEPS)", "three moves between two doors, however long the wait");
        WoodenTurk x = sevenInARow(3);
        WoodenTurk y = sevenInARow(7);
        for (int wait = 1; wait <= 5; wait++) {
            c.row("three and three moves", Edges.order(x, 7, wait, 1), 14, 3, 0, 2, 1);
            // from 0 to 7 it is four moves, from 7 to 5 two; door 0 shows most
            c.row("four are too many", Edges.order(y, 7, wait, 1), 12, 1, 0);
        }
    }

    private static void orNone() {
        c.edge("Terms 2", "Of all rows of some of them (or none) in which SOMEBODY of a SIZE goes WELL");
        WoodenTurk x = new WoodenTurk();
        Edges.keepFree(x, 0, 3);
        x.door(0, 0, 0, 1, false);
        x.door(0, 1, 0, 2, false);
        c.row("size 1 in both", Edges.order(x, 3, 1, 1), 4, 2, 0, 1);
        c.row("size 2 in none", Edges.order(x, 3, 1, 2), 0, 0);
        c.row("no DOOR of none", new int[] {x.order(0, 3, 1, 2, 2), x.order(0, 3, 1, 2, 5)}, -1, -1);
        c.row("of an empty set", Edges.order(x, 0, 5, 2), 0, 0);
    }

    private static void mostSpaces() {
        c.edge("Terms 2", "that with the most SPACES SEEN in all", "spaces, not doors, and each once");
        WoodenTurk x = new WoodenTurk();
        Edges.keepFree(x, 0, 5);
        x.door(0, 0, 0, 0x11, true);
        x.door(0, 1, 0, 0xE4, true);
        x.door(0, 2, 0, 0x30, true);
        // he is at 0 or at 2 all the time; door 2 shows works alone
        c.row("door 1 and the works", Edges.order(x, 7, 1, 1), 5, 2, 1, 2);
        x.door(0, 0, 0, 0xFB, true);
        c.row("door 0 alone", Edges.order(x, 7, 1, 1), 7, 1, 0);
        x.door(0, 1, 0, 0xFE, true);
        c.row("as many: the first", Edges.order(x, 7, 1, 1), 7, 1, 0);
    }

    private static void fewestDoors() {
        c.edge("Terms 2", "of several that with the fewest DOORS");
        WoodenTurk x = new WoodenTurk();
        x.door(0, 0, 0, 1, true);
        x.door(0, 1, 0, 2, true);
        x.door(0, 2, 0, 4, true);
        x.door(0, 3, 0, 7, true);
        c.row("one for three", Edges.order(x, 15, 1, 1), 3, 1, 3);
        x.door(0, 3, 0, 6, true);
        c.row("two for three", Edges.order(x, 15, 1, 1), 3, 2, 0, 3);
        x.door(0, 3, 0, 0, true);
        c.row("an empty one adds none", Edges.order(x, 15, 1, 1), 3, 3, 0, 1, 2);
        c.row("an empty one alone", Edges.order(x, 8, 1, 1), 0, 0);
    }

    private static void firstByNumbers() {
        c.edge("Terms 2", "then the first by numbers.");
        WoodenTurk x = new WoodenTurk();
        for (int door = 0; door < 10; door++) {
            x.door(0, door, 0, 1 << door / 2, true);
        }
        c.row("of two alike the first", Edges.order(x, 3, 1, 1), 1, 1, 0);
        c.row("of two pairs", Edges.order(x, 15, 1, 1), 2, 2, 0, 2);
        c.row("not the other way round", Edges.order(x, 1 << 9 | 1 << 2, 1, 1), 2, 2, 2, 9);
        c.row("four", Edges.order(x, 1 << 9 | 1 << 7 | 1 << 4 | 1, 1, 1), 4, 4, 0, 4, 7, 9);
    }

    private static void firstThatCanBe() {
        c.edge("Terms 2", "then the first by numbers.", "of the rows that go well alone");
        WoodenTurk x = sevenInARow(3);
        c.row("0 1 2 does not, 0 2 1 does", Edges.order(x, 7, 1, 1), 14, 3, 0, 2, 1);
        x.door(0, 9, 0, 0xDF, true);
        c.row("9 is as 1", Edges.order(x, 1 | 1 << 2 | 1 << 9, 1, 1), 14, 3, 0, 2, 9);
        x.door(0, 2, 0, 0xDF, true);
        x.door(0, 1, 0, 0xE7, true);
        c.row("told the other way round", Edges.order(x, 7, 1, 1), 14, 3, 0, 1, 2);
    }

    private static void candleAtEach() {
        c.edge("Terms 2", "one behind the other, the candle burning at each");
        WoodenTurk x = new WoodenTurk();
        x.door(0, 0, 0, 1, false);
        x.door(0, 1, 0, 8, false);
        c.row("both lit", Edges.order(x, 3, 1, 1), 4, 2, 0, 1);
        x.door(0, 0, 0, 1, true);
        c.row("one is false", Edges.order(x, 3, 1, 1), 3, 2, 0, 1);
        x.works(0, 3, true);
        c.row("works behind the other", Edges.order(x, 3, 1, 1), 2, 2, 0, 1);
        x.door(0, 0, 0, 255, false);
        Edges.keepFree(x, 0, 0xFF80);
        c.row("7 and 15 are seen, he is elsewhere behind", Edges.order(x, 1, 1, 4), 9, 1, 0);
    }

    private static void orderOfTheBack() {
        c.edge("Terms 2", "ORDER of a set of DOORS", "the front is to the watchers all the time");
        WoodenTurk x = new WoodenTurk();
        for (int door = 0; door < 4; door++) {
            x.door(0, door, 1, 0x1100 << door, false);
        }
        c.row("doors of the back show nothing", Edges.order(x, 15, 1, 1), 0, 0);
        x.door(0, 3, 0, 1, true);
        c.row("the front one alone", Edges.order(x, 15, 1, 1), 1, 1, 3);
    }

    private static void orderRefused() {
        c.edge("Promise 14", "NONE if one can't be (more than four DOORS)");
        WoodenTurk x = new WoodenTurk();
        x.door(0, 0, 0, 1, true);
        for (int what = 0; what < 3; what++) {
            c.row("five doors", new int[] {x.order(0, 31, 1, 1, what), x.order(0, 1023, 1, 1, what)}, -1, -1);
            c.row("no such doors", new int[] {x.order(0, 1024, 1, 1, what), x.order(0, 1025, 1, 1, what),
                x.order(0, 1 << 30, 1, 1, what), x.order(0, -1, 1, 1, what), x.order(0, Edges.LEAST, 1, 1, what),
                x.order(0, Edges.LEAST + 1, 1, 1, what), x.order(0, Edges.MOST, 1, 1, what)}, -1, -1, -1, -1, -1, -1, -1);
            c.row("no such chest", new int[] {x.order(3, 1, 1, 1, what), x.order(-1, 1, 1, 1, what)}, -1, -1);
            c.row("no such size", new int[] {x.order(0, 1, 1, 0, what), x.order(0, 1, 1, 5, what)}, -1, -1);
            c.row("no such wait", new int[] {x.order(0, 1, 0, 1, what), x.order(0, 1, 6, 1, what)}, -1, -1);
        }
    }

    private static void noSuchDoorOfTheRow() {
        c.edge("Promise 14", "there is none such", "DOOR k of a row that has fewer");
        WoodenTurk x = new WoodenTurk();
        for (int door = 0; door < 4; door++) {
            x.door(0, door + 3, 0, 1 << door, true);
        }
        for (int count = 0; count <= 4; count++) {
            int doors = (1 << count) - 1 << 3;
            for (int k = 0; k <= 5; k++) {
                c.due("DOOR " + k + " of " + count, x.order(0, doors, 1, 1, 2 + k), k < count ? 3 + k : -1);
            }
            c.due("DOOR of the most", x.order(0, doors, 1, 1, Edges.MOST), -1);
        }
    }

    private static void anotherWhat() {
        c.edge("Promise 14", "or another what.");
        WoodenTurk x = new WoodenTurk();
        x.door(0, 0, 0, 1, true);
        for (int what : new int[] {Edges.LEAST, Edges.LEAST + 2, -2, -1}) {
            c.row("what " + what, new int[] {x.order(0, 1, 1, 1, what), x.order(0, 0, 1, 1, what)}, -1, -1);
        }
    }

    private static void orderWithoutPoses() {
        c.edge("Promise 14", "there is none such", "no row goes well where there is no pose");
        WoodenTurk x = new WoodenTurk();
        Edges.keepFree(x, 0, 7);
        x.door(0, 0, 0, 1, true);
        for (int round = 0; round < 2; round++) {
            c.row("size 1", Edges.order(x, 1, 1, 1), 1, 1, 0);
            c.row("size 4", new int[] {x.order(0, 1, 1, 4, 0), x.order(0, 1, 1, 4, 1), x.order(0, 1, 1, 4, 2),
                x.order(0, 0, 1, 4, 0), x.order(0, 0, 1, 4, 1)}, -1, -1, -1, -1, -1);
            c.row("size 3 in none", Edges.order(x, 1, 1, 3), 0, 0);
        }
    }

    private static void proofRefusedDoors() {
        c.edge("Terms 2", "PROOF for a SIZE: the fewest DOORS (not of a set that the host REFUSES)");
        WoodenTurk x = new WoodenTurk();
        for (int door = 0; door < 10; door++) {
            x.door(0, door, 0, 255, false);
        }
        for (int door = 0; door < 10; door++) {
            c.due("the first that is not refused", x.proof(0, 1, (1 << door) - 1), 1 << door);
            c.due("all but one refused", x.proof(0, 1, 1023 & ~(1 << door)), 1 << door);
        }
        c.due("all refused", x.proof(0, 1, 1023), -1);
    }

    private static void proofOfTheFewest() {
        c.edge("Terms 2", "the fewest DOORS", "ten, if it takes ten");
        WoodenTurk x = new WoodenTurk();
        for (int door = 0; door < 9; door++) {
            x.door(0, door, door / 8, 1 << door, true);
        }
        x.door(0, 9, 1, 0xFE00, true);
        c.due("all ten", x.proof(0, 1, 0), 1023);
        x.door(0, 9, 1, 0xFF00, true);
        c.due("nine", x.proof(0, 1, 0), 1023 & ~256);
        x.door(0, 9, 1, 0xFF00, false);
        c.due("one, though of the greatest number", x.proof(0, 1, 0), 512);
        c.due("size 4 as well", x.proof(0, 4, 0), 512);
    }

    private static void proofOfTheLeast() {
        c.edge("Terms 2", "of several the least as a number.");
        WoodenTurk x = new WoodenTurk();
        x.door(0, 9, 0, 0x0F, false);
        x.door(0, 2, 0, 0xF0, false);
        x.door(0, 7, 0, 0x0F, false);
        x.door(0, 4, 0, 0xF0, false);
        c.due("2 and 7", x.proof(0, 1, 0), 1 << 2 | 1 << 7);
        c.due("2 refused", x.proof(0, 1, 1 << 2), 1 << 4 | 1 << 7);
        c.due("7 refused", x.proof(0, 1, 1 << 7), 1 << 2 | 1 << 9);
        c.due("both refused", x.proof(0, 1, 1 << 2 | 1 << 7), 1 << 4 | 1 << 9);
    }

    private static void proofOfBothSides() {
        c.edge("Terms 2", "if they are open at once, watched from both SIDES");
        WoodenTurk x = new WoodenTurk();
        x.door(0, 0, 0, 0xFF, true);
        c.due("the front alone", x.proof(0, 1, 0), -1);
        x.door(0, 1, 1, 0xFF00, true);
        c.due("both", x.proof(0, 1, 0), 3);
        Edges.keepFree(x, 0, 0xFF00);
        c.due("the back alone", x.proof(0, 1, 0), 2);
    }

    private static void proofWithCandles() {
        c.edge("Terms 2", "each with a candle", "but false doors and works");
        WoodenTurk x = new WoodenTurk();
        x.door(0, 0, 0, 0x0F, false);
        x.door(0, 1, 1, 0xF000, false);
        c.due("both lit at once", x.proof(0, 1, 0), 3);
        x.door(0, 0, 0, 0x0F, true);
        c.due("8 to 11 are not seen", x.proof(0, 1, 0), -1);
        x.door(0, 0, 0, 0x0F, false);
        x.works(0, 0, true);
        c.due("8 is not seen behind works", x.proof(0, 1, 0), -1);
        c.due("but size 2 can't be there alone", x.proof(0, 2, 0), 3);
        x.works(0, 8, true);
        c.due("works in 8 too", x.proof(0, 1, 0), 3);
    }

    private static void noProof() {
        c.edge("Promise 15", "NONE if there is none");
        WoodenTurk x = new WoodenTurk();
        c.due("no spaces at any door", x.proof(0, 1, 0), -1);
        x.door(0, 0, 0, 0x7F, false);
        c.row("7 and 15 are not seen", new int[] {x.proof(0, 1, 0), x.proof(0, 2, 0), x.proof(0, 3, 0)}, -1, -1, 1);
        c.due("refused", x.proof(0, 3, 1), -1);
    }

    private static void proofRefused() {
        c.edge("Promise 15", "or one can't be.");
        WoodenTurk x = new WoodenTurk();
        for (int round = 0; round < 2; round++) {
            for (int refused : new int[] {Edges.LEAST, -2, -1, 1024, 1025, 2048, Edges.MOST}) {
                c.row("refused " + refused, new int[] {x.proof(0, 1, refused), x.proof(0, 4, refused)}, -1, -1);
            }
            c.row("no such size", new int[] {x.proof(0, 0, 0), x.proof(0, 5, 0), x.proof(0, -1, 0)}, -1, -1, -1);
            c.row("no such chest", new int[] {x.proof(3, 1, 0), x.proof(-1, 1, 0)}, -1, -1);
            // with a door for all, and nobody at all
            x.door(0, 0, 0, 255, false);
            Edges.keepFree(x, 0, 0);
        }
        c.due("one that can be", x.proof(0, 1, 1023), 0);
    }

    private static void proofWithoutPoses() {
        c.edge("Terms 2", "so that no POSE is without a SPACE SEEN", "no door, where there is no pose");
        WoodenTurk x = new WoodenTurk();
        Edges.keepFree(x, 0, 7);
        x.door(0, 0, 0, 7, false);
        c.row("sizes", new int[] {x.proof(0, 1, 0), x.proof(0, 2, 0), x.proof(0, 3, 0), x.proof(0, 4, 0)}, 1, 1, 1, 0);
        c.row("all refused", new int[] {x.proof(0, 3, 1023), x.proof(0, 4, 1023)}, -1, 0);
    }
}
