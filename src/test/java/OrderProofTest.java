/** Promises 14 and 15: orders of doors that show most, and doors that prove there is nobody. */
public final class OrderProofTest {
    private static final Check c = new Check();

    public static void main(String[] args) {
        orderShowsMost();
        orderByDoorsAndNumbers();
        orderOfTheFrontAlone();
        orderWithoutPoses();
        orderBySeconds();
        wrongOrders();
        proofs();
        proofTakesTheFewest();
        proofOfAll();
        proofsRefused();
        c.end();
    }

    private static int[] tell(WoodenTurk x, int doors, int wait, int size) {
        int count = x.order(0, doors, wait, size, 1);
        int[] told = new int[Math.max(0, count) + 2];
        told[0] = x.order(0, doors, wait, size, 0);
        told[1] = count;
        for (int k = 0; k < count; k++) {
            told[2 + k] = x.order(0, doors, wait, size, 2 + k);
        }
        return told;
    }

    private static void keepFree(WoodenTurk x, int free) {
        for (int s = 0; s < 16; s++) {
            x.works(0, s, (free >>> s & 1) == 0);
        }
    }

    private static void orderShowsMost() {
        c.test("14 the row with the most spaces in which he goes well");
        WoodenTurk x = new WoodenTurk();
        keepFree(x, 7);
        for (int door = 0; door < 3; door++) {
            x.door(0, door, 0, 1 << door, true);
        }
        c.row("size 1 walks on", tell(x, 7, 1, 1), 3, 3, 0, 1, 2);
        c.row("size 2", tell(x, 7, 1, 2), 2, 2, 0, 2);
        c.row("size 3", tell(x, 7, 1, 3), 0, 0);
        x.wall(0, 0, 1, true);
        c.row("0 is cut off", tell(x, 7, 5, 1), 3, 3, 0, 1, 2);
        c.row("size 2", tell(x, 7, 5, 2), 1, 1, 0);
        x.wall(0, 1, 2, true);
        c.row("all alone", tell(x, 7, 2, 1), 2, 2, 0, 1);
    }

    private static void orderByDoorsAndNumbers() {
        c.test("14 of several the fewest doors, then the first by numbers");
        WoodenTurk x = new WoodenTurk();
        keepFree(x, 0x0F);
        x.door(0, 2, 0, 1, false);
        x.door(0, 4, 0, 2, false);
        x.door(0, 7, 0, 3, false);
        x.door(0, 9, 0, 3, false);
        c.row("one door for two", tell(x, 1 << 2 | 1 << 4 | 1 << 7 | 1 << 9, 1, 1), 4, 1, 7);
        c.row("two doors", tell(x, 1 << 2 | 1 << 4, 1, 1), 4, 2, 2, 4);
        c.row("no doors", tell(x, 0, 1, 1), 0, 0);
        c.row("an empty door", tell(x, 1, 1, 1), 0, 0);
        keepFree(x, 0x07);
        x.door(0, 0, 0, 2, false);
        x.door(0, 1, 0, 1, false);
        x.door(0, 3, 0, 4, false);
        c.row("the lit back counts as well", tell(x, 0x0B, 1, 1), 6, 3, 0, 1, 3);
        WoodenTurk y = new WoodenTurk();
        keepFree(y, 0x11F);
        for (int door = 0; door < 4; door++) {
            y.door(0, door, 0, 1 << (3 - door), true);
        }
        c.row("he walks ahead of them", tell(y, 15, 3, 1), 4, 4, 0, 1, 2, 3);
    }

    private static void orderOfTheFrontAlone() {
        c.test("14 doors of the back show nothing to the front");
        WoodenTurk x = new WoodenTurk();
        x.door(0, 0, 1, 0xFF00, false);
        x.door(0, 1, 0, 1, false);
        c.row("row", tell(x, 3, 1, 1), 2, 1, 1);
        x.door(0, 1, 0, 1, true);
        c.row("a false one shows no back", tell(x, 3, 1, 1), 1, 1, 1);
    }

    private static void orderWithoutPoses() {
        c.test("14 no row where there is no pose");
        WoodenTurk x = new WoodenTurk();
        keepFree(x, 3);
        c.row("size 3", tell(x, 3, 1, 3), -1, -1);
        c.row("size 2", tell(x, 3, 1, 2), 0, 0);
    }

    private static void orderBySeconds() {
        c.test("14 candle, open and shut take a second each, the wait its own");
        WoodenTurk x = new WoodenTurk();
        // one way alone: 6 7 3 11 10 2 1 0 4; door 0 leaves him 6, door 2 leaves him 4, eight moves from it
        keepFree(x, 0xCDF);
        x.wall(0, 2, 6, true);
        x.wall(0, 2, 3, true);
        x.door(0, 0, 0, 0x9F, false);
        x.door(0, 1, 0, 0x20, false);
        x.door(0, 2, 0, 0xCF, false);
        c.row("seven moves", tell(x, 7, 1, 1), 13, 2, 0, 1);
        c.row("eight", tell(x, 7, 2, 1), 15, 3, 0, 1, 2);
    }

    private static void wrongOrders() {
        c.test("14 wrong asks");
        WoodenTurk x = new WoodenTurk();
        x.door(0, 0, 0, 1, false);
        c.row("order", new int[] {x.order(0, 1, 1, 1, 2), x.order(0, 1, 1, 1, 3), x.order(0, 1, 1, 1, 6),
            x.order(0, 1, 1, 1, -1), x.order(0, 31, 1, 1, 0), x.order(0, 15, 1, 1, 0), x.order(0, 960, 1, 1, 0),
            x.order(0, 1024, 1, 1, 0), x.order(0, -1, 1, 1, 0), x.order(0, 1, 0, 1, 0), x.order(0, 1, 6, 1, 0),
            x.order(0, 1, 5, 1, 0), x.order(0, 1, 1, 0, 0), x.order(0, 1, 1, 5, 0), x.order(3, 1, 1, 1, 0),
            x.order(-1, 1, 1, 1, 0)},
            0, -1, -1, -1, -1, 2, 0, -1, -1, -1, -1, 2, -1, -1, -1, -1);
    }

    private static void proofs() {
        c.test("15 the doors that leave no pose unseen");
        WoodenTurk x = new WoodenTurk();
        c.due("no doors", x.proof(0, 1, 0), -1);
        x.door(0, 3, 0, 255, false);
        c.due("one for all, lit", x.proof(0, 1, 0), 8);
        x.door(0, 3, 0, 255, true);
        c.due("false: the back is unseen", x.proof(0, 4, 0), -1);
        x.door(0, 5, 1, 0xFF00, true);
        c.due("both sides", x.proof(0, 1, 0), 40);
        x.works(0, 9, true);
        x.door(0, 5, 1, 0xFD00, true);
        c.due("works are nobody", x.proof(0, 1, 0), 40);
        x.door(0, 5, 1, 0xFC00, true);
        c.due("8 alone", x.proof(0, 1, 0), -1);
        c.due("8 alone is too small for two", x.proof(0, 2, 0), 40);
    }

    private static void proofTakesTheFewest() {
        c.test("15 the fewest doors, then the least number");
        WoodenTurk x = new WoodenTurk();
        for (int door = 0; door < 8; door++) {
            x.door(0, door, 0, 1 << door, false);
        }
        c.due("all eight", x.proof(0, 1, 0), 255);
        x.door(0, 9, 1, 0x3300, false);
        c.due("five", x.proof(0, 1, 0), 512 | 0xCC);
        x.door(0, 8, 0, 0xCC, false);
        c.due("two", x.proof(0, 1, 0), 768);
        x.door(0, 0, 0, 0x33, false);
        c.due("the least of two", x.proof(0, 1, 0), 257);
        for (int s = 0; s < 16; s++) {
            x.works(0, s, s > 2);
        }
        c.due("nobody of size 4: none is needed", x.proof(0, 4, 0), 0);
        c.due("size 3: the least one", x.proof(0, 3, 0), 1);
        c.due("size 2: the middle one", x.proof(0, 2, 0), 1);
    }

    private static void proofOfAll() {
        c.test("15 all ten doors");
        WoodenTurk x = new WoodenTurk();
        for (int door = 0; door < 8; door++) {
            x.door(0, door, 0, 1 << door, true);
        }
        x.door(0, 8, 1, 0x0F00, true);
        x.door(0, 9, 1, 0xF000, true);
        c.due("all", x.proof(0, 1, 0), 1023);
        c.due("one less", x.proof(0, 1, 16), -1);
    }

    private static void proofsRefused() {
        c.test("15 refused doors and wrong asks");
        WoodenTurk x = new WoodenTurk();
        x.door(0, 0, 0, 255, false);
        x.door(0, 9, 1, 0xFF00, false);
        c.row("refused", new int[] {x.proof(0, 1, 0), x.proof(0, 1, 1), x.proof(0, 1, 512), x.proof(0, 1, 513),
            x.proof(0, 1, 1023)}, 1, 512, 1, -1, -1);
        for (int s = 3; s < 16; s++) {
            x.works(0, s, true);
        }
        c.due("all refused, nobody to be found", x.proof(0, 4, 1023), 0);
        c.row("wrong", new int[] {x.proof(0, 1, 1024), x.proof(0, 1, -1), x.proof(0, 0, 0), x.proof(0, 5, 0),
            x.proof(3, 1, 0), x.proof(-1, 1, 0)}, -1, -1, -1, -1, -1, -1);
    }
}
