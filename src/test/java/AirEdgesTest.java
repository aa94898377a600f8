/** Edges of air and candles (section 3, promise 18). */
public final class AirEdgesTest {
    private static final Check c = new Check();

    public static void main(String[] args) {
        eachSpace();
        eachSize();
        eachCandle();
        eachDoor();
        twentyAtLeast();
        towardsNone();
        lessAtFirst();
        noLess();
        nobody();
        refused();
        c.end();
    }

    private static void eachSpace() {
        c.edge("Terms 3", "AIR of a CHEST: 60 for each SPACE without WORKS.", "all and none");
        WoodenTurk x = new WoodenTurk();
        for (int s = 0; s < 16; s++) {
            c.due("air", x.air(1, 0, 0), 60 * (16 - s));
            x.works(1, s, true);
        }
        c.row("none", new int[] {x.air(1, 0, 0), x.air(0, 0, 0), x.air(2, 0, 0)}, 0, 960, 960);
    }

    private static void eachSize() {
        c.edge("Terms 3", "In a minute SOMEBODY of SIZE k takes 2 k");
        WoodenTurk x = new WoodenTurk();
        c.row("sizes", new int[] {x.air(0, 1, 0), x.air(0, 2, 0), x.air(0, 3, 0), x.air(0, 4, 0)}, 470, 235, 156, 117);
    }

    private static void eachCandle() {
        c.edge("Terms 3", "each candle (0 .. 3) 5");
        WoodenTurk x = new WoodenTurk();
        c.row("candles", new int[] {x.air(0, 1, 0), x.air(0, 1, 1), x.air(0, 1, 2), x.air(0, 1, 3)}, 470, 134, 78, 55);
        for (int candles : new int[] {Edges.LEAST, -1, 4, 5, Edges.MOST}) {
            c.due("candles " + candles, x.air(0, 1, candles), -1);
        }
    }

    private static void eachDoor() {
        c.edge("Terms 3", "so much comes in: 1 for each DOOR with SPACES that is not FALSE");
        WoodenTurk x = new WoodenTurk();
        int[] lasts = {44, 47, 49, 52, 55, 58, 62, 67, 72, 78, 85};
        for (int door = 0; door < 10; door++) {
            c.due(door + " doors", x.air(0, 3, 3), lasts[door]);
            c.due("an empty one brings none", x.door(0, door, 0, 0, false), true);
            c.due("of the back", x.air(0, 3, 3), lasts[door]);
            c.due("a false one brings none", x.door(0, door, 1, 0xFF00, true), true);
            c.due(door + " doors", x.air(0, 3, 3), lasts[door]);
            x.door(0, door, door % 2, door % 2 == 0 ? 255 : 256, false);
        }
        c.due("ten doors, each once, however many spaces", x.air(0, 3, 3), lasts[10]);
        x.door(0, 0, 0, 0, false);
        c.due("one is empty now", x.air(0, 3, 3), lasts[9]);
        x.door(0, 9, 1, 256, true);
        c.due("one is false now", x.air(0, 3, 3), lasts[8]);
        x.works(1, 0, true);
        x.door(1, 0, 0, 1, false);
        c.due("a door of works brings too", x.air(1, 1, 0), 880);
    }

    private static void twentyAtLeast() {
        c.edge("Terms 3", "LASTS: the most minutes behind which there is 20 at least", "just 20, and one less");
        WoodenTurk x = new WoodenTurk();
        Edges.keepFree(x, 0, 1);
        c.row("60 less 40", new int[] {x.air(0, 1, 0), x.air(0, 2, 0), x.air(0, 4, 0)}, 20, 10, 5);
        c.row("60 less 36, 39, 33", new int[] {x.air(0, 3, 0), x.air(0, 4, 1), x.air(0, 3, 1)}, 6, 3, 3);
        for (int door = 0; door < 2; door++) {
            x.door(0, door, 0, 1, false);
        }
        c.due("21 a minute: 39, then 18", x.air(0, 4, 3), 1);
        x.door(0, 2, 0, 1, false);
        c.due("20 a minute: 40, then 20", x.air(0, 4, 3), 2);
    }

    private static void towardsNone() {
        c.edge("Terms", "Quotients go towards 0.", "minutes");
        WoodenTurk x = new WoodenTurk();
        c.row("940 by 7, 8, 13", new int[] {x.air(0, 1, 1), x.air(0, 4, 0), x.air(0, 4, 1)}, 134, 117, 72);
    }

    private static void lessAtFirst() {
        c.edge("Terms 3", "(0 if there is less at first");
        WoodenTurk x = new WoodenTurk();
        Edges.keepFree(x, 0, 0);
        c.row("nothing", new int[] {x.air(0, 1, 0), x.air(0, 4, 3)}, 0, 0);
        for (int door = 0; door < 10; door++) {
            x.door(0, door, 0, 1, false);
        }
        c.row("though as much or more comes in", new int[] {x.air(0, 1, 0), x.air(0, 4, 0), x.air(0, 1, 1),
            x.air(0, 4, 3)}, 0, 0, 0, 0);
        x.works(0, 0, false);
        c.row("60 at first", new int[] {x.air(0, 1, 0), x.air(0, 4, 3)}, 9999, 3);
    }

    private static void noLess() {
        c.edge("Terms 3", "9999 at most, and if it gets no less).");
        WoodenTurk x = new WoodenTurk();
        x.door(0, 0, 0, 1, false);
        c.due("one less a minute", x.air(0, 1, 0), 940);
        x.door(0, 1, 0, 1, false);
        c.due("as much comes in", x.air(0, 1, 0), 9999);
        x.door(0, 2, 0, 1, false);
        c.due("more comes in", x.air(0, 1, 0), 9999);
        for (int door = 3; door < 10; door++) {
            x.door(0, door, 1, 256, false);
        }
        c.row("ten come in", new int[] {x.air(0, 4, 0), x.air(0, 2, 1), x.air(0, 3, 1), x.air(0, 1, 2)},
            9999, 9999, 940, 470);
    }

    private static void nobody() {
        c.edge("Promise 18", "AIR of a CHEST for SIZE 0 (nobody), else LASTS for SOMEBODY with candles");
        WoodenTurk x = new WoodenTurk();
        x.works(0, 0, true);
        x.door(0, 0, 0, 2, false);
        c.row("candles take none of it", new int[] {x.air(0, 0, 0), x.air(0, 0, 1), x.air(0, 0, 2), x.air(0, 0, 3)},
            900, 900, 900, 900);
        c.due("SIZE 1", x.air(0, 1, 0), 880);
    }

    private static void refused() {
        c.edge("Promise 18", "NONE if one can't be.");
        WoodenTurk x = new WoodenTurk();
        for (int size : new int[] {Edges.LEAST, -1, 5, 6, Edges.MOST}) {
            c.due("size " + size, x.air(0, size, 0), -1);
        }
        for (int candles : new int[] {Edges.LEAST, -1, 4, Edges.MOST}) {
            c.row("candles " + candles, new int[] {x.air(0, 0, candles), x.air(0, 4, candles)}, -1, -1);
        }
        for (int chest : new int[] {Edges.LEAST, -1, 3, Edges.MOST}) {
            c.row("chest " + chest, new int[] {x.air(chest, 0, 0), x.air(chest, 1, 0)}, -1, -1);
        }
    }
}
