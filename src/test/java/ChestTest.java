/** Promises 1 to 4, 9 and 18: works, walls, doors, poses and air. */
public final class ChestTest {
    private static final Check c = new Check();

    public static void main(String[] args) {
        newObject();
        works();
        walls();
        doors();
        poses();
        posesWithWorksAndWalls();
        passagesBothWays();
        posesOfEachChest();
        airAtFirst();
        airLasts();
        airEdges();
        c.end();
    }

    private static void newObject() {
        c.test("1 a new object has three empty chests");
        WoodenTurk x = new WoodenTurk();
        for (int chest = 0; chest < 3; chest++) {
            c.due("poses 1", x.poses(chest, 1), 16);
            c.due("poses 2", x.poses(chest, 2), 28);
            c.due("air", x.air(chest, 0, 0), 960);
            c.due("proof", x.proof(chest, 1, 0), -1);
            c.due("run", x.run(chest, 3, 0), 0);
        }
        c.due("fault 0", x.fault(0), 0);
        c.due("fault 1", x.fault(1), -1);
        c.due("first", x.first(0), -1);
        c.due("alone", x.alone(2), 0);
        c.due("board", x.board(63, 0), 0);
    }

    private static void works() {
        c.test("2 works are in a space, or not");
        WoodenTurk x = new WoodenTurk();
        c.due("works(2, 15, true)", x.works(2, 15, true), true);
        c.due("again", x.works(2, 15, true), true);
        c.due("one space less", x.poses(2, 1), 15);
        c.due("the other chest", x.poses(1, 1), 16);
        c.due("works(2, 15, false)", x.works(2, 15, false), true);
        c.due("again", x.works(2, 15, false), true);
        c.due("all spaces", x.poses(2, 1), 16);
        c.due("works(0, 0, true)", x.works(0, 0, true), true);
        c.due("chest 3", x.works(3, 0, true), false);
        c.due("chest -1", x.works(-1, 0, true), false);
        c.due("space 16", x.works(0, 16, true), false);
        c.due("space -1", x.works(0, -1, true), false);
        c.due("nothing done", x.poses(0, 1), 15);
    }

    private static void walls() {
        c.test("3 walls are between neighbours alone");
        WoodenTurk x = new WoodenTurk();
        c.due("along x", x.wall(0, 0, 1, true), true);
        c.due("along z", x.wall(0, 4, 0, true), true);
        c.due("along y", x.wall(0, 0, 8, true), true);
        c.due("three pairs less", x.poses(0, 2), 25);
        c.due("told backwards, taken away", x.wall(0, 1, 0, false), true);
        c.due("a pair more", x.poses(0, 2), 26);
        c.due("there was none", x.wall(0, 1, 0, false), true);
        c.due("still so", x.poses(0, 2), 26);
        c.due("3 and 4 lie apart", x.wall(0, 3, 4, true), false);
        c.due("7 and 8 lie apart", x.wall(0, 7, 8, true), false);
        c.due("0 and 2", x.wall(0, 0, 2, true), false);
        c.due("0 and 5", x.wall(0, 0, 5, true), false);
        c.due("itself", x.wall(0, 5, 5, true), false);
        c.due("space 16", x.wall(0, 15, 16, true), false);
        c.due("space -1", x.wall(0, -1, 0, true), false);
        c.due("chest 3", x.wall(3, 0, 1, true), false);
        c.due("nothing done", x.poses(0, 2), 26);
    }

    private static void doors() {
        c.test("4 a door has spaces of its side");
        WoodenTurk x = new WoodenTurk();
        c.due("front", x.door(0, 0, 0, 255, false), true);
        c.due("back", x.door(0, 9, 1, 0xFF00, true), true);
        c.due("empty", x.door(0, 1, 0, 0, false), true);
        c.due("front with a back space", x.door(0, 0, 0, 256, false), false);
        c.due("back with a front space", x.door(0, 9, 1, 0x8080, false), false);
        c.due("spaces -1", x.door(0, 0, 0, -1, false), false);
        c.due("spaces 65536", x.door(0, 0, 1, 65536, false), false);
        c.due("side 2", x.door(0, 0, 2, 0, false), false);
        c.due("side -1", x.door(0, 0, -1, 0, false), false);
        c.due("door 10", x.door(0, 10, 0, 1, false), false);
        c.due("door -1", x.door(0, -1, 0, 1, false), false);
        c.due("chest 3", x.door(3, 0, 0, 1, false), false);
        Texts.read(x, 0, "open 0; turn; open 9;");
        c.row("seen", new int[] {x.seen(0, 0, 0), x.seen(0, 0, 1), x.seen(0, 0, 2)}, 255, 0, 0xFF00);
        c.due("a door anew", x.door(0, 0, 1, 0x0300, false), true);
        c.due("is of the other side now", x.seen(0, 0, 0), 0);
        c.due("both of the back", x.seen(0, 0, 2), 0xFF00);
        c.due("another chest has none", x.seen(1, 0, 0), 0);
    }

    private static void poses() {
        c.test("9 poses of each size in an empty chest");
        WoodenTurk x = new WoodenTurk();
        c.row("poses", new int[] {x.poses(1, 1), x.poses(1, 2), x.poses(1, 3), x.poses(1, 4)}, 16, 28, 72, 180);
        c.row("wrong", new int[] {x.poses(0, 0), x.poses(0, 5), x.poses(-1, 1), x.poses(3, 1)}, -1, -1, -1, -1);
    }

    private static void posesWithWorksAndWalls() {
        c.test("9 poses hang together by passages of their own spaces");
        WoodenTurk x = new WoodenTurk();
        for (int s = 0; s < 16; s++) {
            x.works(0, s, s != 0 && s != 1 && s != 4 && s != 5);
        }
        c.row("a square", new int[] {x.poses(0, 1), x.poses(0, 2), x.poses(0, 3), x.poses(0, 4)}, 4, 4, 4, 1);
        x.wall(0, 0, 1, true);
        c.row("one wall", new int[] {x.poses(0, 1), x.poses(0, 2), x.poses(0, 3), x.poses(0, 4)}, 4, 3, 2, 1);
        x.wall(0, 4, 5, true);
        c.row("two walls", new int[] {x.poses(0, 1), x.poses(0, 2), x.poses(0, 3), x.poses(0, 4)}, 4, 2, 0, 0);
        x.wall(0, 1, 0, false);
        x.wall(0, 4, 5, false);
        c.row("walls gone", new int[] {x.poses(0, 1), x.poses(0, 2), x.poses(0, 3), x.poses(0, 4)}, 4, 4, 4, 1);
        for (int s = 0; s < 16; s++) {
            x.works(0, s, true);
        }
        c.due("none left", x.poses(0, 1), 0);
    }

    private static void passagesBothWays() {
        c.test("3 a passage goes both ways, also where a wall was");
        for (int told = 0; told < 4; told++) {
            WoodenTurk x = new WoodenTurk();
            for (int s = 2; s < 16; s++) {
                x.works(0, s, true);
            }
            x.door(0, 0, 0, 1, false);
            x.door(0, 1, 0, 2, false);
            Texts.read(x, 0, "open 0; shut 0; open 1;");
            Texts.read(x, 1, "open 1; shut 1; open 0;");
            x.wall(0, told & 1, 1 - (told & 1), true);
            c.row("a wall", new int[] {x.hide(0, 0, 1, 0), x.hide(0, 1, 1, 0)}, 0, 0);
            x.wall(0, told / 2, 1 - told / 2, false);
            c.row("none", new int[] {x.hide(0, 0, 1, 0), x.hide(0, 1, 1, 0)}, 1, 1);
        }
    }

    private static void posesOfEachChest() {
        c.test("9 each chest has its own poses");
        WoodenTurk x = new WoodenTurk();
        x.works(0, 0, true);
        x.wall(1, 0, 1, true);
        x.wall(2, 0, 1, false);
        c.row("size 1", new int[] {x.poses(0, 1), x.poses(1, 1), x.poses(2, 1), x.poses(0, 1)}, 15, 16, 16, 15);
        c.row("size 2", new int[] {x.poses(0, 2), x.poses(1, 2), x.poses(2, 2), x.poses(0, 2)}, 25, 27, 28, 25);
    }

    private static void airAtFirst() {
        c.test("18 air is 60 for each space without works");
        WoodenTurk x = new WoodenTurk();
        c.due("all spaces", x.air(0, 0, 0), 960);
        x.works(0, 3, true);
        c.due("one with works", x.air(0, 0, 3), 900);
        c.row("wrong", new int[] {x.air(3, 0, 0), x.air(0, -1, 0), x.air(0, 5, 0), x.air(0, 0, 4), x.air(0, 1, -1)},
            -1, -1, -1, -1, -1);
    }

    private static void airLasts() {
        c.test("18 air lasts by size, candles and doors");
        WoodenTurk x = new WoodenTurk();
        c.due("size 1", x.air(0, 1, 0), 470);
        c.due("size 4, three candles", x.air(0, 4, 3), 940 / 23);
        x.door(0, 0, 0, 1, false);
        c.due("a door brings 1", x.air(0, 1, 0), 940);
        x.door(0, 1, 1, 0x0F00, true);
        c.due("a false one nothing", x.air(0, 1, 0), 940);
        x.door(0, 2, 1, 0, false);
        c.due("an empty one nothing", x.air(0, 1, 0), 940);
        x.door(0, 3, 1, 256, false);
        c.due("it gets no less", x.air(0, 1, 0), 9999);
        x.door(0, 4, 1, 256, false);
        c.due("it gets more", x.air(0, 1, 0), 9999);
        c.due("size 4 takes 8, 3 come in", x.air(0, 4, 0), 940 / 5);
    }

    private static void airEdges() {
        c.test("18 air with few spaces");
        WoodenTurk x = new WoodenTurk();
        for (int s = 1; s < 16; s++) {
            x.works(0, s, true);
        }
        c.due("40 by 2", x.air(0, 1, 0), 20);
        c.due("40 by 13", x.air(0, 4, 1), 3);
        x.works(0, 0, true);
        c.due("none at all", x.air(0, 0, 0), 0);
        c.due("less at first", x.air(0, 1, 0), 0);
        for (int door = 0; door < 10; door++) {
            x.door(0, door, 0, 1, false);
        }
        c.due("less at first, though more comes in", x.air(0, 1, 0), 0);
    }
}
