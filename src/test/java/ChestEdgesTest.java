/** Edges of chests: spaces, works, walls, doors and poses (section 1, promises 2, 3, 4 and 9). */
public final class ChestEdgesTest {
    private static final Check c = new Check();

    public static void main(String[] args) {
        chests();
        spaces();
        neighbours();
        worksAtFirst();
        passagesAtFirst();
        doorNumbers();
        sides();
        spacesOfTheSide();
        emptyAtFirst();
        deepAgain();
        sizes();
        hangingTogether();
        ofThoseAlone();
        stays();
        oneSpaceASecond();
        byAPassage();
        withTheOneHeLeaves();
        worksRefused();
        worksTwice();
        wallsRefused();
        wallsTwice();
        wallsBetweenWorks();
        doorsRefused();
        poseCounts();
        posesRefused();
        posesAsTheyAreNow();
        c.end();
    }

    private static void chests() {
        c.edge("Terms 1", "CHESTS 0 .. 2");
        WoodenTurk x = new WoodenTurk();
        Texts.read(x, 0, "wait 5;");
        for (int chest = 0; chest < 3; chest++) {
            c.due("door", x.door(chest, 0, 0, 255, false), true);
            c.row("chest " + chest, ask(x, chest), 16, 0, 5, 1, 1, 0, 1, 960);
        }
        for (int chest : new int[] {Edges.LEAST, -1, 3, Edges.MOST}) {
            c.row("chest " + chest, ask(x, chest), -1, -1, -1, -1, -1, -1, -1, -1);
            c.due("works", x.works(chest, 0, true), false);
            c.due("wall", x.wall(chest, 0, 1, true), false);
            c.due("door", x.door(chest, 0, 0, 0, false), false);
        }
        for (int chest = 0; chest < 3; chest++) {
            c.row("as it was", ask(x, chest), 16, 0, 5, 1, 1, 0, 1, 960);
        }
    }

    private static int[] ask(WoodenTurk x, int chest) {
        return new int[] {x.poses(chest, 1), x.seen(chest, 0, 4), x.run(chest, 0, 0), x.hide(chest, 0, 1, 0),
            x.way(chest, 0, 1, 0), x.order(chest, 1, 1, 1, 0), x.proof(chest, 1, 0), x.air(chest, 0, 0)};
    }

    private static void spaces() {
        c.edge("Terms 1", "have SPACES 0 .. 15");
        WoodenTurk x = new WoodenTurk();
        for (int s : new int[] {Edges.LEAST, -16, -1, 16, 17, 31, 32, 47, 64, Edges.MOST}) {
            c.due("works in " + s, x.works(0, s, true), false);
            c.due("wall from " + s, x.wall(0, s, 0, true), false);
            c.due("wall to " + s, x.wall(0, 15, s, true), false);
        }
        c.row("nothing is done", new int[] {x.poses(0, 1), x.poses(0, 2)}, 16, 28);
        for (int s = 0; s < 16; s++) {
            c.due("works in " + s, x.works(0, s, true), true);
            c.due("one less", x.poses(0, 1), 15 - s);
        }
    }

    private static void neighbours() {
        c.edge("Terms 1", "SPACE s lies at x = s modulo 4, z = s by 4 modulo 2, y = s by 8 (0 front, 1 back)",
            "NEIGHBOURS differ by 1 in one of x, y, z, and none goes round an end");
        for (int s = 0; s < 16; s++) {
            WoodenTurk x = new WoodenTurk();
            int next = s % 4 != 3 ? s + 1 : -1;
            int above = s / 4 % 2 == 0 ? s + 4 : -1;
            int behind = s < 8 ? s + 8 : -1;
            int pairs = 28;
            for (int t = s + 1; t < 16; t++) {
                boolean are = t == next || t == above || t == behind;
                c.due("wall " + s + " " + t, x.wall(0, s, t, true), are);
                c.due("wall " + t + " " + s, x.wall(0, t, s, true), are);
                pairs -= are ? 1 : 0;
                c.due("poses of size 2", x.poses(0, 2), pairs);
            }
            c.due("itself", x.wall(0, s, s, true), false);
        }
    }

    private static void worksAtFirst() {
        c.edge("Terms 1", "A SPACE may have WORKS (none at first)");
        WoodenTurk x = new WoodenTurk();
        Texts.read(x, 4, "man when works 0=0 and works 7=0 and works 8=0 and works 15=0;");
        c.row("none", new int[] {x.reason(0), x.poses(0, 1), x.air(0, 0, 0)}, 2, 16, 960);
        x.works(0, 15, true);
        c.row("one", new int[] {x.reason(0), x.poses(0, 1), x.air(0, 0, 0)}, 0, 15, 900);
    }

    private static void passagesAtFirst() {
        c.edge("Terms 1", "between two NEIGHBOURS there is a PASSAGE (at first) or a WALL");
        WoodenTurk x = new WoodenTurk();
        c.row("passages alone", new int[] {x.poses(0, 1), x.poses(0, 2)}, 16, 28);
        for (int s = 0; s < 16; s++) {
            for (int t = s + 1; t < 16; t++) {
                x.wall(0, s, t, true);
            }
        }
        c.row("walls alone", new int[] {x.poses(0, 1), x.poses(0, 2), x.poses(0, 3), x.poses(0, 4)}, 16, 0, 0, 0);
    }

    private static void doorNumbers() {
        c.edge("Terms 1", "DOORS 0 .. 9 of a CHEST");
        WoodenTurk x = new WoodenTurk();
        for (int door : new int[] {Edges.LEAST, -1, 10, 11, 32, Edges.MOST}) {
            c.due("door " + door, x.door(0, door, 0, 255, false), false);
        }
        c.due("nothing is done", x.proof(0, 4, 0), -1);
        c.due("door 0", x.door(0, 0, 0, 0x0F, false), true);
        c.due("door 9", x.door(0, 9, 0, 0xF0, false), true);
        c.due("both", x.proof(0, 1, 0), 513);
    }

    private static void sides() {
        c.edge("Terms 1", "SIDE (0 front, 1 back)");
        WoodenTurk x = new WoodenTurk();
        x.door(0, 0, 0, 1, false);
        for (int side : new int[] {Edges.LEAST, -1, 2, 3, Edges.MOST}) {
            c.due("side " + side, x.door(0, 0, side, 0, false), false);
            c.due("with spaces", x.door(0, 0, side, 256, false), false);
        }
        c.due("door 1 of the back", x.door(0, 1, 1, 256, false), true);
        Texts.read(x, 0, "open 0; open 1; turn;");
        c.row("front, then back", Edges.film(x, 0, 0), 1, 1, 256);
    }

    private static void spacesOfTheSide() {
        c.edge("Terms 1", "a set of SPACES with y as the SIDE (SPACE s counts 2 to the s; empty at first)", "each space");
        WoodenTurk x = new WoodenTurk();
        Texts.read(x, 0, "open 0;");
        Texts.read(x, 1, "turn; open 0;");
        for (int s = 0; s < 32; s++) {
            c.due("front " + s, x.door(0, 0, 0, 1 << s, false), s < 8);
            c.due("seen", x.seen(0, 0, 0), s < 8 ? 1 << s : 128);
        }
        for (int s = 31; s >= 0; s--) {
            c.due("back " + s, x.door(0, 0, 1, 1 << s, false), s >= 8 && s < 16);
            c.due("seen", x.seen(0, 1, 1), s > 15 ? 0 : s >= 8 ? 1 << s : 256);
        }
        c.due("all of the front", x.door(0, 0, 0, 255, false), true);
        c.due("all of the back", x.door(0, 0, 1, 0xFF00, false), true);
        c.due("none of the front", x.door(0, 0, 0, 0, false), true);
        c.due("none of the back", x.door(0, 0, 1, 0, false), true);
    }

    private static void emptyAtFirst() {
        c.edge("Terms 1", "a set of SPACES with y as the SIDE (SPACE s counts 2 to the s; empty at first)",
            "empty at first");
        WoodenTurk x = new WoodenTurk();
        for (int door = 0; door < 10; door++) {
            Texts.read(x, 0, "open " + door + "; candle " + door + "; turn;");
            for (int chest = 0; chest < 3; chest++) {
                c.row("door " + door, Edges.film(x, chest, 0), 0, 0, 0);
            }
        }
    }

    private static void deepAgain() {
        c.edge("Terms 1", "DEEP (at first) or FALSE");
        WoodenTurk x = new WoodenTurk();
        Texts.read(x, 0, "open 3; candle 3;");
        x.door(0, 3, 0, 1, false);
        c.row("deep", Edges.film(x, 0, 0), 1, 0x101);
        x.door(0, 3, 0, 1, true);
        c.row("false", Edges.film(x, 0, 0), 1, 1);
        x.door(0, 3, 0, 1, false);
        c.row("deep again", Edges.film(x, 0, 0), 1, 0x101);
    }

    private static void sizes() {
        c.edge("Terms 1", "SOMEBODY of SIZE k (1 .. 4) is a POSE");
        WoodenTurk x = new WoodenTurk();
        Texts.read(x, 0, "wait 5;");
        x.door(0, 0, 0, 255, false);
        for (int size : new int[] {Edges.LEAST, -1, 0, 5, 6, 32, Edges.MOST}) {
            c.row("size " + size, new int[] {x.poses(0, size), x.hide(0, 0, size, 0), x.way(0, 0, size, 0),
                x.order(0, 1, 1, size, 0), x.proof(0, size, 0), x.master(size, 1, 1, 1)}, -1, -1, -1, -1, -1, -1);
            if (size != 0) {
                c.due("air", x.air(0, size, 0), -1);
            }
        }
        int[] first = {1, 3, 7, 15};
        for (int size = 1; size <= 4; size++) {
            c.row("size " + size, new int[] {x.hide(0, 0, size, 0), x.way(0, 0, size, 0), x.order(0, 0, 1, size, 0),
                x.proof(0, size, 0), x.air(0, size, 0) > 0 ? 1 : 0, x.master(size, 1, 1, 1)},
                1, first[size - 1], 0, 1, 1, size - 1);
        }
    }

    private static void hangingTogether() {
        c.edge("Terms 1", "k SPACES without WORKS, hanging together by PASSAGES (of those k)");
        WoodenTurk x = new WoodenTurk();
        Edges.keepFree(x, 0, 0x8421);
        c.row("four apart", new int[] {x.poses(0, 1), x.poses(0, 2), x.poses(0, 3), x.poses(0, 4)}, 4, 0, 0, 0);
        Edges.keepFree(x, 0, 0x000F);
        c.row("a row of four", new int[] {x.poses(0, 1), x.poses(0, 2), x.poses(0, 3), x.poses(0, 4)}, 4, 3, 2, 1);
        x.wall(0, 1, 2, true);
        c.row("cut in the middle", new int[] {x.poses(0, 1), x.poses(0, 2), x.poses(0, 3), x.poses(0, 4)}, 4, 2, 0, 0);
        Edges.keepFree(x, 0, 0x0101);
        c.row("front and back", new int[] {x.poses(0, 1), x.poses(0, 2), x.poses(0, 3)}, 2, 1, 0);
        Edges.keepFree(x, 0, 0);
        c.row("no space", new int[] {x.poses(0, 1), x.poses(0, 2), x.poses(0, 3), x.poses(0, 4)}, 0, 0, 0, 0);
    }

    private static void ofThoseAlone() {
        c.edge("Terms 1", "hanging together by PASSAGES (of those k)", "not by a way round through another space");
        WoodenTurk x = new WoodenTurk();
        Edges.keepFree(x, 0, 0x33);
        x.wall(0, 0, 1, true);
        // 0 and 1 are one step apart through 4 and 5 alone
        x.door(0, 0, 0, 0x30, true);
        Texts.read(x, 0, "open 0;");
        c.row("0 and 1 are no pose", Edges.hide(x, 0, 0, 2), 0, 0, 0);
        c.row("one of them is", Edges.hide(x, 0, 0, 1), 1, -1, 2);
        c.due("4 spaces in a row", x.poses(0, 4), 1);
        c.due("three of them", x.poses(0, 3), 2);
    }

    private static void stays() {
        c.edge("Terms 1", "In a second he stays, or MOVES", "he may stay, all the time");
        WoodenTurk x = new WoodenTurk();
        Edges.keepFree(x, 0, 1);
        Texts.read(x, 0, "wait 20;");
        c.row("one pose", Edges.hide(x, 0, 0, 1), 1, -1, 1);
        c.due("he stays", x.way(0, 0, 1, 20), 1);
        Edges.keepFree(x, 0, 0xFFFF);
        x.door(0, 0, 0, 0x7F, true);
        x.door(0, 1, 1, 0xFF00, true);
        Texts.read(x, 0, "open 0; wait 20;");
        c.row("he hides behind", new int[] {x.hide(0, 0, 1, 2), x.way(0, 0, 1, 0), x.way(0, 0, 1, 21)}, 9, 1, 256);
    }

    /** Seen are front spaces, then in the second behind it back spaces. */
    private static WoodenTurk turnedAt(int free, int front, int back) {
        WoodenTurk x = new WoodenTurk();
        Edges.keepFree(x, 0, free);
        x.door(0, 0, 0, front, true);
        x.door(0, 1, 1, back, true);
        Texts.read(x, 0, "open 1; open 0; turn;");
        return x;
    }

    private static void oneSpaceASecond() {
        c.edge("Terms 1", "to a POSE that has all his SPACES but one");
        WoodenTurk x = turnedAt(0x303, 0x03, 0x300);
        c.row("one space in a second", Edges.hide(x, 0, 0, 1), 1, -1, 2);
        c.row("not two", Edges.hide(x, 0, 0, 2), 0, 2, 0);
        Texts.read(x, 0, "open 1; open 0; shut 0; turn;");
        c.row("two in two seconds", Edges.hide(x, 0, 0, 2), 1, -1, 1);
        WoodenTurk y = turnedAt(0x707, 0x07, 0x700);
        c.row("not three", Edges.hide(y, 0, 0, 3), 0, 2, 0);
        Texts.read(y, 0, "open 1; open 0; shut 0; turn;");
        c.row("nor in two", Edges.hide(y, 0, 0, 3), 0, 3, 0);
        Texts.read(y, 0, "open 1; open 0; shut 0; wait 1; turn;");
        c.row("in three", Edges.hide(y, 0, 0, 3), 1, -1, 1);
        Texts.read(y, 0, "open 1; open 0; turn;");
        c.row("size 1 in one", Edges.hide(y, 0, 0, 1), 1, -1, 3);
    }

    private static void byAPassage() {
        c.edge("Terms 1", "the new one next (by a PASSAGE) to one that he had");
        WoodenTurk x = turnedAt(0x101, 0x01, 0x100);
        c.row("a passage", Edges.hide(x, 0, 0, 1), 1, -1, 1);
        x.wall(0, 0, 8, true);
        c.row("a wall", Edges.hide(x, 0, 0, 1), 0, 2, 0);
        x.wall(0, 8, 0, false);
        c.row("a passage again", Edges.hide(x, 0, 0, 1), 1, -1, 1);
        WoodenTurk far = turnedAt(0x201, 0x01, 0x200);
        c.row("no neighbour", Edges.hide(far, 0, 0, 1), 0, 2, 0);
        WoodenTurk works = turnedAt(0x300, 0x01, 0x200);
        c.row("he is behind already", Edges.hide(works, 0, 0, 1), 1, -1, 1);
    }

    private static void withTheOneHeLeaves() {
        c.edge("Terms 1", "to one that he had", "of a size of 1 it is the one that he leaves");
        WoodenTurk x = new WoodenTurk();
        Edges.keepFree(x, 0, 7);
        x.door(0, 0, 0, 6, true);
        x.door(0, 2, 0, 3, true);
        Texts.read(x, 0, "open 0; shut 0; open 2;");
        c.row("0, 1, 2", Edges.way(x, 0, 0, 1), 1, 1, 2, 4);
        Texts.read(x, 0, "open 0; shut 0; shut 0; open 2;");
        c.row("0, 0, 1, 2", Edges.way(x, 0, 0, 1), 1, 1, 1, 2, 4);
    }

    private static void worksRefused() {
        c.edge("Promise 2", "true; false if one can't be.");
        WoodenTurk x = new WoodenTurk();
        x.works(1, 3, true);
        c.due("chest 3", x.works(3, 3, false), false);
        c.due("chest -1", x.works(-1, 3, false), false);
        c.due("space 16", x.works(1, 16, false), false);
        c.due("space -1", x.works(1, -1, false), false);
        c.due("space 35, which is 3 by 32", x.works(1, 35, false), false);
        c.row("nothing is done", new int[] {x.poses(0, 1), x.poses(1, 1), x.poses(2, 1)}, 16, 15, 16);
    }

    private static void worksTwice() {
        c.edge("Promise 2", "WORKS are in a SPACE, or not", "told twice, or never there");
        WoodenTurk x = new WoodenTurk();
        c.due("not there, taken away", x.works(0, 5, false), true);
        c.due("still none", x.poses(0, 1), 16);
        c.due("put", x.works(0, 5, true), true);
        c.due("put again", x.works(0, 5, true), true);
        c.due("one", x.poses(0, 1), 15);
        c.due("taken away once", x.works(0, 5, false), true);
        c.due("gone", x.poses(0, 1), 16);
    }

    private static void wallsRefused() {
        c.edge("Promise 3", "true; false if they are none, or one can't be.");
        WoodenTurk x = new WoodenTurk();
        c.due("3 and 4", x.wall(0, 3, 4, true), false);
        c.due("7 and 8", x.wall(0, 7, 8, true), false);
        c.due("11 and 12", x.wall(0, 11, 12, true), false);
        c.due("4 and 8", x.wall(0, 4, 8, true), false);
        c.due("0 and 5", x.wall(0, 0, 5, true), false);
        c.due("0 and 9", x.wall(0, 0, 9, true), false);
        c.due("0 and 0", x.wall(0, 0, 0, true), false);
        c.due("15 and 16", x.wall(0, 15, 16, true), false);
        c.due("-1 and 0", x.wall(0, -1, 0, true), false);
        c.due("0 and -1", x.wall(0, 0, -1, true), false);
        c.due("12 and 16", x.wall(0, 12, 16, true), false);
        c.due("8 and 16", x.wall(0, 8, 16, true), false);
        c.due("the least and the most", x.wall(0, Edges.LEAST, Edges.MOST, true), false);
        c.due("the most and the least", x.wall(0, Edges.MOST, Edges.LEAST, true), false);
        c.due("chest 3", x.wall(3, 0, 1, true), false);
        c.due("chest -1", x.wall(-1, 0, 1, true), false);
        for (int chest = 0; chest < 3; chest++) {
            c.due("nothing is done", x.poses(chest, 2), 28);
        }
    }

    private static void wallsTwice() {
        c.edge("Promise 3", "Between two NEIGHBOURS there is a WALL, or not", "told twice, backwards, or never there");
        WoodenTurk x = new WoodenTurk();
        c.due("none there", x.wall(0, 14, 15, false), true);
        c.due("none", x.poses(0, 2), 28);
        c.due("put", x.wall(0, 14, 15, true), true);
        c.due("put backwards", x.wall(0, 15, 14, true), true);
        c.due("one", x.poses(0, 2), 27);
        c.due("taken away once", x.wall(0, 14, 15, false), true);
        c.due("gone", x.poses(0, 2), 28);
    }

    private static void wallsBetweenWorks() {
        c.edge("Promise 3", "Between two NEIGHBOURS there is a WALL, or not", "also where there are works");
        WoodenTurk x = new WoodenTurk();
        x.works(0, 0, true);
        x.works(0, 1, true);
        c.due("wall", x.wall(0, 0, 1, true), true);
        x.works(0, 0, false);
        x.works(0, 1, false);
        c.due("it stands when the works have gone", x.poses(0, 2), 27);
    }

    private static void doorsRefused() {
        c.edge("Promise 4", "false, and nothing is done, if one can't be (a SPACE of the other SIDE)");
        WoodenTurk x = new WoodenTurk();
        Texts.read(x, 0, "candle 2; open 2; turn;");
        x.door(0, 2, 0, 0x81, false);
        c.due("a space of the back", x.door(0, 2, 0, 0x100, true), false);
        c.due("one of each side", x.door(0, 2, 0, 0x180, true), false);
        c.due("the front's of the back", x.door(0, 2, 1, 0x80, true), false);
        c.due("no space at all of 16", x.door(0, 2, 1, 0x10000, true), false);
        c.due("below 0", x.door(0, 2, 0, -1, true), false);
        c.due("the least", x.door(0, 2, 1, Edges.LEAST, true), false);
        c.due("side 2", x.door(0, 2, 2, 0, true), false);
        c.due("side -1", x.door(0, 2, -1, 0, true), false);
        c.due("door 10", x.door(0, 10, 0, 0, true), false);
        c.due("door -1", x.door(0, -1, 0, 0, true), false);
        c.due("chest 3", x.door(3, 2, 0, 0, true), false);
        c.due("chest -1", x.door(-1, 2, 0, 0, true), false);
        c.row("side, spaces and deep as they were", Edges.film(x, 0, 0), 0, 0x8181, 0);
        x.door(0, 2, 1, 0x8100, true);
        c.due("refused", x.door(0, 2, 0, 0x8100, false), false);
        c.row("as it was", Edges.film(x, 0, 0), 0, 0, 0x8100);
    }

    private static void poseCounts() {
        c.edge("Promise 9", "How many POSES of a SIZE a CHEST has", "the most, and none");
        WoodenTurk x = new WoodenTurk();
        c.row("all spaces", new int[] {x.poses(2, 1), x.poses(2, 2), x.poses(2, 3), x.poses(2, 4)}, 16, 28, 72, 180);
        Edges.keepFree(x, 2, 0x8000);
        c.row("one space", new int[] {x.poses(2, 1), x.poses(2, 2), x.poses(2, 3), x.poses(2, 4)}, 1, 0, 0, 0);
        Edges.keepFree(x, 2, 0);
        c.row("none", new int[] {x.poses(2, 1), x.poses(2, 2), x.poses(2, 3), x.poses(2, 4)}, 0, 0, 0, 0);
        Edges.keepFree(x, 2, 0xFF);
        c.row("the front", new int[] {x.poses(2, 1), x.poses(2, 2), x.poses(2, 3), x.poses(2, 4)}, 8, 10, 16, 21);
    }

    private static void posesRefused() {
        c.edge("Promise 9", "NONE if one can't be.");
        WoodenTurk x = new WoodenTurk();
        c.row("sizes", new int[] {x.poses(0, 0), x.poses(0, 5), x.poses(0, -1), x.poses(0, Edges.LEAST),
            x.poses(0, Edges.MOST)}, -1, -1, -1, -1, -1);
        c.row("chests", new int[] {x.poses(-1, 1), x.poses(3, 4), x.poses(Edges.LEAST, 1), x.poses(Edges.MOST, 1)},
            -1, -1, -1, -1);
    }

    private static void posesAsTheyAreNow() {
        c.edge("Promise 9", "How many POSES of a SIZE a CHEST has", "as it is now, of this chest and this size");
        WoodenTurk x = new WoodenTurk();
        x.works(1, 0, true);
        x.works(2, 0, true);
        x.works(2, 1, true);
        c.row("one after another", new int[] {x.poses(0, 1), x.poses(1, 1), x.poses(2, 1), x.poses(0, 1), x.poses(0, 2),
            x.poses(1, 2), x.poses(0, 2)}, 16, 15, 14, 16, 28, 25, 28);
        x.works(0, 15, true);
        c.due("works came", x.poses(0, 2), 25);
        x.wall(0, 0, 1, true);
        c.due("a wall came", x.poses(0, 2), 24);
        x.works(0, 15, false);
        c.due("works went", x.poses(0, 2), 27);
        x.wall(0, 0, 1, false);
        c.due("the wall went", x.poses(0, 2), 28);
        x.door(0, 0, 0, 255, false);
        c.due("doors take no poses", x.poses(0, 2), 28);
    }
}
