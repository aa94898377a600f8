/** Edges of shows and of hiding in them (section 1, promises 10 to 13). */
public final class ShowEdgesTest {
    private static final Check c = new Check();

    public static void main(String[] args) {
        shows();
        emptyShows();
        atFirst();
        alsoIfItWasSo();
        oneCandle();
        darkWithoutACandle();
        turns();
        seconds();
        worksAreSeen();
        otherSideUnseen();
        candleOfAShutDoor();
        falseDoors();
        neighboursBehind();
        neighboursInFront();
        allSeen();
        noSuchSecond();
        runOfTheLatest();
        runRefused();
        mostOpen();
        wellOrNot();
        whichSecond();
        howManyPoses();
        hideWithoutPoses();
        hideRefused();
        anyPoseAhead();
        ofTheNewPose();
        longAsHeCan();
        firstOfWays();
        wayOfHighPoses();
        wayBySeconds();
        noSuchK();
        notWell();
        wayRefused();
        theLongestShow();
        chestAndShowOfNow();
        c.end();
    }

    private static void shows() {
        c.edge("Terms 1", "SHOWS 0 .. 3 (empty at first)", "and no others");
        WoodenTurk x = new WoodenTurk();
        for (int show = 0; show < 4; show++) {
            Texts.read(x, show, "wait 5;");
            c.row("show " + show, ask(x, show), 0, 5, 1, 1);
        }
        for (int show : new int[] {Edges.LEAST, -1, 4, 5, Edges.MOST}) {
            c.row("show " + show, ask(x, show), -1, -1, -1, -1);
        }
    }

    private static int[] ask(WoodenTurk x, int show) {
        return new int[] {x.seen(0, show, 4), x.run(0, show, 0), x.hide(0, show, 1, 0), x.way(0, show, 1, 5)};
    }

    private static void emptyShows() {
        c.edge("Terms 1", "SHOWS 0 .. 3 (empty at first)", "empty at first");
        WoodenTurk x = new WoodenTurk();
        x.door(0, 0, 0, 255, false);
        for (int show = 0; show < 4; show++) {
            c.row("run", Edges.run(x, 0, show), 0, 0, 0, 0);
            c.row("seen", new int[] {x.seen(0, show, 0), x.seen(0, show, -1)}, -1, -1);
            c.row("hide", Edges.hide(x, 0, show, 4), 1, -1, 180);
            c.row("way", new int[] {x.way(0, show, 4, 0), x.way(0, show, 4, 1)}, 15, -1);
        }
    }

    private static void atFirst() {
        c.edge("Terms 1", "At first all DOORS are shut, no candle burns, and the front is to the watchers.",
            "in each show, whatever was shown before");
        WoodenTurk x = new WoodenTurk();
        for (int door = 0; door < 10; door++) {
            x.door(0, door, door % 2, door % 2 == 0 ? 1 : 0x200, false);
        }
        Texts.read(x, 0, "open 0; candle 0; turn; open 1;");
        Texts.read(x, 1, "wait 1; open 2; candle 9; open 4;");
        Texts.read(x, 2, "turn; turn; open 1; open 0;");
        for (int round = 0; round < 2; round++) {
            c.row("open, candle, turned in the end", Edges.film(x, 0, 0), 1, 0x101, 0, 0x200);
            c.row("shut, unlit, the front", Edges.film(x, 0, 1), 0, 1, 1, 1);
            c.row("no candle at 0", Edges.film(x, 0, 2), 0, 0, 0, 1);
        }
        Texts.read(x, 3, "wait 1;");
        c.row("no candle at door 0", new int[] {Texts.read(x, 3, "open 0;"), x.seen(0, 3, 0)}, 1, 1);
    }

    private static void alsoIfItWasSo() {
        c.edge("Terms 1", "open, shut: the DOOR is so from then on (also if it was so)");
        WoodenTurk x = new WoodenTurk();
        x.door(0, 0, 0, 1, true);
        Texts.read(x, 0, "shut 0; open 0; open 0; shut 0; shut 0; open 0;");
        c.row("film", Edges.film(x, 0, 0), 0, 1, 1, 0, 0, 1);
        c.row("each step takes its second", Edges.run(x, 0, 0), 6, 1, 1, 0);
    }

    private static void oneCandle() {
        c.edge("Terms 1", "candle N: one burns at DOOR N (no other one does then)");
        WoodenTurk x = new WoodenTurk();
        x.door(0, 0, 0, 1, false);
        x.door(0, 9, 0, 2, false);
        Texts.read(x, 0, "open 0; open 9; candle 0; candle 9; candle 9; candle 0;");
        c.row("film", Edges.film(x, 0, 0), 1, 3, 0x103, 0x203, 0x203, 0x103);
    }

    private static void darkWithoutACandle() {
        c.edge("Terms 1", "dark: none does", "also if none did");
        WoodenTurk x = new WoodenTurk();
        x.door(0, 0, 0, 1, false);
        Texts.read(x, 0, "dark; open 0; dark; candle 0; dark; dark; candle 0;");
        c.row("film", Edges.film(x, 0, 0), 0, 1, 1, 0x101, 1, 1, 0x101);
    }

    private static void turns() {
        c.edge("Terms 1", "turn: the other SIDE is to the watchers", "and again the first");
        WoodenTurk x = new WoodenTurk();
        x.door(0, 0, 0, 1, true);
        x.door(0, 1, 1, 256, true);
        Texts.read(x, 0, "open 0; open 1; turn; turn; turn; turn;");
        c.row("film", Edges.film(x, 0, 0), 1, 1, 256, 1, 256, 1);
        Texts.read(x, 1, "turn;".repeat(40));
        c.row("forty", Edges.run(x, 0, 1), 40, 0, 0, 40);
    }

    private static void seconds() {
        c.edge("Terms 1", "Each STEP takes a second, wait as many as it says");
        WoodenTurk x = new WoodenTurk();
        x.door(0, 0, 0, 1, true);
        x.door(0, 1, 0, 2, true);
        Texts.read(x, 0, "wait 1; open 0; wait 2; shut 0; wait 20; candle 0; dark; turn; turn; open 1;");
        int[] want = new int[30];
        want[1] = 1;
        want[2] = 1;
        want[3] = 1;
        want[29] = 2;
        c.row("film", Edges.film(x, 0, 0), want);
        c.due("seconds", x.run(0, 0, 0), 30);
        c.due("none behind", x.seen(0, 0, 30), -1);
    }

    private static void worksAreSeen() {
        c.edge("Terms 1", "is SEEN: of each open DOOR of the SIDE to the watchers its SPACES", "those with works too");
        WoodenTurk x = new WoodenTurk();
        x.door(0, 0, 0, 0x0F, false);
        Edges.keepFree(x, 0, 0);
        Texts.read(x, 0, "open 0; candle 0;");
        c.row("works are seen, behind them nothing", Edges.film(x, 0, 0), 15, 15);
    }

    private static void otherSideUnseen() {
        c.edge("Terms 1", "of each open DOOR of the SIDE to the watchers", "not of the other side, lit or not");
        WoodenTurk x = new WoodenTurk();
        x.door(0, 0, 0, 1, false);
        x.door(0, 1, 1, 0x200, false);
        Texts.read(x, 0, "open 1; candle 1; turn; open 0; candle 0; turn; turn;");
        c.row("film", Edges.film(x, 0, 0), 0, 0, 0x202, 0x202, 0x200, 0x101, 0x200);
    }

    private static void candleOfAShutDoor() {
        c.edge("Terms 1", "and if the candle burns at this DOOR, and it is DEEP", "a shut door shows nothing");
        WoodenTurk x = new WoodenTurk();
        x.door(0, 0, 0, 1, false);
        x.door(0, 1, 0, 2, false);
        Texts.read(x, 0, "candle 0; open 1; open 0; shut 1;");
        c.row("film", Edges.film(x, 0, 0), 0, 2, 0x103, 0x101);
    }

    private static void falseDoors() {
        c.edge("Terms 1", "and it is DEEP", "a false door shows its own spaces alone");
        WoodenTurk x = new WoodenTurk();
        x.door(0, 0, 0, 0xFF, true);
        x.door(0, 1, 1, 0xFF00, true);
        Texts.read(x, 0, "open 0; candle 0; open 1; candle 1; turn;");
        c.row("false", Edges.film(x, 0, 0), 0xFF, 0xFF, 0xFF, 0xFF, 0xFF00);
        x.door(0, 1, 1, 0xFF00, false);
        c.row("the back one is deep", Edges.film(x, 0, 0), 0xFF, 0xFF, 0xFF, 0xFF, 0xFFFF);
    }

    private static void neighboursBehind() {
        c.edge("Terms 1", "also the NEIGHBOUR in y of each of its SPACES that has no WORKS", "of a door of the front");
        WoodenTurk x = new WoodenTurk();
        Texts.read(x, 0, "candle 0; open 0;");
        for (int s = 0; s < 8; s++) {
            x.door(0, 0, 0, 1 << s, false);
            c.due("without works", x.seen(0, 0, 1), 1 << s | 256 << s);
            x.works(0, s, true);
            c.due("works ahead", x.seen(0, 0, 1), 1 << s);
            x.works(0, s, false);
            x.works(0, s + 8, true);
            c.due("works behind", x.seen(0, 0, 1), 1 << s | 256 << s);
            x.works(0, s + 8, false);
            x.wall(0, s, s + 8, true);
            c.due("a wall between", x.seen(0, 0, 1), 1 << s | 256 << s);
        }
        x.door(0, 0, 0, 255, false);
        x.works(0, 0, true);
        x.works(0, 7, true);
        c.due("all but two", x.seen(0, 0, 1), 0x7EFF);
    }

    private static void neighboursInFront() {
        c.edge("Terms 1", "also the NEIGHBOUR in y of each of its SPACES that has no WORKS", "of a door of the back");
        WoodenTurk x = new WoodenTurk();
        Texts.read(x, 0, "candle 9; open 9; turn;");
        for (int s = 8; s < 16; s++) {
            x.door(0, 9, 1, 1 << s, false);
            c.due("without works", x.seen(0, 0, 2), 1 << s | 1 << (s - 8));
            x.works(0, s, true);
            c.due("works ahead", x.seen(0, 0, 2), 1 << s);
            x.works(0, s, false);
        }
        x.door(0, 9, 1, 0xFF00, false);
        x.works(0, 15, true);
        c.due("all but one", x.seen(0, 0, 2), 0xFF7F);
    }

    private static void allSeen() {
        c.edge("Terms 1", "ALL SEEN: in all seconds together.");
        WoodenTurk x = new WoodenTurk();
        x.door(0, 0, 0, 1, false);
        x.door(0, 1, 1, 0x8000, false);
        Texts.read(x, 0, "open 0; shut 0; open 1; turn;");
        c.due("first and last second", x.run(0, 0, 1), 0x8001);
        Texts.read(x, 1, "open 1; candle 0; shut 1; turn; wait 3;");
        c.due("nothing", x.run(0, 1, 1), 0);
        x.door(0, 2, 0, 255, false);
        Texts.read(x, 2, "candle 2; open 2;");
        c.due("everything", x.run(0, 2, 1), 0xFFFF);
    }

    private static void noSuchSecond() {
        c.edge("Promise 10", "NONE if there is none such.");
        WoodenTurk x = new WoodenTurk();
        x.door(0, 0, 0, 1, false);
        Texts.read(x, 0, "open 0; wait 20;");
        c.row("the first and the last", new int[] {x.seen(0, 0, 0), x.seen(0, 0, 20)}, 1, 1);
        for (int second : new int[] {Edges.LEAST, -2, -1, 21, 22, 40, 800, Edges.MOST}) {
            c.due("second " + second, x.seen(0, 0, second), -1);
        }
        c.row("an empty show", new int[] {x.seen(0, 1, 0), x.seen(0, 1, 1), x.seen(0, 1, -1)}, -1, -1, -1);
        c.row("no such chest", new int[] {x.seen(3, 0, 0), x.seen(-1, 0, 0)}, -1, -1);
        c.row("no such show", new int[] {x.seen(0, 4, 0), x.seen(0, -1, 0)}, -1, -1);
    }

    private static void runOfTheLatest() {
        c.edge("Promise 11", "1 ALL SEEN, 2 the most DOORS open at once, 3 how many turn.",
            "of what the show and the chest are now");
        WoodenTurk x = new WoodenTurk();
        x.door(0, 0, 0, 0x0F, false);
        x.door(0, 1, 0, 0xF0, false);
        Texts.read(x, 0, "open 0; open 1; candle 0; turn; turn;");
        c.row("run", Edges.run(x, 0, 0), 5, 0x0FFF, 2, 2);
        x.door(0, 0, 0, 1, true);
        c.row("less is seen now", Edges.run(x, 0, 0), 5, 0xF1, 2, 2);
        c.row("another chest", Edges.run(x, 1, 0), 5, 0, 2, 2);
        c.row("the first again", Edges.run(x, 0, 0), 5, 0xF1, 2, 2);
        for (int round = 0; round < 3; round++) {
            Texts.read(x, 0, "open 0;");
            c.row("a shorter show", Edges.run(x, 0, 0), 1, 1, 1, 0);
            Texts.read(x, 0, "");
            c.row("an empty show", Edges.run(x, 0, 0), 0, 0, 0, 0);
        }
    }

    private static void runRefused() {
        c.edge("Promise 11", "NONE if one can't be, or another what.");
        WoodenTurk x = new WoodenTurk();
        Texts.read(x, 0, "open 0; turn;");
        for (int what : new int[] {Edges.LEAST, -1, 4, 5, Edges.MOST}) {
            c.due("what " + what, x.run(0, 0, what), -1);
        }
        for (int what = 0; what < 4; what++) {
            c.row("no such chest", new int[] {x.run(3, 0, what), x.run(-1, 0, what)}, -1, -1);
            c.row("no such show", new int[] {x.run(0, 4, what), x.run(0, -1, what)}, -1, -1);
        }
    }

    private static void mostOpen() {
        c.edge("Promise 11", "2 the most DOORS open at once", "none, all ten, empty ones and of both sides");
        WoodenTurk x = new WoodenTurk();
        Texts.read(x, 0, "shut 0; shut 9; candle 1; wait 3; turn;");
        c.due("none", x.run(0, 0, 2), 0);
        Texts.read(x, 0, "open 0;open 1;open 2;open 3;open 4;open 5;open 6;open 7;open 8;open 9;shut 9;shut 0;");
        c.due("ten", x.run(0, 0, 2), 10);
        x.door(0, 0, 1, 256, false);
        Texts.read(x, 0, "open 0; open 5; turn; shut 0; open 6;");
        c.due("two, of both sides", x.run(0, 0, 2), 2);
        Texts.read(x, 0, "open 0; shut 0; open 1; shut 1; open 2; shut 2;");
        c.due("one behind the other", x.run(0, 0, 2), 1);
    }

    /** Spaces 0, 1, 2 in a row; each has a door of its own. */
    private static WoodenTurk corridor() {
        WoodenTurk x = new WoodenTurk();
        Edges.keepFree(x, 0, 7);
        for (int s = 0; s < 3; s++) {
            x.door(0, s, 0, 1 << s, false);
        }
        return x;
    }

    private static void wellOrNot() {
        c.edge("Promise 12", "what 0 1 if it goes WELL to the end, else 0");
        WoodenTurk x = corridor();
        Texts.read(x, 0, "open 0; open 1; wait 20; wait 20;");
        c.row("well", new int[] {x.hide(0, 0, 1, 0), x.hide(0, 0, 2, 0), x.hide(0, 0, 3, 0)}, 1, 0, 0);
        Texts.read(x, 0, "open 0; open 1; wait 20; wait 20; open 2;");
        c.due("not in the last second", x.hide(0, 0, 1, 0), 0);
        Texts.read(x, 0, "open 0; open 1; open 2; shut 0; shut 1; shut 2; wait 20;");
        c.due("once seen, it is over", x.hide(0, 0, 1, 0), 0);
    }

    private static void whichSecond() {
        c.edge("Promise 12", "1 the second in which it does not any more (NONE)");
        WoodenTurk x = corridor();
        Texts.read(x, 0, "wait 19; open 0; open 1; wait 20; open 2; wait 5;");
        c.due("the first second of a step", x.hide(0, 0, 1, 1), 41);
        c.due("size 2", x.hide(0, 0, 2, 1), 20);
        c.due("size 3", x.hide(0, 0, 3, 1), 19);
        Texts.read(x, 0, "open 0; open 1; open 2; shut 0; shut 1; shut 2;");
        c.due("the first of several", x.hide(0, 0, 1, 1), 2);
        c.due("the first of all", x.hide(0, 0, 3, 1), 0);
        Texts.read(x, 0, "open 0; open 1;");
        c.due("none", x.hide(0, 0, 1, 1), -1);
        c.due("none in an empty show", x.hide(0, 1, 3, 1), -1);
    }

    private static void howManyPoses() {
        c.edge("Promise 12", "2 in how many POSES he can be in the end (0 if it does not go WELL)");
        WoodenTurk x = corridor();
        Texts.read(x, 0, "open 0; open 1;");
        c.row("well", Edges.hide(x, 0, 0, 1), 1, -1, 1);
        Texts.read(x, 0, "open 0; open 1; shut 0; shut 1;");
        c.row("two seconds later", Edges.hide(x, 0, 0, 1), 1, -1, 2);
        Texts.read(x, 0, "open 0; open 1; shut 0; shut 1; wait 1;");
        c.row("three", Edges.hide(x, 0, 0, 1), 1, -1, 3);
        Texts.read(x, 0, "open 0; open 1; shut 0;");
        c.row("a second later", Edges.hide(x, 0, 0, 1), 1, -1, 1);
        Texts.read(x, 0, "open 0; open 1; open 2; shut 0; shut 1; shut 2;");
        c.row("not well", Edges.hide(x, 0, 0, 1), 0, 2, 0);
        c.row("an empty show: all", new int[] {x.hide(0, 1, 1, 2), x.hide(0, 1, 2, 2), x.hide(1, 1, 4, 2)}, 3, 2, 180);
    }

    private static void hideWithoutPoses() {
        c.edge("Terms 1", "ahead of the first second he is in any POSE", "it can't go well where there is none");
        WoodenTurk x = corridor();
        Texts.read(x, 0, "wait 3;");
        for (int show = 0; show < 2; show++) {
            c.row("size 3", Edges.hide(x, 0, show, 3), 1, -1, 1);
            c.row("size 4", Edges.hide(x, 0, show, 4), 0, 0, 0);
            c.due("no way", x.way(0, show, 4, 0), -1);
        }
    }

    private static void hideRefused() {
        c.edge("Promise 12", "NONE if one can't be, or another what.");
        WoodenTurk x = corridor();
        Texts.read(x, 0, "open 0;");
        for (int what : new int[] {Edges.LEAST, -1, 3, 4, Edges.MOST}) {
            c.row("what " + what, new int[] {x.hide(0, 0, 1, what), x.hide(0, 1, 1, what), x.hide(0, 0, 4, what)},
                -1, -1, -1);
        }
        for (int what = 0; what < 3; what++) {
            c.row("no such chest", new int[] {x.hide(3, 0, 1, what), x.hide(-1, 0, 1, what)}, -1, -1);
            c.row("no such show", new int[] {x.hide(0, 4, 1, what), x.hide(0, -1, 1, what)}, -1, -1);
            c.row("no such size", new int[] {x.hide(0, 0, 0, what), x.hide(0, 0, 5, what)}, -1, -1);
        }
    }

    private static void anyPoseAhead() {
        c.edge("Terms 1", "ahead of the first second he is in any POSE", "also in one that is seen in the first second");
        WoodenTurk x = corridor();
        Texts.read(x, 0, "open 0;");
        c.row("he leaves 0 in it", Edges.way(x, 0, 0, 1), 1, 2);
        Texts.read(x, 0, "open 1;");
        c.row("he is at 0, or leaves 1", Edges.hide(x, 0, 0, 1), 1, -1, 2);
    }

    private static void ofTheNewPose() {
        c.edge("Terms 1", "in each second he stays or MOVES, and then no SPACE of his is SEEN in it",
            "the pose behind the move counts, each of its spaces");
        WoodenTurk x = corridor();
        x.door(0, 3, 1, 256, false);
        Texts.read(x, 0, "open 1; shut 1; open 0;");
        c.row("from 0 to 1", Edges.hide(x, 0, 0, 1), 1, -1, 2);
        c.row("size 2 has 1 in all poses", Edges.hide(x, 0, 0, 2), 0, 0, 0);
        Texts.read(x, 0, "open 0; shut 0; open 2;");
        c.row("size 2 from 1, 2 to 0, 1", Edges.way(x, 0, 0, 2), 3, 6, 3, 3);
        c.row("size 3 can't leave 0", Edges.hide(x, 0, 0, 3), 0, 0, 0);
    }

    private static void longAsHeCan() {
        c.edge("Terms 1", "It goes WELL as long as he can.");
        WoodenTurk x = corridor();
        x.wall(0, 0, 1, true);
        Texts.read(x, 0, "open 1; open 2; wait 10; shut 1; shut 2; open 0;");
        c.row("0 is cut off", Edges.hide(x, 0, 0, 1), 0, 14, 0);
        x.wall(0, 0, 1, false);
        c.row("now he leaves it in the last second", Edges.hide(x, 0, 0, 1), 1, -1, 2);
        c.due("he is there as long", x.way(0, 0, 1, 12), 1);
    }

    private static void firstOfWays() {
        c.edge("Terms 1", "of all ways that go WELL to the end the first by POSES as numbers (sets of SPACES), that ahead first",
            "not the first poses, if they end badly");
        WoodenTurk x = corridor();
        x.wall(0, 0, 1, true);
        Texts.read(x, 0, "wait 2; open 0;");
        c.row("0 has no way on", Edges.way(x, 0, 0, 1), 2, 2, 2, 2);
        x.wall(0, 0, 1, false);
        c.row("now it has", Edges.way(x, 0, 0, 1), 1, 1, 1, 2);
        Texts.read(x, 0, "wait 2; open 0; open 1;");
        c.row("in time to 2", Edges.way(x, 0, 0, 1), 1, 1, 1, 2, 4);
        c.row("size 2 has no way", Edges.way(x, 0, 0, 2), -1, -1, -1, -1, -1);
        Texts.read(x, 0, "open 0; open 1; shut 0; shut 1; wait 2;");
        c.row("back to the first ones", Edges.way(x, 0, 0, 1), 1, 2, 4, 4, 2, 1, 1);
    }

    private static void wayOfHighPoses() {
        c.edge("Terms 1", "the first by POSES as numbers (sets of SPACES)", "of the 180 poses the last ones");
        WoodenTurk x = new WoodenTurk();
        x.door(0, 0, 0, 0xFF, true);
        x.door(0, 1, 0, 0x0F, false);
        Texts.read(x, 0, "open 0; wait 6;");
        c.row("behind alone", new int[] {x.hide(0, 0, 4, 2), x.way(0, 0, 4, 0), x.way(0, 0, 4, 1), x.way(0, 0, 4, 7)},
            21, 0x0701, 0x0F00, 0x0F00);
        Texts.read(x, 0, "candle 1; open 1; open 0; wait 3;");
        // 0 1 4 12, then 0 4 12 13, then 4 12 13 14, then 12 13 14 15
        c.row("to the last pose", Edges.way(x, 0, 0, 4), 0x1013, 0x3011, 0x7010, 0xF000, 0xF000, 0xF000, 0xF000);
        Edges.keepFree(x, 0, 0xF0F0);
        Texts.read(x, 0, "open 0; wait 20;");
        c.row("12 to 15", new int[] {x.way(0, 0, 4, 1), x.way(0, 0, 4, 21), x.hide(0, 0, 4, 2)}, 0xF000, 0xF000, 1);
    }

    private static void wayBySeconds() {
        c.edge("Promise 13", "the POSE ahead of the first second (k 0), behind second k - 1");
        WoodenTurk x = corridor();
        Texts.read(x, 0, "open 0; shut 0; open 2;");
        c.row("three seconds, four poses", Edges.way(x, 0, 0, 1), 1, 2, 1, 1);
        c.row("no seconds, one pose", Edges.way(x, 0, 1, 1), 1);
    }

    private static void noSuchK() {
        c.edge("Promise 13", "there is no such k");
        WoodenTurk x = corridor();
        Texts.read(x, 0, "wait 3;");
        c.row("the first and the last", new int[] {x.way(0, 0, 1, 0), x.way(0, 0, 1, 3)}, 1, 1);
        for (int k : new int[] {Edges.LEAST, -2, -1, 4, 5, 801, Edges.MOST}) {
            c.due("k " + k, x.way(0, 0, 1, k), -1);
        }
        c.row("an empty show", new int[] {x.way(0, 1, 1, 0), x.way(0, 1, 1, 1), x.way(0, 1, 1, -1)}, 1, -1, -1);
    }

    private static void notWell() {
        c.edge("Promise 13", "NONE if it does not go WELL");
        WoodenTurk x = corridor();
        Texts.read(x, 0, "wait 3; open 0; open 1; open 2;");
        for (int k = 0; k < 7; k++) {
            c.due("not to the end, so not at all", x.way(0, 0, 1, k), -1);
        }
        c.row("no pose", new int[] {x.way(0, 0, 4, 0), x.way(0, 1, 4, 0)}, -1, -1);
    }

    private static void wayRefused() {
        c.edge("Promise 13", "or one can't be.");
        WoodenTurk x = corridor();
        Texts.read(x, 0, "wait 3;");
        c.row("no such chest", new int[] {x.way(3, 0, 1, 0), x.way(-1, 0, 1, 0)}, -1, -1);
        c.row("no such show", new int[] {x.way(0, 4, 1, 0), x.way(0, -1, 1, 0)}, -1, -1);
        c.row("no such size", new int[] {x.way(0, 0, 0, 0), x.way(0, 0, 5, 0), x.way(0, 0, -1, 0)}, -1, -1, -1);
    }

    private static void theLongestShow() {
        c.edge("Terms 1", "wait 1 .. 20", "forty steps of twenty seconds");
        WoodenTurk x = corridor();
        Texts.read(x, 0, "wait 20;".repeat(40));
        c.row("seconds", new int[] {x.run(0, 0, 0), x.seen(0, 0, 799), x.seen(0, 0, 800)}, 800, 0, -1);
        c.row("way", new int[] {x.way(0, 0, 1, 799), x.way(0, 0, 1, 800), x.way(0, 0, 1, 801)}, 1, 1, -1);
        Texts.read(x, 0, "wait 20;".repeat(38) + "open 0;wait 20;");
        c.row("early in place", new int[] {x.way(0, 0, 1, 760), x.way(0, 0, 1, 761), x.way(0, 0, 1, 781)}, 1, 2, 2);
        Texts.read(x, 0, "open 0;open 1;" + "wait 20;".repeat(37) + "open 2;");
        c.row("it fails in the last second", Edges.hide(x, 0, 0, 1), 0, 742, 0);
    }

    private static void chestAndShowOfNow() {
        c.edge("Promise 12", "HIDING", "of the chest and the show as they are now");
        WoodenTurk x = corridor();
        Texts.read(x, 0, "open 0; open 1;");
        c.row("well", Edges.hide(x, 0, 0, 1), 1, -1, 1);
        x.works(0, 2, true);
        c.row("works came", Edges.hide(x, 0, 0, 1), 0, 1, 0);
        c.row("another chest", Edges.hide(x, 1, 0, 1), 1, -1, 16);
        x.works(0, 2, false);
        x.wall(0, 1, 2, true);
        c.row("a wall came", Edges.hide(x, 0, 0, 2), 0, 0, 0);
        x.door(0, 0, 0, 0, false);
        c.row("the door has no spaces now", Edges.hide(x, 0, 0, 1), 1, -1, 2);
        Texts.read(x, 0, "open 2; open 1; wait 20;");
        c.row("another show", Edges.hide(x, 0, 0, 1), 1, -1, 1);
    }
}
