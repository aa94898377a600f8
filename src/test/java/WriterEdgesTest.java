/** Edges of writers and their claims (section 5, promises 32 to 35). */
public final class WriterEdgesTest {
    private static final Check c = new Check();
    private static final int ALL = (1 << 30) - 1;

    public static void main(String[] args) {
        numbers();
        years();
        claims();
        writerRefused();
        truthRefused();
        truthAtFirst();
        leastYear();
        thenNumber();
        noFirst();
        firstRefused();
        right();
        notRight();
        earlierYear();
        lesserNumber();
        oneAtLeast();
        notOfTheTruth();
        mostInCommon();
        lastByYear();
        lastByNumber();
        nobodyCopied();
        line();
        lineOfAll();
        lineOfNow();
        storyRefused();
        c.end();
    }

    private static int[] story(WoodenTurk x, int writer) {
        int[] told = new int[5];
        for (int what = 0; what < 5; what++) {
            told[what] = x.story(writer, what);
        }
        return told;
    }

    private static void numbers() {
        c.edge("Terms 5", "WRITERS 0 .. 19 as they come");
        WoodenTurk x = new WoodenTurk();
        for (int i = 0; i < 20; i++) {
            c.row("not there yet", story(x, i), -1, -1, -1, -1, -1);
            c.due("writer", x.writer(i, 1 << i), i);
            c.row("there", story(x, i), 0, 1, -1, i, 1);
        }
        c.due("the 21st", x.writer(0, 1), -1);
        c.row("not there", story(x, 20), -1, -1, -1, -1, -1);
        c.row("the others as they were", story(x, 19), 0, 1, -1, 19, 1);
    }

    private static void years() {
        c.edge("Terms 5", "a year 0 .. 99");
        WoodenTurk x = new WoodenTurk();
        for (int year : new int[] {Edges.LEAST, -1, 100, 101, Edges.MOST}) {
            c.due("year " + year, x.writer(year, 1), -1);
        }
        c.row("99 and 0", new int[] {x.writer(99, 1), x.writer(0, 1)}, 0, 1);
        c.row("0 is ahead of 99", new int[] {x.first(0), x.story(0, 2), x.story(1, 2)}, 1, 1, -1);
    }

    private static void claims() {
        c.edge("Terms 5", "a set of CLAIMS 0 .. 29");
        WoodenTurk x = new WoodenTurk();
        c.due("none", x.writer(0, 0), 0);
        c.due("all", x.writer(0, ALL), 1);
        c.due("29", x.writer(0, 1 << 29), 2);
        c.row("how many", new int[] {x.story(0, 1), x.story(1, 1), x.story(2, 1)}, 0, 30, 1);
        for (int claim = 0; claim < 30; claim++) {
            c.due("claim " + claim, x.first(claim), 1);
        }
    }

    private static void writerRefused() {
        c.edge("Promise 32", "NONE if one can't be (claims below 0, or above 2 to the 30 less 1), or there are 20.");
        WoodenTurk x = new WoodenTurk();
        for (int claims : new int[] {Edges.LEAST, Edges.LEAST + 1, -2, -1, ALL + 1, ALL + 2, Edges.MOST}) {
            c.due("claims " + claims, x.writer(0, claims), -1);
        }
        c.row("years", new int[] {x.writer(-1, 0), x.writer(100, 0)}, -1, -1);
        c.row("0 and the most", new int[] {x.writer(0, 0), x.writer(0, ALL)}, 0, 1);
        for (int i = 2; i < 20; i++) {
            c.due("a refused one has no number", x.writer(i, i), i);
        }
        for (int i = 0; i < 3; i++) {
            c.due("there are 20", x.writer(0, 0), -1);
        }
    }

    private static void truthRefused() {
        c.edge("Promise 33", "The TRUTH: true; false if it can't be.");
        WoodenTurk x = new WoodenTurk();
        x.writer(0, ALL);
        c.due("one claim", x.truth(1 << 29), true);
        for (int claims : new int[] {Edges.LEAST, -2, -1, ALL + 1, ALL + 2, Edges.MOST}) {
            c.due("truth " + claims, x.truth(claims), false);
            c.row("as it was", new int[] {x.story(0, 0), x.story(0, 1)}, 1, 29);
        }
        c.due("all", x.truth(ALL), true);
        c.row("all", new int[] {x.story(0, 0), x.story(0, 1)}, 30, 0);
        c.due("none", x.truth(0), true);
        c.row("none", new int[] {x.story(0, 0), x.story(0, 1)}, 0, 30);
    }

    private static void truthAtFirst() {
        c.edge("Terms 5", "The TRUTH is a set of CLAIMS.", "empty, until it is told");
        WoodenTurk x = new WoodenTurk();
        x.writer(0, ALL);
        c.row("nothing is right", new int[] {x.story(0, 0), x.story(0, 1)}, 0, 30);
    }

    private static void leastYear() {
        c.edge("Terms 5", "FIRST of a CLAIM: the WRITER with it of the least year");
        WoodenTurk x = new WoodenTurk();
        for (int i = 0; i < 20; i++) {
            x.writer(99 - i, 1 | 1 << i % 10 + 1);
            c.due("the later told, the earlier", x.first(0), i);
        }
        for (int claim = 1; claim <= 10; claim++) {
            c.due("of those with it alone", x.first(claim), 9 + claim);
        }
    }

    private static void thenNumber() {
        c.edge("Terms 5", "of the least year, then number");
        WoodenTurk x = new WoodenTurk();
        x.writer(50, 2);
        for (int i = 1; i < 20; i++) {
            x.writer(50, 1);
            c.row("of one year the least number", new int[] {x.first(0), x.first(1)}, 1, 0);
        }
    }

    private static void noFirst() {
        c.edge("Promise 34", "NONE if there is none");
        WoodenTurk x = new WoodenTurk();
        c.row("nobody wrote", new int[] {x.first(0), x.first(29)}, -1, -1);
        x.writer(5, ALL & ~(1 << 7));
        x.truth(ALL);
        c.row("nobody claimed it, though it is true", new int[] {x.first(7), x.first(6), x.first(8)}, -1, 0, 0);
    }

    private static void firstRefused() {
        c.edge("Promise 34", "or one can't be.");
        WoodenTurk x = new WoodenTurk();
        x.writer(5, ALL);
        for (int claim : new int[] {Edges.LEAST, -32, -1, 30, 31, 32, 33, 61, Edges.MOST}) {
            c.due("claim " + claim, x.first(claim), -1);
        }
        c.row("0 and 29", new int[] {x.first(0), x.first(29)}, 0, 0);
    }

    private static void right() {
        c.edge("Terms 5", "RIGHT of one: CLAIMS that are of the TRUTH.", "none, some, all");
        WoodenTurk x = new WoodenTurk();
        x.truth(0x2000000F);
        x.writer(0, 0);
        x.writer(1, 0x1FFFFFF0);
        x.writer(2, 0x20000003);
        x.writer(3, ALL);
        c.row("right", new int[] {x.story(0, 0), x.story(1, 0), x.story(2, 0), x.story(3, 0)}, 0, 0, 3, 5);
    }

    private static void notRight() {
        c.edge("Promise 35", "1 CLAIMS that are not", "none, some, all");
        WoodenTurk x = new WoodenTurk();
        x.truth(0x2000000F);
        x.writer(0, 0);
        x.writer(1, 0x1FFFFFF0);
        x.writer(2, 0x20000003);
        x.writer(3, ALL);
        c.row("not", new int[] {x.story(0, 1), x.story(1, 1), x.story(2, 1), x.story(3, 1)}, 0, 25, 0, 25);
    }

    private static void earlierYear() {
        c.edge("Terms 5", "COPIED from: of all WRITERS of an earlier year");
        WoodenTurk x = new WoodenTurk();
        x.writer(11, 1);
        x.writer(10, 1);
        x.writer(9, 1);
        c.row("a year earlier, though told later", new int[] {x.story(0, 2), x.story(1, 2), x.story(2, 2)}, 1, 2, -1);
        x.writer(0, 1);
        x.writer(99, 1);
        c.row("0 and 99", new int[] {x.story(2, 2), x.story(3, 2), x.story(4, 2)}, 3, -1, 0);
    }

    private static void lesserNumber() {
        c.edge("Terms 5", "or the same with a lesser number");
        WoodenTurk x = new WoodenTurk();
        for (int i = 0; i < 20; i++) {
            x.writer(40, 1);
        }
        for (int i = 0; i < 20; i++) {
            c.due("from the one ahead, not from himself", x.story(i, 2), i - 1);
        }
    }

    private static void oneAtLeast() {
        c.edge("Terms 5", "most CLAIMS in common that are not of the TRUTH (1 at least)");
        WoodenTurk x = new WoodenTurk();
        x.writer(1, 0x0F);
        x.writer(2, 0xF0);
        x.writer(3, 0);
        x.writer(4, 0x18);
        c.row("none in common", new int[] {x.story(1, 2), x.story(2, 2)}, -1, -1);
        c.due("one in common with each", x.story(3, 2), 1);
        x.truth(0x10);
        c.due("with one alone", x.story(3, 2), 0);
        x.truth(0x18);
        c.due("with none", x.story(3, 2), -1);
    }

    private static void notOfTheTruth() {
        c.edge("Terms 5", "in common that are not of the TRUTH", "what is true nobody copies");
        WoodenTurk x = new WoodenTurk();
        x.writer(1, 0x3FFFFFFE);
        x.writer(2, 0x00000003);
        x.writer(3, ALL);
        c.due("29 against 2", x.story(2, 2), 0);
        x.truth(0x3FFFFFFC);
        c.due("one against two", x.story(2, 2), 1);
        x.truth(ALL);
        c.due("none", x.story(2, 2), -1);
        x.truth(ALL & ~(1 << 29));
        c.due("29 alone", x.story(2, 2), 0);
    }

    private static void mostInCommon() {
        c.edge("Terms 5", "that with whom one has the most CLAIMS in common", "wherever he stands");
        for (int most = 0; most < 19; most++) {
            WoodenTurk x = new WoodenTurk();
            for (int i = 0; i < 19; i++) {
                x.writer(i * 7 % 19, i == most ? 3 : 1);
            }
            x.writer(99, 7);
            c.due("the one with two", x.story(19, 2), most);
        }
    }

    private static void lastByYear() {
        c.edge("Terms 5", "of several the last one (by year, then number)", "by year");
        WoodenTurk x = new WoodenTurk();
        x.writer(30, 1);
        x.writer(50, 1);
        x.writer(40, 1);
        x.writer(60, 1);
        c.row("50 is the last ahead of 60", new int[] {x.story(3, 2), x.story(1, 2), x.story(2, 2)}, 1, 2, 0);
        x.writer(61, 3);
        x.writer(10, 3);
        x.writer(62, 3);
        c.row("the most goes ahead of the last", new int[] {x.story(4, 2), x.story(6, 2)}, 5, 4);
    }

    private static void lastByNumber() {
        c.edge("Terms 5", "of several the last one (by year, then number)", "then by number");
        WoodenTurk x = new WoodenTurk();
        x.writer(50, 1);
        x.writer(50, 1);
        x.writer(49, 1);
        x.writer(60, 1);
        x.writer(50, 1);
        c.row("of year 50", new int[] {x.story(3, 2), x.story(4, 2), x.story(1, 2), x.story(0, 2)}, 4, 1, 0, 2);
    }

    private static void nobodyCopied() {
        c.edge("Promise 35", "2 from whom COPIED (NONE), 3 the last of the LINE (himself, if not COPIED)");
        WoodenTurk x = new WoodenTurk();
        x.writer(5, 1);
        c.row("alone", story(x, 0), 0, 1, -1, 0, 1);
        x.writer(6, 0);
        c.row("without claims", story(x, 1), 0, 0, -1, 1, 1);
        x.writer(4, 2);
        c.row("earlier, with others", story(x, 2), 0, 1, -1, 2, 1);
    }

    private static void line() {
        c.edge("Terms 5", "A LINE: who copied from whom, on and on.");
        WoodenTurk x = new WoodenTurk();
        x.writer(30, 6);
        x.writer(20, 3);
        x.writer(10, 1);
        x.writer(40, 4);
        c.row("the first", story(x, 2), 0, 1, -1, 2, 1);
        c.row("one step", story(x, 1), 0, 2, 2, 2, 2);
        c.row("two", story(x, 0), 0, 2, 1, 2, 3);
        c.row("three", story(x, 3), 0, 1, 0, 2, 4);
    }

    private static void lineOfAll() {
        c.edge("Promise 35", "4 how many are in the LINE.", "all twenty");
        WoodenTurk x = new WoodenTurk();
        for (int i = 0; i < 20; i++) {
            x.writer(i % 2 == 0 ? 50 : 50 + i, 1);
        }
        // 50: 0 2 4 .. 18, then 1 3 5 .. 19
        c.row("the last", story(x, 19), 0, 1, 17, 0, 20);
        c.row("the first of the later years", story(x, 1), 0, 1, 18, 0, 11);
        c.row("the last of 50", story(x, 18), 0, 1, 16, 0, 10);
        c.row("the first", story(x, 0), 0, 1, -1, 0, 1);
    }

    private static void lineOfNow() {
        c.edge("Promise 35", "3 the last of the LINE", "as writers and truth are now");
        WoodenTurk x = new WoodenTurk();
        x.writer(50, 1);
        x.writer(60, 3);
        c.row("from 0", story(x, 1), 0, 2, 0, 0, 2);
        x.writer(40, 1);
        c.row("then on from 2", story(x, 1), 0, 2, 0, 2, 3);
        x.writer(55, 3);
        c.row("from 3 now", story(x, 1), 0, 2, 3, 2, 4);
        x.truth(1);
        c.row("1 is no copy any more", story(x, 1), 1, 1, 3, 3, 2);
        x.truth(3);
        c.row("all is true", story(x, 1), 2, 0, -1, 1, 1);
    }

    private static void storyRefused() {
        c.edge("Promise 35", "NONE if there is none such, or another what.");
        WoodenTurk x = new WoodenTurk();
        x.writer(5, 1);
        for (int what = 0; what < 5; what++) {
            for (int writer : new int[] {Edges.LEAST, -1, 1, 19, 20, Edges.MOST}) {
                c.due("writer " + writer, x.story(writer, what), -1);
            }
        }
        for (int what : new int[] {Edges.LEAST, -2, -1, 5, 6, Edges.MOST}) {
            c.due("what " + what, x.story(0, what), -1);
        }
    }
}
