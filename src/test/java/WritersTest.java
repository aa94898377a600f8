/** Promises 32 to 35: who wrote the truth first and who copied whom. */
public final class WritersTest {
    private static final Check c = new Check();
    private static final int MOST = (1 << 30) - 1;

    public static void main(String[] args) {
        writers();
        truths();
        first();
        rightAndWrong();
        copied();
        copiedOfSeveral();
        lines();
        c.end();
    }

    private static void writers() {
        c.test("32 writers as they come, twenty at most");
        WoodenTurk x = new WoodenTurk();
        c.row("wrong", new int[] {x.writer(-1, 0), x.writer(100, 0), x.writer(0, -1), x.writer(0, MOST + 1)},
            -1, -1, -1, -1);
        for (int i = 0; i < 20; i++) {
            c.due("writer", x.writer(i % 2 * 99, i % 2 * MOST), i);
        }
        c.due("the 21st", x.writer(0, 0), -1);
        c.row("none such", new int[] {x.story(20, 0), x.story(-1, 0), x.story(19, 5), x.story(19, -1)}, -1, -1, -1, -1);
    }

    private static void truths() {
        c.test("33 the truth is a set of claims");
        WoodenTurk x = new WoodenTurk();
        x.writer(0, 7);
        c.row("no truth at first", new int[] {x.story(0, 0), x.story(0, 1)}, 0, 3);
        c.due("truth(MOST)", x.truth(MOST), true);
        c.row("all is true", new int[] {x.story(0, 0), x.story(0, 1)}, 3, 0);
        c.due("truth(5)", x.truth(5), true);
        c.due("truth(-1)", x.truth(-1), false);
        c.due("truth(MOST + 1)", x.truth(MOST + 1), false);
        c.row("as it was", new int[] {x.story(0, 0), x.story(0, 1)}, 2, 1);
        c.due("truth(0)", x.truth(0), true);
        c.due("none", x.story(0, 0), 0);
    }

    private static void first() {
        c.test("34 the first with a claim by year, then number");
        WoodenTurk x = new WoodenTurk();
        x.writer(50, 1 << 29 | 1);
        x.writer(40, 2);
        x.writer(40, 3);
        x.writer(40, 1);
        c.row("first", new int[] {x.first(0), x.first(1), x.first(2), x.first(29)}, 2, 1, -1, 0);
        c.row("wrong", new int[] {x.first(30), x.first(-1), x.first(32)}, -1, -1, -1);
    }

    private static void rightAndWrong() {
        c.test("35 right claims and others");
        WoodenTurk x = new WoodenTurk();
        x.truth(0x0F);
        x.writer(10, 0x3C);
        x.writer(10, 0);
        x.writer(10, MOST);
        c.row("right", new int[] {x.story(0, 0), x.story(1, 0), x.story(2, 0)}, 2, 0, 4);
        c.row("not", new int[] {x.story(0, 1), x.story(1, 1), x.story(2, 1)}, 2, 0, 26);
    }

    private static void copied() {
        c.test("35 copied from an earlier one with false claims in common");
        WoodenTurk x = new WoodenTurk();
        x.truth(1);
        x.writer(20, 0x0F);
        x.writer(10, 0x03);
        x.writer(30, 0x01);
        x.writer(20, 0x0C);
        x.writer(5, 0xF0);
        c.row("copied", new int[] {x.story(0, 2), x.story(1, 2), x.story(2, 2), x.story(3, 2), x.story(4, 2)},
            1, -1, -1, 0, -1);
        c.row("himself", new int[] {x.story(2, 3), x.story(2, 4)}, 2, 1);
        x.truth(0x0F);
        c.row("what is true nobody copied", new int[] {x.story(0, 2), x.story(3, 2)}, -1, -1);
    }

    private static void copiedOfSeveral() {
        c.test("35 the most in common, of several the last by year, then number");
        WoodenTurk x = new WoodenTurk();
        x.writer(30, 0x03);
        x.writer(20, 0x03);
        x.writer(30, 0x06);
        x.writer(10, 0x07);
        x.writer(40, 0x07);
        c.due("the most", x.story(4, 2), 3);
        x.writer(40, 0x03);
        c.due("the same year with a lesser number", x.story(5, 2), 4);
        x.writer(35, 0x02);
        c.due("of the last year, the greater number", x.story(6, 2), 2);
        x.writer(25, 0x03);
        c.due("20 and 10, not 30", x.story(7, 2), 1);
    }

    private static void lines() {
        c.test("35 the line of copies");
        WoodenTurk x = new WoodenTurk();
        for (int i = 0; i < 20; i++) {
            x.writer(99 - i, 1 << i | 1 << i + 1);
        }
        c.row("the longest", new int[] {x.story(0, 2), x.story(0, 3), x.story(0, 4)}, 1, 19, 20);
        c.row("its end", new int[] {x.story(19, 2), x.story(19, 3), x.story(19, 4)}, -1, 19, 1);
        c.row("inside", new int[] {x.story(10, 2), x.story(10, 3), x.story(10, 4)}, 11, 19, 10);
        x.truth(1 << 15);
        c.row("cut by the truth", new int[] {x.story(10, 3), x.story(10, 4), x.story(15, 3)}, 14, 5, 19);
    }
}
