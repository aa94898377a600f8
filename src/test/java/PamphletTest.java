/** Promises 16 and 17: reasons weighed. */
public final class PamphletTest {
    private static final Check c = new Check();

    public static void main(String[] args) {
        weights();
        comparisons();
        precedence();
        quotients();
        longNumbers();
        facts();
        factsAreOfNow();
        pamphlet();
        c.end();
    }

    private static int weigh(String condition) {
        WoodenTurk x = new WoodenTurk();
        return Texts.read(x, 4, "man when " + condition + ";") == 1 ? x.reason(0) : -2;
    }

    private static void holds(String condition) {
        c.due(condition, weigh(condition), 2);
    }

    private static void fails(String condition) {
        c.due(condition, weigh(condition), 0);
    }

    private static void weights() {
        c.test("16 a reason is 2, 1 or 0");
        WoodenTurk x = new WoodenTurk();
        Texts.read(x, 4, "man when 1=1; none when 1=1; man when 1=2; none when 1=2;");
        c.row("man is true", new int[] {x.reason(0), x.reason(1), x.reason(2), x.reason(3)}, 2, 1, 0, 0);
        for (int s = 1; s < 16; s++) {
            x.works(0, s, true);
        }
        c.row("none is true", new int[] {x.reason(0), x.reason(1), x.reason(2), x.reason(3)}, 1, 2, 0, 0);
        c.row("none such", new int[] {x.reason(4), x.reason(-1), x.reason(20)}, -1, -1, -1);
    }

    private static void comparisons() {
        c.test("16 less, as much, more");
        holds("1<2");
        fails("2<2");
        fails("3<2");
        holds("2=2");
        fails("2=1");
        holds("3>2");
        fails("2>2");
        fails("1>2");
        holds("1-2<0");
        holds("0>1-2");
        holds("1-5=2-6");
        holds("0-1<0-0");
        holds("9999>9998");
    }

    private static void precedence() {
        c.test("16 and before or, * before +, no of one condition alone");
        holds("1=1 or 1=1 and 1=2");
        fails("(1=1 or 1=1) and 1=2");
        holds("1=2 and 1=2 or 1=1");
        fails("no 1=1 and 1=2");
        holds("no (1=1 and 1=2)");
        holds("no 1=2 or 1=1");
        holds("no no 1=1");
        fails("no no no 1=1");
        holds("2+3*4=14");
        holds("2*3+4=10");
        holds("10-3-2=5");
        holds("((((((((1=1))))))))");
        fails("((((((((1=2))))))))");
        holds("no no no no no no no no 1=1");
        fails("no no no no no no no (1=1)");
        holds("1=2 or 1=2 or 1=1");
        fails("1=1 and 1=1 and 1=2");
        fails("1=2 and 1=1 or 1=1 and 2=1");
        holds("((1=2 or no (2=3)) and (1<2))");
    }

    private static void quotients() {
        c.test("16 parts go towards 0, from left to right");
        holds("7/2=3");
        holds("0-7/2=0-3");
        holds("7/2*2=6");
        holds("2*7/2=7");
        holds("100/3/3=11");
        holds("1/2=0");
        holds("9999/9999=1");
        holds("9999*9999/9998=9999+1");
        holds("0/5=0");
    }

    private static void longNumbers() {
        c.test("16 no product is too long");
        String nines = "9999" + "*9999".repeat(40);
        holds(nines + ">9998" + "*9999".repeat(40));
        holds(nines + "=" + nines);
        holds(nines + "-" + nines + "+1=1");
        fails(nines + "-" + nines + "+1=2");
        holds("9999*9999*9999>9999*9999*9998+9998*9999");
        holds("5000*5000*5000*5000*5000*5000>1");
        holds(nines + "/9999".repeat(40) + "=9999");
        holds(nines + "*0=0");
        holds(nines + "*0+5=5");
        holds("0-" + nines + "<0");
        holds("1<9999" + "*9999".repeat(110));
    }

    private static void facts() {
        c.test("16 what the show and the chest tell");
        WoodenTurk x = new WoodenTurk();
        x.works(0, 4, true);
        x.door(0, 0, 0, 0x11, false);
        x.door(0, 1, 1, 0x0200, false);
        Texts.read(x, 0, "candle 0; open 0; open 1; wait 4; turn; shut 0;");
        Texts.read(x, 4, "man when seen 0=1 and seen 4=1 and seen 8=1 and seen 12=0 and seen 9=1 and seen 1=0;"
            + "man when works 4=1 and works 0=0 and works 15=0;"
            + "man when doors=2; man when secs=9; man when turns=1; man when air=900; man when gap=12;"
            + "man when secs*turns+doors-works 4=10;");
        for (int k = 0; k < 8; k++) {
            c.due("reason " + k, x.reason(k), 2);
        }
    }

    private static void factsAreOfNow() {
        c.test("16 a reason is weighed by chest 0 and show 0 as they are");
        WoodenTurk x = new WoodenTurk();
        Texts.read(x, 4, "man when secs=0; man when gap=16; man when works 7=0; man when doors=0;");
        c.row("at first", new int[] {x.reason(0), x.reason(1), x.reason(2), x.reason(3)}, 2, 2, 2, 2);
        Texts.read(x, 1, "wait 3; open 1;");
        x.works(1, 7, true);
        c.row("another show and chest", new int[] {x.reason(0), x.reason(1), x.reason(2), x.reason(3)}, 2, 2, 2, 2);
        Texts.read(x, 0, "wait 3; open 1;");
        x.works(0, 7, true);
        x.run(1, 1, 0);
        c.row("then", new int[] {x.reason(0), x.reason(1), x.reason(2), x.reason(3)}, 0, 0, 0, 0);
    }

    private static void pamphlet() {
        c.test("17 how many reasons are so");
        WoodenTurk x = new WoodenTurk();
        c.row("none", new int[] {x.pamphlet(0), x.pamphlet(1), x.pamphlet(2), x.pamphlet(3)}, 0, 0, 0, 1);
        Texts.read(x, 4, "man when 1=1; none when 1=1; man when 1=2; man when 2=2; none when 3<2; man when 0<gap;");
        c.row("man", new int[] {x.pamphlet(0), x.pamphlet(1), x.pamphlet(2), x.pamphlet(3)}, 3, 1, 2, 1);
        x.door(0, 0, 0, 255, false);
        Texts.read(x, 0, "candle 0; open 0;");
        c.row("none", new int[] {x.pamphlet(0), x.pamphlet(1), x.pamphlet(2), x.pamphlet(3)}, 1, 2, 3, 0);
        c.row("wrong", new int[] {x.pamphlet(4), x.pamphlet(-1)}, -1, -1);
        x.works(0, 0, true);
        c.row("size 2 finds no place in 8", new int[] {x.pamphlet(3), x.hide(0, 0, 1, 0)}, 0, 1);
    }
}
