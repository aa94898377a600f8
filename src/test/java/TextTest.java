/** Promises 5 to 8: the tape, texts and their faults. */
public final class TextTest {
    private static final Check c = new Check();

    public static void main(String[] args) {
        feed();
        end();
        texts();
        tokens();
        showFaults();
        showLimits();
        pamphletFaults();
        pamphletLimits();
        faultsLeaveTheText();
        faultAsks();
        c.end();
    }

    /** What text(k) answers, then the fault and its place. */
    private static int[] tell(WoodenTurk x, int k, String text) {
        return new int[] {Texts.read(x, k, text), x.fault(0), x.fault(1)};
    }

    private static void show(WoodenTurk x, String text, int... want) {
        c.row(text, tell(x, 0, text), want);
    }

    private static void paper(WoodenTurk x, String text, int... want) {
        c.row(text, tell(x, 4, text), want);
    }

    private static void feed() {
        c.test("5 twenty bytes come behind the tape, 600 at most");
        WoodenTurk x = new WoodenTurk();
        for (int i = 1; i <= 30; i++) {
            c.due("feed", x.feed(0x7475726E, 0x3B202020, 0x20202020, 0x20202020, 0x20202020), 20 * i);
        }
        c.due("one more", x.feed(0, 0, 0, 0, 0), -1);
        c.due("600 are there", x.end(600), true);
        c.due("nothing came: thirty turns", x.text(0), 30);
        c.due("empty then", x.feed(0x20202020, 0x20202020, 0x20202020, 0x20202020, 0x2020207E), 20);
        c.due("the lowest byte of the last number is the last", x.text(0), -1);
        c.due("its place", x.fault(1), 19);
        Texts.feed(x, " ".repeat(581));
        c.due("581 and 20 are too many", x.feed(0, 0, 0, 0, 0), -1);
        x.end(580);
        c.due("580 and 20 are not", x.feed(0, 0, 0, 0, 0), 600);
    }

    private static void end() {
        c.test("6 the tape has its first n bytes alone");
        WoodenTurk x = new WoodenTurk();
        c.due("none of none", x.end(0), true);
        c.due("1 of none", x.end(1), false);
        x.feed(0x7475726E, 0x3B7E7E7E, 0, 0, 0);
        c.due("21", x.end(21), false);
        c.due("-1", x.end(-1), false);
        c.due("20", x.end(20), true);
        c.due("5", x.end(5), true);
        c.due("6 now", x.end(6), false);
        c.due("a turn", x.text(0), 1);
        c.due("empty behind it", x.end(1), false);
    }

    private static void texts() {
        c.test("7 the tape becomes a show or the pamphlet");
        WoodenTurk x = new WoodenTurk();
        show(x, "open 0; wait 2; turn;", 3, 0, -1);
        c.row("its own number", new int[] {x.run(0, 0, 0), x.run(0, 1, 0), x.run(0, 3, 0)}, 4, 0, 0);
        c.due("show 3", Texts.read(x, 3, "turn;"), 1);
        c.row("both", new int[] {x.run(0, 0, 0), x.run(0, 3, 0)}, 4, 1);
        c.due("empty", x.text(0), 0);
        c.due("is a show of no seconds", x.run(0, 0, 0), 0);
        c.due("the pamphlet", Texts.read(x, 4, "man when 1=1;none when 1<0;"), 2);
        c.row("reasons", new int[] {x.reason(0), x.reason(1), x.reason(2)}, 2, 0, -1);
        c.due("an empty pamphlet", Texts.read(x, 4, " \n "), 0);
        c.due("no reason", x.reason(0), -1);
        c.due("none of them", x.pamphlet(0), 0);
    }

    private static void tokens() {
        c.test("7 tokens need no blanks between, words stand as long as letters do");
        WoodenTurk x = new WoodenTurk();
        show(x, "open0;shut 0001;wait\n\n20;dark;;", -1, 1, 30);
        show(x, "open0;shut 0009;wait\n\n20;dark;", 4, 0, -1);
        show(x, "opens 1;", -1, 1, 0);
        show(x, "Open 1;", -1, 1, 0);
        show(x, "turndark;", -1, 1, 0);
        show(x, "turnz;", -1, 1, 0);
        show(x, "turnA;", -1, 1, 0);
        show(x, "turnZ;", -1, 1, 0);
        show(x, "turn[;", -1, 1, 4);
        show(x, "turn@;", -1, 1, 4);
        show(x, "turn{;", -1, 1, 4);
        show(x, "turn`;", -1, 1, 4);
        show(x, "open 1:", -1, 1, 6);
        show(x, "open 1/", -1, 1, 6);
        show(x, "open\t1;", -1, 1, 4);
        show(x, "turn\r;", -1, 1, 4);
        show(x, "open 00001;", -1, 1, 5);
        show(x, "open +1;", -1, 1, 5);
        show(x, "turn\u00e9;", -1, 1, 4);
        show(x, "\0turn;", -1, 1, 0);
        paper(x, "manwhen 1=1;", -1, 1, 0);
        paper(x, "man when1=1;", 1, 0, -1);
        paper(x, "man\nwhen no(1=1);", 1, 0, -1);
        paper(x, "man when open=1;", -1, 1, 9);
        show(x, "man;", -1, 1, 0);
    }

    private static void showFaults() {
        c.test("8 faults of a show and their places");
        WoodenTurk x = new WoodenTurk();
        show(x, "open", -1, 1, 4);
        show(x, "open  ", -1, 1, 6);
        show(x, "open ;", -1, 1, 5);
        show(x, "open dark;", -1, 1, 5);
        show(x, "open 9", -1, 1, 6);
        show(x, "open 10", -1, 2, 5);
        show(x, "shut 10;", -1, 2, 5);
        show(x, "candle 9999;", -1, 2, 7);
        show(x, "turn; open 1;shut 1 2;", -1, 1, 20);
        show(x, "wait 0;", -1, 2, 5);
        show(x, "wait 1;", 1, 0, -1);
        show(x, "wait 20;", 1, 0, -1);
        show(x, "wait 21;", -1, 2, 5);
        show(x, "wait wait", -1, 1, 5);
        show(x, "turn 1;", -1, 1, 5);
        show(x, "dark", -1, 1, 4);
        show(x, "5;", -1, 1, 0);
        show(x, ";", -1, 1, 0);
        show(x, "open 11; close 2;", -1, 2, 5);
    }

    private static void showLimits() {
        c.test("8 the 41st step is a fault at its keyword");
        WoodenTurk x = new WoodenTurk();
        String forty = "turn;".repeat(40);
        show(x, forty, 40, 0, -1);
        show(x, forty + "open 10;", -1, 3, 200);
        show(x, forty + "opem", -1, 1, 200);
        show(x, forty + " 7", -1, 1, 201);
        show(x, forty + " ;", -1, 1, 201);
        show(x, "wait 99;" + forty, -1, 2, 5);
    }

    private static void pamphletFaults() {
        c.test("8 faults of the pamphlet and their places");
        WoodenTurk x = new WoodenTurk();
        paper(x, "perhaps when 1=1;", -1, 1, 0);
        paper(x, "man 1=1;", -1, 1, 4);
        paper(x, "man when", -1, 1, 8);
        paper(x, "man when ;", -1, 1, 9);
        paper(x, "man when 1;", -1, 1, 10);
        paper(x, "man when 1=;", -1, 1, 11);
        paper(x, "man when 1=1", -1, 1, 12);
        paper(x, "man when 1=1=1;", -1, 1, 12);
        paper(x, "man when 1=1 or;", -1, 1, 15);
        paper(x, "man when 1=1 and or 1=1;", -1, 1, 17);
        paper(x, "man when (1=1;", -1, 1, 13);
        paper(x, "man when 1=1);", -1, 1, 12);
        paper(x, "man when (1)=1;", -1, 1, 11);
        paper(x, "man when 1=(1);", -1, 1, 11);
        paper(x, "man when 1=no 1=1;", -1, 1, 11);
        paper(x, "man when seen=1;", -1, 1, 13);
        paper(x, "man when seen 16=1;", -1, 2, 14);
        paper(x, "man when works 15=1;", 1, 0, -1);
        paper(x, "man when works 16", -1, 2, 15);
        paper(x, "man when 1/0=1;", -1, 2, 11);
        paper(x, "man when 1/ 0000=1;", -1, 2, 12);
        paper(x, "man when 1/00000=1;", -1, 1, 11);
        paper(x, "man when 1/secs=1;", -1, 1, 11);
        paper(x, "man when 1*/2=1;", -1, 1, 11);
        paper(x, "man when -1=1;", -1, 1, 9);
        paper(x, "man when 1+-1=1;", -1, 1, 11);
        paper(x, "man when 12345=1;", -1, 1, 9);
        paper(x, "man when 1<=1;", -1, 1, 11);
        paper(x, "man when 1=1;none", -1, 1, 17);
        paper(x, "man when 1=1 none", -1, 1, 13);
        paper(x, "man when 1=man;", -1, 1, 11);
        paper(x, "when 1=1;", -1, 1, 0);
    }

    private static void pamphletLimits() {
        c.test("8 the 21st reason and the ninth that is open");
        WoodenTurk x = new WoodenTurk();
        String twenty = "man when 1=1;".repeat(20);
        paper(x, twenty, 20, 0, -1);
        paper(x, twenty + "none", -1, 3, 260);
        paper(x, twenty + "when", -1, 1, 260);
        String eight = "man when ((((((((";
        paper(x, eight + "1=1))))))));", 1, 0, -1);
        paper(x, eight + "(1=1)", -1, 3, 17);
        paper(x, eight + "no 1=1", -1, 3, 17);
        paper(x, eight + "and", -1, 1, 17);
        paper(x, eight + "1=1) or (1=1 and (", -1, 3, 34);
        paper(x, "man when no no no no no no no no 1=1;", 1, 0, -1);
        paper(x, "man when no no no no no no no no no 1=1;", -1, 3, 33);
        paper(x, "man when no(no(no(no(1=1 and no 1=1))));", -1, 3, 29);
        paper(x, "man when no(no(no(no 1=1 and no 1=1)));", 1, 0, -1);
        paper(x, "man when " + "no ".repeat(7) + "(1=1) or no (1=1);", 1, 0, -1);
        paper(x, "man when no no no no no no no no (", -1, 3, 33);
        StringBuilder wide = new StringBuilder("man when no 1=2");
        for (int i = 0; i < 40; i++) {
            wide.append(" and no(1=2)");
        }
        paper(x, wide.append(';').toString(), 1, 0, -1);
    }

    private static void faultsLeaveTheText() {
        c.test("7 a fault leaves the text as it was, the tape is empty");
        WoodenTurk x = new WoodenTurk();
        Texts.read(x, 1, "open 3; wait 7;");
        x.door(0, 3, 0, 12, false);
        c.due("a fault behind good steps", Texts.read(x, 1, "turn; turn; turn; open"), -1);
        c.due("the tape is empty", x.end(1), false);
        c.row("as it was", new int[] {x.run(0, 1, 0), x.run(0, 1, 3), x.seen(0, 1, 7)}, 8, 0, 12);
        Texts.read(x, 4, "man when secs=0;none when 1=1;");
        c.due("a fault", Texts.read(x, 4, "none when 1=2;none when 1=2;none when 1="), -1);
        c.row("as it was", new int[] {x.reason(0), x.reason(1), x.reason(2)}, 2, 1, -1);
        Texts.feed(x, "turn;");
        c.row("no such text", new int[] {x.text(5), x.fault(0), x.fault(1)}, -1, 0, -1);
        c.due("the tape is empty then too", x.end(1), false);
        c.due("text(-1)", Texts.read(x, -1, "turn;"), -1);
    }

    private static void faultAsks() {
        c.test("8 fault tells of the latest text alone");
        WoodenTurk x = new WoodenTurk();
        Texts.read(x, 2, "wait 30;");
        c.row("a fault", new int[] {x.fault(0), x.fault(1)}, 2, 5);
        c.row("asked wrongly", new int[] {x.fault(2), x.fault(-1)}, -1, -1);
        x.feed(0, 0, 0, 0, 0);
        c.row("feed changes nothing", new int[] {x.fault(0), x.fault(1)}, 2, 5);
        x.text(9);
        c.row("no such text", new int[] {x.fault(0), x.fault(1)}, 0, -1);
        Texts.read(x, 2, "wait 30;");
        Texts.read(x, 2, "wait 3;");
        c.row("a good one", new int[] {x.fault(0), x.fault(1)}, 0, -1);
    }
}
