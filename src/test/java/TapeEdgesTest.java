/** Edges of the tape, of texts, their tokens and their faults (section 1, promises 5 to 8). */
public final class TapeEdgesTest {
    private static final Check c = new Check();
    private static final int BLANKS = 0x20202020;

    public static void main(String[] args) {
        highestFirst();
        atMost600();
        nothingComes();
        behindTheTape();
        firstBytes();
        notSoMany();
        belowNone();
        whichTexts();
        howMany();
        noSuchText();
        noSuchTextChangesNothing();
        staysAsItWas();
        pamphletStaysAsItWas();
        emptyInEachCase();
        withoutAFault();
        anotherWhat();
        ofTheLatest();
        c.end();
    }

    private static void highestFirst() {
        c.edge("Promise 5", "of each number the highest first", "also of numbers below 0");
        WoodenTurk x = new WoodenTurk();
        c.due("feed", x.feed(0x7475726E, 0x3B747572, 0x6E3B6461, 0x726B3B77, 0x61697420), 20);
        c.due("feed", x.feed(0x353B2020, BLANKS, BLANKS, BLANKS, BLANKS), 40);
        c.row("turn;turn;dark;wait 5;", new int[] {x.text(0), x.run(0, 0, 0), x.run(0, 0, 3)}, 4, 8, 2);
        x.feed(0x20202080, 0, 0, 0, 0);
        c.row("the lowest byte", new int[] {x.text(0), x.fault(1)}, -1, 3);
        x.feed(0x80202020, 0, 0, 0, 0);
        c.row("the highest byte", new int[] {x.text(0), x.fault(1)}, -1, 0);
        x.feed(BLANKS, BLANKS, BLANKS, BLANKS, 0x20FF2020);
        c.row("the last number", new int[] {x.text(0), x.fault(1)}, -1, 17);
        x.feed(BLANKS, BLANKS, -1, BLANKS, BLANKS);
        c.row("the third number", new int[] {x.text(0), x.fault(1)}, -1, 8);
    }

    private static void atMost600() {
        c.edge("Promise 5", "NONE, and nothing comes, if there would be more than 600.");
        WoodenTurk x = new WoodenTurk();
        for (int had = 0; had < 600; had += 20) {
            c.due("feed", x.feed(BLANKS, BLANKS, BLANKS, BLANKS, BLANKS), had + 20);
        }
        c.due("to 620", x.feed(BLANKS, BLANKS, BLANKS, BLANKS, BLANKS), -1);
        for (int length = 599; length > 580; length--) {
            c.due("cut", x.end(length), true);
            c.due("to " + (length + 20), x.feed(0, 0, 0, 0, 0), -1);
        }
        c.due("cut", x.end(580), true);
        c.due("to 600", x.feed(BLANKS, BLANKS, BLANKS, BLANKS, BLANKS), 600);
        c.due("empty", x.end(0), true);
        c.due("again from 20", x.feed(0, 0, 0, 0, 0), 20);
    }

    private static void nothingComes() {
        c.edge("Promise 5", "and nothing comes", "not the first bytes of it either");
        WoodenTurk x = new WoodenTurk();
        Texts.feed(x, " ".repeat(590));
        c.due("to 610", x.feed(0x7475726E, 0x3B747572, 0x6E3B2020, BLANKS, BLANKS), -1);
        c.due("591 are not there", x.end(591), false);
        c.due("590 are", x.end(590), true);
        c.row("blanks alone", new int[] {x.text(0), x.fault(0), x.run(0, 0, 0)}, 0, 0, 0);
    }

    private static void behindTheTape() {
        c.edge("Promise 5", "Twenty bytes come behind the TAPE", "behind what end left");
        WoodenTurk x = new WoodenTurk();
        x.feed(0x77616974, 0x20393939, BLANKS, BLANKS, BLANKS);
        x.end(5);
        c.due("feed", x.feed(0x373B2020, BLANKS, BLANKS, BLANKS, BLANKS), 25);
        c.row("wait 7;", new int[] {x.text(0), x.run(0, 0, 0)}, 1, 7);
    }

    private static void firstBytes() {
        c.edge("Promise 6", "The TAPE has its first n bytes alone: true", "none, all, and again");
        WoodenTurk x = new WoodenTurk();
        c.due("none of none", x.end(0), true);
        Texts.feed(x, "turn;turn;turn;12345");
        c.due("all", x.end(20), true);
        c.due("all again", x.end(20), true);
        c.due("the first ten", x.end(10), true);
        c.due("the first ten again", x.end(10), true);
        c.row("two turns", new int[] {x.text(0), x.run(0, 0, 3)}, 2, 2);
        Texts.feed(x, "turn;turn;");
        c.due("none", x.end(0), true);
        c.row("an empty show", new int[] {x.text(0), x.run(0, 0, 3)}, 0, 0);
    }

    private static void notSoMany() {
        c.edge("Promise 6", "false, changing nothing, if it has not so many");
        WoodenTurk x = new WoodenTurk();
        c.due("one of none", x.end(1), false);
        Texts.feed(x, "turn;turn;turn;turn;");
        for (int n : new int[] {21, 40, 600, 601, Edges.MOST}) {
            c.due("end " + n, x.end(n), false);
        }
        c.row("as it was", new int[] {x.text(0), x.fault(0)}, 4, 0);
        Texts.feed(x, " ".repeat(600));
        c.due("601 of 600", x.end(601), false);
        c.due("600 of 600", x.end(600), true);
        x.end(300);
        c.due("301 of 300, though there were more", x.end(301), false);
    }

    private static void belowNone() {
        c.edge("Promise 6", "or n is below 0");
        WoodenTurk x = new WoodenTurk();
        c.due("of none", x.end(-1), false);
        Texts.feed(x, "turn;turn;turn;turn;");
        for (int n : new int[] {-1, -20, Edges.LEAST}) {
            c.due("end " + n, x.end(n), false);
        }
        c.due("as it was", x.text(0), 4);
    }

    private static void whichTexts() {
        c.edge("Promise 7", "The TAPE, empty then, is SHOW k (0 .. 3), or THE PAMPHLET (4)", "each of its own");
        WoodenTurk x = new WoodenTurk();
        for (int k = 0; k < 4; k++) {
            c.due("show " + k, Texts.read(x, k, "turn;".repeat(k + 1)), k + 1);
            c.due("empty then", x.end(1), false);
        }
        c.due("the pamphlet", Texts.read(x, 4, "man when 1=1;none when 1=1;"), 2);
        c.due("empty then", x.end(1), false);
        for (int k = 0; k < 4; k++) {
            c.due("show " + k, x.run(0, k, 3), k + 1);
        }
        c.row("reasons", Edges.reasons(x, 3), 2, 1, -1);
        Texts.read(x, 2, "wait 9;");
        c.row("another one", new int[] {x.run(0, 0, 0), x.run(0, 1, 0), x.run(0, 2, 0), x.run(0, 3, 0)}, 1, 2, 9, 4);
    }

    private static void howMany() {
        c.edge("Promise 7", "how many STEPS or reasons", "none and the most");
        WoodenTurk x = new WoodenTurk();
        c.due("an empty tape", x.text(0), 0);
        c.due("blanks", Texts.read(x, 0, " \n "), 0);
        c.due("forty", Texts.read(x, 0, "wait 20;".repeat(40)), 40);
        c.due("as many seconds", x.run(0, 0, 0), 800);
        c.due("an empty show again", x.text(0), 0);
        c.due("no seconds", x.run(0, 0, 0), 0);
        c.due("an empty pamphlet", x.text(4), 0);
        c.due("twenty", Texts.read(x, 4, "man when 1=1;".repeat(20)), 20);
        c.due("as many reasons", x.pamphlet(0), 20);
        c.due("an empty pamphlet again", x.text(4), 0);
        c.due("no reasons", x.pamphlet(0), 0);
    }

    private static void noSuchText() {
        c.edge("Promise 7", "NONE: no such one (fault() tells 0)");
        WoodenTurk x = new WoodenTurk();
        for (int k : new int[] {Edges.LEAST, -1, 5, 6, Edges.MOST}) {
            c.row("a fault", Edges.text(x, 0, "wait 0;"), -1, 2, 5);
            c.row("text " + k, Edges.text(x, k, "turn;"), -1, 0, -1);
            c.row("with a fault in it", Edges.text(x, k, "turn"), -1, 0, -1);
        }
    }

    private static void noSuchTextChangesNothing() {
        c.edge("Promise 7", "no such one", "all texts stay as they were");
        WoodenTurk x = new WoodenTurk();
        for (int k = 0; k < 4; k++) {
            Texts.read(x, k, "turn;".repeat(k + 1));
        }
        Texts.read(x, 4, "man when 1=1;");
        for (int k : new int[] {Edges.LEAST, -1, 5, Edges.MOST}) {
            c.due("text " + k, Texts.read(x, k, "wait 5;"), -1);
        }
        c.row("as they were", new int[] {x.run(0, 0, 0), x.run(0, 1, 0), x.run(0, 2, 0), x.run(0, 3, 0), x.reason(0)},
            1, 2, 3, 4, 2);
    }

    private static void staysAsItWas() {
        c.edge("Promise 7", "or a FAULT (the TEXT stays as it was", "a show");
        WoodenTurk x = new WoodenTurk();
        x.door(0, 1, 0, 1, false);
        for (int k = 0; k < 4; k++) {
            Texts.read(x, k, "open 1; wait 3;");
            for (String text : new String[] {"turn;turn;turn", "turn;open 10;", "turn;".repeat(41), "~", "wait 3;wait 21;"}) {
                c.due(text, Texts.read(x, k, text), -1);
                c.row("as it was", Edges.run(x, 0, k), 4, 1, 1, 0);
                c.row("second by second", Edges.film(x, 0, k), 1, 1, 1, 1);
            }
        }
    }

    private static void pamphletStaysAsItWas() {
        c.edge("Promise 7", "or a FAULT (the TEXT stays as it was", "the pamphlet");
        WoodenTurk x = new WoodenTurk();
        Texts.read(x, 4, "man when secs=0 and (gap=16 or no 1=2);none when air=960;");
        String many = "none when 1=2;";
        for (String text : new String[] {many + "none", many.repeat(3) + "man when seen 16=1;", many.repeat(21), "~",
            many + "none when ((((((((( 1=1", many + "none when 1/0=1;"}) {
            c.due(text, Texts.read(x, 4, text), -1);
            c.row("as it was", Edges.reasons(x, 3), 2, 1, -1);
            c.row("counted", new int[] {x.pamphlet(0), x.pamphlet(1), x.pamphlet(2)}, 1, 1, 0);
        }
        c.due("an empty one holds", x.text(4), 0);
        c.due("no reason", x.reason(0), -1);
    }

    private static void emptyInEachCase() {
        c.edge("Promise 7", "the TAPE is empty in each case");
        WoodenTurk x = new WoodenTurk();
        for (int k = -1; k <= 5; k++) {
            for (String text : new String[] {"turn;", "man when 1=1;", "turn", "open 10;", "turn;".repeat(41), "\u00ff"}) {
                Texts.read(x, k, text);
                c.due("text " + k + " of " + text, x.end(1), false);
                c.due("nothing is left", x.feed(BLANKS, BLANKS, BLANKS, BLANKS, BLANKS), 20);
                c.due("blanks alone", x.text(0), 0);
            }
        }
    }

    private static void withoutAFault() {
        c.edge("Promise 8", "what 0 the FAULT (0 without one), 1 its place (NONE)");
        WoodenTurk x = new WoodenTurk();
        c.row("no text yet", new int[] {x.fault(0), x.fault(1)}, 0, -1);
        c.row("a fault at place 0", Edges.text(x, 0, "~"), -1, 1, 0);
        c.row("none", Edges.text(x, 0, "turn;"), 1, 0, -1);
        c.row("a fault", Edges.text(x, 4, "man when seen 16=1;"), -1, 2, 14);
        c.row("none in an empty text", Edges.text(x, 4, ""), 0, 0, -1);
        c.row("a fault", Edges.text(x, 0, "turn;".repeat(41)), -1, 3, 200);
        c.row("no such text", Edges.text(x, 5, ""), -1, 0, -1);
    }

    private static void anotherWhat() {
        c.edge("Promise 8", "NONE for another what.");
        WoodenTurk x = new WoodenTurk();
        for (int what : new int[] {Edges.LEAST, -1, 2, 3, Edges.MOST}) {
            c.due("no text yet", x.fault(what), -1);
        }
        Texts.read(x, 0, "wait 0;");
        for (int what : new int[] {Edges.LEAST, -1, 2, 3, Edges.MOST}) {
            c.due("a fault", x.fault(what), -1);
        }
    }

    private static void ofTheLatest() {
        c.edge("Promise 8", "Of the latest text()", "nothing else changes it");
        WoodenTurk x = new WoodenTurk();
        Texts.read(x, 3, "turn;wait 0;");
        x.feed(0, 0, 0, 0, 0);
        x.end(3);
        x.end(0);
        x.run(0, 3, 0);
        x.reason(0);
        c.row("still", new int[] {x.fault(0), x.fault(1), x.fault(0), x.fault(1)}, 2, 10, 2, 10);
        Texts.read(x, 4, "man");
        c.row("of the latest", new int[] {x.fault(0), x.fault(1)}, 1, 3);
    }
}
