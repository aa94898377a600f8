/** Edges of the pamphlet (section 2, promises 16 and 17). */
public final class PamphletEdgesTest {
    private static final Check c = new Check();

    public static void main(String[] args) {
        quotients();
        emptyAtFirst();
        rowsOfOr();
        rowsOfAnd();
        noAndBrackets();
        atEquality();
        belowNone();
        productsAndParts();
        noBound();
        seenSpaces();
        worksSpaces();
        doors();
        seconds();
        turns();
        air();
        gap();
        weights();
        trueIsMan();
        trueWithoutPoses();
        ofTheFirstAlone();
        noSuchReason();
        reasonsAsTheyAreNow();
        counts();
        manOrNone();
        anotherWhat();
        c.end();
    }

    /** What a reason with a condition weighs in a new object, where man is true. */
    private static int weigh(String condition) {
        WoodenTurk x = new WoodenTurk();
        return Texts.read(x, 4, "man when " + condition + ";") == 1 ? x.reason(0) : -2;
    }

    private static void holds(String... conditions) {
        for (String condition : conditions) {
            c.due(condition, weigh(condition), 2);
        }
    }

    private static void fails(String... conditions) {
        for (String condition : conditions) {
            c.due(condition, weigh(condition), 0);
        }
    }

    private static void quotients() {
        c.edge("Terms", "Quotients go towards 0.");
        holds("0/7=0", "6/7=0", "7/7=1", "13/7=1", "14/7=2", "9999/2=4999", "9999/9999=1", "9998/9999=0");
        holds("0-7/2=0-3", "1-3/2=0", "1/2*2=0", "2*1/2=1", "9999*9999/9999=9999", "100/7/2=7");
    }

    private static void emptyAtFirst() {
        c.edge("Terms 2", "A PAMPHLET is a TEXT (empty at first)");
        WoodenTurk x = new WoodenTurk();
        c.row("no reason", new int[] {x.reason(0), x.pamphlet(0), x.pamphlet(1), x.pamphlet(2), x.pamphlet(3)},
            -1, 0, 0, 0, 1);
    }

    private static void rowsOfOr() {
        c.edge("Terms 2", "B = A {or A}.", "one alone, wherever it stands");
        String[] not = {"1=2", "1=2", "1=2", "1=2"};
        fails(String.join(" or ", not));
        for (int i = 0; i < 4; i++) {
            String[] one = not.clone();
            one[i] = "1=1";
            holds(String.join(" or ", one));
        }
        holds("1=1", "1=1 or 1=1");
    }

    private static void rowsOfAnd() {
        c.edge("Terms 2", "A = C {and C}.", "all of them, ahead of or");
        String[] all = {"1=1", "1=1", "1=1", "1=1"};
        holds(String.join(" and ", all));
        for (int i = 0; i < 4; i++) {
            String[] butOne = all.clone();
            butOne[i] = "1=2";
            fails(String.join(" and ", butOne));
        }
        holds("1=1 or 1=1 and 1=2", "1=2 and 1=2 or 1=1", "1=2 and 1=1 or 1=1 and 1=1", "1=1 or 1=2 and 1=2 or 1=2");
        fails("1=2 or 1=1 and 1=2", "1=2 and 1=1 or 1=1 and 1=2");
    }

    private static void noAndBrackets() {
        c.edge("Terms 2", "C = E (< | = | >) E | no C | ( B ).");
        holds("no 1=2", "no no 1=1", "(1=1)", "no (1=2)", "(no 1=2)", "no 1=2 and 1=1", "no 1=2 or 1=2");
        fails("no 1=1", "no no 1=2", "(1=2)", "no (1=1)", "no 1=2 and 1=2", "(1=1 or 1=1) and 1=2", "no (1=2 or 1=1)");
        holds("((((((((1=1))))))))", "no no no no no no no no 1=1", "no (1=1 and 1=2)");
        fails("((((((((1=2))))))))", "no no no no no no no 1=1");
    }

    private static void atEquality() {
        c.edge("Terms 2", "E (< | = | >) E", "at, below and above");
        holds("4<5", "5=5", "6>5", "0=0", "0<1", "1>0", "9998<9999", "9999=9999", "9999>9998");
        fails("5<5", "6<5", "4=5", "6=5", "5>5", "4>5", "0<0", "0>0", "9999<9998", "9998>9999");
    }

    private static void belowNone() {
        c.edge("Terms 2", "E = T {(+ | -) T}.", "also below 0, on both sides");
        holds("0-1<0", "0>0-1", "0-1=0-1", "0-2<0-1", "0-1>0-2", "1-1=0", "0-9999-9999<0-9999", "1-2+1=0", "5-3-2=0");
        fails("0-1>0", "0-1=1", "0-1<0-2", "0-1=0", "5-3-2=4");
    }

    private static void productsAndParts() {
        c.edge("Terms 2", "T = U {* U | / NUMBER}.", "from left to right, ahead of + and -");
        holds("2+3*4=14", "2*3+4=10", "10-6/2=7", "7/2*2=6", "2*7/2=7", "12/2/3=2", "0*9999=0", "9999*0+1=1", "6/1=6");
    }

    private static void noBound() {
        c.edge("Terms 2", "T = U {* U | / NUMBER}.", "no product wraps round");
        holds("6553*1000*1000>6553*1000", "9999*9999*9999>9999*9999");
        String nines = "9999" + "*9999".repeat(5);
        holds(nines + ">0", nines + ">" + nines + "-1", nines + "=" + nines, nines + "/9999".repeat(5) + "=9999");
        holds("4096*4096*256=4096*4096*256", "0-" + nines + "<0", "1-" + nines + "<1");
        fails("4096*4096*256=0", "4096*4096*4096*4096*4096*16=0", "4096*4096*4096*4096*4096*8<0",
            "4096*4096*128<0", nines + "<0");
    }

    private static void seenSpaces() {
        c.edge("Terms 2", "seen N, works N: 1 if SPACE N is of ALL SEEN", "the first, the last, none");
        WoodenTurk x = new WoodenTurk();
        x.door(0, 0, 0, 1, true);
        x.door(0, 1, 1, 0x8000, true);
        Texts.read(x, 4, "man when seen 0=1;man when seen 15=1;man when seen 1=0;man when seen 14=0;man when seen 8=0;");
        c.row("no show", Edges.reasons(x, 5), 0, 0, 2, 2, 2);
        Texts.read(x, 0, "open 0; shut 0;");
        c.row("0", Edges.reasons(x, 5), 2, 0, 2, 2, 2);
        Texts.read(x, 0, "open 0; open 1; turn;");
        c.row("0 and 15", Edges.reasons(x, 5), 2, 2, 2, 2, 2);
    }

    private static void worksSpaces() {
        c.edge("Terms 2", "has WORKS, else 0", "the first, the last, none");
        WoodenTurk x = new WoodenTurk();
        Texts.read(x, 4, "man when works 0=1;man when works 15=1;man when works 0=0;man when works 15=0;");
        c.row("none", Edges.reasons(x, 4), 0, 0, 2, 2);
        x.works(0, 0, true);
        c.row("0", Edges.reasons(x, 4), 2, 0, 0, 2);
        x.works(0, 15, true);
        c.row("0 and 15", Edges.reasons(x, 4), 2, 2, 0, 0);
        x.works(0, 0, false);
        c.row("15", Edges.reasons(x, 4), 0, 2, 2, 0);
    }

    private static void doors() {
        c.edge("Terms 2", "doors: the most that are open at once", "none and all ten");
        WoodenTurk x = new WoodenTurk();
        Texts.read(x, 4, "man when doors=0;man when doors=1;man when doors=10;");
        c.row("no show", Edges.reasons(x, 3), 2, 0, 0);
        Texts.read(x, 0, "open 0; shut 0; open 1; shut 1;");
        c.row("one at once", Edges.reasons(x, 3), 0, 2, 0);
        Texts.read(x, 0, "open 0;open 1;open 2;open 3;open 4;open 5;open 6;open 7;open 8;open 9;open 9;shut 1;");
        c.row("ten", Edges.reasons(x, 3), 0, 0, 2);
    }

    private static void seconds() {
        c.edge("Terms 2", "secs: how many the SHOW has", "none and the most");
        WoodenTurk x = new WoodenTurk();
        Texts.read(x, 4, "man when secs=0;man when secs=1;man when secs=800;");
        c.row("no show", Edges.reasons(x, 3), 2, 0, 0);
        Texts.read(x, 0, "dark;");
        c.row("one", Edges.reasons(x, 3), 0, 2, 0);
        Texts.read(x, 0, "wait 20;".repeat(40));
        c.row("800", Edges.reasons(x, 3), 0, 0, 2);
    }

    private static void turns() {
        c.edge("Terms 2", "turns: how many turn", "none and the most");
        WoodenTurk x = new WoodenTurk();
        Texts.read(x, 4, "man when turns=0;man when turns=1;man when turns=40;");
        c.row("no show", Edges.reasons(x, 3), 2, 0, 0);
        Texts.read(x, 0, "dark; turn; wait 2;");
        c.row("one", Edges.reasons(x, 3), 0, 2, 0);
        Texts.read(x, 0, "turn;".repeat(40));
        c.row("40", Edges.reasons(x, 3), 0, 0, 2);
    }

    private static void air() {
        c.edge("Terms 2", "air: AIR of CHEST 0", "all and none");
        WoodenTurk x = new WoodenTurk();
        Texts.read(x, 4, "man when air=960;man when air=900;none when air=0;");
        c.row("all", Edges.reasons(x, 3), 2, 0, 0);
        x.works(0, 9, true);
        c.row("but one", Edges.reasons(x, 3), 0, 2, 0);
        Edges.keepFree(x, 0, 0);
        c.row("none", Edges.reasons(x, 3), 0, 0, 2);
    }

    private static void gap() {
        c.edge("Terms 2", "gap: SPACES without WORKS that are not of ALL SEEN.", "all and none");
        WoodenTurk x = new WoodenTurk();
        Texts.read(x, 4, "man when gap=16;man when gap=8;man when gap=7;none when gap=0;");
        c.row("all", Edges.reasons(x, 4), 2, 0, 0, 0);
        x.door(0, 0, 0, 255, true);
        Texts.read(x, 0, "open 0;");
        c.row("the back", Edges.reasons(x, 4), 0, 2, 0, 0);
        x.works(0, 15, true);
        x.works(0, 0, true);
        c.row("works of the back are none of it, those seen were none", Edges.reasons(x, 4), 0, 0, 2, 0);
        Edges.keepFree(x, 0, 0xFF);
        c.row("none", Edges.reasons(x, 4), 0, 0, 0, 2);
    }

    private static void weights() {
        c.edge("Terms 2", "A reason is 2 if its B is so and what it says (man, none) is TRUE, 1 if B is so and that is not, 0 if B is not so.");
        WoodenTurk x = new WoodenTurk();
        Texts.read(x, 4, "man when 1=1;none when 1=1;man when 1=2;none when 1=2;");
        c.row("man is true", Edges.reasons(x, 4), 2, 1, 0, 0);
        Edges.keepFree(x, 0, 0);
        c.row("none is true", Edges.reasons(x, 4), 1, 2, 0, 0);
    }

    private static void trueIsMan() {
        c.edge("Terms 2", "TRUE is man, if HIDING of SIZE 2 goes WELL in SHOW 0 of CHEST 0, else none.");
        WoodenTurk x = new WoodenTurk();
        Edges.keepFree(x, 0, 3);
        c.row("size 3 finds no place, 2 does", new int[] {x.pamphlet(3), x.hide(0, 0, 3, 0)}, 1, 0);
        Edges.keepFree(x, 0, 0x21);
        c.row("size 1 finds a place, 2 does not", new int[] {x.pamphlet(3), x.hide(0, 0, 1, 0)}, 0, 1);
        Edges.keepFree(x, 0, 0x27);
        x.door(0, 0, 0, 0x21, true);
        x.door(0, 1, 0, 0x26, true);
        Texts.read(x, 0, "open 0; wait 20;");
        c.due("1 and 2 to the end", x.pamphlet(3), 1);
        Texts.read(x, 0, "open 0; wait 20; open 1;");
        c.due("but for the last second", x.pamphlet(3), 0);
        x.door(0, 1, 0, 0, true);
        c.due("the door has no spaces", x.pamphlet(3), 1);
    }

    private static void trueWithoutPoses() {
        c.edge("Terms 2", "else none", "also in a show of no seconds, where there is no pose");
        WoodenTurk x = new WoodenTurk();
        Texts.read(x, 4, "man when 1=1;none when 1=1;");
        Edges.keepFree(x, 0, 1);
        c.row("one space", new int[] {x.pamphlet(3), x.reason(0), x.reason(1)}, 0, 1, 2);
        x.works(0, 1, false);
        c.row("two", new int[] {x.pamphlet(3), x.reason(0), x.reason(1)}, 1, 2, 1);
        x.wall(0, 0, 1, true);
        c.row("a wall between them", new int[] {x.pamphlet(3), x.reason(0), x.reason(1)}, 0, 1, 2);
    }

    private static void ofTheFirstAlone() {
        c.edge("Terms 2", "about CHEST 0 and SHOW 0", "no other chest, no other show");
        WoodenTurk x = new WoodenTurk();
        Texts.read(x, 4, "man when seen 0=0 and works 0=0 and doors=0 and secs=0 and turns=0 and air=960 and gap=16;");
        for (int k = 1; k < 4; k++) {
            Texts.read(x, k, "open 0; turn; wait 5;");
        }
        for (int chest = 1; chest < 3; chest++) {
            x.door(chest, 0, 0, 1, false);
            Edges.keepFree(x, chest, 0);
            c.due("asked between", x.run(chest, 1, 1), 1);
            c.due("hidden between", x.hide(chest, 1, 1, 0), 0);
        }
        c.row("of the first alone", new int[] {x.reason(0), x.pamphlet(3)}, 2, 1);
    }

    private static void noSuchReason() {
        c.edge("Promise 16", "NONE if there is none such.");
        WoodenTurk x = new WoodenTurk();
        for (int k : new int[] {Edges.LEAST, -1, 0, 1, 20, Edges.MOST}) {
            c.due("an empty one, reason " + k, x.reason(k), -1);
        }
        Texts.read(x, 4, "man when 1=1;".repeat(20));
        c.row("the first and the last", new int[] {x.reason(0), x.reason(19)}, 2, 2);
        for (int k : new int[] {Edges.LEAST, -1, 20, 21, Edges.MOST}) {
            c.due("twenty, reason " + k, x.reason(k), -1);
        }
        Texts.read(x, 4, "man when 1=1;");
        c.row("one", new int[] {x.reason(0), x.reason(1), x.reason(19)}, 2, -1, -1);
    }

    private static void reasonsAsTheyAreNow() {
        c.edge("Promise 16", "Reason k (from 0) of THE PAMPHLET: 2, 1 or 0", "each by its own condition, as it is now");
        WoodenTurk x = new WoodenTurk();
        StringBuilder text = new StringBuilder();
        for (int k = 0; k < 20; k++) {
            text.append(k % 2 == 0 ? "man" : "none").append(" when secs>").append(k).append(';');
        }
        Texts.read(x, 4, text.toString());
        for (int seconds = 1; seconds <= 20; seconds++) {
            Texts.read(x, 0, "wait " + seconds + ";");
            for (int k = 0; k < 20; k++) {
                c.due("reason " + k + " at " + seconds, x.reason(k), seconds > k ? 2 - k % 2 : 0);
            }
        }
    }

    private static void counts() {
        c.edge("Promise 17", "How many reasons are 2 (what 0), 1 (1), 0 (2)", "none and all twenty");
        WoodenTurk x = new WoodenTurk();
        c.row("no reasons", new int[] {x.pamphlet(0), x.pamphlet(1), x.pamphlet(2)}, 0, 0, 0);
        Texts.read(x, 4, "man when 1=1;".repeat(20));
        c.row("all 2", new int[] {x.pamphlet(0), x.pamphlet(1), x.pamphlet(2)}, 20, 0, 0);
        Texts.read(x, 4, "none when 1=1;".repeat(20));
        c.row("all 1", new int[] {x.pamphlet(0), x.pamphlet(1), x.pamphlet(2)}, 0, 20, 0);
        Texts.read(x, 4, "none when 1=2;".repeat(20));
        c.row("all 0", new int[] {x.pamphlet(0), x.pamphlet(1), x.pamphlet(2)}, 0, 0, 20);
        Texts.read(x, 4, "man when 1=1;none when 1=1;man when 1=2;none when 1=2;man when 0=0;none when 0=1;");
        c.row("of each", new int[] {x.pamphlet(0), x.pamphlet(1), x.pamphlet(2)}, 2, 1, 3);
    }

    private static void manOrNone() {
        c.edge("Promise 17", "3 1 if TRUE is man, else 0", "also of an empty pamphlet");
        WoodenTurk x = new WoodenTurk();
        c.due("man", x.pamphlet(3), 1);
        Edges.keepFree(x, 0, 0);
        c.due("none", x.pamphlet(3), 0);
        Texts.read(x, 4, "man when 1=1;");
        c.due("none still", x.pamphlet(3), 0);
    }

    private static void anotherWhat() {
        c.edge("Promise 17", "NONE for another what.");
        WoodenTurk x = new WoodenTurk();
        for (int round = 0; round < 2; round++) {
            for (int what : new int[] {Edges.LEAST, -2, -1, 4, 5, Edges.MOST}) {
                c.due("what " + what, x.pamphlet(what), -1);
            }
            Texts.read(x, 4, "man when 1=1;");
        }
    }
}
