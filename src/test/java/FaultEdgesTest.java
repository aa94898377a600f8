/** Edges of tokens and faults (section 1 and the grammar of section 2). */
public final class FaultEdgesTest {
    private static final Check c = new Check();

    public static void main(String[] args) {
        keywords();
        letters();
        numbers();
        otherSigns();
        signsOfThePamphlet();
        blanks();
        firstByPlace();
        atOnePlace();
        theEnd();
        endOfAFullTape();
        doorsAbove();
        waits();
        spacesAbove();
        partsByNone();
        atTheNumber();
        steps();
        reasons();
        openOnes();
        openOnesSideBySide();
        noCounts();
        whereOpenOnesCant();
        c.end();
    }

    private static void show(WoodenTurk x, String text, int... want) {
        c.row(text, Edges.text(x, 0, text), want);
    }

    private static void paper(WoodenTurk x, String text, int... want) {
        c.row(text, Edges.text(x, 4, text), want);
    }

    private static void keywords() {
        c.edge("Terms 1", "KEYWORDS (those told for such a TEXT) or none");
        WoodenTurk x = new WoodenTurk();
        for (String word : "open shut wait candle dark turn".split(" ")) {
            paper(x, "man when " + word + "=1;", -1, 1, 9);
            paper(x, word, -1, 1, 0);
            show(x, word, -1, 1, word.length());
        }
        for (String word : "man none when or and no seen works doors secs turns air gap".split(" ")) {
            show(x, word + ";", -1, 1, 0);
            show(x, "open " + word + ";", -1, 1, 5);
        }
        for (String word : "not true false nobody Man mann ma e".split(" ")) {
            paper(x, word + " when 1=1;", -1, 1, 0);
        }
    }

    private static void letters() {
        c.edge("Terms 1", "letters as many as stand together are KEYWORDS");
        WoodenTurk x = new WoodenTurk();
        show(x, "turnturn;", -1, 1, 0);
        show(x, "tur n;", -1, 1, 0);
        show(x, "tu\nrn;", -1, 1, 0);
        show(x, "TURN;", -1, 1, 0);
        show(x, "Turn;", -1, 1, 0);
        show(x, "turnA;", -1, 1, 0);
        show(x, "turnZ;", -1, 1, 0);
        show(x, "turna;", -1, 1, 0);
        show(x, "turnz;", -1, 1, 0);
        show(x, "turn1;", -1, 1, 4);
        show(x, "open1;", 1, 0, -1);
        paper(x, "man when 1=1or1=1and1=1;", 1, 0, -1);
        paper(x, "man when 1=1orno1=1;", -1, 1, 12);
        paper(x, "manwhen 1=1;", -1, 1, 0);
        paper(x, "man when nono 1=1;", -1, 1, 9);
    }

    private static void numbers() {
        c.edge("Terms 1", "digits as many as stand together NUMBERS of 1 to 4 digits or none");
        WoodenTurk x = new WoodenTurk();
        show(x, "wait 1;wait 01;wait 001;wait 0001;", 4, 0, -1);
        show(x, "wait 00001;", -1, 1, 5);
        show(x, "wait 000000000000000000001;", -1, 1, 5);
        show(x, "wait 4294967297;", -1, 1, 5);
        show(x, "wait 1 1;", -1, 1, 7);
        paper(x, "man when 9999=9999;", 1, 0, -1);
        paper(x, "man when 10000=1;", -1, 1, 9);
        paper(x, "man when 1=10000;", -1, 1, 11);
        paper(x, "man when 1/10000=1;", -1, 1, 11);
        paper(x, "man when 1/9999=0;", 1, 0, -1);
        paper(x, "man when seen 00015=0;", -1, 1, 14);
        paper(x, "man when seen 0015=0;", 1, 0, -1);
        c.due("0015 is 15", x.reason(0), 2);
        show(x, "wait 0020;", 1, 0, -1);
        c.due("0020 is 20", x.run(0, 0, 0), 20);
    }

    private static void otherSigns() {
        c.edge("Terms 1", "; and the signs told", "no other sign in a show");
        for (int sign = 0; sign < 256; sign++) {
            WoodenTurk x = new WoodenTurk();
            String text = "turn" + (char) sign + ";";
            boolean isLetter = sign >= 'a' && sign <= 'z' || sign >= 'A' && sign <= 'Z';
            if (sign == 32 || sign == 10) {
                show(x, text, 1, 0, -1);
            } else if (sign == ';') {
                show(x, text, -1, 1, 5);
            } else {
                show(x, text, -1, 1, isLetter ? 0 : 4);
            }
        }
    }

    private static void signsOfThePamphlet() {
        c.edge("Terms 2", "signs + - * / ( ) < = > ;", "no other sign in the pamphlet");
        for (int sign = 0; sign < 256; sign++) {
            WoodenTurk x = new WoodenTurk();
            boolean isBetween = sign == '<' || sign == '=' || sign == '>' || sign == '+' || sign == '-' || sign == '*'
                || sign == '/';
            String text = "man when secs" + (char) sign + "1";
            boolean isLetter = sign >= 'a' && sign <= 'z' || sign >= 'A' && sign <= 'Z';
            if (isBetween) {
                paper(x, text, -1, 1, 15);
            } else if (sign == 32 || sign == 10) {
                paper(x, text, -1, 1, 14);
            } else {
                paper(x, text, -1, 1, isLetter ? 9 : 13);
            }
        }
    }

    private static void blanks() {
        c.edge("Terms 1", "Blanks (32, 10) between.");
        WoodenTurk x = new WoodenTurk();
        show(x, "  \n open \n\n 1 \n ; \n", 1, 0, -1);
        show(x, "open 1;turn;", 2, 0, -1);
        for (char sign : new char[] {0, 9, 11, 12, 13, 31, 33, 127, 133, 160, 255}) {
            show(x, "open" + sign + "1;", -1, 1, 4);
            show(x, sign + "turn;", -1, 1, 0);
            show(x, "turn;" + sign, -1, 1, 5);
            paper(x, "man" + sign + "when 1=1;", -1, 1, 3);
        }
        paper(x, "man\nwhen\n1\n=\n1\n;\n", 1, 0, -1);
        show(x, " ".repeat(600), 0, 0, -1);
    }

    private static void firstByPlace() {
        c.edge("Terms 1", "FAULTS, the first by its place");
        WoodenTurk x = new WoodenTurk();
        show(x, "wait 0; open", -1, 2, 5);
        show(x, "open; wait 0;", -1, 1, 4);
        show(x, "open 10 ~", -1, 2, 5);
        show(x, "~ open 10;", -1, 1, 0);
        show(x, "turn;".repeat(40) + "turn; wait 0;", -1, 3, 200);
        show(x, "turn;".repeat(39) + "wait 0; turn;", -1, 2, 200);
        paper(x, "man when 1/0=seen 16;", -1, 2, 11);
        paper(x, "man when seen 16=1/0;", -1, 2, 14);
        paper(x, "man when ((((((((( 1/0=1", -1, 3, 17);
        paper(x, "man when 1/0=1 or (((((((((1=1", -1, 2, 11);
    }

    private static void atOnePlace() {
        c.edge("Terms 1", "at one place the least");
        WoodenTurk x = new WoodenTurk();
        String forty = "turn;".repeat(40);
        show(x, forty + "close 1;", -1, 1, 200);
        show(x, forty + "7", -1, 1, 200);
        show(x, forty + ";", -1, 1, 200);
        show(x, "turn 99;", -1, 1, 5);
        show(x, "wait 1 99;", -1, 1, 7);
        show(x, "open 99999;", -1, 1, 5);
        String twenty = "man when 1=1;".repeat(20);
        paper(x, twenty + "or", -1, 1, 260);
        paper(x, twenty + "(", -1, 1, 260);
        paper(x, "man when seen 99999=1;", -1, 1, 14);
        paper(x, "man when 1/00000=1;", -1, 1, 11);
        paper(x, "man when ((((((((1=(1", -1, 1, 19);
    }

    private static void theEnd() {
        c.edge("Terms 1", "1 what can't stand there (the end: the text's length)");
        WoodenTurk x = new WoodenTurk();
        for (String text : new String[] {"open", "open ", "open 1", "open 1 \n", "turn", "wait 20", "turn;dark;candle 9"}) {
            show(x, text, -1, 1, text.length());
        }
        String whole = "none when no ( seen 3 + 1 * 2 / 7 < gap and 1 = 1 ) or air > 5";
        for (int length = 1; length <= whole.length(); length++) {
            if (length == whole.length() || whole.charAt(length) == ' ') {
                paper(x, whole.substring(0, length), -1, 1, length);
                paper(x, whole.substring(0, length) + "  ", -1, 1, length + 2);
            }
        }
        paper(x, whole + ";", 1, 0, -1);
    }

    private static void endOfAFullTape() {
        c.edge("Terms 1", "the end: the text's length", "of 600 bytes");
        WoodenTurk x = new WoodenTurk();
        show(x, " ".repeat(596) + "turn", -1, 1, 600);
        show(x, " ".repeat(595) + "turn;", 1, 0, -1);
        show(x, " ".repeat(599) + "~", -1, 1, 599);
        show(x, ";".repeat(600), -1, 1, 0);
        show(x, "turn" + " ".repeat(596), -1, 1, 600);
        paper(x, "man when 1" + "+1".repeat(294) + "=", -1, 1, 599);
        paper(x, "man when 1" + "+1".repeat(293) + "=1;", 1, 0, -1);
        paper(x, "man when 1" + "+1".repeat(294) + ">1", -1, 1, 600);
    }

    private static void doorsAbove() {
        c.edge("Terms 1", "2 (at the NUMBER) a DOOR above 9");
        WoodenTurk x = new WoodenTurk();
        for (String word : new String[] {"open", "shut", "candle"}) {
            int place = word.length() + 1;
            show(x, word + " 0;", 1, 0, -1);
            show(x, word + " 9;", 1, 0, -1);
            show(x, word + " 0009;", 1, 0, -1);
            show(x, word + " 10;", -1, 2, place);
            show(x, word + " 0010;", -1, 2, place);
            show(x, word + " 16;", -1, 2, place);
            show(x, word + " 9999;", -1, 2, place);
        }
    }

    private static void waits() {
        c.edge("Terms 1", "a wait that is not 1 .. 20");
        WoodenTurk x = new WoodenTurk();
        show(x, "wait 0;", -1, 2, 5);
        show(x, "wait 0000;", -1, 2, 5);
        show(x, "wait 1;", 1, 0, -1);
        c.due("a second", x.run(0, 0, 0), 1);
        show(x, "wait 20;", 1, 0, -1);
        c.due("twenty", x.run(0, 0, 0), 20);
        show(x, "wait 21;", -1, 2, 5);
        show(x, "wait 9999;", -1, 2, 5);
    }

    private static void spacesAbove() {
        c.edge("Terms 1", "a SPACE above 15");
        WoodenTurk x = new WoodenTurk();
        for (String word : new String[] {"seen", "works"}) {
            int place = 10 + word.length();
            paper(x, "man when " + word + " 0=0;", 1, 0, -1);
            paper(x, "man when " + word + " 15=0;", 1, 0, -1);
            paper(x, "man when " + word + " 16=0;", -1, 2, place);
            paper(x, "man when " + word + " 32=0;", -1, 2, place);
            paper(x, "man when " + word + " 9999=0;", -1, 2, place);
        }
        paper(x, "man when 1=seen 16;", -1, 2, 16);
        paper(x, "man when 1*works 16=1;", -1, 2, 17);
    }

    private static void partsByNone() {
        c.edge("Terms 1", "a part by 0");
        WoodenTurk x = new WoodenTurk();
        paper(x, "man when 1/0=1;", -1, 2, 11);
        paper(x, "man when 1/00=1;", -1, 2, 11);
        paper(x, "man when 1/0000=1;", -1, 2, 11);
        paper(x, "man when 0/0=1;", -1, 2, 11);
        paper(x, "man when 1=1/0", -1, 2, 13);
        paper(x, "man when 1/1/0=1;", -1, 2, 13);
        paper(x, "man when 1/1=1;", 1, 0, -1);
        paper(x, "man when 1/0001=1;", 1, 0, -1);
        paper(x, "man when 0/1=0;", 1, 0, -1);
        paper(x, "man when 1*0=0;", 1, 0, -1);
    }

    private static void atTheNumber() {
        c.edge("Terms 1", "2 (at the NUMBER)", "not at the word ahead of it");
        WoodenTurk x = new WoodenTurk();
        show(x, "open   10;", -1, 2, 7);
        show(x, "wait\n\n0;", -1, 2, 6);
        show(x, "turn;shut99;", -1, 2, 9);
        paper(x, "man when seen\n\n\n99=1;", -1, 2, 16);
        paper(x, "man when 1 / \n 0=1;", -1, 2, 15);
    }

    private static void steps() {
        c.edge("Terms 1", "3 (at its KEYWORD) the 41st STEP");
        WoodenTurk x = new WoodenTurk();
        String forty = "open 1;".repeat(40);
        show(x, forty, 40, 0, -1);
        show(x, forty + " \n ", 40, 0, -1);
        for (String word : "open shut wait candle dark turn".split(" ")) {
            show(x, forty + word, -1, 3, 280);
            show(x, forty + "\n" + word + " 1;", -1, 3, 281);
        }
        show(x, "open 1;".repeat(41) + "~", -1, 3, 280);
        show(x, "open 1;".repeat(39) + "open 1", -1, 1, 279);
    }

    private static void reasons() {
        c.edge("Terms 1", "3 (at its KEYWORD) the 41st STEP, the 21st reason");
        WoodenTurk x = new WoodenTurk();
        String twenty = "none when 1=1;".repeat(20);
        paper(x, twenty, 20, 0, -1);
        paper(x, twenty + " \n", 20, 0, -1);
        paper(x, twenty + "man", -1, 3, 280);
        paper(x, twenty + " none when", -1, 3, 281);
        paper(x, twenty.repeat(2), -1, 3, 280);
        paper(x, twenty + "no", -1, 1, 280);
        paper(x, "none when 1=1;".repeat(19) + "none when 1=1", -1, 1, 279);
    }

    private static void openOnes() {
        c.edge("Terms 1", "(at it) the 9th ( or not that is open.");
        WoodenTurk x = new WoodenTurk();
        paper(x, "man when " + "(".repeat(8) + "1=1" + ")".repeat(8) + ";", 1, 0, -1);
        paper(x, "man when " + "(".repeat(9) + "1=1" + ")".repeat(9) + ";", -1, 3, 17);
        paper(x, "man when " + "( ".repeat(9), -1, 3, 25);
        paper(x, "man when " + "(".repeat(8) + "1=1 or (", -1, 3, 24);
        paper(x, "man when " + "(".repeat(8) + "1=1 and(1=1)", -1, 3, 24);
        paper(x, "man when " + "(".repeat(8) + "1=1)or(1=1)" + ")".repeat(7) + ";", 1, 0, -1);
        paper(x, "man when " + "(".repeat(8) + "1=1)or((1=1", -1, 3, 24);
    }

    private static void openOnesSideBySide() {
        c.edge("Terms 1", "the 9th ( or not that is open", "those that are shut again do not count");
        WoodenTurk x = new WoodenTurk();
        paper(x, "man when (1=1)" + " and (1=1)".repeat(30) + ";", 1, 0, -1);
        paper(x, "man when no 1=2" + " and no 1=2".repeat(30) + ";", 1, 0, -1);
        paper(x, "man when no(no(no(no 1=1)))" + " or no(no(no(no 1=1)))".repeat(10) + ";", 1, 0, -1);
        paper(x, "man when " + "(".repeat(7) + "no 1=1 or no 1=1 or (1=1) and no 1=1" + ")".repeat(7) + ";", 1, 0, -1);
        paper(x, "man when 1=1;".repeat(10) + "man when " + "(".repeat(8) + "1=1" + ")".repeat(8) + ";", 11, 0, -1);
    }

    private static void noCounts() {
        c.edge("Terms 2", "in FAULT 3 no counts as not");
        WoodenTurk x = new WoodenTurk();
        paper(x, "man when " + "no ".repeat(8) + "1=1;", 1, 0, -1);
        paper(x, "man when " + "no ".repeat(9) + "1=1;", -1, 3, 33);
        paper(x, "man when " + "no(".repeat(4) + "1=1" + ")".repeat(4) + ";", 1, 0, -1);
        paper(x, "man when " + "no(".repeat(4) + "no 1=1" + ")".repeat(4) + ";", -1, 3, 21);
        paper(x, "man when " + "no(".repeat(4) + "(1=1)" + ")".repeat(4) + ";", -1, 3, 21);
        paper(x, "man when " + "no(".repeat(4) + "1=1 or no 1=1" + ")".repeat(4) + ";", -1, 3, 28);
        paper(x, "man when " + "(".repeat(8) + "no 1=1", -1, 3, 17);
        paper(x, "man when " + "no ".repeat(8) + "(1=1)", -1, 3, 33);
    }

    private static void whereOpenOnesCant() {
        c.edge("Terms 2", "C = E (< | = | >) E | no C | ( B )", "a ( or no that can't stand there is fault 1");
        WoodenTurk x = new WoodenTurk();
        paper(x, "man when (1+1)=2;", -1, 1, 13);
        paper(x, "man when 1=(1);", -1, 1, 11);
        paper(x, "man when 1 no 1=1;", -1, 1, 11);
        paper(x, "man when 1=no 1=1;", -1, 1, 11);
        paper(x, "man when ();", -1, 1, 10);
        paper(x, "man when no;", -1, 1, 11);
        paper(x, "man when no or 1=1;", -1, 1, 12);
        paper(x, "man no when 1=1;", -1, 1, 4);
        paper(x, "man when 1=1));", -1, 1, 12);
        paper(x, "man when (1=1;)", -1, 1, 13);
    }
}
