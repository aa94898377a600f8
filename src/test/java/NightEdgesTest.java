/** Edges of masters and nights (section 4, promises 23 to 28). */
public final class NightEdgesTest {
    private static final Check c = new Check();

    public static void main(String[] args) {
        masterNumbers();
        strengths();
        years();
        fromAndTo();
        masterRefused();
        towns();
        twoHundred();
        toldAlready();
        twoTownsOfAYear();
        wasRefused();
        answers();
        weights();
        oneAtFirst();
        habitRefused();
        nightNumbers();
        results();
        answerOrNone();
        nightRefused();
        yearsOfAMaster();
        inAnotherTown();
        heldTo();
        drawnAtLeast();
        drawnTowardsNone();
        habitWithout();
        oddsOfThousand();
        whoRefused();
        allWeightsNone();
        aRunOfOne();
        aboveTheLimit();
        atTheLimit();
        dividedByThousand();
        allAreDivided();
        longRun();
        allRefused();
        forNobody();
        c.end();
    }

    private static void masterNumbers() {
        c.edge("Terms 4", "MASTERS 0 .. 11 as they come");
        WoodenTurk x = new WoodenTurk();
        x.night(50, 0, 50, 2, -1);
        for (int i = 0; i < 12; i++) {
            c.row("not there yet", new int[] {x.who(0, i, 1), x.who(0, i, 0), x.all(0, 0, i)}, -1, -1, -1);
            c.row("neither", new int[] {x.was(i, 0, 0) ? 1 : 0, x.habit(i, 0, 1) ? 1 : 0}, 0, 0);
            c.due("master", x.master(1, i, 0, 99), i);
            c.due("there", x.who(0, i, 1), Math.max(1, i));
        }
        c.due("the thirteenth", x.master(1, 12, 0, 99), -1);
        c.due("not there", x.who(0, 12, 1), -1);
        c.due("the last as it was", x.who(0, 11, 1), 11);
    }

    private static void strengths() {
        c.edge("Terms 4", "STRENGTH 0 .. 99");
        WoodenTurk x = new WoodenTurk();
        for (int strength : new int[] {Edges.LEAST, -1, 100, 101, Edges.MOST}) {
            c.due("master " + strength, x.master(1, strength, 0, 99), -1);
            c.due("night " + strength, x.night(0, 0, strength, 2, -1), -1);
        }
        c.row("0 and 99", new int[] {x.master(1, 0, 0, 99), x.master(1, 99, 0, 99)}, 0, 1);
        c.row("0 and 99", new int[] {x.night(0, 0, 0, 2, -1), x.night(0, 0, 99, 2, -1)}, 0, 1);
        c.row("weights", new int[] {x.who(0, 0, 1), x.who(0, 1, 1), x.who(1, 0, 1), x.who(1, 1, 1)}, 50, 99, 1, 50);
    }

    private static void years() {
        c.edge("Terms 4", "years FROM .. TO (0 .. 99)");
        WoodenTurk x = new WoodenTurk();
        for (int year : new int[] {Edges.LEAST, -1, 100, 101, Edges.MOST}) {
            c.due("from " + year, x.master(1, 50, year, 99), -1);
            c.due("to " + year, x.master(1, 50, 0, year), -1);
            c.due("from and to " + year, x.master(1, 50, year, year), -1);
            c.due("night " + year, x.night(year, 0, 50, 2, -1), -1);
        }
        c.row("0, 99, all", new int[] {x.master(1, 50, 0, 0), x.master(1, 50, 99, 99), x.master(1, 50, 0, 99)}, 0, 1, 2);
        c.row("0, 99", new int[] {x.night(0, 0, 50, 2, -1), x.night(99, 0, 50, 2, -1)}, 0, 1);
        c.row("0", new int[] {x.who(0, 0, 1), x.who(0, 1, 1), x.who(0, 2, 1)}, 50, 0, 50);
        c.row("99", new int[] {x.who(1, 0, 1), x.who(1, 1, 1), x.who(1, 2, 1)}, 0, 50, 50);
    }

    private static void fromAndTo() {
        c.edge("Terms 4", "years FROM .. TO", "one year is a row, none is not");
        WoodenTurk x = new WoodenTurk();
        c.row("from above to", new int[] {x.master(1, 50, 1, 0), x.master(1, 50, 99, 0), x.master(1, 50, 99, 98)}, -1, -1, -1);
        c.due("one year", x.master(1, 50, 7, 7), 0);
    }

    private static void masterRefused() {
        c.edge("Promise 23", "NONE if one can't be, or there are twelve.");
        WoodenTurk x = new WoodenTurk();
        c.row("sizes", new int[] {x.master(0, 50, 0, 99), x.master(5, 50, 0, 99), x.master(-1, 50, 0, 99)}, -1, -1, -1);
        c.row("strengths", new int[] {x.master(1, -1, 0, 99), x.master(1, 100, 0, 99)}, -1, -1);
        c.row("years", new int[] {x.master(1, 1, -1, 99), x.master(1, 1, 0, 100), x.master(1, 1, 9, 8)}, -1, -1, -1);
        for (int i = 0; i < 12; i++) {
            c.due("a refused one has no number", x.master(1 + i % 4, 50, 0, 99), i);
        }
        for (int i = 0; i < 3; i++) {
            c.due("there are twelve", x.master(1, 50, 0, 99), -1);
        }
    }

    private static void towns() {
        c.edge("Terms 4", "told is that a MASTER WAS in a TOWN 0 .. 9 in a year");
        WoodenTurk x = new WoodenTurk();
        x.master(1, 50, 0, 99);
        for (int town : new int[] {Edges.LEAST, -1, 10, 11, 32, Edges.MOST}) {
            c.due("was in " + town, x.was(0, town, 5), false);
            c.due("night in " + town, x.night(5, town, 50, 2, -1), -1);
        }
        c.row("0 and 9", new int[] {x.night(5, 0, 50, 2, -1), x.night(5, 9, 50, 2, -1)}, 0, 1);
        c.row("nowhere told", new int[] {x.who(0, 0, 1), x.who(1, 0, 1)}, 50, 50);
        c.due("was in 9", x.was(0, 9, 5), true);
        c.row("in 9", new int[] {x.who(0, 0, 1), x.who(1, 0, 1)}, 0, 50);
        c.due("was in 0", x.was(0, 0, 5), true);
        c.row("in both", new int[] {x.who(0, 0, 1), x.who(1, 0, 1)}, 50, 50);
    }

    private static void twoHundred() {
        c.edge("Terms 4", "(200 in all)", "of all masters together");
        WoodenTurk x = new WoodenTurk();
        for (int i = 0; i < 4; i++) {
            x.master(1, 50, 0, 99);
        }
        for (int i = 0; i < 200; i++) {
            c.due("was " + i, x.was(i % 4, 9 - i / 4 % 10, 99 - i / 40), true);
        }
        for (int i = 0; i < 4; i++) {
            c.due("the 201st", x.was(i, 0, 0), false);
        }
        x.night(0, 5, 50, 2, -1);
        c.row("nothing was told", new int[] {x.who(0, 0, 1), x.who(0, 3, 1)}, 50, 50);
    }

    private static void toldAlready() {
        c.edge("Promise 24", "it was told", "and does not count again");
        WoodenTurk x = new WoodenTurk();
        x.master(1, 50, 0, 99);
        x.master(1, 50, 0, 99);
        c.due("told", x.was(0, 3, 7), true);
        for (int i = 0; i < 100; i++) {
            c.due("told again", x.was(0, 3, 7), false);
        }
        for (int i = 0; i < 199; i++) {
            c.due("was " + i, x.was(1, i % 10, i / 10), true);
        }
        c.due("200 were told", x.was(1, 9, 19), false);
        c.due("told again", x.was(0, 3, 7), false);
    }

    private static void twoTownsOfAYear() {
        c.edge("Promise 24", "A MASTER WAS in a TOWN in a year: true", "in several towns of a year, each kept");
        WoodenTurk x = new WoodenTurk();
        x.master(1, 50, 0, 99);
        x.master(1, 50, 0, 99);
        for (int town = 0; town < 10; town++) {
            x.night(5, town, 50, 2, -1);
        }
        for (int town = 0; town < 9; town++) {
            c.due("was in " + town, x.was(0, town, 5), true);
            for (int other = 0; other < 10; other++) {
                c.due("weight in " + other, x.who(other, 0, 1), other <= town ? 50 : 0);
                c.due("the other master", x.who(other, 1, 1), 50);
            }
        }
        for (int town = 0; town < 9; town++) {
            c.due("told", x.was(0, town, 5), false);
        }
    }

    private static void wasRefused() {
        c.edge("Promise 24", "false if one can't be, it was told, or there are 200.");
        WoodenTurk x = new WoodenTurk();
        c.due("no master", x.was(0, 0, 0), false);
        x.master(1, 50, 10, 20);
        for (int master : new int[] {Edges.LEAST, -1, 1, 12, Edges.MOST}) {
            c.due("master " + master, x.was(master, 0, 15), false);
        }
        for (int year : new int[] {Edges.LEAST, -1, 100, Edges.MOST}) {
            c.due("year " + year, x.was(0, 0, year), false);
        }
        for (int town : new int[] {Edges.LEAST, -1, 10, Edges.MOST}) {
            c.due("town " + town, x.was(0, town, 15), false);
        }
        c.due("years 0 and 99, outside FROM .. TO", x.was(0, 0, 0) && x.was(0, 0, 99), true);
        x.night(15, 1, 50, 2, -1);
        c.due("nothing else was told", x.who(0, 0, 1), 50);
    }

    private static void answers() {
        c.edge("Terms 4", "for each of ANSWERS 0 .. 2");
        WoodenTurk x = new WoodenTurk();
        x.master(1, 50, 0, 99);
        for (int answer : new int[] {Edges.LEAST, -1, 3, 4, Edges.MOST}) {
            c.due("habit " + answer, x.habit(0, answer, 5), false);
        }
        for (int answer = 0; answer < 3; answer++) {
            c.due("habit " + answer, x.habit(0, answer, answer + 2), true);
            c.due("night", x.night(0, 0, 50, 2, answer), answer);
        }
        c.row("each its own", new int[] {x.who(0, 0, 1), x.who(1, 0, 1), x.who(2, 0, 1)}, 100, 150, 200);
    }

    private static void weights() {
        c.edge("Terms 4", "a weight 0 .. 9");
        WoodenTurk x = new WoodenTurk();
        x.master(1, 99, 0, 99);
        x.night(0, 0, 0, 2, 1);
        for (int weight = 0; weight <= 9; weight++) {
            c.due("habit " + weight, x.habit(0, 1, weight), true);
            c.row("weight", new int[] {x.who(0, 0, 1), x.who(0, 0, 0)}, 99 * weight, weight == 0 ? -1 : 1000);
        }
        for (int weight : new int[] {Edges.LEAST, -1, 10, 11, Edges.MOST}) {
            c.due("habit " + weight, x.habit(0, 1, weight), false);
            c.due("as it was", x.who(0, 0, 1), 891);
        }
    }

    private static void oneAtFirst() {
        c.edge("Terms 4", "(1 at first)");
        WoodenTurk x = new WoodenTurk();
        for (int answer = 0; answer < 3; answer++) {
            x.night(0, 0, 50, 2, answer);
        }
        for (int i = 0; i < 12; i++) {
            x.master(1, 60, 0, 99);
            c.row("habits of " + i, new int[] {x.who(0, i, 1), x.who(1, i, 1), x.who(2, i, 1)}, 60, 60, 60);
            x.habit(i, i % 3, 9);
            c.due("told", x.who(i % 3, i, 1), 540);
        }
    }

    private static void habitRefused() {
        c.edge("Promise 25", "true; false if one can't be.");
        WoodenTurk x = new WoodenTurk();
        c.due("no master", x.habit(0, 0, 1), false);
        x.master(1, 50, 0, 99);
        x.night(0, 0, 50, 2, 0);
        for (int master : new int[] {Edges.LEAST, -1, 1, 11, 12, Edges.MOST}) {
            c.due("master " + master, x.habit(master, 0, 5), false);
        }
        c.due("answer 3", x.habit(0, 3, 5), false);
        c.due("answer -1", x.habit(0, -1, 5), false);
        c.due("weight 10", x.habit(0, 0, 10), false);
        c.due("weight -1", x.habit(0, 0, -1), false);
        c.due("as it was", x.who(0, 0, 1), 50);
        x.master(1, 50, 0, 99);
        c.due("of the next one too", x.who(0, 1, 1), 50);
    }

    private static void nightNumbers() {
        c.edge("Terms 4", "NIGHTS 0 .. 59 as they come");
        WoodenTurk x = new WoodenTurk();
        x.master(1, 50, 0, 99);
        for (int i = 0; i < 60; i++) {
            c.row("not there yet", new int[] {x.who(i, 0, 1), x.all(i, i, 0)}, -1, -1);
            c.due("night", x.night(0, 0, i, 2, -1), i);
            c.due("there", x.who(i, 0, 1), Math.min(99, 100 - i));
        }
        c.due("the 61st", x.night(0, 0, 0, 2, -1), -1);
        c.row("not there", new int[] {x.who(60, 0, 1), x.all(0, 60, 0)}, -1, -1);
        c.due("the last as it was", x.who(59, 0, 1), 41);
    }

    private static void results() {
        c.edge("Terms 4", "won (2), drawn (1), lost (0)");
        WoodenTurk x = new WoodenTurk();
        x.master(1, 60, 0, 99);
        for (int result : new int[] {Edges.LEAST, -1, 3, 4, Edges.MOST}) {
            c.due("result " + result, x.night(0, 0, 50, result, -1), -1);
        }
        for (int result = 0; result < 3; result++) {
            c.due("result " + result, x.night(0, 0, 50, result, -1), result);
        }
        c.row("weights", new int[] {x.who(0, 0, 1), x.who(1, 0, 1), x.who(2, 0, 1)}, 40, 45, 60);
    }

    private static void answerOrNone() {
        c.edge("Promise 26", "(answer NONE: none)");
        WoodenTurk x = new WoodenTurk();
        x.master(1, 50, 0, 99);
        for (int answer : new int[] {Edges.LEAST, -2, 3, 4, Edges.MOST}) {
            c.due("answer " + answer, x.night(0, 0, 50, 2, answer), -1);
        }
        for (int answer = 0; answer < 3; answer++) {
            x.habit(0, answer, 0);
        }
        c.due("none", x.night(0, 0, 50, 2, -1), 0);
        c.due("no habit weighs with it", x.who(0, 0, 1), 50);
        c.due("0", x.night(0, 0, 50, 2, 0), 1);
        c.due("2", x.night(0, 0, 50, 2, 2), 2);
        c.row("0 and 2 do", new int[] {x.who(1, 0, 1), x.who(2, 0, 1)}, 0, 0);
    }

    private static void nightRefused() {
        c.edge("Promise 26", "NONE if one can't be (answer NONE: none), or there are 60.");
        WoodenTurk x = new WoodenTurk();
        c.row("years", new int[] {x.night(-1, 0, 0, 0, -1), x.night(100, 0, 0, 0, -1)}, -1, -1);
        c.row("towns", new int[] {x.night(0, -1, 0, 0, -1), x.night(0, 10, 0, 0, -1)}, -1, -1);
        c.row("strengths", new int[] {x.night(0, 0, -1, 0, -1), x.night(0, 0, 100, 0, -1)}, -1, -1);
        c.row("results", new int[] {x.night(0, 0, 0, -1, -1), x.night(0, 0, 0, 3, -1)}, -1, -1);
        c.row("answers", new int[] {x.night(0, 0, 0, 0, -2), x.night(0, 0, 0, 0, 3)}, -1, -1);
        for (int i = 0; i < 60; i++) {
            c.due("a refused one has no number", x.night(i, i % 10, i, i % 3, i % 4 - 1), i);
        }
        for (int i = 0; i < 3; i++) {
            c.due("there are 60", x.night(0, 0, 0, 0, -1), -1);
        }
    }

    private static void yearsOfAMaster() {
        c.edge("Terms 4", "0 if the year is not FROM .. TO", "the first, the last, ahead and behind");
        WoodenTurk x = new WoodenTurk();
        x.master(1, 50, 10, 20);
        x.master(1, 50, 15, 15);
        int[] years = {0, 9, 10, 14, 15, 16, 20, 21, 99};
        int[] weights = {0, 0, 50, 50, 50, 50, 50, 0, 0};
        for (int i = 0; i < years.length; i++) {
            x.night(years[i], 0, 50, 2, -1);
            c.row("year " + years[i], new int[] {x.who(i, 0, 1), x.who(i, 1, 1)}, weights[i], years[i] == 15 ? 50 : 0);
        }
    }

    private static void inAnotherTown() {
        c.edge("Terms 4", "or he WAS in another TOWN that year and not (told) in this one");
        WoodenTurk x = new WoodenTurk();
        x.master(1, 50, 0, 98);
        x.master(1, 50, 0, 98);
        x.night(5, 3, 50, 2, -1);
        x.was(0, 4, 4);
        x.was(0, 4, 6);
        c.due("of other years", x.who(0, 0, 1), 50);
        x.was(0, 4, 5);
        c.row("of this year", new int[] {x.who(0, 0, 1), x.who(0, 1, 1)}, 0, 50);
        x.was(0, 3, 6);
        c.due("in this town another year", x.who(0, 0, 1), 0);
        x.was(0, 3, 5);
        c.due("in this town too", x.who(0, 0, 1), 50);
        x.was(1, 3, 5);
        c.due("in this town alone", x.who(0, 1, 1), 50);
        x.was(0, 3, 99);
        x.night(99, 3, 50, 2, -1);
        c.due("in this town, but behind TO", x.who(1, 0, 1), 0);
    }

    private static int game(int strength, int opponent, int result) {
        WoodenTurk x = new WoodenTurk();
        x.master(1, strength, 0, 99);
        x.night(0, 0, opponent, result, -1);
        return x.who(0, 0, 1);
    }

    private static void heldTo() {
        c.edge("Terms 4", "won 50 + d, lost 50 - d, each held to 1 .. 99");
        c.row("won", new int[] {game(48, 0, 2), game(49, 0, 2), game(50, 0, 2), game(99, 0, 2)}, 98, 99, 99, 99);
        c.row("won", new int[] {game(0, 48, 2), game(0, 49, 2), game(0, 50, 2), game(0, 99, 2)}, 2, 1, 1, 1);
        c.row("lost", new int[] {game(48, 0, 0), game(49, 0, 0), game(50, 0, 0), game(99, 0, 0)}, 2, 1, 1, 1);
        c.row("lost", new int[] {game(0, 48, 0), game(0, 49, 0), game(0, 50, 0), game(0, 99, 0)}, 98, 99, 99, 99);
        c.row("alike", new int[] {game(7, 7, 2), game(7, 7, 0), game(0, 0, 2), game(99, 99, 0)}, 50, 50, 50, 50);
    }

    private static void drawnAtLeast() {
        c.edge("Terms 4", "drawn 50 less d by 2 as far as it is from 0, at least 1");
        c.row("above", new int[] {game(0, 0, 1), game(1, 0, 1), game(2, 0, 1), game(97, 0, 1), game(98, 0, 1),
            game(99, 0, 1)}, 50, 50, 49, 2, 1, 1);
        c.row("below", new int[] {game(0, 1, 1), game(0, 2, 1), game(0, 97, 1), game(0, 98, 1), game(0, 99, 1)},
            50, 49, 2, 1, 1);
    }

    private static void drawnTowardsNone() {
        c.edge("Terms", "Quotients go towards 0.", "drawn, with a difference below 0");
        c.row("odd ones", new int[] {game(10, 13, 1), game(13, 10, 1), game(10, 35, 1), game(35, 10, 1)}, 49, 49, 38, 38);
    }

    private static void habitWithout() {
        c.edge("Terms 4", "HABIT that of the ANSWER (1 without).");
        WoodenTurk x = new WoodenTurk();
        x.master(1, 50, 0, 99);
        x.habit(0, 0, 2);
        x.habit(0, 1, 0);
        x.habit(0, 2, 9);
        for (int answer = -1; answer < 3; answer++) {
            x.night(0, 0, 50, 1, answer);
        }
        c.row("weights", new int[] {x.who(0, 0, 1), x.who(1, 0, 1), x.who(2, 0, 1), x.who(3, 0, 1)}, 50, 100, 0, 450);
    }

    private static void oddsOfThousand() {
        c.edge("Terms 4", "ODDS: of 1000 his WEIGHT by all WEIGHTS together.", "none, all, and towards 0");
        WoodenTurk x = new WoodenTurk();
        x.master(1, 50, 0, 10);
        x.night(5, 0, 50, 2, -1);
        x.night(11, 0, 50, 2, -1);
        c.due("alone", x.who(0, 0, 0), 1000);
        x.master(1, 50, 0, 99);
        c.row("two", new int[] {x.who(0, 0, 0), x.who(0, 1, 0), x.who(1, 0, 0), x.who(1, 1, 0)}, 500, 500, 0, 1000);
        x.master(1, 50, 0, 99);
        c.row("three", new int[] {x.who(0, 0, 0), x.who(0, 1, 0), x.who(0, 2, 0)}, 333, 333, 333);
        x.master(1, 0, 0, 99);
        x.habit(1, 0, 9);
        x.habit(2, 0, 9);
        x.night(5, 0, 49, 2, 0);
        // 51, 459, 459 and 1
        c.row("far apart", new int[] {x.who(2, 0, 0), x.who(2, 1, 0), x.who(2, 2, 0), x.who(2, 3, 0)}, 52, 473, 473, 1);
        x.night(5, 0, 20, 2, 0);
        c.row("the last one has 30 of 1520", new int[] {x.who(3, 3, 1), x.who(3, 3, 0)}, 30, 19);
    }

    private static void whoRefused() {
        c.edge("Promise 27", "NONE if one can't be, all WEIGHTS are 0 (for 0), or another what.");
        WoodenTurk x = new WoodenTurk();
        c.row("nobody, no night", new int[] {x.who(0, 0, 0), x.who(0, 0, 1)}, -1, -1);
        x.night(0, 0, 50, 2, -1);
        c.row("nobody", new int[] {x.who(0, 0, 0), x.who(0, 0, 1)}, -1, -1);
        x.master(1, 50, 0, 99);
        c.row("one", new int[] {x.who(0, 0, 0), x.who(0, 0, 1)}, 1000, 50);
        for (int number : new int[] {Edges.LEAST, -1, 1, 12, 60, Edges.MOST}) {
            c.row("night " + number, new int[] {x.who(number, 0, 0), x.who(number, 0, 1)}, -1, -1);
            c.row("master " + number, new int[] {x.who(0, number, 0), x.who(0, number, 1)}, -1, -1);
        }
        for (int what : new int[] {Edges.LEAST, -1, 2, 3, Edges.MOST}) {
            c.due("what " + what, x.who(0, 0, what), -1);
        }
    }

    private static void allWeightsNone() {
        c.edge("Promise 27", "all WEIGHTS are 0 (for 0)");
        WoodenTurk x = new WoodenTurk();
        x.master(1, 50, 0, 10);
        x.master(1, 50, 0, 11);
        x.night(11, 0, 50, 2, 1);
        c.row("one is not", new int[] {x.who(0, 0, 0), x.who(0, 0, 1), x.who(0, 1, 0)}, 0, 0, 1000);
        x.habit(1, 1, 0);
        c.row("all are", new int[] {x.who(0, 0, 0), x.who(0, 1, 0), x.who(0, 0, 1), x.who(0, 1, 1)}, -1, -1, 0, 0);
    }

    private static void aRunOfOne() {
        c.edge("Terms 4", "One MASTER for a RUN of NIGHTS (a to b)", "of one night, and of all");
        WoodenTurk x = new WoodenTurk();
        x.master(1, 60, 0, 99);
        x.master(1, 40, 0, 99);
        x.night(0, 0, 50, 2, -1);
        x.night(0, 0, 50, 0, -1);
        x.night(0, 0, 50, 2, -1);
        c.row("one", new int[] {x.all(0, 0, 0), x.all(1, 1, 0), x.all(2, 2, 0)}, 600, 400, 600);
        c.row("two, from a to b", new int[] {x.all(0, 1, 0), x.all(1, 2, 0)}, 500, 500);
        c.row("three", new int[] {x.all(0, 2, 0), x.all(0, 2, 1)}, 600, 400);
    }

    /** Master 0 of strength 99 to year 10, master 1 of strength 0 to year 99. */
    private static WoodenTurk strongAndWeak() {
        WoodenTurk x = new WoodenTurk();
        x.master(1, 99, 0, 10);
        x.master(1, 0, 0, 99);
        return x;
    }

    private static void aboveTheLimit() {
        c.edge("Terms 4", "whenever one's is above 1000000000 behind a NIGHT, all are divided by 1000", "above");
        WoodenTurk x = strongAndWeak();
        // 50 * 53 * 53 * 80 * 89 is 1000004000, the other one's is 1 and becomes 0
        for (int weight : new int[] {50, 53, 53, 80, 89}) {
            x.night(5, 0, 149 - weight, 2, -1);
        }
        x.night(50, 0, 50, 2, -1);
        c.row("the last of them", new int[] {x.who(4, 0, 1), x.who(4, 1, 1), x.who(5, 0, 1), x.who(5, 1, 1)}, 89, 1, 0, 1);
        c.row("without the first", new int[] {x.all(1, 5, 0), x.all(1, 5, 1)}, 0, 1000);
        c.row("the weak one is gone", new int[] {x.all(0, 5, 0), x.all(0, 5, 1)}, -1, -1);
        c.row("ahead of the last night", new int[] {x.all(0, 4, 0), x.all(0, 4, 1)}, 1000, 0);
    }

    private static void atTheLimit() {
        c.edge("Terms 4", "whenever one's is above 1000000000 behind a NIGHT", "not at it, nor below");
        WoodenTurk x = strongAndWeak();
        for (int weight : new int[] {50, 50, 50, 50, 80}) {
            x.night(5, 0, 149 - weight, 2, -1);
        }
        // lost: 2 for the strong one, so that his is 1000000000, 99 for the weak one
        x.night(5, 0, 51, 0, -1);
        x.night(50, 0, 50, 2, -1);
        c.row("the last ones", new int[] {x.who(4, 0, 1), x.who(5, 0, 1), x.who(5, 1, 1), x.who(6, 1, 1)}, 80, 2, 99, 1);
        c.row("the weak one is there", new int[] {x.all(0, 6, 0), x.all(0, 6, 1)}, 0, 1000);
        WoodenTurk below = strongAndWeak();
        // 51 * 56 * 61 * 70 * 82 is 999999840
        for (int weight : new int[] {51, 56, 61, 70, 82}) {
            below.night(5, 0, 149 - weight, 2, -1);
        }
        below.night(50, 0, 50, 2, -1);
        c.row("the weak one is there", new int[] {below.all(0, 5, 0), below.all(0, 5, 1)}, 0, 1000);
    }

    private static void dividedByThousand() {
        c.edge("Terms 4", "all are divided by 1000; ODDS by these.", "towards 0, by 1000 and no other number");
        WoodenTurk x = new WoodenTurk();
        x.master(1, 34, 0, 99);
        x.master(1, 79, 0, 99);
        x.master(1, 36, 0, 99);
        int[] opponents = {65, 17, 54, 10, 3, 63, 73};
        int[] results = {2, 0, 2, 0, 1, 0, 0};
        for (int i = 0; i < opponents.length; i++) {
            x.night(0, 0, opponents[i], results[i], -1);
        }
        // 120350250, 86152 and 113875692 in the end
        c.row("odds", new int[] {x.all(0, 6, 0), x.all(0, 6, 1), x.all(0, 6, 2)}, 513, 0, 486);
    }

    private static void allAreDivided() {
        c.edge("Terms 4", "whenever one's is above 1000000000 behind a NIGHT, all are divided by 1000", "whoever it is");
        WoodenTurk x = new WoodenTurk();
        x.master(1, 0, 0, 99);
        x.master(1, 99, 0, 10);
        x.master(1, 0, 0, 99);
        for (int weight : new int[] {50, 53, 53, 80, 89}) {
            x.night(5, 0, 149 - weight, 2, -1);
        }
        x.night(50, 0, 50, 2, -1);
        c.row("those ahead of him and behind him", new int[] {x.all(0, 5, 0), x.all(0, 5, 1), x.all(0, 5, 2)}, -1, -1, -1);
        c.row("but not with a night less", new int[] {x.all(1, 5, 0), x.all(1, 5, 1), x.all(1, 5, 2)}, 500, 0, 500);
    }

    private static void longRun() {
        c.edge("Terms 4", "each one's WEIGHTS multiplied, NIGHT by NIGHT", "sixty nights of the greatest weights");
        WoodenTurk x = new WoodenTurk();
        for (int i = 0; i < 12; i++) {
            x.master(1, 99, 0, 99);
            x.habit(i, 0, 9);
        }
        for (int i = 0; i < 60; i++) {
            x.night(0, 0, 0, 2, 0);
        }
        for (int i = 0; i < 12; i++) {
            c.row("odds of " + i, new int[] {x.who(59, i, 1), x.all(0, 59, i)}, 891, 83);
        }
        x.habit(7, 0, 8);
        c.row("8 to the 60 against 9 to the 60", new int[] {x.all(0, 59, 7), x.all(0, 59, 0)}, 0, 90);
    }

    private static void allRefused() {
        c.edge("Promise 28", "NONE if one can't be, or for nobody it can be.");
        WoodenTurk x = new WoodenTurk();
        c.due("nobody, no night", x.all(0, 0, 0), -1);
        x.master(1, 50, 0, 99);
        c.due("no night", x.all(0, 0, 0), -1);
        x.night(0, 0, 50, 2, -1);
        x.night(0, 0, 50, 2, -1);
        c.row("all that can be", new int[] {x.all(0, 0, 0), x.all(0, 1, 0), x.all(1, 1, 0)}, 1000, 1000, 1000);
        c.due("a behind b", x.all(1, 0, 0), -1);
        for (int number : new int[] {Edges.LEAST, -1, 2, 60, Edges.MOST}) {
            c.row("from, to " + number, new int[] {x.all(number, 1, 0), x.all(0, number, 0), x.all(number, number, 0)},
                -1, -1, -1);
        }
        for (int master : new int[] {Edges.LEAST, -1, 1, 12, Edges.MOST}) {
            c.due("master " + master, x.all(0, 1, master), -1);
        }
    }

    private static void forNobody() {
        c.edge("Promise 28", "or for nobody it can be.", "though each night can be somebody's");
        WoodenTurk x = new WoodenTurk();
        x.master(1, 50, 0, 10);
        x.master(1, 50, 20, 30);
        x.night(5, 0, 50, 2, -1);
        x.night(25, 0, 50, 2, -1);
        c.row("each night", new int[] {x.all(0, 0, 0), x.all(1, 1, 1), x.all(0, 0, 1), x.all(1, 1, 0)}, 1000, 1000, 0, 0);
        c.row("both", new int[] {x.all(0, 1, 0), x.all(0, 1, 1)}, -1, -1);
    }
}
