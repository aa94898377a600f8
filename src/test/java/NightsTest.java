/** Promises 23 to 28: masters, where they were, habits, nights, and who was in it. */
public final class NightsTest {
    private static final Check c = new Check();

    public static void main(String[] args) {
        masters();
        stays();
        staysLimit();
        habits();
        nights();
        games();
        odds();
        runs();
        runsAreShrunk();
        runsAtTheLimit();
        c.end();
    }

    private static void masters() {
        c.test("23 masters as they come, twelve at most");
        WoodenTurk x = new WoodenTurk();
        c.row("wrong", new int[] {x.master(0, 1, 1, 1), x.master(5, 1, 1, 1), x.master(1, -1, 1, 1),
            x.master(1, 100, 1, 1), x.master(1, 1, -1, 1), x.master(1, 1, 1, 100), x.master(1, 1, 5, 4)},
            -1, -1, -1, -1, -1, -1, -1);
        c.due("the first", x.master(1, 0, 0, 99), 0);
        c.due("one year", x.master(4, 99, 7, 7), 1);
        for (int i = 2; i < 12; i++) {
            c.due("master", x.master(2, 50, 0, 99), i);
        }
        c.due("the thirteenth", x.master(2, 50, 0, 99), -1);
    }

    private static void stays() {
        c.test("24 a master was in a town in a year");
        WoodenTurk x = new WoodenTurk();
        c.due("no master", x.was(0, 0, 0), false);
        x.master(1, 50, 10, 20);
        x.night(15, 3, 50, 2, -1);
        c.due("weight", x.who(0, 0, 1), 50);
        c.due("elsewhere in another year", x.was(0, 4, 14), true);
        c.due("weight", x.who(0, 0, 1), 50);
        c.due("elsewhere", x.was(0, 4, 15), true);
        c.due("told again", x.was(0, 4, 15), false);
        c.due("weight", x.who(0, 0, 1), 0);
        c.due("here too", x.was(0, 3, 15), true);
        c.due("weight", x.who(0, 0, 1), 50);
        c.due("outside his years", x.was(0, 9, 99), true);
        c.due("town 10", x.was(0, 10, 15), false);
        c.due("town -1", x.was(0, -1, 15), false);
        c.due("year 100", x.was(0, 0, 100), false);
        c.due("year -1", x.was(0, 0, -1), false);
        c.due("master 1", x.was(1, 0, 0), false);
        c.due("master -1", x.was(-1, 0, 0), false);
    }

    private static void staysLimit() {
        c.test("24 200 stays in all");
        WoodenTurk x = new WoodenTurk();
        x.master(1, 50, 0, 99);
        x.master(1, 50, 0, 99);
        for (int i = 0; i < 200; i++) {
            c.due("was " + i, x.was(i % 2, i / 2 % 10, i / 20), true);
        }
        c.due("the 201st", x.was(0, 0, 50), false);
        x.night(50, 1, 50, 2, -1);
        c.due("nothing was told", x.who(0, 0, 1), 50);
    }

    private static void habits() {
        c.test("25 habits weigh with the answer");
        WoodenTurk x = new WoodenTurk();
        c.due("no master", x.habit(0, 0, 1), false);
        x.master(1, 50, 0, 99);
        for (int answer = -1; answer < 3; answer++) {
            x.night(5, 0, 60, 2, answer);
        }
        c.due("habit(0, 0, 9)", x.habit(0, 0, 9), true);
        c.due("habit(0, 1, 0)", x.habit(0, 1, 0), true);
        c.due("weight 10", x.habit(0, 0, 10), false);
        c.due("weight -1", x.habit(0, 0, -1), false);
        c.due("answer 3", x.habit(0, 3, 1), false);
        c.due("answer -1", x.habit(0, -1, 1), false);
        c.due("master 1", x.habit(1, 0, 1), false);
        c.row("weights", new int[] {x.who(0, 0, 1), x.who(1, 0, 1), x.who(2, 0, 1), x.who(3, 0, 1)}, 40, 360, 0, 40);
        c.due("nobody it can be", x.who(2, 0, 0), -1);
        for (int i = 1; i < 12; i++) {
            x.master(1, 50, 0, 99);
        }
        x.habit(11, 2, 7);
        c.row("1 at first, of each", new int[] {x.who(1, 11, 1), x.who(2, 11, 1), x.who(3, 11, 1), x.who(3, 10, 1)},
            40, 40, 280, 40);
        WoodenTurk y = new WoodenTurk();
        y.master(1, 50, 0, 99);
        y.night(5, 0, 60, 2, 0);
        c.due("of the first for the first", y.who(0, 0, 1), 40);
        y.night(5, 0, 99, 2, 0);
        c.row("1 alone is all", new int[] {y.who(1, 0, 1), y.who(1, 0, 0)}, 1, 1000);
    }

    private static void nights() {
        c.test("26 nights as they come, 60 at most");
        WoodenTurk x = new WoodenTurk();
        c.row("wrong", new int[] {x.night(-1, 0, 0, 0, -1), x.night(100, 0, 0, 0, -1), x.night(0, -1, 0, 0, -1),
            x.night(0, 10, 0, 0, -1), x.night(0, 0, -1, 0, -1), x.night(0, 0, 100, 0, -1), x.night(0, 0, 0, 3, -1),
            x.night(0, 0, 0, -1, -1), x.night(0, 0, 0, 0, 3), x.night(0, 0, 0, 0, -2)},
            -1, -1, -1, -1, -1, -1, -1, -1, -1, -1);
        for (int i = 0; i < 60; i++) {
            c.due("night", x.night(99, 9, 99, 2, i % 4 - 1), i);
        }
        c.due("the 61st", x.night(0, 0, 0, 0, -1), -1);
    }

    private static void games() {
        c.test("27 the weight of a game by strengths and result");
        WoodenTurk x = new WoodenTurk();
        x.master(1, 60, 10, 20);
        x.night(10, 0, 50, 2, -1);
        x.night(20, 0, 50, 0, -1);
        x.night(15, 0, 50, 1, -1);
        x.night(15, 0, 75, 1, -1);
        x.night(15, 0, 0, 2, -1);
        x.night(15, 0, 0, 0, -1);
        x.night(15, 0, 99, 1, -1);
        x.night(9, 0, 50, 2, -1);
        x.night(21, 0, 50, 2, -1);
        x.night(15, 0, 11, 2, -1);
        x.night(15, 0, 11, 0, -1);
        int[] weights = new int[11];
        for (int i = 0; i < 11; i++) {
            weights[i] = x.who(i, 0, 1);
        }
        c.row("weights", weights, 60, 40, 45, 43, 99, 1, 31, 0, 0, 99, 1);
        x.master(1, 99, 0, 99);
        x.night(15, 0, 0, 1, -1);
        c.due("drawn, far apart", x.who(11, 1, 1), 1);
    }

    private static void odds() {
        c.test("27 odds of 1000 by all weights");
        WoodenTurk x = new WoodenTurk();
        x.master(1, 60, 0, 50);
        x.master(2, 50, 0, 60);
        x.master(3, 20, 0, 99);
        x.night(10, 0, 50, 2, -1);
        x.night(60, 0, 50, 2, -1);
        x.night(61, 0, 50, 2, -1);
        c.row("all three", new int[] {x.who(0, 0, 0), x.who(0, 1, 0), x.who(0, 2, 0)}, 461, 384, 153);
        c.row("two", new int[] {x.who(1, 0, 0), x.who(1, 1, 0), x.who(1, 2, 0)}, 0, 714, 285);
        c.row("one", new int[] {x.who(2, 0, 0), x.who(2, 1, 0), x.who(2, 2, 0)}, 0, 0, 1000);
        c.row("wrong", new int[] {x.who(3, 0, 0), x.who(-1, 0, 0), x.who(0, 3, 0), x.who(0, -1, 0), x.who(0, 0, 2),
            x.who(0, 0, -1)}, -1, -1, -1, -1, -1, -1);
        c.row("wrong", new int[] {x.who(3, 0, 1), x.who(-1, 0, 1), x.who(0, 3, 1), x.who(0, -1, 1)}, -1, -1, -1, -1);
        x.habit(2, 0, 0);
        x.night(99, 0, 0, 0, 0);
        c.row("all are 0", new int[] {x.who(3, 2, 0), x.who(3, 2, 1)}, -1, 0);
    }

    private static void runs() {
        c.test("28 odds of one master for a run of nights");
        WoodenTurk x = new WoodenTurk();
        x.master(1, 60, 0, 50);
        x.master(1, 40, 0, 99);
        x.night(10, 0, 50, 2, -1);
        x.night(10, 0, 50, 2, -1);
        x.night(60, 0, 50, 0, -1);
        c.row("one night", new int[] {x.all(0, 0, 0), x.all(0, 0, 1)}, 600, 400);
        c.row("two", new int[] {x.all(0, 1, 0), x.all(0, 1, 1)}, 692, 307);
        c.row("three", new int[] {x.all(0, 2, 0), x.all(0, 2, 1)}, 0, 1000);
        c.row("wrong", new int[] {x.all(1, 0, 0), x.all(0, 3, 0), x.all(-1, 0, 0), x.all(0, 0, 2), x.all(0, 0, -1)},
            -1, -1, -1, -1, -1);
    }

    private static void runsAreShrunk() {
        c.test("28 above 1000000000 all are divided by 1000");
        WoodenTurk x = new WoodenTurk();
        x.master(1, 99, 0, 10);
        x.master(1, 0, 0, 99);
        for (int i = 0; i < 5; i++) {
            x.night(5, 0, 49, 2, -1);
        }
        x.night(50, 0, 0, 2, -1);
        c.due("four nights: 1 against 99 to the 4", x.all(0, 3, 1), 0);
        c.due("behind five the 1 is gone", x.all(0, 5, 1), -1);
        c.due("four of them and the last", x.all(2, 5, 1), 1000);
        for (int i = 6; i < 60; i++) {
            x.night(5, 0, 49, 2, -1);
        }
        c.due("many nights", x.all(6, 59, 0), 1000);
    }

    private static void runsAtTheLimit() {
        c.test("28 1000000000 is not above it");
        WoodenTurk x = new WoodenTurk();
        x.master(1, 50, 0, 10);
        x.master(1, 0, 0, 99);
        int[] opponents = {50, 50, 50, 50, 20, 98};
        for (int opponent : opponents) {
            x.night(5, 0, opponent, 2, -1);
        }
        x.night(50, 0, 0, 2, -1);
        c.row("weights", new int[] {x.who(0, 0, 1), x.who(4, 0, 1), x.who(5, 0, 1), x.who(0, 1, 1), x.who(4, 1, 1)},
            50, 80, 2, 1, 30);
        // 50 * 50 * 50 * 50 * 80 * 2 is 1000000000; the other one has 30 by then, which would be 0 if divided
        c.due("he is still there", x.all(0, 6, 1), 1000);
        x.habit(0, 0, 9);
        x.night(5, 0, 98, 2, 0);
        x.night(50, 0, 0, 2, -1);
        c.due("from the second on", x.all(1, 8, 1), 1000);
    }
}
