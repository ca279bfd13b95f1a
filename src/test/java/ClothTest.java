/** Promises 1 and 4 to 10: a new object, and the cloth. */
final class ClothTest {
    private static final int[] WORTHS = {
        1, 6, 12, 120, 240, 2400, 4800, 24000, 120000, 240000, 1200000, 2400000, 12000000};

    public static void main(String[] args) {
        newObject();
        put();
        plain();
        lay();
        draw();
        steps();
        Check.close("ClothTest");
    }

    private static ChequeredCloth with(int... counters) {
        ChequeredCloth x = new ChequeredCloth();
        for (int place = 0; place < counters.length; place++) {
            Check.due("put", x.put(place, counters[place]), true);
        }
        return x;
    }

    private static void lie(String when, ChequeredCloth x, int... counters) {
        for (int place = 0; place < 13; place++) {
            Check.due(when + ": lies(" + place + ")", x.lies(place), place < counters.length ? counters[place] : 0);
        }
    }

    private static void newObject() {
        ChequeredCloth x = new ChequeredCloth();
        Check.due("NONE", ChequeredCloth.NONE, -1);
        lie("new", x);
        Check.due("worth() of a new one", x.worth(), 0);
        for (int k = 0; k < 10; k++) {
            Check.due("sum of a new stock", x.sum(false, k), -1);
            Check.due("sum of a new foil", x.sum(true, k), -1);
        }
        int[] all = {0, 0, 0, 0};
        for (int what = 0; what < 4; what++) {
            Check.due("all(" + what + ") of a new one", x.all(what), all[what]);
        }
        Check.due("fault(0) of a new one", x.fault(0), 0);
        Check.due("fault(1) of a new one", x.fault(1), -1);
        Check.due("moved() of a new one", x.moved(), -1);
        Check.due("force(0) of a new one", x.force(0), -1);
        Check.due("roll(0, 39, 6) of a new one", x.roll(0, 39, 6), 1);
        Check.due("end(1) of a new one", x.end(1), false);
        ChequeredCloth other = new ChequeredCloth();
        x.put(3, 7);
        Check.due("another object's cloth", other.lies(3), 0);
    }

    private static void put() {
        ChequeredCloth x = new ChequeredCloth();
        for (int place = 0; place < 13; place++) {
            Check.due("put(" + place + ", 99)", x.put(place, 99), true);
            Check.due("lies(" + place + ")", x.lies(place), 99);
            Check.due("put(" + place + ", 100)", x.put(place, 100), false);
            Check.due("put(" + place + ", -1)", x.put(place, -1), false);
            Check.due("lies(" + place + ")", x.lies(place), 99);
        }
        long all = 0;
        for (int worth : WORTHS) {
            all += 99L * worth;
        }
        Check.due("worth() of all there can be", x.worth(), all);
        Check.due("put(0, 0)", x.put(0, 0), true);
        Check.due("worth()", x.worth(), all - 99);
        int[] none = {-1, 13, Integer.MIN_VALUE, Integer.MAX_VALUE};
        for (int place : none) {
            Check.due("put(" + place + ", 1)", x.put(place, 1), false);
            Check.due("lies(" + place + ")", x.lies(place), -1);
        }
    }

    private static void plain() {
        ChequeredCloth x = new ChequeredCloth();
        int[] ones = new int[13];
        int sum = 0;
        for (int place = 0; place < 13; place++) {
            sum += WORTHS[place];
        }
        for (int place = 0; place < 13; place++) {
            Check.due("plain of one each at " + place, x.plain(sum, place), 1);
            Check.due("plain(worth of " + place + ")", x.plain(WORTHS[place], place), 1);
            Check.due("plain(0, " + place + ")", x.plain(0, place), 0);
            if (place < 12) {
                Check.due("plain one short of " + (place + 1), x.plain(WORTHS[place + 1] - 1, place),
                        WORTHS[place + 1] / WORTHS[place] - 1);
            }
        }
        Check.due("plain(1000000000, 12)", x.plain(1000000000, 12), 83);
        Check.due("plain(1000000000, 11)", x.plain(1000000000, 11), 1);
        Check.due("plain(1000000001, 12)", x.plain(1000000001, 12), -1);
        Check.due("plain(-1, 0)", x.plain(-1, 0), -1);
        Check.due("plain(1, -1)", x.plain(1, -1), -1);
        Check.due("plain(1, 13)", x.plain(1, 13), -1);
        lie("plain() lays nothing", x, ones);
    }

    private static void lay() {
        ChequeredCloth x = with(5, 1, 9, 1, 9, 1, 4, 4, 1, 4, 1, 4);
        Check.due("lay(1) through all places", x.lay(1), 12);
        lie("lay(1) through all places", x, 0, 0, 0, 0, 0, 0, 0, 0, 0, 0, 0, 0, 1);

        x = with(12, 4);
        Check.due("lay(0) changes what lies", x.lay(0), 2 + 3);
        lie("lay(0)", x, 0, 0, 3);

        x = with(95);
        Check.due("lay(4) up to 99", x.lay(4), 16 + 8);
        lie("lay(4) up to 99", x, 3, 0, 8);

        x = with(95);
        Check.due("lay(5) above 99", x.lay(5), -1);
        lie("lay(5) above 99", x, 95);

        x = with(6, 99);
        Check.due("lay(0) to a 100th at place 1", x.lay(0), -1);
        lie("lay(0) to a 100th", x, 6, 99);
        x = with(5, 99);
        Check.due("lay(0) with 99 at place 1", x.lay(0), 49 + 4 + 2);

        x = with(0, 0, 0, 0, 0, 0, 0, 0, 0, 0, 0, 4, 99);
        Check.due("lay(0) with 99 at the last", x.lay(0), 0);
        Check.due("lay(2400000) to a 100th at the last", x.lay(2400000), -1);
        lie("lay to a 100th at the last", x, 0, 0, 0, 0, 0, 0, 0, 0, 0, 0, 0, 4, 99);
        Check.due("lay(12000000) to a 100th at the last", x.lay(12000000), -1);

        x = new ChequeredCloth();
        Check.due("lay(1000000000)", x.lay(1000000000), 0);
        Check.due("worth()", x.worth(), 1000000000);
        Check.due("lay(1000000000) again", x.lay(1000000000), -1);
        Check.due("lay(1000000001)", x.lay(1000000001), -1);
        Check.due("lay(-1)", x.lay(-1), -1);
        Check.due("worth() after the refused", x.worth(), 1000000000);
    }

    private static void draw() {
        ChequeredCloth x = with(0, 0, 0, 0, 0, 0, 0, 0, 0, 0, 0, 0, 1);
        Check.due("draw(1) from the last place", x.draw(1), 12);
        lie("draw(1) from the last place", x, 5, 1, 9, 1, 9, 1, 4, 4, 1, 4, 1, 4);

        x = with(3, 2);
        Check.due("draw(4) breaks the next", x.draw(4), 1);
        lie("draw(4)", x, 5, 1);

        x = with(0, 0, 1, 5);
        Check.due("draw(7): the nearest above", x.draw(7), 2);
        lie("draw(7)", x, 5, 0, 0, 5);

        x = with(99);
        Check.due("draw(6): nothing is changed upward", x.draw(6), -1);
        lie("draw(6)", x, 99);
        Check.due("draw(0)", x.draw(0), 0);

        x = with(6, 0, 1);
        Check.due("draw(137): refused late, all stays", x.draw(1 + 4 + 12 + 120), -1);
        lie("draw refused late", x, 6, 0, 1);
        Check.due("draw(17)", x.draw(17), 0);
        lie("draw(17)", x, 1);

        Check.due("draw(-1)", x.draw(-1), -1);
        Check.due("draw(1000000001)", x.draw(1000000001), -1);
        Check.due("draw(2)", x.draw(2), -1);
        Check.due("draw(1)", x.draw(1), 0);
        lie("drawn empty", x);
    }

    private static void steps() {
        ChequeredCloth x = with(12);
        Check.due("steps(12): 2 changes, 1 change", x.steps(12), 3);
        Check.due("steps(18)", x.steps(18), 4);
        Check.due("steps(0)", x.steps(0), 4);
        lie("steps() moves nothing", x, 12);

        x = with(0, 0, 0, 0, 0, 0, 1);
        Check.due("steps(4560): two broken, one away", x.steps(4800 - 240), 3);
        Check.due("steps(4800 - 120)", x.steps(4800 - 120), 4);

        x = with(0, 2);
        Check.due("steps(12): one change", x.steps(12), 1);
        Check.due("steps(6): one away", x.steps(6), 1);
        Check.due("steps(11): break, take one", x.steps(11), 2);
        Check.due("steps(0): two away or one change, one away", x.steps(0), 2);

        x = with(0, 0, 0, 0, 0, 0, 0, 0, 0, 0, 0, 0, 99);
        Check.due("steps(0): 99 away", x.steps(0), 99);
        Check.due("steps(1000000000): 16 away, 22 put", x.steps(1000000000), 38);
        Check.due("steps(-1)", x.steps(-1), -1);
        Check.due("steps(1000000001)", x.steps(1000000001), -1);

        Dice dice = new Dice(10);
        for (int i = 0; i < 60; i++) {
            x = new ChequeredCloth();
            Model m = new Model();
            int most = dice.in(2) ? 99 : dice.from(1, 12);
            for (int place = 0; place < 13; place++) {
                int n = dice.in(3) ? 0 : dice.of(most + 1);
                x.put(place, n);
                m.put(place, n);
            }
            int sum = dice.in(2) ? dice.of(1000000001) : dice.of(10000);
            Check.due("steps(" + sum + ") of " + java.util.Arrays.toString(m.cloth), x.steps(sum), m.steps(sum));
        }
    }
}
