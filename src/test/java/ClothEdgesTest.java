/** The boundary cases of the cloth: Terms I, promises 1 and 4 to 10; each sentence by itself, on both sides. */
final class ClothEdgesTest {
    private static final int[] WORTHS = {
        1, 6, 12, 120, 240, 2400, 4800, 24000, 120000, 240000, 1200000, 2400000, 12000000};
    private static final int[] RATIOS = {6, 2, 10, 2, 10, 2, 5, 5, 2, 5, 2, 5};
    private static final int[] NO_PLACES = {-1, 13, Integer.MIN_VALUE, Integer.MAX_VALUE};
    private static final int[] NO_SUMS = {-1, 1000000001, Integer.MIN_VALUE, Integer.MAX_VALUE};

    public static void main(String[] args) {
        all();
        Check.close("ClothEdgesTest");
    }

    static void all() {
        terms();
        layings();
        drawings();
        stepsTold();
        promises();
    }

    private static ChequeredCloth with(int... counters) {
        ChequeredCloth x = new ChequeredCloth();
        for (int place = 0; place < counters.length; place++) {
            x.put(place, counters[place]);
        }
        return x;
    }

    /** So many at one place, so many at the next. */
    private static ChequeredCloth at(int place, int here, int next) {
        ChequeredCloth x = new ChequeredCloth();
        x.put(place, here);
        x.put(place + 1, next);
        return x;
    }

    private static void lie(String when, ChequeredCloth x, int... counters) {
        for (int place = 0; place < 13; place++) {
            Check.due(when + ": lies(" + place + ")", x.lies(place), place < counters.length ? counters[place] : 0);
        }
    }

    private static void lieAt(String when, ChequeredCloth x, int place, int here, int next) {
        int[] counters = new int[14];
        counters[place] = here;
        counters[place + 1] = next;
        lie(when, x, counters);
    }

    private static void terms() {
        Check.says("I: thirteen PLACES 0 .. 12");
        for (int place = 0; place < 13; place++) {
            ChequeredCloth x = new ChequeredCloth();
            Check.due("put(" + place + ", 1)", x.put(place, 1), true);
            lieAt("put", x, place, 1, 0);
            Check.due("plain(0, " + place + ")", x.plain(0, place), 0);
        }
        ChequeredCloth x = new ChequeredCloth();
        for (int place : NO_PLACES) {
            Check.due("put(" + place + ", 1)", x.put(place, 1), false);
            Check.due("lies(" + place + ")", x.lies(place), -1);
            Check.due("plain(0, " + place + ")", x.plain(0, place), -1);
            lie("no such place", x);
        }
        Check.says("I: worth 1, 6, 12, 120, 240, 2400, 4800, 24000, 120000, 240000, 1200000, 2400000, 12000000 pence");
        for (int place = 0; place < 13; place++) {
            Check.due("worth() of one at " + place, at(place, 1, 0).worth(), WORTHS[place]);
            Check.due("worth() of 99 at " + place, at(place, 99, 0).worth(), 99L * WORTHS[place]);
        }
        Check.says("I: with 0 .. 99 COUNTERS each");
        for (int place = 0; place < 13; place++) {
            x = at(place, 7, 0);
            for (int n : new int[] {-1, 100, Integer.MIN_VALUE, Integer.MAX_VALUE}) {
                Check.due("put(" + place + ", " + n + ")", x.put(place, n), false);
                lieAt("not put", x, place, 7, 0);
            }
            Check.due("put(" + place + ", 99)", x.put(place, 99), true);
            lieAt("put", x, place, 99, 0);
            Check.due("put(" + place + ", 0)", x.put(place, 0), true);
            lie("put", x);
        }
        Check.says("I: RATIO of a PLACE: 6, 2, 10, 2, 10, 2, 5, 5, 2, 5, 2, 5");
        for (int place = 0; place < 12; place++) {
            x = at(place, RATIOS[place] - 1, 0);
            Check.due("lay(0) with one less than the ratio of " + place, x.lay(0), 0);
            lieAt("unchanged", x, place, RATIOS[place] - 1, 0);
            x = at(place, RATIOS[place], 0);
            Check.due("lay(0) with the ratio of " + place, x.lay(0), 1);
            lieAt("changed", x, place, 0, 1);
        }
        Check.says("I: PLAIN: as many as can be in the highest PLACE, then in the next lower one");
        for (int place = 1; place < 13; place++) {
            Check.due("plain of one short", x.plain(WORTHS[place] - 1, place), 0);
            Check.due("plain of one short", x.plain(WORTHS[place] - 1, place - 1), RATIOS[place - 1] - 1);
            Check.due("plain of just one", x.plain(WORTHS[place], place), 1);
            Check.due("plain of just one", x.plain(WORTHS[place], place - 1), 0);
        }
        Check.says("I: a sum up to 1000000000 is told of");
        int[] greatest = {4, 0, 3, 1, 6, 0, 3, 1, 1, 1, 1, 1, 83};
        for (int place = 0; place < 13; place++) {
            Check.due("plain(1000000000, " + place + ")", x.plain(1000000000, place), greatest[place]);
            Check.due("plain(1000000001, " + place + ")", x.plain(1000000001, place), -1);
        }
        Check.says("I: one whose PLAIN has more than 99 somewhere can't be laid");
        // no sum up to 1000000000 has: 83 at the last PLACE are the most
        x = new ChequeredCloth();
        Check.due("lay(1000000000)", x.lay(1000000000), 0);
        lie("laid", x, greatest);
    }

    private static void layings() {
        Check.says("I: LAY: its PLAIN's COUNTERS come to those there");
        ChequeredCloth x = with(1, 0, 2);
        Check.due("lay(1 + 6 + 12)", x.lay(19), 0);
        lie("laid", x, 2, 1, 3);
        Check.says("I: LAY: from PLACE 0 upward each PLACE that has at least its RATIO is CHANGED");
        x = with(5, 1, 9, 1, 9, 1, 4, 4, 1, 4, 1, 4);
        Check.due("lay(1) through all places", x.lay(1), 12);
        lie("through all", x, 0, 0, 0, 0, 0, 0, 0, 0, 0, 0, 0, 0, 1);
        x = with(5, 1, 8, 1);
        Check.due("lay(1) up to where one lacks", x.lay(1), 2);
        lie("one lacks", x, 0, 0, 9, 1);
        x = with(4, 1, 9);
        Check.due("lay(1) with one too few at place 0", x.lay(1), 0);
        lie("one too few", x, 5, 1, 9);
        x = with(0, 0, 10, 0, 0, 2);
        Check.due("lay(1): also where nothing came", x.lay(1), 2);
        lie("also where nothing came", x, 1, 0, 0, 1, 0, 0, 1);
        Check.says("I: LAY: that many go, one comes to the next, as often as it can be");
        x = with(99);
        Check.due("lay(0) with 99 at place 0", x.lay(0), 16 + 8);
        lie("as often as can be", x, 3, 0, 8);
        x = with(0, 0, 99);
        Check.due("lay(0) with 99 at place 2", x.lay(0), 9 + 4);
        lie("as often as can be", x, 0, 0, 9, 1, 4);
        x = with(0, 0, 0, 0, 0, 0, 0, 0, 0, 0, 0, 99);
        Check.due("lay(0) with 99 at place 11", x.lay(0), 19);
        lie("as often as can be", x, 0, 0, 0, 0, 0, 0, 0, 0, 0, 0, 0, 4, 19);
        Check.says("I: LAY: the last PLACE has none");
        x = at(12, 98, 0);
        Check.due("lay(12000000)", x.lay(12000000), 0);
        lieAt("99 at the last", x, 12, 99, 0);
        Check.due("lay(0)", x.lay(0), 0);
        lieAt("99 at the last", x, 12, 99, 0);
        Check.says("I: LAY: if some PLACE would have more than 99, by what comes, it is refused");
        for (int place = 0; place < 13; place++) {
            x = at(place, 99, 0);
            Check.due("lay of a 100th at " + place, x.lay(WORTHS[place]), -1);
            lieAt("refused", x, place, 99, 0);
            x = at(place, 98, 0);
            Check.due("lay of a 99th at " + place, x.lay(WORTHS[place]) >= 0, true);
            Check.due("worth()", x.worth(), 99L * WORTHS[place]);
        }
        Check.says("I: LAY: if some PLACE would have more than 99 by a change, at any time, it is refused");
        for (int place = 0; place < 12; place++) {
            x = at(place, RATIOS[place], 99);
            Check.due("lay(0): a 100th at " + (place + 1), x.lay(0), -1);
            lieAt("refused", x, place, RATIOS[place], 99);
            x = at(place, 2 * RATIOS[place], 98);
            Check.due("lay(0): a 99th and a 100th at " + (place + 1), x.lay(0), -1);
            lieAt("refused", x, place, 2 * RATIOS[place], 98);
            x = at(place, RATIOS[place], 98);
            Check.due("lay(0): a 99th at " + (place + 1), x.lay(0) > 0, true);
            Check.due("worth()", x.worth(), 99L * WORTHS[place + 1]);
            x = at(place, RATIOS[place] - 1, 99);
            Check.due("lay(0): nothing comes to 99 at " + (place + 1), x.lay(0) >= 0, true);
        }
        Check.says("8: NONE when it is refused (all stays)");
        x = with(6, 2, 10, 0, 0, 0, 0, 0, 0, 0, 0, 5, 99);
        Check.due("lay(1): refused at the last place alone", x.lay(1), -1);
        lie("all stays", x, 6, 2, 10, 0, 0, 0, 0, 0, 0, 0, 0, 5, 99);
        x = at(12, 99, 0);
        Check.due("lay(12000001): refused for the last place", x.lay(12000001), -1);
        lieAt("all stays", x, 12, 99, 0);
    }

    private static void drawings() {
        Check.says("I: DRAW: from PLACE 0 upward PLAIN's COUNTERS are taken");
        int[] greatest = {4, 0, 3, 1, 6, 0, 3, 1, 1, 1, 1, 1, 83};
        ChequeredCloth x = with(greatest);
        Check.due("draw(1000000000) of just that", x.draw(1000000000), 0);
        lie("all taken", x);
        for (int place = 0; place < 13; place++) {
            x = at(place, 2, 0);
            Check.due("draw of one of two at " + place, x.draw(WORTHS[place]), 0);
            lieAt("one taken", x, place, 1, 0);
            Check.due("draw of the last at " + place, x.draw(WORTHS[place]), 0);
            lie("both taken", x);
        }
        Check.says("I: DRAW: where there are too few, one of the next PLACE is BROKEN into RATIO of this one");
        for (int place = 0; place < 12; place++) {
            int most = RATIOS[place] - 1;
            x = at(place, most, 1);
            Check.due("draw of as many as there are", x.draw(most * WORTHS[place]), 0);
            lieAt("nothing broken", x, place, 0, 1);
            x = at(place, most - 1, 1);
            Check.due("draw of one more than there are", x.draw(most * WORTHS[place]), 1);
            lieAt("broken", x, place, RATIOS[place] - 1, 0);
        }
        Check.says("I: DRAW: BROKEN as often as must be");
        x = with(0, 1, 1);
        Check.due("draw(7): the six goes, a twelve gives another", x.draw(7), 2);
        lie("broken twice", x, 5, 1);
        x = with(0, 0, 2);
        Check.due("draw(13): one twelve and one broken through", x.draw(13), 2);
        lie("broken through", x, 5, 1);
        Check.says("I: DRAW: where that one has none, one of the next is broken first (the nearest PLACE above that has one)");
        for (int place = 0; place < 12; place++) {
            for (int from = place + 1; from < 13; from++) {
                x = new ChequeredCloth();
                x.put(from, 2);
                x.put(12, from == 12 ? 2 : 5);
                Check.due("draw at " + place + " broken from " + from, x.draw(WORTHS[place]), from - place);
                for (int p = place; p < from; p++) {
                    Check.due("lies(" + p + ")", x.lies(p), RATIOS[p] - 1);
                }
                Check.due("lies(" + from + ")", x.lies(from), 1);
                Check.due("lies(12)", x.lies(12), from == 12 ? 1 : 5);
            }
        }
        Check.says("I: DRAW: it is refused, if none has: nothing is changed upward");
        for (int place = 1; place < 13; place++) {
            x = at(place - 1, 99, 0);
            Check.due("draw of one at " + place, x.draw(WORTHS[place]), -1);
            lieAt("refused", x, place - 1, 99, 0);
        }
        x = with(5, 1, 9, 1, 9, 1, 4, 4, 1, 4, 1, 4);
        Check.due("draw(12000000) with one penny less", x.draw(12000000), -1);
        Check.due("draw(11999999)", x.draw(11999999), 0);
        Check.due("draw(1) of none", x.draw(1), -1);
        lie("none", x);
        Check.says("9: NONE when it is refused (all stays)");
        x = with(0, 0, 1);
        Check.due("draw(13): the twelve was broken for the penny", x.draw(13), -1);
        lie("all stays", x, 0, 0, 1);
        x = with(9, 9, 9);
        Check.due("draw(120 + 19): refused at place 3", x.draw(139), -1);
        lie("all stays", x, 9, 9, 9);
    }

    private static void stepsTold() {
        Check.says("I: STEPS: taking one away or putting one (a step each)");
        for (int n : new int[] {0, 1, 82, 83, 84, 99}) {
            ChequeredCloth x = at(12, n, 0);
            Check.due("steps(0) from " + n, x.steps(0), n);
            Check.due("steps(83 of the last) from " + n, x.steps(83 * 12000000), Math.abs(83 - n));
            lieAt("steps() moves nothing", x, 12, n, 0);
        }
        Check.says("I: STEPS: CHANGING or BREAKING one (a step each)");
        for (int place = 0; place < 12; place++) {
            int ratio = RATIOS[place];
            int next = WORTHS[place + 1];
            Check.due("steps: one change at " + place, at(place, ratio, 0).steps(next), 1);
            Check.due("steps: change, one away", at(place, ratio + 1, 0).steps(next), 2);
            Check.due("steps: one put, change", at(place, ratio - 1, 0).steps(next), 2);
            Check.due("steps: change twice, one away", at(place, 2 * ratio, 0).steps(next), 3);
            Check.due("steps: one broken, one away", at(place, 0, 1).steps(next - WORTHS[place]), 2);
            Check.due("steps: as it lies", at(place, ratio - 1, 0).steps(next - WORTHS[place]), 0);
        }
        Check.says("I: STEPS: the fewest, in whatever order (a PLACE may be short for a while)");
        Check.due("steps(11): broken, broken, one away", with(0, 0, 1).steps(11), 3);
        Check.due("steps(119)", with(0, 0, 0, 1).steps(119), 4);
        Check.due("steps(120): 9 and 1 and 5, one put, three changes", with(5, 1, 9).steps(120), 4);
        Check.due("steps(12) from pence: two changes, one change", with(12).steps(12), 3);
        Check.due("steps(0) from pence: change, one away", with(6).steps(0), 2);
        Check.due("steps(0) from two pence", with(2).steps(0), 2);
        Check.due("steps(3) by putting", with().steps(3), 3);
        Check.due("steps(5) by a six: one put, broken, one away", with().steps(5), 3);
        Check.due("steps(4) by putting, or by a six", with().steps(4), 4);
        Check.due("steps(0) from nine twelves: one put, change, one away", with(0, 0, 9).steps(0), 3);
        Check.due("steps(5) from nine twelves: those 3, and 3 by a six", with(0, 0, 9).steps(5), 6);
        Check.due("steps(811): 7 twelves by one put, broken, three away", with().steps(811), 10);
        Check.says("10: STEPS to a sum (0 .. 1000000000); NONE when it can't be");
        ChequeredCloth x = with(3);
        Check.due("steps(0)", x.steps(0), 3);
        Check.due("steps(1000000000): 105 in its PLAIN, 3 lie", x.steps(1000000000), 102);
        for (int sum : NO_SUMS) {
            Check.due("steps(" + sum + ")", x.steps(sum), -1);
            lie("steps() moves nothing", x, 3);
        }
    }

    private static void promises() {
        Check.says("1: an empty CLOTH, no HALVES, no ACTS");
        ChequeredCloth x = new ChequeredCloth();
        lie("new", x);
        Check.due("worth()", x.worth(), 0);
        for (int k = 0; k < 10; k++) {
            Check.due("sum(false, " + k + ")", x.sum(false, k), -1);
            Check.due("sum(true, " + k + ")", x.sum(true, k), -1);
        }
        for (int what = 0; what < 4; what++) {
            Check.due("all(" + what + ")", x.all(what), 0);
        }
        Check.due("end(1)", x.end(1), false);
        Check.due("force(39)", x.force(39), -1);
        Check.due("owed(39)", x.owed(39), 0);
        Check.says("4: a PLACE has n COUNTERS now: true; false when it can't be");
        Check.due("put(12, 99)", x.put(12, 99), true);
        Check.due("put(12, 100)", x.put(12, 100), false);
        Check.due("put(13, 99)", x.put(13, 99), false);
        lieAt("the last that could be", x, 12, 99, 0);
        Check.says("5: COUNTERS of a PLACE; NONE when there is none such");
        Check.due("lies(12)", x.lies(12), 99);
        Check.due("lies(13)", x.lies(13), -1);
        Check.due("lies(0)", x.lies(0), 0);
        Check.due("lies(-1)", x.lies(-1), -1);
        Check.says("6: what lies, in pence");
        long all = 0;
        for (int place = 0; place < 13; place++) {
            x.put(place, 99);
            all += 99L * WORTHS[place];
        }
        Check.due("worth() of all that can lie", x.worth(), all);
        Check.says("7: PLAIN of a sum (0 .. 1000000000); NONE when something can't be");
        Check.due("plain(0, 0)", x.plain(0, 0), 0);
        Check.due("plain(1, 0)", x.plain(1, 0), 1);
        Check.due("plain(1000000000, 0)", x.plain(1000000000, 0), 4);
        for (int sum : NO_SUMS) {
            Check.due("plain(" + sum + ", 0)", x.plain(sum, 0), -1);
            Check.due("plain(" + sum + ", 12)", x.plain(sum, 12), -1);
        }
        Check.says("8: to LAY a sum (0 .. 1000000000); NONE when it can't be laid");
        x = new ChequeredCloth();
        Check.due("lay(0)", x.lay(0), 0);
        for (int sum : NO_SUMS) {
            Check.due("lay(" + sum + ")", x.lay(sum), -1);
            lie("not laid", x);
        }
        Check.due("lay(1000000000)", x.lay(1000000000), 0);
        Check.due("worth()", x.worth(), 1000000000);
        Check.says("9: to DRAW a sum (0 .. 1000000000); NONE when it can't be");
        x.put(12, 99);
        long worth = x.worth();
        for (int sum : NO_SUMS) {
            Check.due("draw(" + sum + ")", x.draw(sum), -1);
            Check.due("worth() stays", x.worth(), worth);
        }
        Check.due("draw(0)", x.draw(0), 0);
        Check.due("worth()", x.worth(), worth);
        Check.due("draw(1000000000)", x.draw(1000000000), 0);
        lieAt("drawn", x, 12, 16, 0);
    }
}
