import java.util.ArrayList;
import java.util.List;
import java.util.function.Consumer;
import java.util.function.Predicate;
import java.util.function.ToLongFunction;

/** Behind each refused call all is told as ahead of it; so behind each call that only tells. */
final class RefusedTest {
    private static final String LEFT = "split 2 for all;xyz";

    public static void main(String[] args) {
        all();
        Check.close("RefusedTest");
    }

    static void all() {
        feed();
        end();
        cloth();
        laidAndDrawn();
        halves();
        wear();
        payments();
        fireAndAnnul();
        as();
        fullActs();
        writs();
        slips();
        tellings();
        onlyTold();
    }

    /** A court with something of everything, and a text on the tape. */
    private static ChequeredCloth court() {
        ChequeredCloth x = new ChequeredCloth();
        for (int place = 0; place < 13; place++) {
            x.put(place, 5 - place % 3);
        }
        for (int k = 0; k < 10; k += 3) {
            x.cut(false, k, 10 + k, 2);
            x.cut(true, 9 - k, 11 + k, 2);
        }
        x.wear(4, 9, 30);
        Texts.writ(x, 1, "farm 1000 blanched for all; farm debt / 3 for term < 9; allow 7 for shire 3; split 3 for term = 4;");
        Texts.writ(x, 0, "split 1");
        x.pays(0, 2, 100);
        x.fire(2, 50);
        x.tally(0, 3, 3);
        x.pays(0, 3, 9);
        x.annul(5);
        x.as(5);
        Texts.feed(x, LEFT);
        Check.due("a slip by a payment moved", x.slip(0, 2, x.roll(0, 2, 0) - 53), 2);
        return x;
    }

    /** All that can be told of an object without changing it (some 100 calls). */
    private static List<Long> told(ChequeredCloth x) {
        List<Long> told = new ArrayList<>();
        for (int place = 0; place < 13; place++) {
            told.add((long) x.lies(place));
        }
        for (int k = 0; k < 10; k++) {
            told.add((long) x.sum(false, k));
            told.add((long) x.sum(true, k));
            told.add((long) x.mate(k));
            told.add((long) x.fit(k, 9 - k));
        }
        for (int what = 0; what < 4; what++) {
            told.add((long) x.all(what));
            told.add((long) x.matched(what));
            told.add((long) x.fault(what));
        }
        for (int term = 0; term < 40; term += 3) {
            told.add((long) x.force(term));
        }
        for (int what = 0; what < 7; what++) {
            told.add(x.roll(0, 3, what));
            told.add(x.roll(3, 39, what));
        }
        told.add((long) x.moved());
        told.add(x.owed(39));
        told.add((long) x.since(0, 39));
        return told;
    }

    private static void tape(String when, ChequeredCloth x, int bytes) {
        Check.due(when + ": the tape has not more", x.end(bytes + 1), false);
        Check.due(when + ": nor less", x.end(bytes), true);
    }

    private static void same(String when, List<Long> before, List<Long> after) {
        for (int i = 0; i < before.size(); i++) {
            Check.due(when + ": what was told " + i, after.get(i), before.get(i));
        }
    }

    /** A call to a court, which is refused. */
    private static void refused(String call, ToLongFunction<ChequeredCloth> asked, long due) {
        ChequeredCloth x = court();
        List<Long> before = told(x);
        Check.due(call, asked.applyAsLong(x), due);
        same(call, before, told(x));
        tape(call, x, LEFT.length());
        Check.due(call + ": the text stays", x.end(16), true);
        Check.due(call + ": it is a writ", x.writ(0), 7);
    }

    private static void refusedBoolean(String call, Predicate<ChequeredCloth> asked) {
        refused(call, x -> asked.test(x) ? 1 : 0, 0);
    }

    private static void feed() {
        Check.says("2: feed: NONE, doing nothing, if there would be more than 600");
        ChequeredCloth x = new ChequeredCloth();
        Texts.feed(x, "split 2 for all;" + " ".repeat(584));
        Check.due("feed beyond 600", x.feed(-1, -1, -1, -1, -1), -1);
        tape("feed beyond 600", x, 600);
        Check.due("end(581)", x.end(581), true);
        Check.due("feed to 601", x.feed(-1, -1, -1, -1, -1), -1);
        tape("feed to 601", x, 581);
        Check.due("writ", x.writ(0), 1);
        Check.due("force(0)", x.force(0), 1);
    }

    private static void end() {
        Check.says("3: end: false, doing nothing, if it has not so many, or n is below 0");
        for (int n : new int[] {-1, LEFT.length() + 1, 600, 601, Integer.MIN_VALUE, Integer.MAX_VALUE}) {
            refusedBoolean("end(" + n + ")", x -> x.end(n));
        }
    }

    private static void cloth() {
        Check.says("4: put: false when it can't be");
        for (int place : new int[] {-1, 13, Integer.MIN_VALUE, Integer.MAX_VALUE}) {
            refusedBoolean("put(" + place + ", 1)", x -> x.put(place, 1));
        }
        for (int n : new int[] {-1, 100, Integer.MIN_VALUE, Integer.MAX_VALUE}) {
            refusedBoolean("put(0, " + n + ")", x -> x.put(0, n));
            refusedBoolean("put(12, " + n + ")", x -> x.put(12, n));
        }
        Check.says("5, 7, 10: lies, plain, steps: NONE when there is none such, or something can't be");
        for (int n : new int[] {-1, 1000000001, Integer.MIN_VALUE, Integer.MAX_VALUE}) {
            refused("lies(" + n + ")", x -> x.lies(n), -1);
            refused("plain(" + n + ", 0)", x -> x.plain(n, 0), -1);
            refused("plain(0, " + n + ")", x -> x.plain(0, n), -1);
            refused("steps(" + n + ")", x -> x.steps(n), -1);
        }
    }

    private static void laidAndDrawn() {
        int[] noSums = {-1, 1000000001, Integer.MIN_VALUE, Integer.MAX_VALUE};
        Check.says("8: lay: NONE when it can't be laid, or is refused (all stays)");
        for (int sum : noSums) {
            refused("lay(" + sum + ")", x -> x.lay(sum), -1);
        }
        for (int place = 0; place < 13; place++) {
            ChequeredCloth x = court();
            x.put(place, 99);
            x.put(12, 99);
            List<Long> before = told(x);
            Check.due("lay of one more at each place", x.lay(15991579), -1);
            same("lay of one more at each place", before, told(x));
        }
        Check.says("9: draw: NONE when it can't be, or is refused (all stays)");
        for (int sum : noSums) {
            refused("draw(" + sum + ")", x -> x.draw(sum), -1);
        }
        refused("draw of a penny more than lies", x -> x.draw((int) x.worth() + 1), -1);
        refused("draw of one more at the last place", x -> x.draw(12000000 * (x.lies(12) + 1)), -1);
        refused("draw of one of each, more at the last", x -> x.draw(12000000 * (x.lies(12) + 1) + 3991579), -1);
    }

    private static void halves() {
        int[] noSticks = {-1, 10, Integer.MIN_VALUE, Integer.MAX_VALUE};
        Check.says("11: cut: NONE when something can't be");
        for (int k : noSticks) {
            refused("cut(false, " + k + ", 99, 0)", x -> x.cut(false, k, 99, 0), -1);
            refused("cut(true, " + k + ", 99, 0)", x -> x.cut(true, k, 99, 0), -1);
        }
        for (int place : new int[] {-1, 9, 10, 241, Integer.MIN_VALUE, Integer.MAX_VALUE}) {
            refused("cut(false, 0, " + place + ", 0)", x -> x.cut(false, 0, place, 0), -1);
        }
        for (int worth : new int[] {-1, 6, Integer.MIN_VALUE, Integer.MAX_VALUE}) {
            refused("cut(false, 0, 99, " + worth + ")", x -> x.cut(false, 0, 99, worth), -1);
            refused("cut(true, 1, 99, " + worth + ")", x -> x.cut(true, 1, 99, worth), -1);
        }
        Check.says("11: cut: NONE when it has 12");
        ChequeredCloth x = court();
        for (int i = 1; i < 12; i++) {
            x.cut(true, 9, 100 + i, 5);
        }
        List<Long> before = told(x);
        Check.due("cut 13", x.cut(true, 9, 200, 0), -1);
        same("cut 13", before, told(x));
        Check.due("burn", x.burn(true, 9), true);
        Check.due("cut", x.cut(true, 9, 0, 0), 1);
        Check.says("12: burn: false when there is none such");
        for (int k : noSticks) {
            refusedBoolean("burn(false, " + k + ")", y -> y.burn(false, k));
            refusedBoolean("burn(true, " + k + ")", y -> y.burn(true, k));
        }
        refusedBoolean("burn(false, 1), not there", y -> y.burn(false, 1));
        refusedBoolean("burn(true, 1), not there", y -> y.burn(true, 1));
    }

    private static void wear() {
        Check.says("14: wear: false when one can't be");
        int[][] wears = {{-1, 8, 20}, {21, 8, 20}, {3, 0, 20}, {3, 101, 20}, {3, 8, -1}, {3, 8, 501},
            {Integer.MIN_VALUE, 8, 20}, {3, Integer.MIN_VALUE, 20}, {3, 8, Integer.MIN_VALUE},
            {Integer.MAX_VALUE, 8, 20}, {3, Integer.MAX_VALUE, 20}, {3, 8, Integer.MAX_VALUE}};
        for (int[] w : wears) {
            refusedBoolean("wear(" + w[0] + ", " + w[1] + ", " + w[2] + ")", x -> x.wear(w[0], w[1], w[2]));
        }
    }

    private static void payments() {
        Check.says("21: pays: NONE when something can't be");
        int[][] pays = {{-1, 2, 9}, {8, 2, 9}, {0, -1, 9}, {0, 40, 9}, {0, 2, 0}, {0, 2, 1000001}, {0, 2, -9}};
        for (int[] p : pays) {
            refused("pays(" + p[0] + ", " + p[1] + ", " + p[2] + ")", x -> x.pays(p[0], p[1], p[2]), -1);
        }
        Check.says("22: tally: likewise");
        int[][] tallies = {{-1, 2, 3}, {8, 2, 3}, {0, -1, 3}, {0, 40, 3}, {0, 2, -1}, {0, 2, 10}};
        for (int[] t : tallies) {
            refused("tally(" + t[0] + ", " + t[1] + ", " + t[2] + ")", x -> x.tally(t[0], t[1], t[2]), -1);
        }
        Check.says("21, 22: pays, tally: NONE when there are 60 PAYMENTS");
        ChequeredCloth x = court();
        for (int i = 0; i < 57; i++) {
            Check.due("pays", x.pays(0, 5, 1), 7 + i);
        }
        List<Long> before = told(x);
        Check.due("pays as the 61st", x.pays(0, 2, 1), -1);
        Check.due("tally as the 61st", x.tally(0, 2, 3), -1);
        same("a 61st payment", before, told(x));
        tape("a 61st payment", x, LEFT.length());
        Check.due("fire", x.fire(3, 3), 64);
    }

    private static void fireAndAnnul() {
        Check.says("23: fire: likewise");
        int[][] fires = {{-1, 9}, {40, 9}, {2, -1}, {2, 121}};
        for (int[] f : fires) {
            refused("fire(" + f[0] + ", " + f[1] + ")", x -> x.fire(f[0], f[1]), -1);
        }
        Check.says("24: annul: NONE when there is none such, it is VOID or tells so");
        for (int act : new int[] {-2, -1, 0, 5, 6, 7, Integer.MIN_VALUE, Integer.MAX_VALUE}) {
            refused("annul(" + act + ")", x -> x.annul(act), -1);
        }
    }

    private static void as() {
        Check.says("25: as: false when there is none such");
        for (int act : new int[] {-2, 7, 200, 201, Integer.MIN_VALUE, Integer.MAX_VALUE}) {
            refusedBoolean("as(" + act + ")", x -> x.as(act));
        }
    }

    private static void fullActs() {
        Check.says("21 to 24: NONE when there are 200");
        ChequeredCloth x = court();
        for (int i = 7; i <= 200; i++) {
            Check.due("fire", x.fire(i % 40, 1), i);
        }
        List<Long> before = told(x);
        Check.due("fire 201", x.fire(2, 120), -1);
        Check.due("pays 201", x.pays(0, 2, 9), -1);
        Check.due("tally 201", x.tally(0, 2, 3), -1);
        Check.due("annul(2) as 201", x.annul(2), -1);
        Check.due("annul(200) as 201", x.annul(200), -1);
        same("act 201", before, told(x));
        tape("act 201", x, LEFT.length());
        Check.due("writ 201", x.writ(0), -2);
        tape("writ 201", x, 0);
        Check.due("all(0)", x.all(0), 200);
    }

    private static void writs() {
        Check.says("18: writ: -2 when the TERM can't be: the tape goes, and nothing else changes");
        for (int term : new int[] {-1, 40, Integer.MIN_VALUE, Integer.MAX_VALUE}) {
            ChequeredCloth x = court();
            List<Long> before = told(x);
            Check.due("writ(" + term + ")", x.writ(term), -2);
            same("writ(" + term + ")", before, told(x));
            tape("writ(" + term + ")", x, 0);
        }
        Check.says("18: writ: NONE with a FAULT: the tape goes, fault() tells of it, and nothing else changes");
        ChequeredCloth x = court();
        List<Long> before = told(x);
        Check.due("the fault before", x.fault(0), 2);
        Check.due("writ with a fault", x.writ(0), -1);
        Check.due("fault(0)", x.fault(0), 1);
        Check.due("fault(1)", x.fault(1), 16);
        tape("writ with a fault", x, 0);
        Texts.feed(x, "split 1");
        Check.due("writ with the fault before", x.writ(0), -1);
        same("writ with a fault", before, told(x));
    }

    private static void slips() {
        Check.says("28, 29: slip: -2 when there is no such SHIRE, TERM: moved() tells of the one before");
        for (int n : new int[] {-1, 40, Integer.MIN_VALUE, Integer.MAX_VALUE}) {
            refused("slip(0, " + n + ", 0)", x -> x.slip(0, n, 0), -2);
            refused("slip(" + n + ", 0, 0)", x -> x.slip(n, 0, 0), -2);
        }
        refused("slip(8, 0, 0)", x -> x.slip(8, 0, 0), -2);
        Check.says("28, 29: slip changes what moved() tells alone");
        ChequeredCloth x = court();
        List<Long> before = told(x);
        long debt = x.roll(0, 2, 0);
        Check.due("slip", x.slip(0, 2, debt - 53), 2);
        same("a slip like the one before", before, told(x));
        Check.due("slip", x.slip(0, 2, debt + 80), 2);
        Check.due("slip", x.slip(0, 2, debt), 0);
        Check.due("slip", x.slip(0, 2, debt - 53), 2);
        same("a slip like the first", before, told(x));
    }

    private static void tellings() {
        Check.says("13, 15 to 17: sum, fit, mate, matched: NONE");
        for (int n : new int[] {-1, 10, Integer.MIN_VALUE, Integer.MAX_VALUE}) {
            refused("sum(true, " + n + ")", x -> x.sum(true, n), -1);
            refused("fit(3, " + n + ")", x -> x.fit(3, n), -1);
            refused("fit(" + n + ", 3)", x -> x.fit(n, 3), -1);
            refused("mate(" + n + ")", x -> x.mate(n), -1);
            refused("matched(" + n + ")", x -> x.matched(n), -1);
        }
        Check.says("19, 20, 26, 27, 30, 31: fault, force, roll, owed, since, all: none such");
        for (int n : new int[] {-1, 40, Integer.MIN_VALUE, Integer.MAX_VALUE}) {
            refused("fault(" + n + ")", x -> x.fault(n), -1);
            refused("force(" + n + ")", x -> x.force(n), -1);
            refused("roll(0, " + n + ", 0)", x -> x.roll(0, n, 0), -2000000000000L);
            refused("roll(" + n + ", 0, 0)", x -> x.roll(n, 0, 0), -2000000000000L);
            refused("roll(0, 0, " + n + ")", x -> x.roll(0, 0, n), -2000000000000L);
            refused("owed(" + n + ")", x -> x.owed(n), -1);
            refused("since(0, " + n + ")", x -> x.since(0, n), -1);
            refused("since(" + n + ", 0)", x -> x.since(n, 0), -1);
            refused("all(" + n + ")", x -> x.all(n), -1);
        }
    }

    private static void onlyTold() {
        Check.says("a call that only tells changes nothing");
        List<Consumer<ChequeredCloth>> tellings = List.of(x -> x.plain(999999999, 5), x -> x.steps(999999999),
            x -> x.worth(), x -> x.sum(false, 0), x -> x.fit(0, 9), x -> x.fit(1, 1), x -> x.mate(0), x -> x.matched(1),
            x -> x.fault(1), x -> x.force(0), x -> x.roll(7, 39, 0), x -> x.owed(0), x -> x.since(0, 3),
            x -> x.since(7, 0), x -> x.moved(), x -> x.all(0));
        for (Consumer<ChequeredCloth> telling : tellings) {
            ChequeredCloth x = court();
            List<Long> before = told(x);
            telling.accept(x);
            same("telling", before, told(x));
            tape("telling", x, LEFT.length());
        }
    }
}
