/** No call throws, whatever its arguments, in whatever state, and beyond the 512th call too. */
final class AnyCallTest {
    public static void main(String[] args) {
        for (int seed = 1; seed <= 300; seed++) {
            Dice dice = new Dice(seed * 7919L);
            ChequeredCloth x = new ChequeredCloth();
            for (int i = 0; i < 1500; i++) {
                call(x, dice);
            }
            Check.due("acts are 200 at most", x.all(0) <= 200, true);
        }
        Check.close("AnyCallTest");
    }

    /** Mostly a number that may be one of a few, else any at all. */
    private static int n(Dice dice, int most) {
        return dice.in(6) ? dice.any() : dice.of(most + 1);
    }

    private static void call(ChequeredCloth x, Dice dice) {
        switch (dice.of(32)) {
            case 0: x.feed(dice.any(), dice.any(), dice.any(), dice.any(), dice.any()); break;
            case 1: x.end(n(dice, 600)); break;
            case 2: x.put(n(dice, 12), n(dice, 99)); break;
            case 3: x.lies(n(dice, 12)); break;
            case 4: x.worth(); break;
            case 5: x.plain(n(dice, 1000000000), n(dice, 12)); break;
            case 6: x.lay(n(dice, 1000000)); break;
            case 7: x.draw(n(dice, 1000000)); break;
            case 8: x.steps(n(dice, 1000000000)); break;
            case 9:
            case 10: x.cut(dice.in(2), n(dice, 9), n(dice, 240), n(dice, 5)); break;
            case 11: x.burn(dice.in(2), n(dice, 40)); break;
            case 12: x.sum(dice.in(2), n(dice, 9)); break;
            case 13: x.wear(n(dice, 20), n(dice, 100), n(dice, 500)); break;
            case 14: x.fit(n(dice, 9), n(dice, 9)); break;
            case 15: x.mate(n(dice, 9)); break;
            case 16: x.matched(n(dice, 2)); break;
            case 17:
            case 18: {
                if (dice.of(3) > 0) {
                    x.end(0);
                }
                String text = Texts.writ(dice, 6);
                Texts.feed(x, dice.in(4) ? Texts.marred(dice, text) : text);
                x.writ(n(dice, 39));
                break;
            }
            case 19: x.fault(n(dice, 2)); break;
            case 20: x.force(n(dice, 39)); break;
            case 21: x.pays(n(dice, 7), n(dice, 39), n(dice, 1000000)); break;
            case 22: x.tally(n(dice, 7), n(dice, 39), n(dice, 9)); break;
            case 23: x.fire(n(dice, 39), n(dice, 120)); break;
            case 24: x.annul(n(dice, 200)); break;
            case 25: x.as(dice.in(2) ? -1 : n(dice, 200)); break;
            case 26: x.roll(n(dice, 7), n(dice, 39), n(dice, 7)); break;
            case 27: x.owed(n(dice, 39)); break;
            case 28:
                if (dice.in(8)) {
                    x.slip(n(dice, 7), n(dice, 39), dice.in(2) ? Long.MIN_VALUE : n(dice, 1000));
                }
                break;
            case 29: x.moved(); break;
            case 30: x.since(n(dice, 7), n(dice, 39)); break;
            default: x.all(n(dice, 4));
        }
    }
}
