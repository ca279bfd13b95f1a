/** Promises 2, 3 and 18 to 20: the tape, and the writs read from it. */
final class WritTest {
    public static void main(String[] args) {
        tape();
        bytes();
        whole();
        noWay();
        badNumbers();
        tooDeep();
        tooMany();
        faultOfLatest();
        tapeGoes();
        force();
        full();
        Check.close("WritTest");
    }

    private static void tape() {
        ChequeredCloth x = new ChequeredCloth();
        for (int i = 1; i <= 30; i++) {
            Check.due("feed " + i, x.feed(0, 0, 0, 0, 0), 20 * i);
        }
        Check.due("feed 31", x.feed(0, 0, 0, 0, 0), -1);
        Check.due("end(601)", x.end(601), false);
        Check.due("end(600)", x.end(600), true);
        Check.due("end(581)", x.end(581), true);
        Check.due("feed beyond 600", x.feed(0, 0, 0, 0, 0), -1);
        Check.due("end(580)", x.end(580), true);
        Check.due("feed up to 600", x.feed(0, 0, 0, 0, 0), 600);
        Check.due("end(-1)", x.end(-1), false);
        Check.due("end(3)", x.end(3), true);
        Check.due("end(4)", x.end(4), false);
        Check.due("feed behind 3", x.feed(0, 0, 0, 0, 0), 23);
        Check.due("end(0)", x.end(0), true);
        Check.due("end(0) of none", x.end(0), true);
        Check.due("end(1) of none", x.end(1), false);
    }

    private static void bytes() {
        ChequeredCloth x = new ChequeredCloth();
        // "spli" "t 2 " "for " "all;" and a byte 200 that no writ has
        x.feed(0x73706c69, 0x74203220, 0x666f7220, 0x616c6c3b, 0xc8202020);
        Check.due("writ with a byte 200", x.writ(0), -1);
        Check.due("its fault", x.fault(0), 1);
        Check.due("its place", x.fault(1), 16);
        x.feed(0x73706c69, 0x740a320a, 0x666f720a, 0x616c6c3b, 0x0a202020);
        Check.due("writ with bytes 10", x.writ(0), 1);
        x.feed(0x73706c69, 0x74203220, 0x666f7220, 0x616c6c3b, 0x20202009);
        Check.due("writ with a byte 9", x.writ(0), -1);
        Check.due("its place", x.fault(1), 19);
    }

    private static void whole() {
        Ask.good("", 0);
        Ask.good("   \n ", 0);
        Ask.good("farm 1 for all;", 1);
        Ask.good("\n farm\n1\nfor\nall\n;\n", 1);
        Ask.good("farm(1)for[all];", 1);
        Ask.good("farm 99999 pounds blanched for all;", 1);
        Ask.good("farm 00005 for all;", 1);
        Ask.good("farm 1 pence+2 shillings-3 pounds*4/term+year-debt+paid for all;", 1);
        Ask.good("allow min(1,2)+max ( 3 , ( 4 ) ) for shire 0 or shire 7 and not all;", 1);
        Ask.good("pardon 999 in 999 for all;pardon 1 in 1 for all;pardon 1 in 999 for 1<2;", 3);
        Ask.good("split 2 for all;split 20 for debt > 1;split 00003 for term=year;", 3);
        Ask.good("farm 1 for not[not all]and[1=1 or[2=2]];", 1);
        Ask.good("farm ((((((1)))))) for all;", 1);
        Ask.good("farm 1 for not not not not not not all;", 1);
        Ask.good("farm 1 for [[[[[[all]]]]]];", 1);
        Ask.good("farm 1 for not [ not [ (1) = min((1), 2) ] ] or not not not not not not all;", 1);
        Ask.good("farm (1)*(1)*(1)*(1)*(1)*(1)*(1)*(1) for not all and not all and not all and not all and not all "
                + "and not all and not all;", 1);
    }

    private static void noWay() {
        Ask.bad(1, "^farms 1 for all;");
        Ask.bad(1, "^far");
        Ask.bad(1, "^;");
        Ask.bad(1, "^for all;");
        Ask.bad(1, "^Farm 1 for all;");
        Ask.bad(1, "farm^5 for all;");
        Ask.bad(1, "farm 5^pounds for all;");
        Ask.bad(1, "farm 5 pounds^3 for all;");
        Ask.bad(1, "farm 5 ^5 for all;");
        Ask.bad(1, "farm 5 pounds ^pounds for all;");
        Ask.bad(1, "farm term ^pounds for all;");
        Ask.bad(1, "farm (1) ^pounds for all;");
        Ask.bad(1, "farm 1 ^\tfor all;");
        Ask.bad(1, "farm 12345^6 for all;");
        Ask.bad(1, "farm 00000^0 for all;");
        Ask.bad(1, "farm^123456 for all;");
        Ask.bad(1, "farm 1 ^123456 for all;");
        Ask.bad(1, "farm 1 for all;^123456");
        Ask.bad(1, "farm ^for all;");
        Ask.bad(1, "farm ^blanched for all;");
        Ask.bad(1, "farm ^-1 for all;");
        Ask.bad(1, "farm 1 blanched ^blanched for all;");
        Ask.bad(1, "allow 1 ^blanched for all;");
        Ask.bad(1, "farm ^[1] for all;");
        Ask.bad(1, "farm (1^] for all;");
        Ask.bad(1, "farm (1^, 2) for all;");
        Ask.bad(1, "farm () for all;".replace("()", "(^)"));
        Ask.bad(1, "farm max(1, 2^, 3) for all;");
        Ask.bad(1, "farm min^[1, 2] for all;");
        Ask.bad(1, "farm 1 ^all;");
        Ask.bad(1, "farm 1 for ^;");
        Ask.bad(1, "farm 1 for all ^all;");
        Ask.bad(1, "farm 1 for all and ^and all;");
        Ask.bad(1, "farm 1 for (^all);");
        Ask.bad(1, "farm 1 for (1 ^< 2);");
        Ask.bad(1, "farm 1 for [1^];");
        Ask.bad(1, "farm 1 for 1 < 2 ^< 3;");
        Ask.bad(1, "farm 1 for 1 <^= 2;");
        Ask.bad(1, "farm 1 for shire ^term;");
        Ask.bad(1, "farm 1 for shire^1;");
        Ask.bad(1, "farm 1 for shire 1^or all;");
        Ask.bad(1, "farm 1 for shire 00000^7;");
        Ask.bad(1, "farm 1 for not^5;");
        Ask.bad(1, "farm 1 for all^5;");
        Ask.bad(1, "pardon ^in 5 for all;");
        Ask.bad(1, "pardon 1 ^for all;");
        Ask.bad(1, "pardon 1^in 5 for all;");
        Ask.bad(1, "pardon 1 in^5 for all;");
        Ask.bad(1, "pardon 00000^1 in 5 for all;");
        Ask.bad(1, "pardon 5 in 10000^0 for all;");
        Ask.bad(1, "pardon ^(1) in 5 for all;");
        Ask.bad(1, "split ^term for all;");
        Ask.bad(1, "split 2^for all;");
        Ask.bad(1, "split 10000^0 for all;");
        Ask.bad(1, "split^21 for all;");
        Ask.bad(1, "farm 1 for all;^x");
        Ask.bad(1, "farm 1 for all;^;");
        // the text's length, where it ends too soon
        Ask.bad(1, "farm^");
        Ask.bad(1, "farm ^");
        Ask.bad(1, "farm 1^");
        Ask.bad(1, "farm 1 for^");
        Ask.bad(1, "farm 1 for all  \n^");
        Ask.bad(1, "farm 1 for all; pardon 5 in^");
        Ask.bad(1, "farm 1 for [not shire 3 or ^");
        Ask.bad(1, "farm min(1, 2^");
    }

    private static void badNumbers() {
        Ask.bad(2, "split ^0 for all;");
        Ask.bad(2, "split ^1 for all;");
        Ask.bad(2, "split ^21 for all;");
        Ask.bad(2, "split ^99999 for all;");
        Ask.bad(2, "split ^00001for all;");
        Ask.bad(2, "pardon ^0 in 5 for all;");
        Ask.bad(2, "pardon ^1000 in 5 for all;");
        Ask.bad(2, "pardon ^1000 x");
        Ask.bad(2, "pardon 5 in ^4 for all;");
        Ask.bad(2, "pardon 5 in ^0 for all;");
        Ask.bad(2, "pardon 5 in ^1000 for all;");
        Ask.bad(2, "farm 1 for shire ^8;");
        Ask.bad(2, "farm 1 for all; farm 1 for all or shire ^00008 x");
    }

    private static void tooDeep() {
        Ask.bad(3, "farm ((((((^(1))))))) for all;");
        Ask.bad(3, "farm 1 for not not not not not not ^not all;");
        Ask.bad(3, "farm 1 for [[[[[[^[all]]]]]]];");
        Ask.bad(3, "farm 1 for [not [not [(1 + max^(2, 3)) = 4]]];");
        Ask.bad(3, "farm 1 for not not not not not not ^(1) = 1;");
        Ask.bad(3, "farm 1 for not not not not not [1 = ^(1)];");
        Ask.bad(3, "farm min(min(min(min(min(min(1, 2), 3), 4), 5), 6), min(min(min(min(min(min^(");
        // what can't stand there is no 7th
        Ask.bad(1, "farm ((((((^[1 for all;");
        Ask.bad(1, "farm 1 for [[[[[[all ^[");
        Ask.bad(1, "farm ((((((1 ^(2");
        Ask.bad(1, "farm 1 for not not not not not not min^1");
    }

    private static void tooMany() {
        StringBuilder text = new StringBuilder();
        for (int i = 0; i < 24; i++) {
            text.append("split 2 for all;");
        }
        Ask.good(text.toString(), 24);
        Ask.good(text + " \n", 24);
        Ask.bad(4, text + "^split 2 for all;");
        Ask.bad(4, text + " ^x");
        Ask.bad(4, text + " \n^;");
        Ask.bad(4, text + "^123456");
        Ask.bad(4, text + "^!");
        Ask.bad(4, text + "^split 99 for all;");
        Ask.bad(1, text.substring(0, text.length() - 1) + " ^x");
        Ask.bad(1, text.substring(0, text.length() - 4) + "^allx");
    }

    private static void faultOfLatest() {
        ChequeredCloth x = new ChequeredCloth();
        Texts.writ(x, 0, "farm x");
        Check.due("fault(0)", x.fault(0), 1);
        Check.due("fault(1)", x.fault(1), 5);
        for (int what : new int[] {-1, 2, Integer.MIN_VALUE, Integer.MAX_VALUE}) {
            Check.due("fault(" + what + ")", x.fault(what), -1);
        }
        Texts.feed(x, "split 1 for all;");
        Check.due("writ(40) reads no text", x.writ(40), -2);
        Texts.feed(x, "split 1 for all;");
        Check.due("writ(-1) reads no text", x.writ(-1), -2);
        Check.due("fault(0) after that", x.fault(0), 1);
        Check.due("fault(1) after that", x.fault(1), 5);
        Texts.writ(x, 0, "split 1 for all;");
        Check.due("fault(0)", x.fault(0), 2);
        Check.due("fault(1)", x.fault(1), 6);
        Check.due("writ(39) of nothing", x.writ(39), 1);
        Check.due("fault(0)", x.fault(0), 0);
        Check.due("fault(1)", x.fault(1), -1);
    }

    private static void tapeGoes() {
        ChequeredCloth x = new ChequeredCloth();
        Texts.feed(x, "split 2 for all;");
        Check.due("writ(0)", x.writ(0), 1);
        Check.due("end(1) after a writ", x.end(1), false);
        Texts.feed(x, "split x");
        Check.due("writ(0) with a fault", x.writ(0), -1);
        Check.due("end(1) after a fault", x.end(1), false);
        Texts.feed(x, "farm 1 ");
        Texts.feed(x, "for all;");
        Check.due("writ(0) of two pieces", x.writ(0), 2);
        Check.due("roll(0, 0, 2)", x.roll(0, 0, 2), 1);
        for (int term : new int[] {-1, 40, Integer.MIN_VALUE, Integer.MAX_VALUE}) {
            Texts.feed(x, "split 3 for all;");
            Check.due("writ(" + term + ")", x.writ(term), -2);
            Check.due("end(1) after writ(" + term + ")", x.end(1), false);
            Check.due("feed after writ(" + term + ")", x.feed(0, 0, 0, 0, 0), 20);
            Check.due("end(0)", x.end(0), true);
        }
        Check.due("writ(0) of what is left", x.writ(0), 3);
        Check.due("force(0): nothing was left", x.force(0), 0);
    }

    private static void force() {
        ChequeredCloth x = new ChequeredCloth();
        Check.due("force(3) of none", x.force(3), -1);
        Texts.writ(x, 3, "split 2 for all;");
        Texts.writ(x, 5, "split 2 for all;split 2 for all;");
        Texts.writ(x, 4, "");
        int[] due = {-1, -1, -1, 1, 0, 2, 2};
        for (int term = 0; term < due.length; term++) {
            Check.due("force(" + term + ")", x.force(term), due[term]);
        }
        Check.due("force(39)", x.force(39), 2);
        Check.due("force(40)", x.force(40), -1);
        Check.due("force(-1)", x.force(-1), -1);
        Texts.writ(x, 3, "split 2 for all;split 2 for all;split 2 for all;");
        Check.due("force(3): of like terms the last told", x.force(3), 3);
        Check.due("force(4) stays", x.force(4), 0);
        x.annul(4);
        Check.due("force(3): the last is void", x.force(3), 1);
        x.as(4);
        Check.due("force(3) as known at 4", x.force(3), 3);
        x.as(2);
        Check.due("force(4) as known at 2", x.force(4), 1);
        x.as(0);
        Check.due("force(5) as known at 0", x.force(5), -1);
    }

    private static void full() {
        ChequeredCloth x = new ChequeredCloth();
        for (int i = 1; i <= 200; i++) {
            Check.due("writ " + i, x.writ(i % 40), i);
        }
        Texts.feed(x, "split x");
        Check.due("writ 201", x.writ(0), -2);
        Check.due("its fault: no text is read", x.fault(0), 0);
        Check.due("the tape goes all the same", x.end(1), false);
        Check.due("feed after writ 201", x.feed(0, 0, 0, 0, 0), 20);
        Check.due("fire 201", x.fire(0, 0), -1);
        Check.due("pays 201", x.pays(0, 0, 1), -1);
        Check.due("tally 201", x.tally(0, 0, 0), -1);
        Check.due("annul 201", x.annul(1), -1);
        Check.due("all(0)", x.all(0), 200);
        Check.due("as(200)", x.as(200), true);
        Check.due("as(201)", x.as(201), false);
    }
}
