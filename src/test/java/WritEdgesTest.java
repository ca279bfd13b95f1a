/** The boundary cases of the tape and of writs: Terms III, promises 2, 3 and 18 to 20; each sentence by itself. */
final class WritEdgesTest {
    private static final int[] NO_TERMS = {-1, 40, Integer.MIN_VALUE, Integer.MAX_VALUE};
    private static final String SPLIT = "split 2 for all;";

    public static void main(String[] args) {
        all();
        Check.close("WritEdgesTest");
    }

    static void all() {
        tape();
        textOfWrit();
        statements();
        tests();
        sums();
        numbersHeld();
        faultOne();
        faultTwo();
        faultThree();
        faultFour();
        firstAlongTheText();
        writ();
        fault();
        force();
    }

    /** What a SUM is for SHIRE 0 in TERM 0 (0 .. 1000000000). */
    private static void is(String sum, long want) {
        ChequeredCloth x = new ChequeredCloth();
        Check.due("writ with " + sum, Texts.writ(x, 0, "farm " + sum + " for all;"), 1);
        Check.due(sum, x.roll(0, 0, 2), want);
    }

    /** Whether a TEST is so for SHIRE 0 in TERM 0. */
    private static void holds(String test, boolean want) {
        ChequeredCloth x = new ChequeredCloth();
        Check.due("writ for " + test, Texts.writ(x, 0, "farm 1 for " + test + ";"), 1);
        Check.due(test, x.roll(0, 0, 2), want ? 1 : 0);
    }

    private static String times(int n, String text) {
        return text.repeat(n);
    }

    private static int feedBlanks(ChequeredCloth x) {
        return x.feed(0x20202020, 0x20202020, 0x20202020, 0x20202020, 0x20202020);
    }

    private static void tape() {
        Check.says("2: twenty bytes come behind those on the tape: how many there are");
        ChequeredCloth x = new ChequeredCloth();
        for (int i = 1; i <= 30; i++) {
            Check.due("feed " + i, feedBlanks(x), 20 * i);
        }
        Check.due("end(3)", x.end(3), true);
        Check.due("feed behind 3", feedBlanks(x), 23);
        Check.says("2: of each number the highest first");
        x = new ChequeredCloth();
        // "spli" "t 2 " "for " "all;" and blanks
        x.feed(0x73706c69, 0x74203220, 0x666f7220, 0x616c6c3b, 0x0a0a0a0a);
        Check.due("writ", x.writ(0), 1);
        for (int at = 0; at < 20; at++) {
            int[] n = {0x20202020, 0x20202020, 0x20202020, 0x20202020, 0x20202020};
            n[at / 4] ^= (0xff ^ 0x20) << 24 - 8 * (at % 4);
            x.feed(n[0], n[1], n[2], n[3], n[4]);
            Check.due("writ with a byte 255 at " + at, x.writ(0), -1);
            Check.due("its place", x.fault(1), at);
        }
        Check.says("2: NONE, doing nothing, if there would be more than 600");
        x = new ChequeredCloth();
        Texts.feed(x, SPLIT + times(564, " ") + "split 3 for all; ;  ");
        Check.due("feed beyond 600", x.feed(-1, -1, -1, -1, -1), -1);
        Check.due("end(601)", x.end(601), false);
        Check.due("end(600)", x.end(600), true);
        Check.due("end(597)", x.end(597), true);
        Check.due("feed to 617", x.feed(-1, -1, -1, -1, -1), -1);
        Check.due("end(598)", x.end(598), false);
        Check.due("writ of the 597", x.writ(0), 1);
        Check.due("its statements", x.force(0), 2);
        for (int i = 0; i < 30; i++) {
            feedBlanks(x);
        }
        Check.due("end(581)", x.end(581), true);
        Check.due("feed to 601", feedBlanks(x), -1);
        Check.due("end(582)", x.end(582), false);
        Check.due("end(580)", x.end(580), true);
        Check.due("feed to 600", feedBlanks(x), 600);
        Check.says("3: the tape has its first n bytes alone: true");
        x = new ChequeredCloth();
        Texts.feed(x, "split 2 for all;!!!!");
        Check.due("end(20) of 20", x.end(20), true);
        Check.due("end(16)", x.end(16), true);
        Check.due("end(17)", x.end(17), false);
        Check.due("writ", x.writ(0), 1);
        Texts.feed(x, SPLIT);
        Check.due("end(0)", x.end(0), true);
        Check.due("writ of nothing", x.writ(0), 2);
        Check.due("it has no statement", x.force(0), 0);
        Check.says("3: false, doing nothing, if it has not so many, or n is below 0");
        x = new ChequeredCloth();
        Check.due("end(1) of none", x.end(1), false);
        Check.due("end(0) of none", x.end(0), true);
        Texts.feed(x, SPLIT);
        for (int n : new int[] {17, 600, -1, Integer.MIN_VALUE, Integer.MAX_VALUE}) {
            Check.due("end(" + n + ") of 16", x.end(n), false);
            Check.due("end(16) of 16", x.end(16), true);
        }
        Check.due("writ", x.writ(0), 1);
        Check.due("force(0)", x.force(0), 1);
    }

    private static void textOfWrit() {
        Check.says("III: blanks (10, 32) between where one likes");
        Ask.good("\n farm \n( 1\n) + min ( 1 , 2 ) for [ all ] or 1 < 2 ; \n", 1);
        Ask.good("farm(1)+min(1,2)for[all]or 1<2;", 1);
        for (char c : new char[] {0, 1, 9, 11, 12, 13, 31, 33, 34, 127, 133, 160, 255}) {
            Ask.bad(1, "farm 1 ^" + c + " for all;");
            Ask.bad(1, "farm 1 for all;^" + c);
        }
        Ask.bad(1, "^fa rm 1 for all;");
        Ask.bad(1, "farm 1 ^2 for all;");
        Ask.bad(1, "farm 1 ^f\nor all;");
        Check.says("III: words and numbers side by side need one");
        Ask.bad(1, "^farmterm for all;");
        Ask.bad(1, "farm^1 for all;");
        Ask.bad(1, "farm 1^for all;");
        Ask.bad(1, "farm 1^pounds for all;");
        Ask.bad(1, "farm ^termfor all;");
        Ask.bad(1, "farm 1 for shire^1;");
        Ask.bad(1, "farm 1 for shire 1^or all;");
        Ask.bad(1, "farm 1 for ^notall;");
        Ask.bad(1, "farm 1 for not^1 < 2;");
        Ask.bad(1, "pardon 1^in 2 for all;");
        Ask.bad(1, "pardon 1 in^2 for all;");
        Ask.good("farm(1)for[all];split\n2\nfor\nall;", 2);
        Check.says("III: a WRIT: { STATEMENT ; }");
        Ask.good("", 0);
        Ask.good(" \n", 0);
        Ask.good(SPLIT, 1);
        Ask.good(SPLIT + SPLIT, 2);
        Ask.bad(1, "^;");
        Ask.bad(1, SPLIT + "^;");
        Ask.bad(1, "split 2 for all^");
        Ask.bad(1, "split 2 for all ^split 2 for all;");
        Ask.bad(1, SPLIT + "^for all;");
    }

    private static void statements() {
        Check.says("III: farm SUM WHEN, farm SUM blanched WHEN; allow SUM WHEN");
        Ask.good("farm 1 for all; farm 1 blanched for all; allow 1 for all;", 3);
        Ask.bad(1, "farm ^for all;");
        Ask.bad(1, "farm ^blanched for all;");
        Ask.bad(1, "farm 1 blanched ^blanched for all;");
        Ask.bad(1, "farm ^blanched 1 for all;");
        Ask.bad(1, "allow 1 ^blanched for all;");
        Ask.bad(1, "allow ^for all;");
        Check.says("III: pardon NUMBER in NUMBER WHEN (1 .. 999)");
        Ask.good("pardon 1 in 1 for all; pardon 1 in 999 for all; pardon 999 in 999 for all;", 3);
        Ask.bad(2, "pardon ^0 in 1 for all;");
        Ask.bad(2, "pardon ^1000 in 999 for all;");
        Ask.bad(2, "pardon 1 in ^0 for all;");
        Ask.bad(2, "pardon 1 in ^1000 for all;");
        Ask.bad(1, "pardon ^in 1 for all;");
        Ask.bad(1, "pardon 1 ^1 for all;");
        Ask.bad(1, "pardon 1 ^for all;");
        Check.says("III: the first not above the second");
        Ask.good("pardon 5 in 5 for all; pardon 5 in 6 for all; pardon 998 in 999 for all;", 3);
        Ask.bad(2, "pardon 5 in ^4 for all;");
        Ask.bad(2, "pardon 999 in ^998 for all;");
        Ask.bad(2, "pardon 2 in ^1 for all;");
        Check.says("III: split NUMBER WHEN (2 .. 20)");
        Ask.good("split 2 for all; split 20 for all; split 00003 for all;", 3);
        Ask.bad(2, "split ^1 for all;");
        Ask.bad(2, "split ^0 for all;");
        Ask.bad(2, "split ^21 for all;");
        Ask.bad(2, "split ^99999 for all;");
        Ask.bad(1, "split ^for all;");
        Ask.bad(1, "split ^(2) for all;");
        Check.says("III: WHEN: for TEST");
        Ask.bad(1, "farm 1 ^all;");
        Ask.bad(1, "farm 1 for ^;");
        Ask.bad(1, "farm 1 for ^for all;");
        Ask.bad(1, "split 2 ^;");
    }

    private static void tests() {
        Check.says("III: TEST: BOTH { or BOTH }. BOTH: FACT { and FACT }");
        holds("not all or not all", false);
        holds("not all or all", true);
        holds("all or not all", true);
        holds("all and not all", false);
        holds("not all and all", false);
        holds("all and all", true);
        holds("all or all and not all", true);
        holds("not all and not all or all", true);
        holds("not all or all and not all or all", true);
        holds("not all or all and not all", false);
        Ask.bad(1, "farm 1 for all ^all;");
        Ask.bad(1, "farm 1 for all or ^or all;");
        Ask.bad(1, "farm 1 for all and ^or all;");
        Ask.bad(1, "farm 1 for ^and all;");
        Check.says("III: not FACT");
        holds("not all", false);
        holds("not not all", true);
        holds("not not all and not all", false);
        holds("not not all or all", true);
        holds("not 1 = 2 and 1 = 1", true);
        holds("not [all and not all]", true);
        holds("not all and not all", false);
        holds("not [all or all] or all", true);
        Check.says("III: [ TEST ]");
        holds("[all or all] and not all", false);
        holds("not all and [not all or all]", false);
        Ask.bad(1, "farm 1 for [^];");
        Ask.bad(1, "farm 1 for [all^;");
        Ask.bad(1, "farm 1 for [all^);");
        Ask.bad(1, "farm 1 for all^];");
        Ask.bad(1, "farm 1 for (^all);");
        Check.says("III: shire NUMBER (0 .. 7)");
        Ask.good("farm 1 for shire 0 or shire 7 or shire 00007;", 1);
        for (int shire = 0; shire < 8; shire++) {
            ChequeredCloth x = new ChequeredCloth();
            Texts.writ(x, 0, "farm 1 for shire " + shire + ";");
            for (int other = 0; other < 8; other++) {
                Check.due("shire " + shire + " for " + other, x.roll(other, 0, 2), shire == other ? 1 : 0);
            }
        }
        Ask.bad(2, "farm 1 for shire ^8;");
        Ask.bad(2, "farm 1 for shire ^99999;");
        Ask.bad(1, "farm 1 for shire ^;");
        Ask.bad(1, "farm 1 for shire ^(1);");
        Check.says("III: SUM SIGN SUM, SIGN < or > or =");
        for (int n = 1; n <= 3; n++) {
            holds(n + " < 2", n < 2);
            holds(n + " > 2", n > 2);
            holds(n + " = 2", n == 2);
        }
        holds("0 - 1 < 0", true);
        holds("1 + 1 = 4 / 2", true);
        Ask.bad(1, "farm 1 for 1^;");
        Ask.bad(1, "farm 1 for 1 <^;");
        Ask.bad(1, "farm 1 for 1 <^> 2;");
        Ask.bad(1, "farm 1 for 1 = 1 ^= 1;");
    }

    private static void sums() {
        Check.says("III: SUM: PRODUCT { + or - PRODUCT }. PRODUCT: PART { * or / PART }; all from the left on");
        is("7 - 2 - 1", 4);
        is("7 - 2 + 1", 6);
        is("2 + 3 * 4", 14);
        is("2 * 3 + 4", 10);
        is("20 - 2 * 3", 14);
        is("24 / 4 / 3", 2);
        is("7 / 2 * 2", 6);
        is("2 * 7 / 2", 7);
        is("(2 + 3) * 4", 20);
        is("9 - (5 - 3)", 7);
        Ask.bad(1, "farm 1 + ^for all;");
        Ask.bad(1, "farm 1 + ^- 1 for all;");
        Ask.bad(1, "farm ^- 1 for all;");
        Ask.bad(1, "farm 2 * ^* 2 for all;");
        Check.says("III: NUMBER, perhaps with pence, shillings or pounds behind (it is so many then)");
        is("7", 7);
        is("7 pence", 7);
        is("7 shillings", 84);
        is("7 pounds", 1680);
        is("99999 pounds", 23999760);
        is("2 * 3 pounds + 1 shillings", 1452);
        is("7 pounds / 2", 840);
        Ask.bad(1, "farm 7 pounds ^pence for all;");
        Ask.bad(1, "farm ^pounds for all;");
        Ask.bad(1, "farm term ^pounds for all;");
        Ask.bad(1, "farm (7) ^pounds for all;");
        Check.says("III: term; year (TERM / 2)");
        ChequeredCloth x = new ChequeredCloth();
        Texts.writ(x, 0, "farm term for all; allow year for all;");
        for (int term = 0; term < 40; term++) {
            Check.due("term of " + term, x.roll(0, term, 2), term);
            Check.due("year of " + term, x.roll(0, term, 3), term / 2);
        }
        Check.says("III: ( SUM ) ; min ( SUM , SUM ) ; max ( SUM , SUM )");
        is("min(2, 3)", 2);
        is("min(3, 2)", 2);
        is("max(2, 3)", 3);
        is("max(3, 2)", 3);
        is("max(0 - 3, 0 - 2) + 3", 1);
        is("min(0 - 3, 0 - 2) + 4", 1);
        is("min(2, 2) + max(3, 3)", 5);
        Ask.bad(1, "farm (^) for all;");
        Ask.bad(1, "farm (1 ^for all;");
        Ask.bad(1, "farm (1^, 2) for all;");
        Ask.bad(1, "farm min(1^) for all;");
        Ask.bad(1, "farm min(1, ^) for all;");
        Ask.bad(1, "farm max(1, 2^, 3) for all;");
        Ask.bad(1, "farm max ^1, 2 for all;");
        Ask.bad(1, "farm 1^) for all;");
        Check.says("III: NUMBERS have 1 to 5 digits");
        is("0", 0);
        is("9", 9);
        is("99999", 99999);
        is("00000", 0);
        is("00009", 9);
        Ask.bad(1, "farm 99999^9 for all;");
        Ask.bad(1, "farm 00000^9 for all;");
        Check.says("III: / gives the greatest whole number not above");
        is("5 / 6", 0);
        is("6 / 6", 1);
        is("11 / 6", 1);
        is("9 + (0 - 1) / 6", 8);
        is("9 + (0 - 6) / 6", 8);
        is("9 + (0 - 7) / 6", 7);
        is("9 + 1 / (0 - 6)", 8);
        is("9 + 6 / (0 - 6)", 8);
        is("9 + (0 - 7) / (0 - 6)", 10);
        Check.says("III: by 0 it gives 0");
        is("9 + 5 / 0", 9);
        is("9 + (0 - 5) / 0", 9);
        is("9 + 0 / 0", 9);
        is("9 + 5 / 1", 14);
    }

    /** 50000 * 20000 is 10 to the 9, 19019 * 52579 is one more. */
    private static void numbersHeld() {
        String most = "50000 * 20000";
        Check.says("III: each sum above 10 to the 9 is that");
        is("50000 * 19999 + 50000", 1000000000);
        is(most + " + 0 - 9", 999999991);
        is(most + " + 1 - 9", 999999991);
        is("50000 * 19999 + 49999 + 1 - 9", 999999991);
        is("50000 * 19999 + 49999 + 2 - 9", 999999991);
        is(most + " + " + most + " - 9", 999999991);
        Check.says("III: each sum below -10 to the 9 likewise");
        is("0 - " + most + " + (0 - 0) + " + most + " + 9", 9);
        is("0 - " + most + " + (0 - 1) + " + most + " + 9", 9);
        is("1 - " + most + " + (0 - 1) + " + most + " + 9", 9);
        is("2 - " + most + " + (0 - 1) + " + most + " + 9", 10);
        Check.says("III: each difference above 10 to the 9 is that");
        is(most + " - (0 - 1) - 9", 999999991);
        is("50000 * 19999 + 49999 - (0 - 1) - 9", 999999991);
        is("50000 * 19999 + 49998 - (0 - 1) - 9", 999999990);
        Check.says("III: each difference below -10 to the 9 likewise");
        is("0 - " + most + " - 1 + " + most + " + 9", 9);
        is("1 - " + most + " - 1 + " + most + " + 9", 9);
        is("2 - " + most + " - 1 + " + most + " + 9", 10);
        is("0 - " + most + " - " + most + " + " + most + " + 9", 9);
        Check.says("III: each product above 10 to the 9 is that");
        is(most, 1000000000);
        is("19019 * 52579", 1000000000);
        is("19019 * 52579 - 9", 999999991);
        is(most + " - 9", 999999991);
        is("37037 * 27000 - 9", 999998991);
        is("99999 pounds * 99999 pounds * 99999 pounds - 9", 999999991);
        Check.says("III: each product below -10 to the 9 likewise");
        is("(0 - 19019) * 52579 + " + most + " + 9", 9);
        is("19019 * (0 - 52579) + " + most + " + 9", 9);
        is("(0 - 50000) * 20000 + " + most + " + 9", 9);
        is("(0 - 37037) * 27000 + " + most + " + 9", 1009);
        is("(0 - 99999 pounds) * 99999 pounds * 99999 pounds + " + most + " + 9", 9);
        Check.says("III: debt above 10 to the 9 is that, below -10 to the 9 likewise");
        for (int more = -1; more <= 1; more++) {
            ChequeredCloth x = new ChequeredCloth();
            Texts.writ(x, 0, "farm " + most + " for all; farm " + (more + 1) + " for all; allow 1 for all;"
                    + " allow 7 for debt = " + most + "; allow debt for term = 1;");
            Check.due("debt of 10 to the 9 and " + more, x.roll(0, 0, 3), more < 0 ? 1 : 8);
            Check.due("the debt itself", x.roll(0, 0, 0), 1000000000 + more - (more < 0 ? 0 : 7));
            x = new ChequeredCloth();
            Texts.writ(x, 0, "farm 1 for all; allow " + most + " for all; allow " + (more + 1) + " for all;"
                    + " allow 7 for debt = 0 - " + most + "; allow 1000 + debt + " + most + " for term = 0;");
            Check.due("debt below, by " + more, x.roll(0, 0, 0),
                    -1000000000 - more - (more < 0 ? 1001 : 1007));
        }
    }

    private static void faultOne() {
        Check.says("III: FAULT 1: the first byte with which no WRIT goes on");
        Ask.bad(1, "^!");
        Ask.bad(1, "  ^(");
        Ask.bad(1, "farm ^; for all;");
        Ask.bad(1, "farm 1 ^; for all;");
        Ask.bad(1, "farm 1^. for all;");
        Ask.bad(1, "farm 1 for all^, all;");
        Ask.bad(1, "farm ^[1] for all;");
        Ask.bad(1, "farm (1^] for all;");
        Ask.bad(1, "split 2 for all;^\u00ff");
        Check.says("III: FAULT 1: words whole, at their first byte");
        Ask.bad(1, "^f");
        Ask.bad(1, "^far 1 for all;");
        Ask.bad(1, "^farms 1 for all;");
        Ask.bad(1, "^al");
        Ask.bad(1, "farm 1 ^fo all;");
        Ask.bad(1, "farm 1 ^fort all;");
        Ask.bad(1, "farm 1 for ^al;");
        Ask.bad(1, "farm 1 for ^alls;");
        Ask.bad(1, "farm 1 for ^shires 1;");
        Ask.bad(1, "farm 1 ^pound for all;");
        Ask.bad(1, "farm ^ter for all;");
        Ask.bad(1, "farm ^mi(1, 2) for all;");
        Ask.bad(1, "farm 1 ^blanche for all;");
        Ask.bad(1, "farm 1 for all ^an all;");
        Ask.bad(1, "farm 1 for all;^spli");
        Ask.bad(1, "^farmz 1 for all;");
        Ask.bad(1, "^afarm 1 for all;");
        Ask.bad(1, "farm 1 ^zfor all;");
        Check.says("III: FAULT 1: what is no letter, digit or sign of a WRIT, at itself");
        for (char c : new char[] {'A', 'Z', '@', '[' - 1, '`', '{', '~', '_', '.', ':', '?', '$', 0xe9}) {
            Ask.bad(1, "farm^" + c + " 1 for all;");
            Ask.bad(1, "farm 1^" + c + " for all;");
            Ask.bad(1, "farm 1 for all^" + c + ";");
        }
        Check.says("III: FAULT 1: numbers whole, at their first byte");
        Ask.bad(1, "^12 for all;");
        Ask.bad(1, "^123456 for all;");
        Ask.bad(1, "farm 1 ^123456 for all;");
        Ask.bad(1, "farm 1 for all ^7;");
        Ask.bad(1, "farm 1 for all;^123456");
        Ask.bad(1, "farm 1 for 12345 ^for all;");
        Check.says("III: FAULT 1: where a number is asked, a 6th digit at itself");
        Ask.bad(1, "farm 12345^6 for all;");
        Ask.bad(1, "farm 12345^67890 for all;");
        Ask.bad(1, "farm 1 for shire 00000^1;");
        Ask.bad(1, "farm 1 for 1 < 00000^1;");
        Ask.bad(1, "split 00000^2 for all;");
        Ask.bad(1, "pardon 00000^1 in 2 for all;");
        Ask.bad(1, "pardon 1 in 00000^2 for all;");
        Ask.bad(1, "split 12345^6");
        Ask.good("split 00002 for all; pardon 00001 in 00002 for shire 00001;", 2);
        Check.says("III: FAULT 1: at the text's length, if it ends too soon");
        Ask.bad(1, "farm^");
        Ask.bad(1, "farm ^");
        Ask.bad(1, "farm 1^");
        Ask.bad(1, "farm 1 \n ^");
        Ask.bad(1, "farm (^");
        Ask.bad(1, "farm min^");
        Ask.bad(1, "farm min(1, 2^");
        Ask.bad(1, "farm 1 blanched^");
        Ask.bad(1, "farm 1 for^");
        Ask.bad(1, "farm 1 for all^");
        Ask.bad(1, "farm 1 for not^");
        Ask.bad(1, "farm 1 for shire ^");
        Ask.bad(1, "farm 1 for 1 <^");
        Ask.bad(1, "pardon^");
        Ask.bad(1, "pardon 1^");
        Ask.bad(1, "pardon 1 in^");
        Ask.bad(1, "split^");
        Ask.bad(1, SPLIT + "allow^");
        Ask.bad(1, times(590, " ") + "farm 12345^");
        Ask.bad(1, "farm 1" + times(594, " ") + "^");
        Ask.good(times(584, "\n") + SPLIT, 1);
    }

    private static void faultTwo() {
        Check.says("III: FAULT 2: a NUMBER (of 1 to 5 digits) that can't be, at it");
        Ask.bad(2, "split ^1 for all;");
        Ask.bad(2, "split ^00001 for all;");
        Ask.bad(1, "split 00000^1 for all;");
        Ask.bad(2, "split   ^21");
        Ask.bad(2, "split ^21x");
        Ask.bad(2, "split ^99999 for all;");
        Ask.bad(1, "split 99999^9 for all;");
        Ask.bad(2, "farm 1 for shire ^8");
        Ask.bad(2, "farm 1 for [shire 7 or shire ^8];");
        Ask.bad(2, "pardon ^1000");
        Ask.bad(2, "pardon 9 in ^8");
        Ask.bad(2, SPLIT + "pardon ^0");
        Ask.good("farm 99999 for 0 = 00000;", 1);
    }

    private static void faultThree() {
        Check.says("III: FAULT 3: the 7th ( that is open at once, at it");
        Ask.good("farm ((((((1)))))) for all;", 1);
        Ask.bad(3, "farm ((((((^(1))))))) for all;");
        Ask.bad(3, "farm ((((((^(");
        Check.says("III: FAULT 3: the 7th ( of min and max, too");
        Ask.good("farm min(max(min(max(min(max(1, 2), 3), 4), 5), 6), 7) for all;", 1);
        Ask.bad(3, "farm min(max(min(max(min(max(1, min^(1, 2)), 3), 4), 5), 6), 7) for all;");
        Ask.bad(3, "farm ((((((max ^(1, 2))))))) for all;");
        Ask.bad(1, "farm ((((((max^");
        Check.says("III: FAULT 3: the 7th [ that is open at once, at it");
        Ask.good("farm 1 for [[[[[[all]]]]]];", 1);
        Ask.bad(3, "farm 1 for [[[[[[^[all]]]]]]];");
        Check.says("III: FAULT 3: the 7th not that is open at once, at it");
        Ask.good("farm 1 for " + times(6, "not ") + "all;", 1);
        Ask.bad(3, "farm 1 for " + times(6, "not ") + "^not all;");
        Check.says("III: FAULT 3: ( [ not count together");
        Ask.good("farm 1 for not [not [(max(1, 2)) = 2]];", 1);
        Ask.bad(3, "farm 1 for not [not [(max(1, ^(2))) = 2]];");
        Ask.bad(3, "farm 1 for not [not [not [^(1) = 1]]];");
        Ask.bad(3, "farm 1 for not [not [not [^not all]]];");
        Ask.bad(3, "farm 1 for not [not [not [^[all]]]];");
        Ask.bad(3, "farm 1 for " + times(6, "not ") + "^[all];");
        Ask.bad(3, "farm 1 for [[[[[[^(1) = 1]]]]]];");
        Check.says("III: FAULT 3: a not is open until its FACT ends");
        Ask.bad(3, "farm 1 for " + times(6, "not ") + "1 = ^(1);");
        Ask.bad(3, "farm 1 for " + times(6, "not ") + "1 + ^(1) = 1;");
        Ask.good("farm 1 for " + times(6, "not ") + "1 = 1 and (1) = 1;", 1);
        Ask.good("farm 1 for " + times(6, "not ") + "all or [all];", 1);
        Ask.good("farm 1 for " + times(5, "not ") + "[all and all] and " + times(6, "not ") + "all;", 1);
        Ask.bad(3, "farm 1 for " + times(5, "not ") + "[all and ^not all];");
        Check.says("III: FAULT 3: a ( or [ is open until it is closed");
        Ask.good("farm ((((((1)))))) + ((((((1)))))) for [[[[[[all]]]]]] and [[[[[[all]]]]]];", 1);
        Ask.good("farm (((((1) + (1))))) for all;", 1);
        Ask.bad(3, "farm ((((((1) + (1 + ^(1))))))) for all;");
        Ask.good("farm 1 for [[[[[[all] and [all]]]]]];", 1);
        Ask.bad(3, "farm 1 for [[[[[[all] and [^[all]]]]]]];");
        Ask.good(times(3, "farm ((((((1)))))) for [[[[[[all]]]]]];"), 3);
    }

    private static void faultFour() {
        String most = times(24, SPLIT);
        Check.says("III: FAULT 4: a 25th STATEMENT, at its first byte");
        Ask.good(times(23, SPLIT), 23);
        Ask.good(most, 24);
        Ask.good(most + " \n ", 24);
        Ask.bad(4, most + "^" + SPLIT);
        Ask.bad(4, most + " \n ^" + SPLIT);
        Ask.bad(4, most + "^" + SPLIT + SPLIT);
        Check.says("III: FAULT 4: (whatever stands there)");
        Ask.bad(4, most + "^;");
        Ask.bad(4, most + " ^x");
        Ask.bad(4, most + "^!");
        Ask.bad(4, most + "^\t");
        Ask.bad(4, most + "^123456");
        Ask.bad(4, most + "^split 1 for all;");
        Ask.bad(4, most + "^\u00c8");
        Ask.bad(1, times(23, SPLIT) + "^x");
        Ask.bad(1, times(23, SPLIT) + "^;");
        Ask.bad(2, times(23, SPLIT) + "split ^1 for all;");
    }

    private static void firstAlongTheText() {
        Check.says("III: FAULTS, the first along the text");
        Ask.bad(2, "split ^1 x");
        Ask.bad(1, "split ^x split 1 for all;");
        Ask.bad(2, "split ^1");
        Ask.bad(2, "pardon ^0 in 0 for all;");
        Ask.bad(3, "farm ((((((^(!");
        Ask.bad(1, "farm (((((( ^! (");
        Ask.bad(2, "farm 1 for [[[[[[shire ^8 and [all]]]]]]];");
        Ask.bad(3, "farm 1 for [[[[[[^[shire 8]]]]]]];");
        Ask.bad(2, times(23, SPLIT) + "split ^1 for all;" + SPLIT);
        Ask.bad(1, times(23, SPLIT) + "split 2 for all^! ;" + SPLIT);
        Ask.bad(1, times(23, SPLIT) + "split 2 for all^");
        Ask.bad(1, "farm 1 for shire 12345^6x");
    }

    private static void writ() {
        Check.says("18: the tape (it goes) is a WRIT");
        ChequeredCloth x = new ChequeredCloth();
        Texts.feed(x, SPLIT);
        Check.due("writ(0)", x.writ(0), 1);
        Check.due("end(1)", x.end(1), false);
        Texts.feed(x, SPLIT + "x");
        Check.due("writ(0) with a fault", x.writ(0), -1);
        Check.due("end(1)", x.end(1), false);
        Check.due("feed", feedBlanks(x), 20);
        Check.due("writ(-1)", x.writ(-1), -2);
        Check.due("end(1)", x.end(1), false);
        Check.due("feed", feedBlanks(x), 20);
        Check.due("writ(40)", x.writ(40), -2);
        Check.due("feed", feedBlanks(x), 20);
        Check.says("18: from a TERM on: its ACT; -2 when the TERM can't be");
        x = new ChequeredCloth();
        for (int term : NO_TERMS) {
            Texts.feed(x, SPLIT);
            Check.due("writ(" + term + ")", x.writ(term), -2);
            Check.due("no act", x.all(0), 0);
        }
        Check.due("writ(0) of \"" + SPLIT + "\"", Texts.writ(x, 0, SPLIT), 1);
        Check.due("force(0)", x.force(0), 1);
        Check.due("writ(39)", Texts.writ(x, 39, SPLIT + SPLIT), 2);
        Check.due("force(38)", x.force(38), 1);
        Check.due("force(39)", x.force(39), 2);
        Check.says("18: NONE with a FAULT");
        Check.due("writ(0)", Texts.writ(x, 0, SPLIT + SPLIT + "split 1 for all;"), -1);
        Check.due("no act", x.all(0), 2);
        Check.due("force(0): the one before stays", x.force(0), 1);
        Check.says("18: -2 when there are 200");
        x = new ChequeredCloth();
        for (int act = 1; act < 200; act++) {
            x.fire(0, 0);
        }
        Check.due("writ(0) as act 200", Texts.writ(x, 0, SPLIT), 200);
        Check.due("writ(0) as act 201", Texts.writ(x, 0, SPLIT + SPLIT), -2);
        Check.due("all(0)", x.all(0), 200);
        Check.due("force(0)", x.force(0), 1);
        Check.due("the tape goes", x.end(1), false);
        Check.due("writ(40)", x.writ(40), -2);
        Check.says("18: no text is read then");
        Texts.feed(x, "!");
        Check.due("writ(0) of a fault", x.writ(0), -2);
        Check.due("fault(0)", x.fault(0), 0);
        Check.due("fault(1)", x.fault(1), -1);
        x = new ChequeredCloth();
        Check.due("writ of a fault", Texts.writ(x, 0, "split 1"), -1);
        for (int term : NO_TERMS) {
            Check.due("writ of another", Texts.writ(x, term, "!"), -2);
            Check.due("fault(0) stays", x.fault(0), 2);
            Check.due("fault(1) stays", x.fault(1), 6);
            Check.due("writ of none", Texts.writ(x, term, SPLIT), -2);
            Check.due("fault(0) stays", x.fault(0), 2);
        }
    }

    private static void fault() {
        Check.says("19: 0 without, and ahead of any; NONE without");
        ChequeredCloth x = new ChequeredCloth();
        Check.due("fault(0) ahead of any", x.fault(0), 0);
        Check.due("fault(1) ahead of any", x.fault(1), -1);
        x.writ(-1);
        Check.due("fault(0) when no text was read", x.fault(0), 0);
        Check.due("fault(1) when no text was read", x.fault(1), -1);
        Texts.writ(x, 0, SPLIT);
        Check.due("fault(0) of a whole one", x.fault(0), 0);
        Check.due("fault(1) of a whole one", x.fault(1), -1);
        Check.says("19: of the latest writ() that read a text");
        Texts.writ(x, 0, "!");
        Check.due("fault(0)", x.fault(0), 1);
        Check.due("fault(1): the first byte", x.fault(1), 0);
        Texts.writ(x, 0, "split 1");
        Check.due("fault(0)", x.fault(0), 2);
        Check.due("fault(1)", x.fault(1), 6);
        Texts.writ(x, 0, times(597, " ") + "x y");
        Check.due("fault(1)", x.fault(1), 597);
        Texts.writ(x, 0, times(599, " ") + "!");
        Check.due("fault(1): the last byte", x.fault(1), 599);
        Texts.writ(x, 0, times(596, " ") + "farm");
        Check.due("fault(1): behind the last", x.fault(1), 600);
        Texts.writ(x, 0, "");
        Check.due("fault(0)", x.fault(0), 0);
        Check.due("fault(1)", x.fault(1), -1);
        Check.says("19: each text is read anew");
        for (int i = 0; i < 6; i++) {
            Check.due("a text that leaves six open", Texts.writ(x, 0, "farm ((((((" + times(60, "1+") + "("), -1);
            Check.due("its fault", x.fault(0), 3);
        }
        for (int i = 0; i < 3; i++) {
            Check.due("a text with six open", Texts.writ(x, 0, "farm ((((((1)))))) for [[[[[[all]]]]]];"), i + 3);
        }
        Check.due("its farm", x.roll(0, 0, 2), 1);
        Check.due("a text that leaves a statement half read", Texts.writ(x, 0, SPLIT + SPLIT + "split 3"), -1);
        Check.due("an empty one behind it", Texts.writ(x, 0, ""), 6);
        Check.due("it has none", x.force(0), 0);
        Check.says("19: NONE for another what");
        Texts.writ(x, 0, "split 1");
        for (int what : new int[] {-1, 2, Integer.MIN_VALUE, Integer.MAX_VALUE}) {
            Check.due("fault(" + what + ")", x.fault(what), -1);
        }
    }

    private static void force() {
        Check.says("20: how many STATEMENTS the WRIT of a TERM has; NONE without one");
        ChequeredCloth x = new ChequeredCloth();
        Check.due("force(0)", x.force(0), -1);
        Check.due("force(39)", x.force(39), -1);
        Texts.writ(x, 5, "");
        Check.due("force(4)", x.force(4), -1);
        Check.due("force(5): none is not without one", x.force(5), 0);
        Texts.writ(x, 6, times(24, SPLIT));
        Check.due("force(6)", x.force(6), 24);
        Check.due("force(39)", x.force(39), 24);
        Check.says("20: as known");
        x.as(1);
        Check.due("force(6) as known at 1", x.force(6), 0);
        x.as(0);
        Check.due("force(6) as known at 0", x.force(6), -1);
        x.as(-1);
        x.annul(2);
        Check.due("force(6), void", x.force(6), 0);
        x.annul(1);
        Check.due("force(6), both void", x.force(6), -1);
        Check.says("20: NONE when there is no such TERM");
        Texts.writ(x, 0, SPLIT);
        Check.due("force(0)", x.force(0), 1);
        Check.due("force(39)", x.force(39), 1);
        for (int term : NO_TERMS) {
            Check.due("force(" + term + ")", x.force(term), -1);
        }
    }
}
