import java.io.IOException;
import java.nio.file.Files;
import java.nio.file.Path;

/** Each sentence of the document that names an edge of what is asked and answered, with a test of its own. */
public final class EdgesOfAnswersTest {
    private static final String FLAT = "field slope 0 room 20 snow 50;";
    private static final String SIX = "name a;name b;name c;name d;name e;name f;";
    private static final int LEAST = Integer.MIN_VALUE;
    private static final int GREATEST = Integer.MAX_VALUE;

    private static String doc = "";

    public static void main(String[] args) throws IOException {
        doc = Files.readString(Path.of("../shared/DOC.md"));
        fields();
        people();
        is();
        lasts();
        longest();
        letters();
        debtsMeltsDeep();
        till();
        rows();
        whoAndLook();
        places();
        changeAndMixed();
        safe();
        together();
        settleAndRing();
        poorestAndClear();
        struck();
        pairs();
        share();
        rests();
        odds();
        most();
        sets();
        ahead();
        trialAndSpan();
        Due.end("EdgesOfAnswersTest");
    }

    private static void edge(String sentence, Runnable test) {
        Due.sentence(doc, sentence, test);
    }

    private static SnowNames altered(String province) {
        // On the first day of SEED 1 a hare comes by 58; 10113 modulo how many they are and 17515 modulo the letters.
        SnowNames x = Due.of("hares 59;" + province);
        x.days(1);
        return x;
    }

    private static void fields() {
        edge("Of a FIELD what 0 SLOPE, 1 SNOW, 2 ROOM, 3 USED, 4 PEOPLE THERE, as bits. NoSuchElementException: another what.",
                () -> {
            SnowNames x = Due.of("field slope 9 room 20 snow 99;field slope 0 room 1;name abcdef on 0;name ab;name abcdef on 0");
            int[][] due = {{9, 99, 20, 12, 5}, {0, 0, 1, 0, 0}};
            for (int what = 0; what < 5; what++) {
                Due.is("field(0, " + what + ")", x.field(0, what), due[0][what]);
                Due.is("field(1, " + what + ")", x.field(1, what), due[1][what]);
            }
            for (int what : new int[] {-1, 5, LEAST, GREATEST}) {
                Due.noWhat("field(0, " + what + ")", () -> x.field(0, what));
            }
            for (int field : new int[] {-1, 2, 6, LEAST, GREATEST}) {
                Due.noIndex("field(" + field + ", 0)", () -> x.field(field, 0));
                Due.noIndex("field(" + field + ", 5)", () -> x.field(field, 5));
            }
        });
    }

    private static void people() {
        edge("2 how many MARKS are not GONE (0 ON none), 3 1 if WHOLE", () -> {
            SnowNames x = Due.of(FLAT + "name abcdef on 0;name a");
            Due.is("all", x.person(0, 2), 6);
            Due.is("whole", x.person(0, 3), 1);
            Due.is("on none", x.person(1, 2), 0);
            Due.is("on none it is not whole", x.person(1, 3), 0);
            SnowNames y = altered(FLAT + "name a on 0");
            Due.is("one altered is not gone", y.person(0, 2), 1);
            Due.is("but not whole", y.person(0, 3), 0);
        });
        edge("1 the FIELD it is ON (NONE)", () -> {
            SnowNames x = Due.of(FLAT + FLAT + "name a;name b on 1;name c on 0");
            Due.is("on", x.person(0, 1) + " " + x.person(1, 1) + " " + x.person(2, 1), "-1 1 0");
            x.strike(1);
            Due.is("struck out", x.person(1, 1), -1);
        });
        edge("WHOLE: no MARK is GONE, and all are as GIVEN.", () -> {
            SnowNames x = altered(FLAT + "name ab on 0;name cd");
            Due.is("the last one altered", x.person(0, 3), 0);
            x.write(0, 0);
            Due.is("as given", x.person(0, 3), 1);
            Due.is("on none", x.person(1, 3), 0);
            x.strike(0);
            Due.is("struck out", x.person(0, 3), 0);
        });
        edge("USED of a FIELD: how many LETTERS those ON it have GIVEN, together.", () -> {
            SnowNames x = altered(FLAT + "field slope 0 room 20 snow 1;name abcdef on 0;name ab on 1;name abcdef on 0;name abc");
            Due.is("altered ones, too", x.field(0, 3), 12);
            Due.is("of the other one", x.field(1, 3), 2);
            x.strike(0);
            Due.is("struck out", x.field(0, 3), 6);
        });
        edge("in hundredths, rounded down (0 without)", () -> {
            SnowNames x = Due.of("name a;name b;name c;debt 0 1 1;debt 1 2 2");
            Due.is("a third", x.person(0, 8), 33);
            Due.is("two thirds", x.person(1, 8), 66);
            Due.is("nothing of it", x.person(2, 8), 0);
            Due.is("nothing is owed", Due.of("name a").person(0, 8), 0);
            Due.is("all of it", Due.of("name a;name b;debt 1 0 99;debt 1 0 99").person(1, 8), 100);
            Due.is("1 of 100", Due.of("name a;name b;debt 1 0 99;debt 0 1 1").person(0, 8), 1);
            Due.is("1 of 101", Due.of("name a;name b;debt 1 0 99;debt 1 0 1;debt 0 1 1").person(0, 8), 0);
        });
        edge("OWES of a PERSON: what it owes together less what is owed to it.", () -> {
            SnowNames x = Due.of("name a;name b;name c;debt 0 1 10;debt 1 0 4;debt 0 2 3");
            Due.is("owes", x.person(0, 7), 9);
            Due.is("below 0", x.person(1, 7), -6);
            Due.is("owes less than nothing", x.person(2, 7), -3);
            Due.is("without debts", Due.of("name a").person(0, 7), 0);
        });
        edge("NoSuchElementException: another what.", () -> {
            SnowNames x = Due.of("name a");
            for (int what : new int[] {-1, 9, LEAST, GREATEST}) {
                Due.noWhat("person(0, " + what + ")", () -> x.person(0, what));
            }
            for (int person : new int[] {-1, 1, 6, LEAST, GREATEST}) {
                Due.noIndex("person(" + person + ", 0)", () -> x.person(person, 0));
                Due.noIndex("person(" + person + ", 9)", () -> x.person(person, 9));
            }
        });
    }

    private static void is() {
        edge("the one whose GIVEN is just what it READS (of several itself, if it is one of these, else the least); none "
                + "(also of one who is ON no FIELD)", () -> {
            SnowNames x = Due.of(FLAT + "name ab;name ab on 0;name ab on 0");
            Due.is("itself", x.person(1, 4), 1);
            Due.is("itself, too", x.person(2, 4), 2);
            Due.is("on none", x.person(0, 4), -1);
            // Alone on a field, ab has its second letter altered, and abc, too.
            SnowNames y = altered(FLAT + "name ab on 0;name acd;name ac;name ac;name cc");
            Due.is("the least of those not itself", y.person(0, 4), 2);
            SnowNames z = altered(FLAT + "name ab on 0;name acd;name a;name bc;name ab;name ca");
            Due.is("none", z.person(0, 4), -1);
            SnowNames w = altered(FLAT + "name ac;name ab on 0;name ac");
            Due.is("ahead of itself", w.person(1, 4), 0);
            w.strike(1);
            Due.is("on none any more", w.person(1, 4), -1);
        });
    }

    private static void lasts() {
        edge("LASTS of a PERSON: the first N (0 to 60) IN which it is not WHOLE; none.", () -> {
            SnowNames x = Due.of("field slope 0 room 9 snow 60;field slope 0 room 9 snow 61;field slope 0 room 9 snow 1;"
                    + "field slope 2 room 9 snow 99;name a on 0;name b on 1;name c on 2;name d on 3");
            Due.is("60", x.person(0, 5), 60);
            Due.is("never", x.person(1, 5), -1);
            Due.is("1", x.person(2, 5), 1);
            Due.is("4 deep, 1 a day", x.person(3, 5), 4);
            Due.is("not whole now", altered(FLAT + "name a on 0").person(0, 5), 0);
        });
        edge("5 LASTS (NONE; 0 ON none), 6 LONGEST (NONE)", () -> {
            SnowNames x = Due.of("name a;field slope 0 room 1");
            Due.is("on none", x.person(0, 5), 0);
            Due.is("no snow anywhere", x.person(0, 6), -1);
            Due.is("no field", Due.of("name a").person(0, 6), -1);
        });
        edge("as so many DAYS on which it thaws, without (b) and (c) (no DRAWS)", () -> {
            SnowNames x = Due.of("fall 100;hares 100;wind 100;" + FLAT + "field slope 0 room 9;name a on 0");
            Due.is("till the snow is gone", x.person(0, 5), 50);
            Due.is("no draws", x.seed(1), 1);
            Due.is("no row", x.count(11), 0);
            Due.is("no day", x.count(9), 0);
        });
    }

    private static void longest() {
        edge("written there now (with ROOM or not, SNOW above 0; DEEP as it is now, wherever it is ON)", () -> {
            SnowNames x = Due.of("field slope 0 room 1 snow 5;field slope 0 room 1 snow 6;field slope 0 room 1;"
                    + "name abc;name d on 1");
            Due.is("no room is no matter", x.person(0, 6), 1);
            Due.is("of one who is there", x.person(1, 6), 1);
            x.snow(2, 7);
            Due.is("with snow it counts", x.person(0, 6), 2);
            // Deep 4 where it is whole, 8 if it were not: it is asked as it is now.
            SnowNames y = Due.of("field slope 2 room 9 snow 99;field slope 0 room 9 snow 6;name a on 0");
            Due.law(y, "deep 4 if not whole");
            Due.is("4 on the slope", y.person(0, 6), 1);
            y.strike(0);
            Due.is("8 on the slope", y.person(0, 6), 0);
            SnowNames z = Due.of("field slope 2 room 9 snow 99;field slope 2 room 9 snow 99;name a;name b;name c");
            Due.law(z, "deep 2 if field>person;deep 1 if person>1 and field<1");
            Due.is("6 of 0 on 1", z.person(0, 6), 1);
            Due.is("4 of 1 on both", z.person(1, 6), 0);
            Due.law(z, "deep 2 if person<1 and field>0;deep 1 if person>0 and field<1");
            Due.is("6 of 0 on 1", z.person(0, 6), 1);
            Due.is("5 of 1 on 0", z.person(1, 6), 0);
        });
        edge("(one with which it would never not be WHOLE being the longest; of several the least); none", () -> {
            SnowNames x = Due.of("field slope 0 room 9 snow 60;field slope 0 room 9 snow 61;field slope 0 room 9 snow 99;name a");
            Due.is("never", x.person(0, 6), 1);
            Due.is("the least of like ones", Due.of("field slope 0 room 9 snow 5;field slope 0 room 9 snow 5;name a").person(0, 6), 0);
            Due.is("by one day", Due.of("field slope 0 room 9 snow 5;field slope 0 room 9 snow 6;name a").person(0, 6), 1);
            Due.is("none", Due.of("field slope 0 room 9;name a").person(0, 6), -1);
        });
    }

    private static void letters() {
        edge("NONE without (1 to 3 of one ON none). NoSuchElementException: another what.", () -> {
            SnowNames x = Due.of(FLAT + "name ah on 0;name abcdef");
            int[][] due = {{0, 0, 4, 0}, {7, 7, 4, 7}, {-1, -1, -1, -1}};
            for (int k = 0; k < 3; k++) {
                for (int what = 0; what < 4; what++) {
                    Due.is("letter(0, " + k + ", " + what + ")", x.letter(0, k, what), due[k][what]);
                }
            }
            for (int what = 0; what < 4; what++) {
                Due.is("letter(0, -1, " + what + ")", x.letter(0, -1, what), -1);
                Due.is("letter(0, 6, " + what + ")", x.letter(0, 6, what), -1);
                Due.is("letter(0, the least, " + what + ")", x.letter(0, LEAST, what), -1);
                Due.is("letter(0, the greatest, " + what + ")", x.letter(0, GREATEST, what), -1);
                Due.is("the sixth of one on none, " + what, x.letter(1, 5, what), what == 0 ? 5 : -1);
            }
            Due.noWhat("4", () -> x.letter(0, 0, 4));
            Due.noWhat("-1", () -> x.letter(0, 0, -1));
            Due.noWhat("4 of no letter", () -> x.letter(1, 9, 4));
            Due.noIndex("nobody", () -> x.letter(2, 0, 0));
            Due.noIndex("nobody, another what", () -> x.letter(-1, 0, 4));
        });
        edge("The k-th LETTER GIVEN (what 0), of MARKS the k-th LETTER (1; of a GONE one as it was at last), its DEPTH (2)", () -> {
            SnowNames x = altered(FLAT + "name hb on 0");
            Due.is("given", x.letter(0, 0, 0) + " " + x.letter(0, 1, 0), "7 1");
            Due.is("marks", x.letter(0, 0, 1) + " " + x.letter(0, 1, 1), "7 2");
            Due.is("read", x.letter(0, 0, 3) + " " + x.letter(0, 1, 3), "7 2");
            Due.is("depth", x.letter(0, 0, 2) + " " + x.letter(0, 1, 2), "3 3");
        });
    }

    private static void debtsMeltsDeep() {
        edge("Of a DEBT what 0 who owes, 1 to whom, 2 how much. NoSuchElementException: another what.", () -> {
            SnowNames x = Due.of("name a;name b;debt 1 0 99;debt 0 1 1");
            Due.is("the first", x.debt(0, 0) + " " + x.debt(0, 1) + " " + x.debt(0, 2), "1 0 99");
            Due.is("the second", x.debt(1, 0) + " " + x.debt(1, 1) + " " + x.debt(1, 2), "0 1 1");
            Due.noWhat("3", () -> x.debt(0, 3));
            Due.noWhat("-1", () -> x.debt(0, -1));
            for (int debt : new int[] {-1, 2, 8, LEAST, GREATEST}) {
                Due.noIndex("debt(" + debt + ", 0)", () -> x.debt(debt, 0));
                Due.noIndex("debt(" + debt + ", 3)", () -> x.debt(debt, 3));
            }
        });
        edge("IndexOutOfBoundsException: there is no such FIELD, PERSON, DEBT, LETTER.", () -> {
            SnowNames x = Due.of("field slope 0 room 1;name a");
            for (int none : new int[] {-1, 1, 6, LEAST, GREATEST}) {
                Due.noIndex("melts of", () -> x.melts(none, 0));
                Due.noIndex("melts on", () -> x.melts(0, none));
                Due.noIndex("deep of", () -> x.deep(none, 0));
                Due.noIndex("deep on", () -> x.deep(0, none));
                Due.noIndex("change", () -> x.change(none, 0));
                Due.noIndex("change", () -> x.change(0, none));
                Due.noIndex("mixed", () -> x.mixed(none, 0));
                Due.noIndex("mixed", () -> x.mixed(0, none));
                Due.noIndex("together", () -> x.together(none, 0, 0));
                Due.noIndex("together", () -> x.together(0, none, 0));
                Due.noIndex("together of one that is none", () -> x.together(none, none, 0));
                Due.noIndex("share", () -> x.share(none, 0));
                Due.noIndex("share of no number", () -> x.share(none, -1));
                Due.noIndex("rests of", () -> x.rests(none, 0));
                Due.noIndex("rests on", () -> x.rests(0, none));
                Due.noIndex("ahead", () -> x.ahead(none, 0, true));
                Due.noIndex("ahead of no number", () -> x.ahead(none, 61, true));
                Due.noIndex("led", () -> x.led(none, true));
                if (none != -1) {
                    Due.noIndex("till", () -> x.till(1, none));
                    Due.noIndex("till of no number", () -> x.till(0, none));
                    Due.noIndex("pairs", () -> x.pairs(none));
                }
            }
            for (int none : new int[] {-1, 8, LEAST, GREATEST}) {
                Due.noIndex("having", () -> x.having(none));
            }
        });
    }

    private static void till() {
        edge("TILL of N (1 to 60)", () -> {
            SnowNames x = Due.of("field slope 0 room 9 snow 60;name a");
            Due.is("1", x.till(1, -1), 1);
            Due.is("59", x.till(59, -1), 1);
            Due.is("60: the snow is gone", x.till(60, -1), 0);
            x.snow(0, 1);
            Due.is("60", x.till(60, -1), 1);
            for (int n : new int[] {0, 61, -1, LEAST, GREATEST}) {
                Due.noNumber("till(" + n + ", -1)", () -> x.till(n, -1));
                Due.noNumber("till(" + n + ", 0)", () -> x.till(n, 0));
            }
        });
        edge("put anew to FIELDS of SNOW above 0, within ROOM", () -> {
            SnowNames x = Due.of("field slope 0 room 3 snow 9;field slope 0 room 9;name abc;name d");
            Due.is("one of two", x.till(1, -1), 1);
            Due.is("the first", x.till(1, 0), 0);
            Due.is("no room for the second", x.till(1, 1), -1);
            x.snow(1, 9);
            Due.is("both", x.till(1, -1), 2);
            Due.is("the second", x.till(1, 1), 1);
            SnowNames y = Due.of("field slope 0 room 4 snow 9;name abc on 0;name d");
            Due.is("all anew, just within room", y.till(1, -1) + " " + y.till(1, 1), "2 0");
            Due.is("nothing stays", y.person(1, 1), -1);
        });
        edge("(PERSON by PERSON, the FIELDS by numbers, unwritten behind all)", () -> {
            SnowNames x = Due.of("field slope 9 room 2 snow 99;field slope 0 room 1 snow 99;name a;name b;name c;name d");
            // Field 0 takes 4 a day, so that one is whole there at no day: only one on field 1 lasts.
            Due.is("one", x.till(1, -1), 1);
            Due.is("a on 0, b on 0, c on 1, d unwritten",
                    x.till(1, 0) + " " + x.till(1, 1) + " " + x.till(1, 2) + " " + x.till(1, 3), "0 0 1 -1");
            SnowNames y = Due.of("field slope 0 room 3 snow 99;name abc;name a;name b");
            Due.is("a long one gives way to two", y.till(1, -1), 2);
            Due.is("it is unwritten", y.till(1, 0) + " " + y.till(1, 1) + " " + y.till(1, 2), "-1 0 0");
        });
        edge("each written there now (DEEP as it is now, wherever it is ON; also where it will not be WHOLE)", () -> {
            SnowNames x = Due.of("field slope 2 room 9 snow 99;name a on 0;name b", "deep 3 if written");
            Due.is("7 deep and 4 deep, 1 a day", x.till(4, -1), 1);
            Due.is("3 days", x.till(3, -1), 2);
            Due.is("6 days", x.till(6, -1), 1);
            Due.is("7 days", x.till(7, -1), 0);
            Due.is("also where it will not be whole", x.till(7, 0) + " " + x.till(7, 1), "0 0");
        });
        edge("TILL: how many (person NONE), or WHERE; NONE.", () -> {
            Due.is("nobody", new SnowNames().till(1, -1), 0);
            SnowNames x = Due.of("name a");
            Due.is("no field", x.till(1, -1), 0);
            Due.is("nowhere", x.till(1, 0), -1);
        });
    }

    private static String asked(SnowNames x, String tape) {
        Due.tape(x, tape);
        int who = x.who();
        Due.is("used up", x.end(1), false);
        Due.tape(x, tape);
        int likely = x.likely();
        Due.is("used up", x.end(1), false);
        Due.tape(x, tape);
        int look = x.look();
        Due.is("used up", x.end(1), false);
        return who + " " + likely + " " + look;
    }

    private static void notRows(String tape) {
        SnowNames x = Due.of("name a;name b");
        Due.tape(x, "x");
        Due.noNumber("a wrong text", () -> x.province());
        Due.tape(x, tape);
        Due.noNumber("who", () -> x.who());
        Due.is("used up", x.end(1), false);
        Due.tape(x, tape);
        Due.noNumber("likely", () -> x.likely());
        Due.is("used up", x.end(1), false);
        Due.tape(x, tape);
        Due.noNumber("look", () -> x.look());
        Due.is("used up", x.end(1), false);
        Due.is("no text was read", x.fault(), 0);
    }

    private static void rows() {
        edge("LIKELY (the TAPE likewise); NONE. IllegalArgumentException: the TAPE is not that.", () -> {
            SnowNames x = Due.of("name a");
            Due.tape(x, "\0\1\0\1");
            Due.is("none", x.likely(), -1);
            Due.is("of an empty tape", x.likely(), 0);
            Due.tape(x, "\0\0\1");
            Due.noNumber("three bytes", () -> x.likely());
            Due.is("it is empty then", x.likely(), 0);
        });
        edge("LOOK (the TAPE likewise); NONE. IllegalArgumentException: the TAPE is not that.", () -> {
            SnowNames x = Due.of("name a;name b");
            Due.tape(x, "\0\1\0\1");
            Due.is("one fits", x.look(), -1);
            Due.is("of an empty tape", x.look(), 0);
            Due.tape(x, "\0\0\1");
            Due.noNumber("three bytes", () -> x.look());
            Due.is("it is empty then", x.look(), 0);
        });
        edge("(of each two bytes: the place 0 to 5, the LETTER 0 to 7; at most 40 bytes), as bits. IllegalArgumentException: the "
                + "TAPE is not that (none may be told)", () -> {
            SnowNames x = Due.of("name a;name b;name abcdeh");
            Due.is("none", asked(x, ""), "7 0 0");
            Due.is("0 and 0", asked(x, "\0\0"), "7 0 0");
            Due.is("5 and 7", asked(x, "\5\7"), "7 2 0");
            Due.is("40", asked(x, "\0\0".repeat(20)), "5 0 1");
            notRows("\0\0".repeat(20) + "\0");
            notRows("\0\0".repeat(21));
            notRows("\0\0".repeat(200));
            notRows("\0");
            notRows("\0\0\0");
            notRows("\6\0");
            notRows("\0\b");
            notRows("\377\0");
            notRows("\0\377");
            notRows("\0\0\1\b");
        });
    }

    private static void whoAndLook() {
        edge("PEOPLE of whose GIVEN all rows are so, but for one at most, as bits", () -> {
            SnowNames x = Due.of("name ab;name ac;name dc;name a");
            Due.is("none wrong, one, two, one", asked(x, "\0\0\1\1"), "11 0 1");
            Due.is("a wrong row told twice is two", asked(x, "\0\3\0\3"), "4 2 -1");
            Due.is("nobody", asked(x, "\5\0\5\0"), "0 -1 -1");
            Due.is("of nobody", asked(new SnowNames(), ""), "0 -1 -1");
        });
        edge("LIKELY: of those the one of the fewest wrong rows (of several the least); none", () -> {
            SnowNames x = Due.of("name b;name a;name a;name c");
            Due.is("the least of two", asked(x, "\0\0"), "15 1 0");
            Due.is("the least of all, one wrong each", asked(x, "\0\7"), "15 0 0");
            Due.is("none", asked(x, "\0\7\0\7"), "0 -1 -1");
        });
        edge("(nothing is one, too) those that fit are parted so that the greatest part is the least (of several the least; "
                + "none with fewer than two)", () -> {
            Due.is("one", asked(Due.of("name a"), ""), "1 0 -1");
            Due.is("two like ones", asked(Due.of("name a;name a"), ""), "3 0 0");
            Due.is("by nothing at place 5", asked(Due.of("name aaaaaa;name aaaaa"), ""), "3 0 5");
            Due.is("the least of two places", asked(Due.of("name aba;name aab"), ""), "3 0 1");
            Due.is("2 and 1 ahead of 3", asked(Due.of("name aa;name aa;name ab"), ""), "7 0 1");
            Due.is("1 each ahead of 2 and 1", asked(Due.of("name aaa;name abb;name aac"), ""), "7 0 2");
            Due.is("those alone that fit", asked(Due.of("name aaa;name aab;name bba;name cba;name dba"), "\0\0\1\0"), "3 0 2");
        });
    }

    private static void places() {
        edge("all GIVEN are told apart: of several the least as bits (0 of one, or nobody); none (two GIVEN are alike)", () -> {
            Due.is("nobody", new SnowNames().places(), 0);
            Due.is("one", Due.of("name abc").places(), 0);
            Due.is("alike", Due.of("name ab;name ab").places(), -1);
            Due.is("alike, far apart", Due.of("name ab;name c;name d;name e;name f;name ab").places(), -1);
            Due.is("by nothing", Due.of("name a;name aa").places(), 2);
            Due.is("by nothing at the last place", Due.of("name aaaaa;name aaaaaa").places(), 32);
            Due.is("the least of six", Due.of("name aaaaaa;name bbbbbb").places(), 1);
            Due.is("the fewest ahead of the least", Due.of("name aaa;name abb;name bac").places(), 4);
            Due.is("two of three", Due.of("name aaa;name abb;name baa;name bbb").places(), 3);
            Due.is("all six", Due.of("name aaaaaa;name baaaaa;name abaaaa;name aabaaa;name aaabaa;name aaaaba").places(), 31);
        });
    }

    private static void changeAndMixed() {
        edge("the fewest LETTERS put in, taken out or changed for another one", () -> {
            SnowNames x = Due.of("name abcdef;name a;name ghghgh;name bcdefg;name acdef;name abccde");
            Due.is("with itself", x.change(0, 0), 0);
            Due.is("taken out", x.change(0, 1), 5);
            Due.is("put in", x.change(1, 0), 5);
            Due.is("changed, all", x.change(0, 2), 6);
            Due.is("one out, one in", x.change(0, 3), 2);
            Due.is("one out", x.change(0, 4), 1);
            Due.is("one in, one out", x.change(0, 5), 2);
            Due.is("one of one", Due.of("name a;name h").change(0, 1), 1);
            Due.is("one in the middle", Due.of("name aba;name aca").change(0, 1), 1);
        });
        edge("(a behind h). SAFE", () -> {
            SnowNames x = Due.of("name h;name a;name g;name b");
            Due.is("h, a", x.mixed(0, 1), true);
            Due.is("a, h", x.mixed(1, 0), true);
            Due.is("g, h", x.mixed(2, 0), true);
            Due.is("a, b", x.mixed(1, 3), true);
            Due.is("h, b", x.mixed(0, 3), false);
            Due.is("g, a", x.mixed(2, 1), false);
        });
        edge("whether their GIVEN are of one length and are unlike at one place just", () -> {
            SnowNames x = Due.of("name aa;name ab;name bb;name aab;name a;name ad");
            Due.is("one place", x.mixed(0, 1), true);
            Due.is("two places", x.mixed(0, 2), false);
            Due.is("one longer", x.mixed(1, 3), false);
            Due.is("one shorter", x.mixed(0, 4), false);
            Due.is("too far", x.mixed(0, 5), false);
            Due.is("the last place of six", Due.of("name aaaaaa;name aaaaab").mixed(0, 1), true);
        });
        edge("MIXED (not of one with itself)", () -> {
            SnowNames x = Due.of("name a;name a");
            Due.is("itself", x.mixed(0, 0), false);
            Due.is("one alike", x.mixed(0, 1), false);
        });
    }

    private static void safe() {
        edge("SAFE: the most PEOPLE no two of whom are MIXED: of several the least as bits.", () -> {
            Due.is("nobody", new SnowNames().safe(), 0);
            Due.is("one", Due.of("name a").safe(), 1);
            Due.is("one of two", Due.of("name a;name b").safe(), 1);
            Due.is("like ones are safe", Due.of("name a;name a").safe(), 3);
            Due.is("the ends of three", Due.of("name b;name a;name c").safe(), 6);
            Due.is("the least of several pairs", Due.of("name a;name b;name c;name d").safe(), 5);
            Due.is("three of six in a row", Due.of(SIX + "day 1").safe(), 21);
            Due.is("all six", Due.of("name a;name c;name e;name g;name aa;name aaa").safe(), 63);
        });
    }

    private static String row(SnowNames x, int p, int q) {
        StringBuilder b = new StringBuilder();
        for (int k = 0; k < x.together(p, q, -1); k++) {
            b.append((char) ('a' + x.together(p, q, k)));
        }
        Due.is("behind it", x.together(p, q, b.length()), -1);
        return b.toString();
    }

    private static void together() {
        edge("(if both orders are as short, that which begins with the first one's GIVEN; if one is a run of the other one, or "
                + "both are alike, that is the row)", () -> {
            SnowNames x = Due.of("name ab;name ba;name cab;name a;name ab;name dcabdc");
            Due.is("both orders", row(x, 0, 1), "aba");
            Due.is("both orders turned", row(x, 1, 0), "bab");
            Due.is("a run at the end", row(x, 0, 2), "cab");
            Due.is("a run at the end turned", row(x, 2, 0), "cab");
            Due.is("a run of one", row(x, 3, 2), "cab");
            Due.is("alike", row(x, 0, 4), "ab");
            Due.is("a run in the middle", row(x, 2, 5), "dcabdc");
            SnowNames y = Due.of("name ab;name cd;name da;name abcdef;name ghghgh");
            Due.is("nothing alike", row(y, 0, 1), "abcd");
            Due.is("nothing alike turned", row(y, 1, 0), "cdab");
            Due.is("the other order is shorter", row(y, 0, 2), "dab");
            Due.is("this order is shorter", row(y, 2, 0), "dab");
            Due.is("twelve", row(y, 3, 4), "abcdefghghgh");
        });
        edge("TOGETHER: how many LETTERS (k NONE), or the k-th one; NONE without. IllegalArgumentException: both are one.", () -> {
            SnowNames x = Due.of("name abc;name cde");
            Due.is("five", x.together(0, 1, -1), 5);
            Due.is("the first", x.together(0, 1, 0), 0);
            Due.is("the last", x.together(0, 1, 4), 4);
            for (int k : new int[] {5, 11, 12, -2, LEAST, GREATEST}) {
                Due.is("together(0, 1, " + k + ")", x.together(0, 1, k), -1);
                Due.noNumber("both are one", () -> x.together(1, 1, k));
            }
            Due.noNumber("both are one", () -> x.together(0, 0, -1));
        });
    }

    private static void settleAndRing() {
        edge("SETTLE: the fewest payments, each from one to another one of some amount, by which all OWES would be 0", () -> {
            Due.is("nobody", new SnowNames().settle(), 0);
            Due.is("one", Due.of("name a").settle(), 0);
            Due.is("no debts", Due.of(SIX + "day 1").settle(), 0);
            Due.is("all even", Due.of("name a;name b;name c;debt 0 1 5;debt 1 2 5;debt 2 0 5").settle(), 0);
            Due.is("six of whom none fit", Due.of(SIX + "debt 0 1 1;debt 0 2 2;debt 0 3 4;debt 0 4 8;debt 0 5 16").settle(), 5);
            Due.is("three twos", Due.of(SIX + "debt 0 1 1;debt 2 3 2;debt 4 5 3").settle(), 3);
            Due.is("two threes", Due.of(SIX + "debt 0 1 1;debt 0 2 2;debt 3 4 5;debt 3 5 9").settle(), 4);
            SnowNames x = Due.of(SIX + "day 1");
            Due.is("none", x.settle(), 0);
            x.lend(0, 1, 5);
            Due.is("one", x.settle(), 1);
            x.lend(1, 2, 3);
            Due.is("two", x.settle(), 2);
            x.lend(3, 4, 9);
            Due.is("three", x.settle(), 3);
            x.undo();
            x.undo();
            Due.is("one again", x.settle(), 1);
            // 0 owes 3, 1 owes 5; 2, 3, 4 are owed 1, 2, 5, though the debts run across.
            Due.is("across", Due.of(SIX + "debt 0 4 3;debt 1 2 1;debt 1 3 2;debt 1 4 2").settle(), 3);
        });
        edge("(two at least): how many; none", () -> {
            Due.is("nobody", new SnowNames().ring(), -1);
            Due.is("no debts", Due.of(SIX + "day 1").ring(), -1);
            Due.is("two", Due.of("name a;name b;debt 0 1 1;debt 1 0 99").ring(), 2);
            Due.is("one way, twice", Due.of("name a;name b;debt 0 1 1;debt 0 1 1").ring(), -1);
            Due.is("all six", Due.of(SIX + "debt 5 4 1;debt 4 3 1;debt 3 2 1;debt 2 1 1;debt 1 0 1;debt 0 5 1").ring(), 6);
            Due.is("the fewest of two", Due.of(SIX + "debt 0 1 1;debt 1 2 1;debt 2 3 1;debt 3 0 1;debt 3 4 1;debt 4 2 1").ring(), 3);
            Due.is("all ways down", Due.of(SIX + "debt 0 1 1;debt 0 2 1;debt 1 2 1;debt 2 3 1;debt 3 4 1;debt 0 5 1").ring(), -1);
        });
    }

    private static void poorestAndClear() {
        edge("POOREST: the PERSON that OWES the most, were it 0 or below (of several the least; none)", () -> {
            Due.is("nobody", new SnowNames().poorest(), -1);
            Due.is("one of 0", Due.of("name a").poorest(), 0);
            Due.is("the least of 0", Due.of(SIX + "day 1").poorest(), 0);
            Due.is("0 ahead of below 0", Due.of("name a;name b;name c;debt 0 1 5;debt 1 0 5;debt 2 0 1").poorest(), 2);
            Due.is("the most", Due.of("name a;name b;name c;debt 0 2 5;debt 1 2 6").poorest(), 1);
            Due.is("of several the least", Due.of("name a;name b;name c;debt 1 0 5;debt 2 0 5").poorest(), 1);
        });
        edge("CLEAR: PEOPLE without any DEBT, theirs or of others to them, as bits.", () -> {
            Due.is("nobody", new SnowNames().clear(), 0);
            Due.is("all", Due.of(SIX + "day 1").clear(), 63);
            Due.is("but both of one debt", Due.of(SIX + "debt 5 0 1").clear(), 30);
            Due.is("none", Due.of("name a;name b;debt 0 1 1;debt 1 0 1").clear(), 0);
        });
    }

    private static String strikes(String text) {
        SnowNames x = Due.of(text);
        return x.wins() + " " + x.first();
    }

    private static void struck() {
        edge("who strikes the last one wins: WINS: whether the first one does, both at their best", () -> {
            Due.is("nobody", strikes(""), "false -1");
            Due.is("nobody on a field", strikes("name abcdef;name a"), "false -1");
            Due.is("one letter", strikes(FLAT + "name a on 0"), "true 1");
            Due.is("two letters", strikes(FLAT + "name ab on 0"), "true 2");
            Due.is("three: the middle one", strikes(FLAT + "name abc on 0"), "true 11");
            Due.is("four: both in the middle", strikes(FLAT + "name abcd on 0"), "true 12");
            Due.is("five: the middle one", strikes(FLAT + "name abcde on 0"), "true 21");
            // Of six: 1 and 4 are worth as much, ahead of the two in the middle.
            Due.is("six: the second one", strikes(FLAT + "name abcdef on 0"), "true 11");
            Due.is("two alike", strikes(FLAT + "name abcdef on 0;name fedcba on 0"), "false -1");
            Due.is("1 and 4 are worth as much", strikes(FLAT + "name a on 0;name abcd on 0"), "false -1");
            Due.is("3 and 6 are worth as much", strikes(FLAT + "name abc on 0;name abcdef on 0"), "false -1");
        });
        edge("STRIKE: her first strike so: 100 times the PERSON and 10 times the place in READ (from 0 on) and how many (1 or 2; "
                + "the least such number); none.", () -> {
            Due.is("the last person", strikes(FLAT + "name a;name a;name a;name a;name a;name a on 0"), "true 501");
            Due.is("the least person", strikes(FLAT + "name a on 0;name a on 0;name a on 0"), "true 1");
            Due.is("of 1 and 2: one of the second", strikes(FLAT + "name a on 0;name ab on 0"), "true 101");
            Due.is("of 3 and 5: 3 is to be made of 5, by two at its end", strikes(FLAT + "name abc on 0;name abcde on 0"), "true 102");
            Due.is("of 6 and 2: 1 and 3 of 6 are worth 2", strikes(FLAT + "name abcdef on 0;name ab on 0"), "true 12");
        });
    }

    private static String paired(String text) {
        SnowNames x = Due.of(text);
        StringBuilder b = new StringBuilder();
        b.append(x.pairs(-1));
        for (int p = 0; p < x.count(1); p++) {
            b.append(' ').append(x.pairs(p));
        }
        return b.toString();
    }

    private static void pairs() {
        edge("LETTERS that both GIVEN have (each kind once) are together the most: how many", () -> {
            Due.is("nobody", paired(""), "0");
            Due.is("each kind once", paired("name aaa;name aa"), "1 1 0");
            Due.is("all eight kinds are too many for a name", paired("name abcdef;name cdefgh"), "4 1 0");
            Due.is("six", paired("name abcdef;name fedcba"), "6 1 0");
        });
        edge("with whom one is in the first such way (PERSON by PERSON, none being the least, then the others); none", () -> {
            Due.is("one", paired("name a"), "0 -1");
            Due.is("nothing in common: with nobody", paired("name a;name b"), "0 -1 -1");
            Due.is("none is the least", paired("name ab;name a;name a"), "1 -1 2 1");
            Due.is("then the others", paired("name a;name a;name a;name a"), "2 1 0 3 2");
            Due.is("three pairs", paired("name a;name b;name c;name c;name a;name b"), "3 4 5 3 2 0 1");
            SnowNames x = Due.of("name a");
            Due.noIndex("nobody", () -> x.pairs(1));
            Due.noIndex("nobody", () -> x.pairs(-2));
        });
    }

    private static void share() {
        edge("SHARE of N (0 to 99)", () -> {
            SnowNames x = Due.of("field slope 0 room 9");
            Due.is("0", x.share(0, 0), 0);
            Due.is("99", x.share(0, 99), 99);
            for (int n : new int[] {-1, 100, LEAST, GREATEST}) {
                Due.noNumber("share(0, " + n + ")", () -> x.share(0, n));
                Due.noIndex("share(1, " + n + ")", () -> x.share(1, n));
            }
        });
        edge("whose ROOM, by 1 more than the sledges it has so far, rounded down, is the most (of several the least)", () -> {
            SnowNames x = Due.of("field slope 0 room 5;field slope 0 room 2;field slope 0 room 2");
            // 5 | 2 and 2 and 2: the least first | then 1 each: field 0 till its sledges are 5.
            int[][] due = {{0, 0, 0}, {1, 0, 0}, {2, 0, 0}, {2, 1, 0}, {2, 1, 1}, {3, 1, 1}, {4, 1, 1}, {5, 1, 1}, {5, 2, 1},
                {5, 2, 2}, {6, 2, 2}, {7, 2, 2}};
            for (int n = 0; n < due.length; n++) {
                for (int f = 0; f < 3; f++) {
                    Due.is("share(" + f + ", " + n + ")", x.share(f, n), due[n][f]);
                }
            }
        });
    }

    private static void rests() {
        edge("choices (2 times the clerk's and the sun's) from which neither would have more by its other one: as bits", () -> {
            SnowNames x = Due.of("field slope 0 room 9;field slope 1 room 9;name a", "melt 4");
            // Flat: writing and shone he has 0, as waiting and shone; the sun has 2, or 0 as if it did not shine.
            Due.is("both on the flat", x.rests(0, 0), 5);
            Due.is("on a slope the sun would not", x.rests(0, 1), 1);
            Due.law(x, "melt 3");
            Due.is("he has 1 by writing", x.rests(0, 0), 1);
            Due.law(x, "melt 5");
            Due.is("he has less than 0 by writing", x.rests(0, 0), 4);
            Due.is("nothing rests", x.rests(0, 1), 0);
            SnowNames y = Due.of("field slope 0 room 9;field slope 0 room 9;name a;name b", "melt 5;deep 2 if field>person");
            Due.is("deep 6 of 0 on 1: by writing he has 1", y.rests(0, 1), 1);
            Due.is("deep 4 of 1 on 0: by writing he has -1", y.rests(1, 0), 4);
        });
    }

    private static void odds() {
        edge("ODDS of N DAYS (0 to 5) and K (0 to 5): that hares come on K of them at least, each by HARES, in ten thousandths, "
                + "rounded down", () -> {
            SnowNames x = Due.of("hares 50");
            int[][] due = {{10000, 0, 0, 0, 0, 0}, {10000, 5000, 0, 0, 0, 0}, {10000, 7500, 2500, 0, 0, 0},
                {10000, 8750, 5000, 1250, 0, 0}, {10000, 9375, 6875, 3125, 625, 0}, {10000, 9687, 8125, 5000, 1875, 312}};
            for (int n = 0; n < 6; n++) {
                for (int k = 0; k < 6; k++) {
                    Due.is("odds(" + n + ", " + k + ")", x.odds(n, k), due[n][k]);
                }
            }
            for (int none : new int[] {-1, 6, LEAST, GREATEST}) {
                Due.noNumber("odds(" + none + ", 0)", () -> x.odds(none, 0));
                Due.noNumber("odds(0, " + none + ")", () -> x.odds(0, none));
            }
            Due.is("never", Due.of("hares 0").odds(5, 1), 0);
            Due.is("0 of never", Due.of("hares 0").odds(5, 0), 10000);
            Due.is("always", Due.of("hares 100").odds(5, 5), 10000);
            Due.is("one in a hundred, twice", Due.of("hares 1").odds(2, 2), 1);
            Due.is("one in a hundred, thrice", Due.of("hares 1").odds(3, 3), 0);
            Due.is("all but one in a hundred, five times", Due.of("hares 99").odds(5, 5), 9509);
        });
    }

    private static void most() {
        edge("WIDEST: the FIELD of the most ROOM left (ROOM less USED)", () -> {
            SnowNames x = Due.of("field slope 0 room 6 snow 9;field slope 0 room 5 snow 9;name ab");
            Due.is("6", x.most(0), 0);
            x.write(0, 0);
            Due.is("4 and 5", x.most(0), 1);
            // Blown on beyond its room: 0 left and 1 less than none.
            SnowNames y = Due.of("wind 100;fall 100;field slope 0 room 2 snow 9;field slope 0 room 1 snow 9;field slope 0 room 2 snow 9;"
                    + "name ab on 0;name ab on 2;name c on 1");
            y.days(1);
            Due.is("room left", y.most(0), 2);
            Due.is("used beyond room", y.field(1, 3) - y.field(1, 2), 1);
        });
        edge("SNOWIEST: of the most SNOW; LONGEST NAME: the PERSON of the most LETTERS GIVEN (of several the least; none, each)", () -> {
            SnowNames x = new SnowNames();
            Due.is("none, each", x.most(0) + " " + x.most(1) + " " + x.most(2), "-1 -1 -1");
            Due.province(x, "field slope 0 room 1;field slope 0 room 1");
            Due.is("the least, without snow", x.most(0) + " " + x.most(1) + " " + x.most(2), "0 0 -1");
            x.snow(1, 1);
            Due.is("1 of snow", x.most(1), 1);
            x.snow(0, 1);
            Due.is("as much", x.most(1), 0);
            Due.is("the longest", Due.of("name ab;name abc;name abc;name a").most(2), 1);
            Due.is("the last one", Due.of("name a;name a;name a;name a;name a;name ab").most(2), 5);
        });
        edge("WIDEST (what 0), SNOWIEST (1), LONGEST NAME (2); NONE. NoSuchElementException: another what.", () -> {
            SnowNames x = new SnowNames();
            for (int what : new int[] {-1, 3, LEAST, GREATEST}) {
                Due.noWhat("most(" + what + ")", () -> x.most(what));
            }
        });
    }

    private static void sets() {
        edge("Sets are bits; of none they count for nothing.", () -> {
            SnowNames x = new SnowNames();
            Due.is("written", x.written(false), 0);
            Due.is("whole", x.written(true), 0);
            Due.is("having", x.having(0), 0);
            Due.is("safe", x.safe(), 0);
            Due.is("clear", x.clear(), 0);
            Due.is("places", x.places(), 0);
            Due.is("trial", x.trial(0, false), 0);
            Due.is("who", asked(x, "\0\0"), "0 -1 -1");
            Due.is("there", Due.of("field slope 0 room 1").field(0, 4), 0);
            Due.is("twins", x.twins(), 0);
        });
        edge("WRITTEN ones, WHOLE ones, as bits.", () -> {
            SnowNames x = altered(FLAT + "name a;name b on 0;name c on 0;name d");
            // 10113 modulo 2 is 1: c.
            Due.is("written", x.written(false), 6);
            Due.is("whole", x.written(true), 2);
            Due.is("all six", Due.of(FLAT + ("name a on 0;").repeat(6) + "day 1").written(true), 63);
        });
        edge("TWINS: pairs of PEOPLE of like GIVEN: how many.", () -> {
            Due.is("one", Due.of("name a").twins(), 0);
            Due.is("two", Due.of("name ab;name ab").twins(), 1);
            Due.is("three", Due.of("name ab;name ab;name ab").twins(), 3);
            Due.is("six", Due.of("name a;name a;name a;name a;name a;name a").twins(), 15);
            Due.is("one a begin of the other one", Due.of("name ab;name a").twins(), 0);
        });
        edge("HAVING a LETTER: PEOPLE whose GIVEN has it, as bits.", () -> {
            SnowNames x = altered(FLAT + "name a on 0;name b;name bca;name h");
            Due.is("as given, not as altered", x.having(0), 5);
            Due.is("b", x.having(1), 6);
            Due.is("h", x.having(7), 8);
            Due.is("none", x.having(6), 0);
            Due.noIndex("8", () -> x.having(8));
            Due.noIndex("-1", () -> x.having(-1));
        });
    }

    private static void ahead() {
        edge("IN N DAYS of a FIELD SNOW (people false), or PEOPLE THERE, as bits. IllegalArgumentException: N is none.", () -> {
            SnowNames x = Due.of("fall 100;wind 100;field slope 0 room 9 snow 60;field slope 0 room 9 snow 3;name a on 0;name b on 1");
            Due.is("0", x.ahead(0, 0, false) + " " + x.ahead(1, 0, true), "60 2");
            Due.is("2", x.ahead(1, 2, false) + " " + x.ahead(1, 2, true), "1 2");
            Due.is("3", x.ahead(1, 3, false) + " " + x.ahead(1, 3, true), "0 0");
            Due.is("59", x.ahead(0, 59, false) + " " + x.ahead(0, 59, true), "1 1");
            Due.is("60", x.ahead(0, 60, false) + " " + x.ahead(0, 60, true), "0 0");
            for (int n : new int[] {-1, 61, LEAST, GREATEST}) {
                Due.noNumber("ahead(0, " + n + ")", () -> x.ahead(0, n, false));
            }
        });
        edge("IN N DAYS (0 to 60): as so many DAYS on which it thaws", () -> {
            SnowNames x = Due.of("day 98;" + FLAT + "name a on 0", "melt 4 if day<1");
            // The days 98 and 99 go by, and that of 100 takes it.
            Due.is("on day 100", x.ahead(0, 2, true), 1);
            Due.is("behind it", x.ahead(0, 3, true), 0);
            Due.is("lasts", x.person(0, 5), 3);
        });
    }

    private static void trialAndSpan() {
        edge("TRIAL of N DAYS (0 to 60) from now (draws, too; nothing stays)", () -> {
            SnowNames x = Due.of("hares 30;wind 20;field slope 1 room 9 snow 30;field slope 0 room 9 snow 30;"
                    + "name ab on 0;name cd on 1;name e");
            x.seed(77);
            String before = Seen.all(x);
            Due.is("today", x.trial(0, false) + " " + x.trial(0, true), "3 60");
            int written = x.trial(60, false);
            int snow = x.trial(60, true);
            Due.is("nothing stays", Seen.all(x), before);
            Due.is("no act", x.count(12), 0);
            x.days(60);
            Due.is("as it comes then", x.written(false) + " " + x.count(10), written + " " + snow);
            for (int n : new int[] {-1, 61, LEAST, GREATEST}) {
                Due.noNumber("trial(" + n + ")", () -> x.trial(n, true));
                Due.noNumber("trial(" + n + ")", () -> x.trial(n, false));
            }
        });
        edge("SPAN: the least and the greatest number of WHOLE ones so from SEED 1, 2, .. 6.", () -> {
            SnowNames x = Due.of("hares 30;" + FLAT + "field slope 4 room 9 snow 30;name ab on 0;name cd on 1;name e on 1");
            x.seed(77);
            String before = Seen.all(x);
            int least = x.span(3, false);
            int greatest = x.span(3, true);
            Due.is("today", x.span(0, false) + " " + x.span(0, true), "3 3");
            Due.is("nothing stays", Seen.all(x), before);
            int fewest = 9;
            int most = -1;
            for (int seed = 1; seed <= 6; seed++) {
                x.seed(seed);
                x.days(3);
                fewest = Math.min(fewest, Integer.bitCount(x.written(true)));
                most = Math.max(most, Integer.bitCount(x.written(true)));
                x.undo();
            }
            Due.is("the least and the greatest", least + " " + greatest, fewest + " " + most);
            Due.is("nobody", new SnowNames().span(60, false) + " " + new SnowNames().span(60, true), "0 0");
        });
        edge("so from SEED 1, 2, .. 6", () -> {
            // Of each row one seed alone makes the least or the greatest: 1, 2, .. 6; of the last two 0 and 7 would.
            int[][] due = {{2, 20, 40, 0, 2}, {1, 0, 10, 1, 2}, {1, 10, 0, 0, 1}, {1, 20, 20, 0, 2}, {1, 0, 50, 1, 2},
                {3, 40, 100, 0, 2}, {1, 0, 5, 1, 1}, {1, 0, 60, 2, 2}};
            for (int[] one : due) {
                SnowNames x = Due.of("hares " + one[1] + ";fall " + one[2] + ";field slope 9 room 9 snow 9;"
                        + "field slope 0 room 9 snow 9;name a on 0;name b on 1");
                Due.is("the least of hares " + one[1] + ", fall " + one[2], x.span(one[0], false), one[3]);
                Due.is("the greatest of hares " + one[1] + ", fall " + one[2], x.span(one[0], true), one[4]);
            }
        });
        edge("SPAN: the least (most false), or the greatest. IllegalArgumentException: N is none (0 to 60).", () -> {
            SnowNames x = Due.of(FLAT + "name a on 0");
            for (int n : new int[] {-1, 61, LEAST, GREATEST}) {
                Due.noNumber("span(" + n + ")", () -> x.span(n, true));
                Due.noNumber("span(" + n + ")", () -> x.span(n, false));
            }
            Due.is("60", x.span(60, false) <= x.span(60, true), true);
        });
    }
}
