import java.io.IOException;
import java.nio.file.Files;
import java.nio.file.Path;

/** Each sentence of the document that names an edge of the tape and of the texts, with a test of its own. */
public final class EdgesOfTextsTest {
    private static final String TWO = "name a;name b;";
    private static final String SNOWY = "field slope 0 room 3 snow 1;";

    private static String doc = "";

    public static void main(String[] args) throws IOException {
        doc = Files.readString(Path.of("../shared/DOC.md"));
        tape();
        bounds();
        names();
        namesOn();
        debts();
        linesAndTexts();
        signs();
        firstWrongByte();
        lawBounds();
        lawWithin();
        lawWrong();
        kept();
        Due.end("EdgesOfTextsTest");
    }

    private static void edge(String sentence, Runnable test) {
        Due.sentence(doc, sentence, test);
    }

    /** Of a text on a new object: -1 if it is right, else its first wrong byte. */
    private static int province(String text) {
        return faultOf(new SnowNames(), text, false);
    }

    private static int law(String text) {
        return faultOf(new SnowNames(), text, true);
    }

    private static int faultOf(SnowNames x, String text, boolean law) {
        Due.tape(x, text);
        try {
            int answer = law ? x.law() : x.province();
            Due.is("a right one's answer", answer, law ? x.count(4) : x.count(3));
            Due.is("a right one's fault()", x.fault(), -1);
            return -1;
        } catch (IllegalArgumentException e) {
            Due.is("a wrong one's fault() is one of its bytes or its length", x.fault() >= 0 && x.fault() <= text.length(), true);
            return x.fault();
        }
    }

    private static void right(String text) {
        Due.is(text, province(text), -1);
    }

    private static void wrong(String text, int at) {
        Due.is(text, province(text), at);
    }

    private static void rightLaw(String text) {
        Due.is(text, law(text), -1);
    }

    private static void wrongLaw(String text, int at) {
        Due.is(text, law(text), at);
    }

    private static String times(int n, String line) {
        return String.join(";", java.util.Collections.nCopies(n, line));
    }

    private static void tape() {
        edge("A province without FIELDS.", () -> {
            SnowNames x = new SnowNames();
            Due.is("fields", x.count(0), 0);
            Due.is("people", x.count(1), 0);
            Due.noIndex("field 0", () -> x.field(0, 0));
            Due.noIndex("person 0", () -> x.person(0, 0));
            Due.noIndex("debt 0", () -> x.debt(0, 0));
        });
        edge("Twenty bytes come behind the TAPE, of each number the highest first", () -> {
            SnowNames x = new SnowNames();
            // "hares 12;", "wind 34;", "day 5", each sign but the first one of a number in a lower byte.
            Due.is("20", x.feed(0x68617265, 0x73203132, 0x3b77696e, 0x64203334, 0x3b646179), 20);
            Due.is("behind", x.feed(0x20357878, -1, 0, Integer.MIN_VALUE, Integer.MAX_VALUE), 40);
            Due.is("cut", x.end(22), true);
            Due.is("read", x.province(), 1);
            Due.is("hares, wind and day", x.count(7) + " " + x.count(8) + " " + x.count(9), "12 34 5");
        });
        edge("NONE, and none come, if it would have more than 400", () -> {
            SnowNames x = new SnowNames();
            for (int i = 1; i <= 20; i++) {
                Due.is("feed " + i, x.feed(0x20202020, 0x20202020, 0x20202020, 0x20202020, 0x20202020), 20 * i);
            }
            Due.is("420", x.feed(1, 1, 1, 1, 1), -1);
            Due.is("none came: 401", x.end(401), false);
            Due.is("381", x.end(381), true);
            Due.is("401", x.feed(1, 1, 1, 1, 1), -1);
            Due.is("none came: 382", x.end(382), false);
            Due.is("380", x.end(380), true);
            Due.is("just 400", x.feed(0x20202020, 0x20202020, 0x20202020, 0x20202020, 0x20202020), 400);
            Due.is("a text of 400", x.province(), 1);
        });
        edge("false, and nothing happens, if it has fewer, or n is below 0", () -> {
            SnowNames x = new SnowNames();
            Due.is("0 of none", x.end(0), true);
            Due.is("1 of none", x.end(1), false);
            Due.tape(x, "flakes 7");
            Due.is("fewer", x.end(9), false);
            Due.is("far fewer", x.end(Integer.MAX_VALUE), false);
            Due.is("below 0", x.end(-1), false);
            Due.is("far below 0", x.end(Integer.MIN_VALUE), false);
            Due.is("just all", x.end(8), true);
            Due.is("all of it is there", x.province(), 1);
            Due.is("flakes", x.count(5), 7);
        });
        edge("The TAPE has its first n bytes alone", () -> {
            SnowNames x = new SnowNames();
            Due.tape(x, "fall 10;name abc");
            x.end(14);
            Due.is("a word cut", x.province(), 1);
            Due.is("one letter", x.person(0, 0), 1);
            Due.tape(x, "fall 100");
            x.end(6);
            Due.is("a number cut", x.province(), 2);
            Due.is("one digit", x.count(6), 1);
            Due.tape(x, "melt 1 if owes");
            x.end(13);
            Due.noNumber("a word cut that is none", () -> x.law());
            Due.is("its begin", x.fault(), 10);
            Due.tape(x, "day 1;day 2");
            x.end(6);
            Due.noNumber("a line cut", () -> x.province());
            Due.is("the length that is left", x.fault(), 6);
        });
        edge("if it would have more than 400", () -> {
            for (String last : new String[] {"name abcdef", "day 999", "field slope 9 room 1 snow 5"}) {
                Due.is(last + ", of 400", province(" ".repeat(400 - last.length()) + last), -1);
            }
            for (String last : new String[] {"melt 1 if owes", "melt 40", "melt 1 if(owes)", "melt 1 if 1<2"}) {
                Due.is(last + ", of 400", law(" ".repeat(400 - last.length()) + last), -1);
            }
            for (String last : new String[] {"name", "day 1;", "name abcdef on", "field slope"}) {
                Due.is(last + ", of 400", province(" ".repeat(400 - last.length()) + last), 400);
            }
            for (String last : new String[] {"melt", "melt 1;", "melt 1 if", "melt 1 if(owes", "melt 1 if 1<"}) {
                Due.is(last + ", of 400", law(" ".repeat(400 - last.length()) + last), 400);
            }
            wrong(" ".repeat(399) + "x", 399);
            // As many parts as there is room for.
            rightLaw("melt 1 if 0" + "+0".repeat(193) + "<1");
            rightLaw("keep 5 if owes" + " or owes".repeat(48));
            rightLaw("melt 1;".repeat(11) + "deep 1 if " + "owes or owes and ".repeat(17) + " whole");
        });
        edge("Uses the TAPE up: a text of THE PROVINCE: how many there are. IllegalArgumentException: it is wrong; "
                + "UnsupportedOperationException: there are 12.", () -> {
            SnowNames x = new SnowNames();
            for (int i = 1; i <= 12; i++) {
                Due.is("text " + i, Due.province(x, "wind " + i), i);
                Due.is("used up", x.end(1), false);
            }
            Due.tape(x, "wind 13");
            Due.fails("a right 13th", UnsupportedOperationException.class, () -> x.province());
            Due.is("used up", x.end(1), false);
            Due.is("it was read", x.fault(), -1);
            Due.tape(x, "wind 101");
            Due.noNumber("a wrong 13th is wrong first", () -> x.province());
            Due.is("used up", x.end(1), false);
            Due.is("it was read", x.fault(), 5);
            Due.fails("an empty 13th", UnsupportedOperationException.class, () -> x.province());
            Due.is("the twelfth stands", x.count(8), 12);
            Due.is("twelve", x.count(3), 12);
        });
        edge("Uses the TAPE up: THE LAW: how many LINES.", () -> {
            SnowNames x = new SnowNames();
            Due.is("two", Due.law(x, "melt 1;deep 1"), 2);
            Due.is("used up", x.end(1), false);
            Due.is("an empty tape has none", x.law(), 0);
            Due.tape(x, "melt");
            Due.noNumber("wrong", () -> x.law());
            Due.is("used up", x.end(1), false);
        });
        edge("The first wrong byte of the latest text that was read; NONE without one, and ahead of any.", () -> {
            SnowNames x = new SnowNames();
            Due.is("ahead of any", x.fault(), -1);
            Due.is("a wrong one", faultOf(x, "  x", false), 2);
            Due.is("a right one", faultOf(x, "day 1", false), -1);
            Due.is("a wrong one of the law", faultOf(x, "keep 1 if", true), 9);
            Due.is("a wrong one at its first byte", faultOf(x, "x", false), 0);
            Due.is("a right one of the law", faultOf(x, "keep 1", true), -1);
        });
    }

    private static void bounds() {
        edge("FIELDS (at most 6, numbered from 0 on)", () -> {
            right(times(6, "field slope 1 room 1"));
            wrong(times(7, "field slope 1 room 1"), 126);
            SnowNames x = Due.of(times(6, "field slope 1 room 1"));
            Due.is("the last one", x.field(5, 0), 1);
            Due.noIndex("a seventh one", () -> x.field(6, 0));
            Due.is("in a later text", faultOf(x, "day 1;field slope 1 room 1", false), 6);
            Due.is("six still", x.count(0), 6);
        });
        edge("SLOPE 0 to 9", () -> {
            right("field slope 0 room 1");
            right("field slope 9 room 1");
            wrong("field slope 10 room 1", 12);
            wrong("field slope -1 room 1", 12);
        });
        edge("SNOW 0 to 99 (0 at first)", () -> {
            right("field slope 0 room 1 snow 0");
            right("field slope 0 room 1 snow 99");
            wrong("field slope 0 room 1 snow 100", 26);
            Due.is("0 at first", Due.of("field slope 0 room 1").field(0, 1), 0);
        });
        edge("ROOM 1 to 20", () -> {
            right("field slope 0 room 1");
            right("field slope 0 room 20");
            wrong("field slope 0 room 0", 19);
            wrong("field slope 0 room 21", 19);
        });
        edge("FLAKES 1 to 9 (5 at first)", () -> {
            right("flakes 1");
            right("flakes 9");
            wrong("flakes 0", 7);
            wrong("flakes 10", 7);
            Due.is("5 at first", new SnowNames().count(5), 5);
        });
        edge("FALL 0 to 100 (50 at first)", () -> {
            right("fall 0");
            right("fall 100");
            wrong("fall 101", 5);
            Due.is("50 at first", new SnowNames().count(6), 50);
        });
        edge("HARES 0 to 100, WIND 0 to 100 (0 at first, both)", () -> {
            right("hares 0;wind 0");
            right("hares 100;wind 100");
            wrong("hares 101", 6);
            wrong("wind 101", 5);
            Due.is("hares at first", new SnowNames().count(7), 0);
            Due.is("wind at first", new SnowNames().count(8), 0);
        });
        edge("DAY 0 to 9999 (0 at first)", () -> Due.is("at first", new SnowNames().count(9), 0));
        edge("snow 0 to 99; day 0 to 999", () -> {
            right("day 0");
            right("day 999");
            wrong("day 1000", 4);
            wrong("field slope 0 room 1 snow 999", 26);
        });
        edge("Numbers are of 1 to 3 digits.", () -> {
            right("fall 5;fall 05;fall 005;fall 000;fall 100");
            wrong("fall 0000", 5);
            wrong("fall 0005", 5);
            wrong("fall 00000000000000000000001", 5);
            wrong("fall 4294967297", 5);
            wrong("fall 1 1", 7);
        });
    }

    private static void names() {
        edge("LETTERS a to h (0 to 7)", () -> {
            SnowNames x = Due.of("name ah");
            Due.is("a", x.letter(0, 0, 0), 0);
            Due.is("h", x.letter(0, 1, 0), 7);
            wrong("name i", 5);
            wrong("name ahi", 5);
            wrong("name z", 5);
            wrong("name A", 5);
            wrong("name `", 5);
        });
        edge("GIVEN: one to six LETTERS", () -> {
            right("name a");
            right("name abcdef");
            wrong("name abcdefg", 5);
            wrong("name ", 5);
            wrong("name 1", 5);
            Due.is("six", Due.of("name abcdef").person(0, 0), 6);
        });
        edge("PEOPLE (at most 6, numbered from 0 on)", () -> {
            right(times(6, "name a"));
            wrong(times(7, "name a"), 42);
            SnowNames x = Due.of(times(6, "name a"));
            Due.is("the last one", x.person(5, 0), 1);
            Due.noIndex("a seventh one", () -> x.person(6, 0));
            Due.is("in a later text", faultOf(x, " name b", false), 1);
        });
        edge("ON a FIELD or on none (at first)", () -> Due.is("on", Due.of(SNOWY + "name a").person(0, 1), -1));
    }

    private static void namesOn() {
        edge("a FIELD that there is by then, with SNOW above 0 and enough ROOM left, else it is wrong at it", () -> {
            right(SNOWY + "name abc on 0");
            wrong(SNOWY + "name abc on 1", 40);
            wrong("name a on 0;" + SNOWY + "day 1", 10);
            right("field slope 0 room 1 snow 1;name a on 0");
            wrong("field slope 0 room 1 snow 0;name a on 0", 38);
            wrong("field slope 0 room 1;name a on 0", 31);
            wrong(SNOWY + "name abcd on 0", 41);
            right(SNOWY + "name ab on 0;name c on 0");
            wrong(SNOWY + "name ab on 0;name cd on 0", 52);
            wrong(SNOWY + "name abc on 0;name a on 0", 52);
            right(SNOWY + "name abc on 0;name abc");
            right(SNOWY + SNOWY + "name abc on 0;name abc on 1");
        });
        edge("written as by the ACT, but without a row of THE LOG", () -> {
            SnowNames x = new SnowNames();
            Due.law(x, "deep 1 if not written and not whole and letters<2 and snow>0 and field>0 and day>6");
            Due.province(x, "day 6;" + SNOWY + "field slope 0 room 9 snow 1;name a on 1;day 7;name b on 0;name c on 1;name de on 1");
            Due.is("the day is not yet 7", x.letter(0, 0, 2), 4);
            Due.is("field 0", x.letter(1, 0, 2), 4);
            Due.is("all of it holds", x.letter(2, 0, 2), 5);
            Due.is("two letters", x.letter(3, 1, 2), 4);
            Due.is("no row", x.count(11), 0);
            Due.is("no act", x.count(12), 0);
        });
    }

    private static void debts() {
        edge("two people that there are by then, unlike ones, else it is wrong at the second one", () -> {
            right(TWO + "debt 0 1 1");
            right(TWO + "debt 1 0 1");
            wrong(TWO + "debt 0 0 1", 21);
            wrong(TWO + "debt 1 1 1", 21);
            wrong(TWO + "debt 0 2 1", 21);
            wrong(TWO + "debt 2 0 1", 19);
            wrong(TWO + "debt 2 2 1", 19);
            wrong("name a;debt 0 1 1;name b", 14);
            wrong("name a;debt 1 0 1;name b", 12);
            wrong("debt 0 0 1", 5);
        });
        edge("and how much of 1 to 99", () -> {
            right(TWO + "debt 0 1 1");
            right(TWO + "debt 0 1 99");
            right(TWO + "debt 0 1 001");
            wrong(TWO + "debt 0 1 0", 23);
            wrong(TWO + "debt 0 1 100", 23);
            wrong(TWO + "debt 0 1 999", 23);
        });
        edge("DEBTS (at most 8, numbered from 0 on): of one to another one, 1 to 99", () -> {
            right(TWO + times(8, "debt 0 1 1"));
            wrong(TWO + times(9, "debt 0 1 1"), 14 + 8 * 11);
            SnowNames x = Due.of(TWO + times(8, "debt 0 1 1"));
            Due.is("the last one", x.debt(7, 2), 1);
            Due.noIndex("a ninth one", () -> x.debt(8, 2));
            Due.is("in a later text", faultOf(x, "debt 0 1 1", false), 0);
        });
    }

    private static void linesAndTexts() {
        edge("LINE { ; LINE }, at most 14", () -> {
            right(times(14, "day 1"));
            wrong(times(15, "day 1"), 84);
            wrong(times(14, "day 1") + ";", 84);
            wrong(times(14, "day 1") + " ;  ", 87);
            wrong(times(14, "day 1") + ";  day 1", 86);
            wrong(times(14, "day 1") + " day 1", 84);
        });
        edge("THE PROVINCE is told in texts (at most 12, one behind another)", () -> {
            SnowNames x = new SnowNames();
            for (int i = 1; i <= 12; i++) {
                Due.is("text " + i, Due.province(x, i % 2 == 0 ? "field slope 0 room 1" : "name a"), i);
            }
            Due.is("behind one another", x.count(0) + " " + x.count(1), "6 6");
            Due.tape(x, "");
            Due.fails("a 13th", UnsupportedOperationException.class, () -> x.province());
        });
        edge("A text that is empty, or blanks alone, has no LINE.", () -> {
            SnowNames x = new SnowNames();
            Due.is("empty", Due.province(x, ""), 1);
            Due.is("a blank", Due.province(x, " "), 2);
            Due.is("many blanks", Due.province(x, " ".repeat(400)), 3);
            Due.is("an empty law", Due.law(x, ""), 0);
            Due.is("it is one", x.count(4), 0);
            Due.is("a blank law", Due.law(x, " ".repeat(400)), 0);
            Due.is("right, all", x.fault(), -1);
            wrong(";", 0);
            wrong("day 1;", 6);
            wrong("day 1;;day 1", 6);
            wrongLaw(";", 0);
            wrongLaw("melt 1;", 7);
        });
    }

    private static void signs() {
        edge("Words are as long as a to z go on", () -> {
            right("fall9;wind9;field slope0room1snow1;name a on0");
            wrong("name on", 5);
            Due.is("letters that go on", Due.of(SNOWY + "name bad on 0").person(0, 1), 0);
            wrong("falla 1", 0);
            wrong("fal 1", 0);
            wrong("fallwind 1", 0);
            wrong(SNOWY + "name aon 0", 33);
            wrong("name ab{", 7);
            wrong("name abcdef|", 11);
            wrong("name ab\u007f", 7);
            wrong("name ab\u00ff", 7);
            rightLaw("melt1if whole and(owes)or not(written)");
            wrongLaw("melt 1 ifwhole", 7);
            wrongLaw("melt 1 if notwhole", 10);
        });
        edge("between all there may be blanks (32), also ahead and behind", () -> {
            right("  fall   1  ;  wind 1 ;day 1   ");
            wrong("fa ll 1", 0);
            wrong("fall 1 0", 7);
            wrong("name a b", 7);
            wrong("\tfall 1", 0);
            wrong("fall\t1", 4);
            wrong("fall 1\n", 6);
            wrong("fall 1\0", 6);
            wrong("fall 1\u00a0", 6);
            rightLaw(" melt 1 if ( snow + 1 < 2 ) ; keep 1 ");
            rightLaw("melt 1 if(snow+1<2);keep 1");
        });
    }

    private static void firstWrongByte() {
        edge("the begin of the first thing that cannot stand there", () -> {
            wrong("day 1;  5", 8);
            wrong("day x", 4);
            wrong("day ;", 4);
            wrong("day -1", 4);
            wrong("field  room 1", 7);
            wrong("field 5 room 1", 6);
            wrong("field slope 1 5", 14);
            wrong("field slope 1 room 1 5", 21);
            wrong("name ;day 1", 5);
            wrong(SNOWY + "name a on ;day 1", 38);
            wrong(TWO + "debt 0 ;", 21);
            wrong(TWO + "debt 0 1 ;", 23);
            wrong("field slope 1 snow 1", 14);
            wrong("field slope 1 room 1 on 1", 21);
            wrong(SNOWY + "name a on x", 38);
            wrong("\u00ff", 0);
            wrong("DAY 1", 0);
            wrong("day 1,day 1", 5);
        });
        edge("a number of more digits, or out of its bounds, or that tells none that can be", () -> {
            wrong("hares  0001", 7);
            wrong("hares 999", 6);
            wrong(TWO + "debt 0 6 1", 21);
        });
        edge("letters that are none such; a word that is none", () -> {
            wrong("name abci", 5);
            wrong("nam a", 0);
            wrong(SNOWY + "name a in 0", 35);
            wrongLaw("melts 1", 0);
            wrongLaw("melt 1 when owes", 7);
            wrongLaw("melt 1 if rich", 10);
        });
        edge("of a LINE, a FIELD, a PERSON, a DEBT too many, the first word", () -> {
            wrong(times(14, "day 1") + ";day 1000", 84);
            wrong(times(6, "field slope 1 room 1") + "; field slope 10 room 1", 127);
            wrong(times(6, "name a") + "; name i", 43);
            wrong(TWO + times(8, "debt 0 1 1") + "; debt 0 0 1", 103);
            wrongLaw(times(12, "melt 1") + "; melt 41", 85);
        });
        edge("or the text's length, if more must come", () -> {
            wrong("day", 3);
            wrong("day ", 4);
            wrong("day 1 ; ", 8);
            wrong("field", 5);
            wrong("field slope", 11);
            wrong("field slope 1", 13);
            wrong("field slope 1 room", 18);
            wrong("field slope 1 room 1 snow", 25);
            wrong("name", 4);
            wrong("name a on", 9);
            wrong(TWO + "debt", 18);
            wrong(TWO + "debt 0", 20);
            wrong(TWO + "debt 0 1", 22);
            wrong("day" + " ".repeat(397), 400);
        });
        edge("Of a wrong text nothing stays.", () -> {
            SnowNames x = new SnowNames();
            String before = Seen.all(x);
            Due.is("wrong at its end", faultOf(x, SNOWY + "name a on 0;name b;debt 0 1 5;flakes 1;fall 2;hares 3;"
                    + "wind 4;day 5;x", false), 95);
            Due.is("all as it was", Seen.all(x), before);
            Due.is("no text", x.count(3), 0);
            Due.is("the next one begins anew", faultOf(x, "name h;field slope 4 room 2", false), -1);
            Due.is("no snow of the wrong one", x.field(0, 1), 0);
            Due.is("on none", x.person(0, 1), -1);
        });
    }

    private static void lawBounds() {
        edge("THE LAW (a text, in place of the one before): LINE { ; LINE }, at most 12", () -> {
            rightLaw(times(12, "melt 1"));
            wrongLaw(times(13, "melt 1"), 84);
            wrongLaw(times(12, "melt 1") + ";", 84);
            wrongLaw(times(12, "melt 1") + "  ; ", 87);
            SnowNames x = Due.of("field slope 0 room 1;name a", times(12, "melt 40"));
            Due.is("all twelve hold", x.melts(0, 0), 480);
            Due.law(x, "melt 1");
            Due.is("in place of those", x.melts(0, 0), 1);
        });
        edge("All numbers are of 1 to 3 digits (N 0 to 40)", () -> {
            rightLaw("melt 0;keep 0;deep 0;melt 40;keep 40;deep 40;melt 040");
            wrongLaw("melt 41", 5);
            wrongLaw("keep 41", 5);
            wrongLaw("deep 41", 5);
            wrongLaw("melt 0040", 5);
            wrongLaw("melt 999", 5);
            rightLaw("melt 1 if 0<999");
            rightLaw("melt 1 if 000<001");
            wrongLaw("melt 1 if 1000>1", 10);
            wrongLaw("melt 1 if 1<0001", 12);
            wrongLaw("melt 1 if 1+1000>1", 12);
        });
        edge("day: DAY modulo 100", () -> {
            SnowNames x = Due.of("field slope 0 room 1;name a;day 99", "deep 1 if day>98;deep 2 if day<1");
            Due.is("99", x.deep(0, 0), 5);
            Due.province(x, "day 100");
            Due.is("100", x.deep(0, 0), 6);
            Due.province(x, "day 999");
            Due.is("999", x.deep(0, 0), 5);
            x.days(1);
            Due.is("1000", x.deep(0, 0), 6);
        });
        edge("less that of all keep LINES (0 at least)", () -> {
            SnowNames x = Due.of("field slope 9 room 1;name a", "keep 3");
            Due.is("4 less 3", x.melts(0, 0), 1);
            Due.law(x, "keep 3;keep 1");
            Due.is("4 less 4", x.melts(0, 0), 0);
            Due.law(x, "keep 5");
            Due.is("4 less 5", x.melts(0, 0), 0);
            Due.law(x, "keep 5;melt 2");
            Due.is("4 and 2 less 5, the lines in any order", x.melts(0, 0), 1);
        });
        edge("SLOPE by 2, rounded down", () -> {
            SnowNames x = Due.of("field slope 0 room 1;name a");
            for (int slope = 0; slope < 10; slope++) {
                x.slope(0, slope);
                Due.is("of slope " + slope, x.melts(0, 0), "0011223344".charAt(slope) - '0');
            }
        });
        edge("4, and the sum of N of all deep LINES that hold (9 at most)", () -> {
            SnowNames x = Due.of("field slope 0 room 1;name a");
            int[] due = {4, 5, 6, 7, 8, 9, 9, 9};
            for (int n = 0; n < due.length; n++) {
                Due.law(x, "deep " + n);
                Due.is("deep " + n, x.deep(0, 0), due[n]);
            }
            Due.law(x, "deep 2;deep 2;deep 2");
            Due.is("three times 2", x.deep(0, 0), 9);
            Due.law(x, "deep 5 if owes;deep 1");
            Due.is("one holds not", x.deep(0, 0), 5);
        });
    }

    private static void lawWithin() {
        edge("( and not within one another at most 6 deep", () -> {
            rightLaw("melt 1 if ((((((owes))))))");
            wrongLaw("melt 1 if (((((((owes)))))))", 16);
            rightLaw("melt 1 if not not not not not not owes");
            wrongLaw("melt 1 if not not not not not not not owes", 34);
            rightLaw("melt 1 if not(not(not(owes)))");
            wrongLaw("melt 1 if not(not(not(not owes)))", 22);
            wrongLaw("melt 1 if not(not(not((owes))))", 22);
            rightLaw("melt 1 if ((((((owes)))))) and ((((((owes)))))) or not not not not not not owes");
            rightLaw("melt 1 if (((((not owes) or not owes))))");
            wrongLaw("melt 1 if (((((not owes and not not owes)))))", 32);
        });
        edge("a 7th one deep", () -> {
            wrongLaw("melt 1 if ((((((not owes", 16);
            wrongLaw("melt 1 if ((((((owes))) and ((((owes", 31);
        });
        edge("written: it is ON some FIELD; whole: it is WHOLE; owes: it owes something", () -> {
            SnowNames x = Due.of(SNOWY + SNOWY + "hares 100;fall 100;name a on 0;name b;name c;debt 1 0 1");
            x.days(1);
            Due.law(x, "deep 1 if written;deep 2 if whole");
            Due.is("altered: written, not whole", x.deep(0, 0), 5);
            Due.is("of another field, too", x.deep(0, 1), 5);
            Due.is("neither", x.deep(1, 0), 4);
            x.write(0, 0);
            Due.is("both", x.deep(0, 1), 7);
            Due.law(x, "deep 1 if owes;deep 2 if debts>0;deep 2 if debts>1");
            Due.is("it is owed something", x.deep(0, 0), 4);
            Due.is("it owes something", x.deep(1, 0), 7);
            Due.is("neither", x.deep(2, 0), 4);
        });
        edge("ATOM: not ATOM", () -> {
            SnowNames x = Due.of("field slope 0 room 1;name a");
            // not owes is true, written is false.
            Due.law(x, "deep 1 if not owes and written;deep 2 if not (owes and written);deep 4 if not written or written");
            Due.is("not is of one atom", x.deep(0, 0), 9);
            Due.law(x, "deep 1 if not owes and written;deep 2 if not (owes and written)");
            Due.is("not is of one atom", x.deep(0, 0), 6);
        });
        edge("SUM < SUM | SUM > SUM", () -> {
            SnowNames x = Due.of("field slope 0 room 1;name a");
            Due.law(x, "deep 1 if 2<2;deep 1 if 2>2;deep 1 if 1+1<2;deep 1 if 2>1+1");
            Due.is("alike is neither", x.deep(0, 0), 4);
            Due.law(x, "deep 1 if 1<2;deep 2 if 2>1;deep 1 if 2<1;deep 1 if 1>2");
            Due.is("by one", x.deep(0, 0), 7);
        });
    }

    private static void lawWrong() {
        edge("melt N [ if C ] | keep N [ if C ] | deep N [ if C ]", () -> {
            wrongLaw("melt", 4);
            wrongLaw("melt ", 5);
            wrongLaw("melt if owes", 5);
            wrongLaw("melt 1 if", 9);
            wrongLaw("melt 1 if ", 10);
            wrongLaw("melt 1 if ;", 10);
            wrongLaw("melt 1 owes", 7);
            wrongLaw("melt 1 if owes if owes", 15);
            wrongLaw("fall 1", 0);
        });
        edge("C: ALL { or ALL }; ALL: ATOM { and ATOM }", () -> {
            wrongLaw("melt 1 if or owes", 10);
            wrongLaw("melt 1 if owes or", 17);
            wrongLaw("melt 1 if owes and", 18);
            wrongLaw("melt 1 if owes and or owes", 19);
            wrongLaw("melt 1 if owes owes", 15);
            wrongLaw("melt 1 if (owes", 15);
            wrongLaw("melt 1 if (owes;", 15);
            wrongLaw("melt 1 if owes)", 14);
            wrongLaw("melt 1 if ()", 11);
            wrongLaw("melt 1 if not", 13);
            wrongLaw("melt 1 if not and owes", 14);
        });
        edge("SUM: PART { + PART }; PART: NUMBER | person | field | slope | snow | letters | debts | day", () -> {
            rightLaw("melt 1 if person+field+slope+snow+letters+debts+day+999>0");
            wrongLaw("melt 1 if snow", 14);
            wrongLaw("melt 1 if snow and owes", 15);
            wrongLaw("melt 1 if snow+", 15);
            wrongLaw("melt 1 if snow+>1", 15);
            wrongLaw("melt 1 if snow>", 15);
            wrongLaw("melt 1 if snow>1>1", 16);
            wrongLaw("melt 1 if snow=1", 14);
            wrongLaw("melt 1 if snow-1>1", 14);
            wrongLaw("melt 1 if owes>1", 14);
            wrongLaw("melt 1 if 1>owes", 12);
            wrongLaw("melt 1 if (snow+1)>1", 17);
            wrongLaw("melt 1 if snow>(1)", 15);
        });
    }

    private static void kept() {
        edge("a call that throws changes nothing but the TAPE, where it is used up, and fault(), where a text is read "
                + "(also by one that is refused)", () -> {
            SnowNames x = Due.of(SNOWY + "name ab on 0;name c;debt 0 1 5", "deep 3;melt 1");
            x.snow(0, 4);
            x.image();
            String before = Seen.all(x);
            Due.is("a wrong law", faultOf(x, "deep 1;deep", true), 11);
            Due.is("a wrong province", faultOf(x, "day 5;day", false), 9);
            Due.is("all as it was", Seen.all(x), before);
            Due.is("the law", x.deep(0, 0) + " " + x.melts(0, 0), "7 1");
            Due.is("the act is remembered", x.count(12), 1);
            Due.is("and undone", x.undo(), true);
        });
    }
}
