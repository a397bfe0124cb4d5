/** Promises 7 to 12: fields, people, letters, debts, and what melts and is deep. */
public final class ThereTest {
    public static void main(String[] args) {
        fields();
        people();
        lasting();
        letters();
        debts();
        meltsAndDeep();
        Due.end("ThereTest");
    }

    private static void fields() {
        SnowNames x = Due.of("field slope 3 room 20 snow 50;field slope 9 room 7 snow 99;field slope 0 room 1;"
                + "name abc on 0;name hh;name a on 1;name bcdefg on 0");
        int[][] due = {{3, 50, 20, 9, 9}, {9, 99, 7, 1, 4}, {0, 0, 1, 0, 0}};
        for (int f = 0; f < 3; f++) {
            for (int what = 0; what < 5; what++) {
                Due.is("field(" + f + ", " + what + ")", x.field(f, what), due[f][what]);
            }
        }
        Due.noIndex("field(3, 0)", () -> x.field(3, 0));
        Due.noIndex("field(-1, 9)", () -> x.field(-1, 9));
        Due.noIndex("field(MIN, 0)", () -> x.field(Integer.MIN_VALUE, 0));
        Due.noWhat("field(0, 5)", () -> x.field(0, 5));
        Due.noWhat("field(0, -1)", () -> x.field(0, -1));
    }

    private static void people() {
        // Hares alter one letter a day; on day 1 the draws are 38 (falls), 58 (a hare), 10113 and 17515.
        SnowNames x = Due.of("field slope 0 room 20 snow 50;fall 50;hares 59;name ab on 0;name ba;name bb;name bb;"
                + "debt 0 1 10;debt 0 2 5;debt 1 0 1");
        Due.is("letters", x.person(0, 0), 2);
        Due.is("on", x.person(0, 1), 0);
        Due.is("on none", x.person(1, 1), -1);
        Due.is("left", x.person(0, 2), 2);
        Due.is("left of one on none", x.person(1, 2), 0);
        Due.is("whole", x.person(0, 3), 1);
        Due.is("not whole on none", x.person(1, 3), 0);
        Due.is("is itself", x.person(0, 4), 0);
        Due.is("is none", x.person(1, 4), -1);
        Due.is("owes", x.person(0, 7), 14);
        Due.is("owes less", x.person(1, 7), -9);
        Due.is("part", x.person(0, 8), 93);
        Due.is("part of another", x.person(1, 8), 6);
        Due.is("part without", x.person(3, 8), 0);
        x.days(1);
        // 17515 modulo 2 is 1: the second letter, b, is a c.
        Due.is("altered", x.letter(0, 1, 1), 2);
        Due.is("whole", x.person(0, 3), 0);
        Due.is("left", x.person(0, 2), 2);
        Due.is("reads as nobody", x.person(0, 4), -1);
        Due.is("lasts not", x.person(0, 5), 0);
        Due.noIndex("person(4, 0)", () -> x.person(4, 0));
        Due.noIndex("person(-1, 9)", () -> x.person(-1, 9));
        Due.noWhat("person(0, 9)", () -> x.person(0, 9));
        Due.noWhat("person(0, -1)", () -> x.person(0, -1));
        likeOthers();
    }

    private static void likeOthers() {
        SnowNames x = Due.of("field slope 0 room 20 snow 50;hares 59;name bc;name bc;name bb on 0;name bb;name bc");
        x.write(3, 0);
        Due.is("of like ones itself", x.person(3, 4), 3);
        Due.is("of like ones itself", x.person(2, 4), 2);
        // Of the people 2 and 3 on a field 10113 modulo 2 takes the second, 17515 modulo 2 its second letter.
        x.days(1);
        Due.is("who was altered", x.log(0, 1), 3);
        Due.is("else the least", x.person(3, 4), 0);
        SnowNames y = Due.of("day 0");
        Due.noIndex("nobody", () -> y.person(0, 0));
        SnowNames z = Due.of("name a");
        Due.is("part of nothing", z.person(0, 8), 0);
        Due.is("owes nothing", z.person(0, 7), 0);
        Due.is("all that is owed", Due.of("name a;name b;debt 1 0 1").person(1, 8), 100);
        // ab on the field is read as ac on day 1: no begin of it, nothing longer, and none of another first letter.
        SnowNames w = Due.of("field slope 0 room 20 snow 50;hares 59;name ab on 0;name a;name acc;name bc");
        w.days(1);
        Due.is("altered", w.letter(0, 1, 3), 2);
        Due.is("is nobody", w.person(0, 4), -1);
    }

    private static void lasting() {
        // 60 of snow last 59 days on field 1; on field 0 a depth of 4 goes by 1 a day; field 2 has no snow.
        SnowNames x = Due.of("field slope 2 room 20 snow 99;field slope 0 room 1 snow 60;field slope 0 room 9;"
                + "name abc on 0;name a on 1;name b");
        Due.is("lasts 4", x.person(0, 5), 4);
        Due.is("lasts till the snow is gone", x.person(1, 5), 60);
        Due.is("lasts on none", x.person(2, 5), 0);
        Due.is("longest, room or not", x.person(0, 6), 1);
        x.snow(1, 1);
        Due.is("61 of snow last", x.person(1, 5), -1);
        Due.is("longest", x.person(2, 6), 1);
        x.snow(2, 61);
        Due.is("the least of those that last", x.person(2, 6), 1);
        x.slope(1, 9);
        Due.is("the one that lasts", x.person(2, 6), 2);
        // On a slope of 9 field 1 loses 10 a day and its marks 4.
        Due.is("one day", x.person(1, 5), 1);
        SnowNames y = Due.of("field slope 0 room 9;name a");
        Due.is("no snow, no longest", y.person(0, 6), -1);
        y.snow(0, 1);
        Due.is("1 of snow is enough", y.person(0, 6), 0);
        Due.is("never is longer than 60 days",
                Due.of("field slope 0 room 9 snow 60;field slope 0 room 9 snow 61;name a").person(0, 6), 1);
        // The law is asked anew each day: by the day, and by what is whole.
        SnowNames z = Due.of("field slope 0 room 9 snow 99;name ab on 0;day 95");
        Due.law(z, "melt 1 if day>97 and whole");
        Due.is("two days only: day 100 counts as 0", z.person(0, 5), -1);
        Due.law(z, "melt 2 if day>97 and whole");
        Due.is("melts from day 98 on", z.person(0, 5), 5);
        Due.is("and where it would", z.person(0, 6), 0);
        Due.law(z, "melt 4 if day>97;melt 9 if not written");
        Due.is("at once", z.person(0, 5), 4);
        Due.law(z, "melt 1 if snow<98");
        Due.is("by the snow ahead of the day", z.person(0, 5), 6);
        Due.law(z, "deep 5 if not written;melt 1");
        Due.is("deep as it is now", z.person(0, 6), 0);
        Due.is("nothing stays", z.field(0, 1), 99);
        Due.is("nothing stays", z.count(9), 95);
    }

    private static void letters() {
        SnowNames x = Due.of("field slope 0 room 9 snow 99;name ha on 0;name g");
        int[][] due = {{7, 7, 4, 7}, {0, 0, 4, 0}, {-1, -1, -1, -1}};
        for (int k = 0; k < 3; k++) {
            for (int what = 0; what < 4; what++) {
                Due.is("letter(0, " + k + ", " + what + ")", x.letter(0, k, what), due[k][what]);
            }
        }
        Due.is("given to one on none", x.letter(1, 0, 0), 6);
        for (int what = 1; what < 4; what++) {
            Due.is("of one on none", x.letter(1, 0, what), -1);
        }
        Due.is("letter(0, -1, 0)", x.letter(0, -1, 0), -1);
        Due.is("letter(0, MAX, 3)", x.letter(0, Integer.MAX_VALUE, 3), -1);
        Due.noIndex("letter(2, 0, 0)", () -> x.letter(2, 0, 0));
        Due.noIndex("letter(-1, 0, 9)", () -> x.letter(-1, 0, 9));
        Due.noWhat("letter(0, 0, 4)", () -> x.letter(0, 0, 4));
        Due.noWhat("letter(1, 9, -1)", () -> x.letter(1, 9, -1));
    }

    private static void debts() {
        SnowNames x = Due.of("name a;name b;name c;debt 2 1 99;debt 0 2 1");
        int[][] due = {{2, 1, 99}, {0, 2, 1}};
        for (int d = 0; d < 2; d++) {
            for (int what = 0; what < 3; what++) {
                Due.is("debt(" + d + ", " + what + ")", x.debt(d, what), due[d][what]);
            }
        }
        Due.noIndex("debt(2, 0)", () -> x.debt(2, 0));
        Due.noIndex("debt(-1, 5)", () -> x.debt(-1, 5));
        Due.noWhat("debt(0, 3)", () -> x.debt(0, 3));
        Due.noWhat("debt(0, -1)", () -> x.debt(0, -1));
    }

    private static void meltsAndDeep() {
        SnowNames x = Due.of("field slope 9 room 9 snow 10;field slope 1 room 9 snow 10;name a on 0;name bb;debt 1 0 3");
        Due.is("half of 9", x.melts(0, 0), 4);
        Due.is("half of 1", x.melts(0, 1), 0);
        Due.law(x, "melt 2 if written;melt 10 if owes;keep 1 if whole;deep 1 if letters>1;deep 3 if field>0");
        Due.is("melts", x.melts(0, 0), 5);
        Due.is("melts of another field", x.melts(0, 1), 1);
        Due.is("melts of one who owes", x.melts(1, 1), 10);
        x.lend(0, 1, 1);
        Due.is("1 is something", x.melts(0, 1), 11);
        Due.is("deep", x.deep(0, 0), 4);
        Due.is("deep", x.deep(1, 0), 5);
        Due.is("deep", x.deep(1, 1), 8);
    }
}
