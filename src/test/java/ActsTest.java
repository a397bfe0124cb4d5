/** Promises 13 to 20: days and the other acts. From SEED 1 the draws are 16838, 5758, 10113, 17515, 31051, 5627, .. */
public final class ActsTest {
    public static void main(String[] args) {
        daysByDraws();
        thaws();
        falls();
        hares();
        winds();
        write();
        strike();
        tread();
        lendAndPay();
        payOfMany();
        slopeAndSnow();
        Due.end("ActsTest");
    }

    private static void daysByDraws() {
        SnowNames x = new SnowNames();
        Due.noNumber("days(0)", () -> x.days(0));
        Due.noNumber("days(61)", () -> x.days(61));
        Due.noNumber("days(-1)", () -> x.days(-1));
        Due.is("no day went", x.count(9), 0);
        Due.is("no draw was made", x.seed(1), 1);
        // Draws of (a), modulo 100: 38, 15, 10, 86, 84.
        Due.is("three days of five", x.days(5), 3);
        Due.is("day", x.count(9), 5);
        Due.is("60 days", x.days(60) <= 60, true);
        Due.is("day", x.count(9), 65);
        SnowNames y = Due.of("fall 38;day 999");
        Due.is("38 is not below 38", y.days(1), 0);
        y.seed(1);
        Due.province(y, "fall 39");
        Due.is("38 is below 39", y.days(1), 1);
        Due.is("three draws a day", y.seed(1), Seen.seedAfter(1, 3));
        Due.is("day", y.count(9), 1001);
        for (int i = 0; i < 151; i++) {
            y.days(60);
        }
        Due.is("9999 at most", y.count(9), 9999);
    }

    private static void thaws() {
        SnowNames x = Due.of("fall 0;field slope 3 room 9 snow 9;field slope 9 room 9 snow 8;field slope 0 room 9 snow 99;"
                + "name a on 0;name b on 1;name c on 2;name d on 1");
        Due.is("no snow", x.days(1), 0);
        Due.is("4 less", x.field(0, 1), 5);
        Due.is("0 at least", x.field(1, 1), 0);
        Due.is("1 less", x.field(2, 1), 98);
        Due.is("half of 3 less deep", x.letter(0, 0, 2), 3);
        Due.is("as deep", x.letter(2, 0, 2), 4);
        Due.is("gone with the snow", x.person(1, 1), -1);
        Due.is("rows by numbers", 10 * x.log(1, 1) + x.log(0, 1), 13);
        Due.is("went", x.log(0, 2), 2);
        Due.is("from field 1", x.log(0, 3), 1);
        Due.is("on the day that ends", x.log(0, 0), 0);
        // What melts is by all as it was: with 98 of snow, not with 97.
        Due.law(x, "melt 3 if snow>97;melt 1 if not whole");
        x.days(1);
        Due.is("by the snow ahead", x.letter(2, 0, 2), 1);
        Due.is("snow", x.field(2, 1), 97);
        x.days(1);
        Due.is("by the snow ahead", x.letter(2, 0, 2), 1);
        // More than there is: gone.
        Due.law(x, "melt 2");
        x.days(1);
        Due.is("gone", x.person(2, 1), -1);
        Due.is("a letter of one on none", x.letter(2, 0, 1), -1);
    }

    private static void falls() {
        SnowNames x = Due.of("fall 100;flakes 4;field slope 9 room 9 snow 94;field slope 0 room 9;name ab on 0;name c on 0");
        x.tread(1, 1);
        Due.is("all days", x.days(2), 2);
        Due.is("99 at most", x.field(0, 1), 99);
        Due.is("flakes more", x.field(1, 1), 8);
        Due.is("snowed in by 2", x.letter(0, 1, 2), 2);
        x.days(2);
        Due.is("snowed in", x.person(0, 1), -1);
        Due.is("row", x.log(0, 2), 2);
        Due.is("day of the row", x.log(0, 0), 3);
        Due.is("one deeper is there still", x.letter(1, 0, 2), 1);
    }

    private static void hares() {
        // Draw (b) modulo 100 is 58 on day 1; then 10113 modulo 3 is 0 and 17515 modulo 4 is 3; (c) is 51.
        String text = "fall 0;wind 51;field slope 0 room 20 snow 99;field slope 0 room 20 snow 99;name a;name abch on 0;"
                + "name b on 1;name c on 1;";
        SnowNames x = Due.of(text + "hares 58");
        x.days(1);
        Due.is("58 is not below 58", x.count(11), 0);
        Due.is("then (c) is the third draw, 13, below 51", x.person(1, 1), 1);
        SnowNames y = Due.of(text + "hares 59");
        y.days(1);
        Due.is("the last letter is an a", y.letter(1, 3, 1), 0);
        Due.is("the given one is as it was", y.letter(1, 3, 0), 7);
        Due.is("as deep", y.letter(1, 3, 2), 4);
        Due.is("one row", y.count(11), 1);
        Due.is("altered", y.log(0, 2), 3);
        Due.is("who", y.log(0, 1), 1);
        Due.is("where it was", y.log(0, 3), 0);
        Due.is("51 is not below 51", y.person(1, 1), 0);
        Due.is("five draws", y.seed(1), Seen.seedAfter(1, 5));
        SnowNames z = Due.of("hares 100;field slope 0 room 20 snow 99;name a");
        z.days(1);
        Due.is("with nobody there, three draws", z.seed(1), Seen.seedAfter(1, 3));
        SnowNames w = Due.of("hares 100;fall 0;field slope 9 room 20 snow 9;name a on 0");
        w.days(1);
        Due.is("gone ahead of the hare: three draws", w.seed(1), Seen.seedAfter(1, 3));
        Due.is("one row", w.count(11), 1);
    }

    private static void winds() {
        // Draw (c) modulo 100 is 13 on day 1, 27 on day 2.
        String text = "fall 0;field slope 0 room 5 snow 9;field slope 0 room 1 snow 9;field slope 9 room 9 snow 10;"
                + "name abc on 0;name d on 1;name e on 1;";
        SnowNames x = Due.of(text.replace(";name e on 1;", ";") + "name e;wind 13");
        x.days(1);
        Due.is("13 is not below 13", x.person(0, 1), 0);
        SnowNames y = Due.of(text.replace("name d on 1;name e on 1", "name d on 0;name e on 1") + "wind 14");
        y.days(1);
        Due.is("on the next one, room or not", y.person(0, 1), 1);
        Due.is("on the next one", y.person(1, 1), 1);
        Due.is("field 2 has no snow any more", y.person(2, 1), -1);
        Due.is("blown", y.log(0, 2), 4);
        Due.is("who", y.log(0, 1), 2);
        Due.is("where it was", y.log(0, 3), 1);
        Due.is("used beyond its room", y.field(1, 3), 4);
        Due.is("widest by room left", y.most(0), 2);
        SnowNames z = Due.of("wind 100;fall 100;field slope 0 room 9 snow 1;field slope 0 room 9 snow 1;name a on 1;name b on 0");
        z.days(1);
        Due.is("behind the last one is 0", z.person(0, 1), 0);
        Due.is("all at once", z.person(1, 1), 1);
        Due.is("no rows", z.count(11), 0);
        SnowNames u = Due.of("wind 100;fall 0;field slope 0 room 9 snow 9;field slope 0 room 9 snow 2;name a on 0");
        u.days(1);
        Due.is("1 of snow is enough", u.person(0, 1), 1);
        SnowNames w = Due.of("wind 100;fall 100;field slope 0 room 9 snow 1;name a on 0");
        w.days(1);
        Due.is("one field is its own next", w.person(0, 1), 0);
        // Two go on the same day: rows by numbers.
        SnowNames v = Due.of("wind 100;fall 0;field slope 0 room 9 snow 50;field slope 0 room 1;name b on 0;name a on 0");
        v.days(1);
        Due.is("by numbers", 10 * v.log(1, 1) + v.log(0, 1), 1);
        Due.is("none written", v.written(false), 0);
    }

    private static void write() {
        SnowNames x = Due.of("field slope 0 room 5 snow 1;field slope 0 room 8;name abc;name de;name f;name abcdef;day 7",
                "deep 2 if written;deep 1 if whole");
        Due.is("deep", x.write(0, 0), 4);
        Due.is("there, by all as it was ahead", x.write(0, 0), 7);
        Due.is("depth", x.letter(0, 2, 2), 7);
        Due.is("just room enough", x.write(1, 0), 4);
        Due.cannot("no room", () -> x.write(2, 0));
        Due.cannot("no snow", () -> x.write(2, 1));
        Due.is("its own letters are not counted", x.write(1, 0), 7);
        x.snow(1, 1);
        Due.is("another field", x.write(0, 1), 7);
        Due.is("in place of where it was", x.field(0, 4), 2);
        Due.cannot("own letters elsewhere make no room", () -> x.write(3, 1));
        Due.cannot("too long", () -> x.write(3, 0));
        Due.is("rows", x.count(11), 5);
        Due.is("row", x.log(0, 0) * 1000 + x.log(0, 1) * 100 + x.log(0, 2) * 10 + x.log(0, 3), 7001);
        Due.noIndex("no person", () -> x.write(4, 0));
        Due.noIndex("no field", () -> x.write(0, 2));
        Due.noIndex("neither", () -> x.write(-1, -1));
        // Marks are anew.
        SnowNames y = Due.of("hares 100;fall 0;field slope 2 room 9 snow 99;name a on 0");
        y.days(2);
        Due.is("altered twice", y.letter(0, 0, 1), 2);
        Due.is("less deep", y.letter(0, 0, 2), 2);
        y.write(0, 0);
        Due.is("anew", y.person(0, 3), 1);
        Due.is("as deep as at first", y.letter(0, 0, 2), 4);
    }

    private static void strike() {
        SnowNames x = Due.of("field slope 0 room 5;field slope 0 room 5 snow 1;name a;name b on 1");
        Due.cannot("on none", () -> x.strike(0));
        Due.is("field", x.strike(1), 1);
        Due.is("on none", x.person(1, 1), -1);
        Due.is("row", x.log(0, 2) * 10 + x.log(0, 3), 11);
        Due.cannot("again", () -> x.strike(1));
        Due.noIndex("nobody", () -> x.strike(2));
        Due.noIndex("nobody", () -> x.strike(-1));
        Due.is("acts", x.count(12), 1);
    }

    private static void tread() {
        SnowNames x = Due.of("field slope 0 room 5 snow 1;name ab on 0;name c");
        Due.is("1 deeper", x.tread(0, 1), 5);
        Due.is("all marks", x.letter(0, 1, 2), 5);
        Due.is("9 at most", x.tread(0, 9), 9);
        Due.is("still", x.tread(0, 1), 9);
        Due.is("no row", x.count(11), 0);
        x.write(1, 0);
        Due.is("only one's own", x.tread(1, 2), 6);
        Due.is("its depth", x.letter(1, 0, 2), 6);
        x.strike(1);
        Due.noIndex("nobody", () -> x.tread(2, 0));
        Due.noNumber("0", () -> x.tread(1, 0));
        Due.noNumber("10", () -> x.tread(0, 10));
        Due.cannot("on none", () -> x.tread(1, 1));
    }

    private static void lendAndPay() {
        SnowNames x = Due.of("field slope 0 room 20 snow 9;name a on 0;name b on 0;name c;hares 100;fall 0");
        for (int i = 0; i < 8; i++) {
            Due.is("its number", x.lend(i % 2, 1 - i % 2, 10 + i), i);
        }
        Due.cannot("a ninth", () -> x.lend(0, 1, 1));
        Due.noNumber("both one ahead of too many", () -> x.lend(1, 1, 1));
        Due.noNumber("0", () -> x.lend(0, 1, 0));
        Due.noNumber("100", () -> x.lend(0, 1, 100));
        Due.noIndex("nobody", () -> x.lend(3, 3, 0));
        Due.noIndex("nobody", () -> x.lend(0, 3, 1));
        Due.noIndex("nobody", () -> x.lend(-1, 0, 1));
        Due.is("paid", x.pay(2), 12);
        Due.is("numbers 1 less", x.debt(2, 2) * 100 + x.debt(6, 2), 1317);
        Due.is("those ahead as they were", x.debt(1, 2), 11);
        Due.noIndex("it is no more", () -> x.pay(7));
        Due.noIndex("none", () -> x.pay(-1));
        Due.is("99", x.lend(2, 0, 99), 7);
        Due.cannot("who owes is on none", () -> x.pay(7));
        x.write(2, 0);
        Due.is("paid", x.pay(7), 99);
        x.lend(0, 2, 1);
        x.strike(2);
        Due.cannot("to whom is on none", () -> x.pay(7));
        x.days(1);
        // 10113 modulo 2 is 1: the hare altered b.
        Due.is("altered", x.log(0, 1), 1);
        Due.cannot("not whole", () -> x.pay(0));
        Due.is("acts", x.count(12), 12);
    }

    private static void payOfMany() {
        SnowNames x = Due.of("field slope 0 room 20 snow 9;name a on 0;name b on 0;name c on 0;name d on 0;"
                + "debt 0 1 1;debt 1 2 2;debt 2 3 3;debt 3 0 4");
        x.pay(1);
        int[] due = {0, 1, 1, 2, 3, 3, 3, 0, 4};
        for (int i = 0; i < 9; i++) {
            Due.is("debt(" + i / 3 + ", " + i % 3 + ")", x.debt(i / 3, i % 3), due[i]);
        }
    }

    private static void slopeAndSnow() {
        SnowNames x = Due.of("field slope 3 room 20 snow 98;field slope 0 room 1");
        Due.is("what it was", x.slope(0, 9), 3);
        Due.is("what it was", x.slope(0, 0), 9);
        Due.is("slope", x.field(0, 0), 0);
        Due.noNumber("10", () -> x.slope(0, 10));
        Due.noNumber("-1", () -> x.slope(0, -1));
        Due.noIndex("no field", () -> x.slope(2, 10));
        Due.is("99 at most", x.snow(0, 99), 99);
        Due.is("snow", x.snow(1, 1), 1);
        Due.is("snow", x.snow(1, 7), 8);
        Due.noNumber("0", () -> x.snow(1, 0));
        Due.noNumber("100", () -> x.snow(1, 100));
        Due.noIndex("no field", () -> x.snow(-1, 0));
        Due.is("acts", x.count(12), 5);
    }
}
