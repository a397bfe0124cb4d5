/** A province with as much of all as there may be: nothing that is asked or done goes beyond its rows. */
public final class FullTest {
    private static final String LAW = "melt 0;".repeat(6) + "keep 0;".repeat(3) + "deep 0;".repeat(2) + "deep 0";

    public static void main(String[] args) {
        days();
        answers();
        names();
        debts();
        acts();
        Due.end("FullTest");
    }

    private static SnowNames full(String names, int room) {
        SnowNames x = Due.of(("field slope 0 room " + room + " snow 50;").repeat(6) + "day 0");
        Due.is("names", Due.province(x, names), 2);
        Due.is("debts", Due.province(x, "debt 0 1 99;debt 1 2 99;debt 2 3 99;debt 3 4 99;debt 4 5 99;debt 5 0 99;"
                + "debt 5 4 99;debt 0 5 99"), 3);
        Due.is("law", Due.law(x, LAW), 12);
        return x;
    }

    private static SnowNames single() {
        return full("name a on 0;name b on 1;name c on 2;name d on 3;name e on 4;name f on 5", 1);
    }

    private static SnowNames together() {
        return full("name abcdef on 0;".repeat(3) + "name bcdefa on 5;".repeat(2) + "name cdefgh on 5", 20);
    }

    private static String all(SnowNames x, int what) {
        StringBuilder b = new StringBuilder();
        for (int i = 0; i < 6; i++) {
            b.append(i == 0 ? "" : " ");
            b.append(what < 5 ? x.field(i, what) : what == 5 ? x.person(i, 1) : x.letter(i, x.person(i, 0) - 1, what - 5));
        }
        return b.toString();
    }

    private static void days() {
        SnowNames x = single();
        Due.province(x, "fall 100");
        x.days(1);
        Due.is("snow", all(x, 1), "55 55 55 55 55 55");
        Due.is("depths", all(x, 7), "3 3 3 3 3 3");
        Due.province(x, "fall 0;wind 100");
        x.days(1);
        Due.is("snow", all(x, 1), "54 54 54 54 54 54");
        Due.is("on", all(x, 5), "1 2 3 4 5 0");
        Due.is("depths", all(x, 7), "3 3 3 3 3 3");
        Due.province(x, "hares 100");
        x.seed(1);
        x.days(1);
        // 10113 modulo 6 is 3.
        Due.is("altered", all(x, 6), "0 1 2 4 4 5");
        Due.is("on", all(x, 5), "2 3 4 5 0 1");
        Due.law(x, "melt 3");
        x.days(1);
        Due.is("all went", all(x, 5), "-1 -1 -1 -1 -1 -1");
        Due.is("rows", x.count(11), 7);
        for (int ago = 0; ago < 6; ago++) {
            Due.is("row " + ago, x.log(ago, 1) + " " + x.log(ago, 2), 5 - ago + " 2");
        }
        SnowNames y = single();
        for (int f = 0; f < 6; f++) {
            y.slope(f, 9);
        }
        Due.province(y, "fall 0;wind 100");
        y.days(5);
        Due.is("snow", all(y, 1), "0 0 0 0 0 0");
        Due.is("on", all(y, 5), "-1 -1 -1 -1 -1 -1");
    }

    private static void answers() {
        SnowNames x = single();
        for (int i = 0; i < 6; i++) {
            Due.is("till(1, " + i + ")", x.till(1, i), i);
            Due.is("till(60, " + i + ")", x.till(60, i), i);
            Due.is("share(" + i + ", 9)", x.share(i, 9), i < 1 ? 4 : 1);
            Due.is("ahead(" + i + ", 50, true)", x.ahead(i, 49, true), 1 << i);
            Due.is("ahead(" + i + ", 60, false)", x.ahead(i, 60, false), 0);
            Due.is("lasts " + i, x.person(i, 5), 50);
            Due.is("longest " + i, x.person(i, 6), 0);
            Due.is("is " + i, x.person(i, 4), i);
            Due.is("used " + i, x.field(i, 3), 1);
            Due.is("there " + i, x.field(i, 4), 1 << i);
            Due.is("melts " + i, x.melts(i, i), 0);
            Due.is("deep " + i, x.deep(i, 5 - i), 4);
            Due.is("rests " + i, x.rests(i, i), 1);
        }
        Due.is("till(1)", x.till(1, -1), 6);
        Due.is("till(60)", x.till(60, -1), 0);
        Due.is("wins", x.wins(), false);
        Due.is("first", x.first(), -1);
        Due.is("widest", x.most(0), 0);
        Due.is("snowiest", x.most(1), 0);
        Due.is("longest name", x.most(2), 0);
        Due.is("written", x.written(false), 63);
        Due.is("whole", x.written(true), 63);
        Due.is("trial", x.trial(0, false) + " " + x.trial(0, true), "63 300");
        Due.is("span", x.span(0, false) + " " + x.span(0, true), "6 6");
        Due.is("span of days", x.span(60, false) <= x.span(60, true), true);
        Due.is("snow", x.count(10), 300);
        SnowNames y = full("name a on 0;name b on 1;name c on 2;name d on 3;name e on 4;name f on 5", 20);
        for (int i = 0; i < 6; i++) {
            Due.is("all on 0: " + i, y.till(49, i), 0);
        }
        for (int p = 0; p < 6; p++) {
            for (int f = 0; f < 6; f++) {
                Due.law(x, "melt 4;keep 4 if person+1>" + p + " and person<" + (p + 1) + " and field+1>" + f + " and field<" + (f + 1));
                Due.is("one lasts on one field alone", x.till(1, -1), 1);
                Due.is("who, and where", x.till(1, p), f);
            }
        }
    }

    private static void names() {
        SnowNames x = single();
        Due.is("places", x.places(), 1);
        Due.is("safe", x.safe(), 21);
        Due.is("pairs", x.pairs(-1), 0);
        Due.is("pairs of 5", x.pairs(5), -1);
        Due.is("twins", x.twins(), 0);
        Due.is("look", x.look(), 0);
        Due.is("who", x.who(), 63);
        Due.is("likely", x.likely(), 0);
        SnowNames y = together();
        Due.is("places", y.places(), -1);
        Due.is("safe", y.safe(), 63);
        Due.is("pairs", y.pairs(-1), 6 + 6 + 4);
        Due.is("who is with whom", y.pairs(0) + " " + y.pairs(1) + " " + y.pairs(2) + " " + y.pairs(3) + " " + y.pairs(4) + " "
                + y.pairs(5), "1 0 3 2 5 4");
        Due.is("twins", y.twins(), 4);
        Due.is("change", y.change(0, 5), 4);
        Due.is("together", y.together(0, 5, -1), 8);
        Due.is("together", y.together(5, 3, -1), 12);
        Due.is("its last letter", y.together(5, 3, 11), 0);
        Due.is("mixed", y.mixed(5, 4), false);
        Due.is("having", y.having(0) + " " + y.having(7), "31 32");
        Due.is("first", y.first(), -1);
        Due.is("wins", y.wins(), false);
        y.strike(5);
        Due.is("first of five", y.first(), 11);
        Due.is("what is read", all(y, 8), "5 5 5 0 0 -1");
    }

    private static void debts() {
        SnowNames x = single();
        Due.is("settle", x.settle(), 1);
        Due.is("ring", x.ring(), 2);
        Due.is("poorest", x.poorest(), 0);
        Due.is("clear", x.clear(), 0);
        Due.is("owes", x.person(5, 7), 0);
        Due.is("part", x.person(5, 8), 25);
        Due.is("the last", x.debt(7, 0) + " " + x.debt(7, 1) + " " + x.debt(7, 2), "0 5 99");
        Due.law(x, "deep 1 if debts>197;deep 2 if debts>198");
        Due.is("of two debts", x.deep(0, 0), 5);
        Due.cannot("a ninth", () -> x.lend(0, 1, 1));
        for (int i = 8; i > 0; i--) {
            Due.is("paid", x.pay(i - 1), 99);
        }
        Due.is("none", x.count(2), 0);
        Due.is("ring", x.ring(), -1);
    }

    private static void acts() {
        SnowNames x = together();
        String before = Seen.all(x);
        for (int i = 0; i < 6; i++) {
            Due.is("write " + i, x.write(i, i < 3 ? 0 : 5), 4);
            Due.is("tread " + i, x.tread(i, 5), 9);
        }
        Due.cannot("no room", () -> x.write(0, 5));
        for (int i = 0; i < 12; i++) {
            Due.is("undone", x.undo(), true);
        }
        Due.is("all as it was", Seen.all(x), before);
        x.image();
        for (int i = 0; i < 6; i++) {
            Due.is("strike " + i, x.strike(i), i < 3 ? 0 : 5);
        }
        Due.is("nobody there", x.field(5, 4) + x.field(0, 4), 0);
        x.back();
        Due.is("all as it was", Seen.all(x), before);
        x.days(60);
        x.undo();
    }
}
