/** Promises 30 to 35 and 37 to 41: debts, letters struck out, shares, choices, odds and the most. */
public final class DebtsTest {
    private static final String SIX = "name a;name b;name c;name d;name e;name f;";

    public static void main(String[] args) {
        settle();
        ring();
        poorestAndClear();
        strikes();
        share();
        rests();
        odds();
        most();
        written();
        Due.end("DebtsTest");
    }

    private static void settle() {
        Due.is("nobody", new SnowNames().settle(), 0);
        Due.is("no debts", Due.of("name a;name b").settle(), 0);
        Due.is("one", Due.of(SIX + "debt 0 5 9").settle(), 1);
        Due.is("both alike", Due.of(SIX + "debt 0 5 9;debt 5 0 9").settle(), 0);
        Due.is("both", Due.of(SIX + "debt 0 5 9;debt 5 0 4").settle(), 1);
        Due.is("a chain", Due.of(SIX + "debt 0 1 9;debt 1 2 9;debt 2 3 9").settle(), 1);
        Due.is("a star", Due.of(SIX + "debt 0 1 1;debt 0 2 2;debt 0 3 3;debt 0 4 4;debt 0 5 5").settle(), 5);
        Due.is("two groups", Due.of(SIX + "debt 0 1 3;debt 2 3 4;debt 0 3 1").settle(), 3);
        Due.is("two that fit", Due.of(SIX + "debt 0 1 5;debt 2 3 7;debt 4 5 9").settle(), 3);
        // 5, 7 owe; 4, 3 and 5 are owed: 5 to 5, and 7 to 4 and 3.
        Due.is("hidden groups", Due.of(SIX + "debt 0 2 4;debt 0 3 1;debt 1 3 2;debt 1 4 5").settle(), 3);
    }

    private static void ring() {
        Due.is("nobody", new SnowNames().ring(), -1);
        Due.is("no ring", Due.of(SIX + "debt 0 1 1;debt 1 2 1;debt 0 2 1").ring(), -1);
        Due.is("of two", Due.of(SIX + "debt 0 1 1;debt 1 2 1;debt 2 0 1;debt 5 4 1;debt 4 5 9").ring(), 2);
        Due.is("of three", Due.of(SIX + "debt 0 1 1;debt 1 2 1;debt 2 3 1;debt 3 0 1;debt 3 1 1").ring(), 3);
        Due.is("of six", Due.of(SIX + "debt 0 1 1;debt 1 2 1;debt 2 3 1;debt 3 4 1;debt 4 5 1;debt 5 0 1").ring(), 6);
        Due.is("not from where one begins", Due.of(SIX + "debt 0 1 1;debt 1 2 1;debt 2 1 1").ring(), 2);
    }

    private static void poorestAndClear() {
        Due.is("nobody", new SnowNames().poorest(), -1);
        Due.is("the least of like ones", Due.of("name a;name b").poorest(), 0);
        Due.is("owes the most", Due.of(SIX + "debt 2 1 5;debt 4 1 6").poorest(), 4);
        Due.is("less what is owed", Due.of(SIX + "debt 2 1 5;debt 4 1 6;debt 1 4 9").poorest(), 2);
        Due.is("were it 0", Due.of("name a;name b;debt 1 0 5;debt 0 1 5").poorest(), 0);
        Due.is("clear of nobody", new SnowNames().clear(), 0);
        Due.is("clear", Due.of(SIX + "debt 2 1 5;debt 4 1 6").clear(), 41);
        Due.is("all clear", Due.of(SIX + "day 0").clear(), 63);
    }

    private static void strikeIs(String names, int first) {
        SnowNames x = Due.of("field slope 0 room 20 snow 9;field slope 0 room 20 snow 9;" + names);
        Due.is("wins of " + names, x.wins(), first >= 0);
        Due.is("first of " + names, x.first(), first);
    }

    private static void strikes() {
        strikeIs("day 1", -1);
        strikeIs("name abc", -1);
        strikeIs("name a on 0", 1);
        strikeIs("name ab on 0", 2);
        strikeIs("name abc on 0", 11);
        strikeIs("name abcd on 0", 12);
        strikeIs("name abcde on 0", 21);
        strikeIs("name abcdef on 0", 11);
        strikeIs("name a on 0;name b on 1", -1);
        strikeIs("name a on 0;name bb on 1", 101);
        // 1, 2 and 3 are even.
        strikeIs("name a on 0;name bb on 1;name ccc on 1", -1);
        // 4 is worth 1, and 5 is worth 4: of 5 what is worth 1 must stay, as 4 is.
        strikeIs("name abcd on 0;name abcde on 0", 101);
        strikeIs("name b;name abcd on 0;name a on 0", -1);
        strikeIs("name b;name abcdef on 0;name abc on 0", -1);
    }

    private static void share() {
        SnowNames x = Due.of("field slope 0 room 6;field slope 0 room 10;field slope 0 room 3");
        // 10 | 6 | 5 | 3 3 3 | 2 2 2 | ..: by 1 the fields take 1, 0, 1, 0, 1, 2, ..
        int[][] due = {{0, 0, 0}, {0, 1, 0}, {1, 1, 0}, {1, 2, 0}, {2, 2, 0}, {2, 3, 0}, {2, 3, 1}, {3, 3, 1}, {3, 4, 1}};
        for (int n = 0; n < due.length; n++) {
            for (int f = 0; f < 3; f++) {
                Due.is("share(" + f + ", " + n + ")", x.share(f, n), due[n][f]);
            }
        }
        Due.is("99 in all", x.share(0, 99) + x.share(1, 99) + x.share(2, 99), 99);
        Due.is("when all are 0 the least gets all", x.share(0, 99) - x.share(0, 98), 1);
        Due.noNumber("-1", () -> x.share(0, -1));
        Due.noNumber("100", () -> x.share(2, 100));
        Due.noIndex("no field", () -> x.share(3, -1));
        Due.is("no snow came", x.count(10), 0);
    }

    private static void rests() {
        SnowNames x = Due.of("field slope 2 room 9;field slope 0 room 9;name a;name b");
        Due.is("writes and is shone", x.rests(0, 0), 1);
        Due.law(x, "melt 3 if person<1;melt 4 if person>0");
        Due.is("4 less 4 is 0: he may wait, the sun may not", x.rests(0, 0), 1);
        Due.is("below 0 he would wait", x.rests(1, 0), 0);
        Due.is("3 is left", x.rests(0, 1), 1);
        Due.is("0 both: on the flat the sun may shine, too", x.rests(1, 1), 5);
        Due.law(x, "melt 5");
        Due.is("waiting and shone on the flat", x.rests(1, 1), 4);
        Due.noIndex("no person", () -> x.rests(2, 0));
        Due.noIndex("no field", () -> x.rests(0, 2));
    }

    private static void odds() {
        SnowNames x = new SnowNames();
        Due.is("no hares", x.odds(5, 1), 0);
        Due.is("0 at least", x.odds(5, 0), 10000);
        Due.is("0 of 0", x.odds(0, 0), 10000);
        Due.is("1 of 0", x.odds(0, 1), 0);
        Due.province(x, "hares 100");
        Due.is("always", x.odds(5, 5), 10000);
        Due.is("more than days", x.odds(4, 5), 0);
        Due.province(x, "hares 50");
        Due.is("5 of 5", x.odds(5, 5), 312);
        Due.is("3 of 5", x.odds(5, 3), 5000);
        Due.is("2 of 3", x.odds(3, 2), 5000);
        Due.province(x, "hares 33");
        Due.is("1 of 1", x.odds(1, 1), 3300);
        Due.is("1 of 2", x.odds(2, 1), 5511);
        // 3 times 0.33 by 0.33 by 0.67, and 0.33 thrice: 0.254826.
        Due.is("2 of 3, rounded down", x.odds(3, 2), 2548);
        Due.noNumber("6 days", () -> x.odds(6, 0));
        Due.noNumber("-1 days", () -> x.odds(-1, 0));
        Due.noNumber("6 times", () -> x.odds(0, 6));
        Due.noNumber("-1 times", () -> x.odds(0, -1));
    }

    private static void most() {
        SnowNames x = new SnowNames();
        for (int what = 0; what < 3; what++) {
            Due.is("none", x.most(what), -1);
        }
        Due.noWhat("most(3)", () -> x.most(3));
        Due.noWhat("most(-1)", () -> x.most(-1));
        Due.province(x, "field slope 0 room 9 snow 5;field slope 0 room 10 snow 5;field slope 0 room 9 snow 6;name a;name bb;name cc");
        Due.is("widest", x.most(0), 1);
        Due.is("snowiest", x.most(1), 2);
        Due.is("longest, the least", x.most(2), 1);
        Due.is("the first is the longest", Due.of("name bb;name a").most(2), 0);
        x.write(1, 1);
        Due.is("by room left, the least", x.most(0), 0);
        x.snow(0, 1);
        Due.is("the least", x.most(1), 0);
    }

    private static void written() {
        SnowNames x = Due.of("field slope 0 room 9 snow 9;hares 59;name a;name bb on 0;name cc on 0");
        Due.is("written", x.written(false), 6);
        Due.is("whole", x.written(true), 6);
        x.days(1);
        // 10113 modulo 2 is 1.
        Due.is("written", x.written(false), 6);
        Due.is("whole", x.written(true), 2);
        Due.is("nobody", new SnowNames().written(false), 0);
    }
}
