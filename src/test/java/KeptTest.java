/** Promises 44 to 53: days ahead, trials, the log, the seed, acts undone, the image and what is counted. */
public final class KeptTest {
    public static void main(String[] args) {
        ahead();
        trial();
        span();
        log();
        led();
        seed();
        undo();
        undoRemembers();
        image();
        count();
        Due.end("KeptTest");
    }

    private static void ahead() {
        // Ahead it thaws, whatever would fall, come or blow.
        SnowNames x = Due.of("fall 100;hares 100;wind 100;field slope 2 room 9 snow 20;field slope 0 room 9 snow 3;"
                + "name ab on 0;name c on 1");
        Due.is("today", x.ahead(0, 0, false), 20);
        Due.is("in 1 day", x.ahead(0, 1, false), 17);
        Due.is("in 6 days", x.ahead(0, 6, false), 2);
        Due.is("0 at least", x.ahead(0, 7, false), 0);
        Due.is("in 60 days", x.ahead(0, 60, false), 0);
        Due.is("there in 3 days", x.ahead(0, 3, true), 1);
        Due.is("there in 4 days", x.ahead(0, 4, true), 0);
        Due.is("till the snow is gone", x.ahead(1, 2, true), 2);
        Due.is("gone with it", x.ahead(1, 3, true), 0);
        Due.is("nothing stays", x.field(0, 1), 20);
        Due.is("nothing stays", x.count(9), 0);
        Due.is("no row", x.count(11), 0);
        Due.is("no draws", x.seed(1), 1);
        Due.noIndex("no field", () -> x.ahead(2, -1, true));
        Due.noNumber("-1", () -> x.ahead(0, -1, true));
        Due.noNumber("61", () -> x.ahead(1, 61, false));
        Due.law(x, "melt 3 if day>0");
        Due.is("the days go on ahead", x.ahead(0, 1, true), 1);
        Due.is("melts by the day then", x.ahead(0, 2, true), 0);
    }

    private static void trial() {
        // Day 1 falls by 38 below 50, and so do days 2 and 3; day 4, of 86, thaws.
        SnowNames x = Due.of("flakes 3;field slope 9 room 9 snow 20;field slope 0 room 9 snow 97;name ab on 0;name c on 1");
        Due.is("today", x.trial(0, true), 117);
        Due.is("day 1", x.trial(1, true), 23 + 99);
        Due.is("day 3", x.trial(3, true), 29 + 99);
        Due.is("day 4", x.trial(4, true), 19 + 98);
        Due.is("written today", x.trial(0, false), 3);
        Due.is("written on day 3", x.trial(3, false), 3);
        // 4 less 3 falls is 1, less 4 and less 0.
        Due.is("written on day 4", x.trial(4, false), 2);
        Due.is("no row", x.count(11), 0);
        Due.is("nothing stays", x.count(10), 117);
        Due.is("no act", x.count(12), 0);
        Due.is("from the seed as it is", x.seed(5), 1);
        x.days(1);
        x.seed(1);
        Due.noNumber("-1", () -> x.trial(-1, true));
        Due.noNumber("61", () -> x.trial(61, false));
    }

    private static void span() {
        // First draws of SEED 1 to 6, modulo 100: 38, 8, 46, 17, 55, 25 as the rule has them.
        int below = 0;
        for (int seed = 1; seed <= 6; seed++) {
            int draw = (1103515245 * seed + 12345) >>> 16 & 32767;
            below += draw % 100 < 40 ? 1 : 0;
        }
        Due.is("some fall, some thaw", below > 0 && below < 6, true);
        // A fall leaves all marks; a thaw takes those of a on its slope, and b stays.
        SnowNames x = Due.of("fall 40;field slope 9 room 9 snow 9;field slope 0 room 9 snow 9;name a on 0;name b on 1;name c");
        Due.is("the least", x.span(1, false), 1);
        Due.is("the greatest", x.span(1, true), 2);
        Due.is("today", x.span(0, false), 2);
        Due.is("today", x.span(0, true), 2);
        Due.is("nothing stays", x.seed(77), 1);
        Due.is("whatever the seed", x.span(1, false) * 10 + x.span(1, true), 12);
        Due.noNumber("-1", () -> x.span(-1, true));
        Due.noNumber("61", () -> x.span(61, false));
        Due.is("nobody", new SnowNames().span(60, false), 0);
        spanBySeeds();
        // Written ones that are not whole do not count.
        SnowNames y = Due.of("fall 0;hares 100;field slope 0 room 9 snow 99;name a on 0");
        Due.is("altered, not whole", y.span(1, true), 0);
        Due.is("altered eight times, whole again", y.span(8, false), 1);
    }

    /** Each fall parts the seeds otherwise, so that each of them is the least or the greatest once. */
    private static void spanBySeeds() {
        SnowNames x = Due.of("hares 20;field slope 0 room 9 snow 9;field slope 9 room 9 snow 9;name a on 0;name b on 1;name cd on 0");
        x.image();
        for (int fall = 0; fall <= 100; fall++) {
            x.back();
            Due.province(x, "fall " + fall);
            SnowNames y = Due.of("hares 20;field slope 0 room 9 snow 9;field slope 9 room 9 snow 9;name a on 0;name b on 1;"
                    + "name cd on 0;fall " + fall);
            for (int n = 1; n < 4; n++) {
                int least = 9;
                int greatest = -1;
                for (int seed = 1; seed <= 6; seed++) {
                    y.seed(seed);
                    y.days(n);
                    int whole = Integer.bitCount(y.written(true));
                    y.undo();
                    least = Math.min(least, whole);
                    greatest = Math.max(greatest, whole);
                }
                Due.is("least of " + n + " days by " + fall, x.span(n, false), least);
                Due.is("greatest of " + n + " days by " + fall, x.span(n, true), greatest);
            }
        }
    }

    private static void log() {
        SnowNames x = Due.of("field slope 0 room 9 snow 9;field slope 0 room 9 snow 9;name a;name b;day 12");
        for (int what = 0; what < 4; what++) {
            Due.is("an empty log", x.log(0, what), -1);
        }
        x.write(1, 1);
        x.strike(1);
        x.write(0, 0);
        int[][] due = {{12, 0, 0, 0}, {12, 1, 1, 1}, {12, 1, 0, 1}, {-1, -1, -1, -1}};
        for (int ago = 0; ago < 4; ago++) {
            for (int what = 0; what < 4; what++) {
                Due.is("log(" + ago + ", " + what + ")", x.log(ago, what), due[ago][what]);
            }
        }
        Due.is("log(-1, 0)", x.log(-1, 0), -1);
        Due.is("log(MAX, 0)", x.log(Integer.MAX_VALUE, 0), -1);
        Due.noWhat("log(0, 4)", () -> x.log(0, 4));
        Due.noWhat("log(-1, -1)", () -> x.log(-1, -1));
        for (int i = 0; i < 57; i++) {
            x.write(1, 0);
        }
        Due.is("60 rows", x.count(11), 60);
        Due.is("the first one", x.log(59, 3), 1);
        x.write(0, 1);
        Due.is("60 rows still", x.count(11), 60);
        Due.is("the first one went", x.log(59, 2), 1);
        Due.is("the latest", x.log(0, 3), 1);
        Due.is("none 60 ago", x.log(60, 0), -1);
        SnowNames y = Due.of("field slope 0 room 9 snow 9;field slope 0 room 9 snow 9;name a;name b");
        for (int i = 0; i < 100; i++) {
            y.write(i / 2 % 2, i / 3 % 2);
        }
        for (int ago = 0; ago < 60; ago++) {
            int i = 99 - ago;
            Due.is("who " + ago + " ago", y.log(ago, 1), i / 2 % 2);
            Due.is("where " + ago + " ago", y.log(ago, 3), i / 3 % 2);
        }
        Due.is("rows of one", y.led(1, false), 30);
        String before = Seen.all(y);
        y.image();
        y.strike(0);
        y.strike(1);
        y.undo();
        y.undo();
        Due.is("a full log undone", Seen.all(y), before);
        y.strike(1);
        y.back();
        Due.is("a full log gone back to", Seen.all(y), before);
    }

    private static void led() {
        SnowNames x = Due.of("fall 0;field slope 0 room 9 snow 50;name a;name b;day 12");
        Due.is("no rows", x.led(0, false), 0);
        Due.is("no day", x.led(0, true), -1);
        x.write(0, 0);
        x.days(1);
        x.write(1, 0);
        x.days(2);
        x.write(0, 0);
        x.days(1);
        Due.is("rows", x.led(0, false), 2);
        Due.is("the latest day", x.led(0, true), 15);
        Due.is("rows", x.led(1, false), 1);
        Due.is("the latest day", x.led(1, true), 13);
        Due.noIndex("nobody", () -> x.led(2, false));
        Due.noIndex("nobody", () -> x.led(-1, true));
    }

    private static void seed() {
        SnowNames x = new SnowNames();
        Due.is("1 at first", x.seed(Integer.MIN_VALUE), 1);
        Due.is("what it was", x.seed(0), Integer.MIN_VALUE);
        x.days(1);
        // From 0: 12345, then 1103515245 times 12345 and 12345, and so on.
        int seed = 0;
        for (int i = 0; i < 3; i++) {
            seed = 1103515245 * seed + 12345;
        }
        Due.is("three draws on", x.seed(9), seed);
        Due.is("no act", x.count(12), 1);
    }

    private static void undo() {
        SnowNames x = Due.of("field slope 3 room 9 snow 50;field slope 0 room 9 snow 9;hares 100;wind 60;fall 30;"
                + "name ab on 0;name c on 1;debt 0 1 5;day 7");
        Due.is("none", x.undo(), false);
        String before = Seen.all(x);
        x.days(5);
        Due.is("days of one call are one", x.count(12), 1);
        Due.is("undone", x.undo(), true);
        Due.is("days", Seen.all(x), before);
        Due.is("none", x.undo(), false);
        String[] states = new String[12];
        for (int i = 0; i < 12; i++) {
            states[i] = Seen.all(x);
            act(x, i);
            Due.is("acts " + i, x.count(12), i + 1);
            Due.is("it did something " + i, Seen.all(x).equals(states[i]), false);
        }
        for (int i = 11; i >= 0; i--) {
            Due.is("undo " + i, x.undo(), true);
            Due.is("as ahead of " + i, Seen.all(x), states[i]);
            Due.is("acts", x.count(12), i);
        }
        Due.is("none", x.undo(), false);
    }

    private static void act(SnowNames x, int i) {
        switch (i) {
            case 0, 8 -> x.write(0, 0);
            case 1, 9 -> x.strike(0);
            case 2 -> x.tread(1, 2);
            case 3 -> x.lend(1, 0, 9);
            case 4 -> x.write(0, 1);
            case 5 -> x.pay(0);
            case 6, 10 -> x.slope(0, i - 1);
            case 7 -> x.snow(1, 3);
            default -> x.days(2);
        }
    }

    private static void undoRemembers() {
        SnowNames x = Due.of("field slope 0 room 9 snow 1;name a;name b");
        for (int i = 1; i <= 15; i++) {
            x.snow(0, 1);
        }
        Due.is("12 are remembered", x.count(12), 12);
        Due.is("undone", x.undo(), true);
        Due.is("as ahead of it", x.field(0, 1), 15);
        x.snow(0, 10);
        for (int i = 0; i < 12; i++) {
            Due.is("undone", x.undo(), true);
        }
        Due.is("the first three are remembered no more", x.field(0, 1), 4);
        Due.is("none", x.undo(), false);
        // What throws is no act, and the seed goes back with the act.
        x.seed(33);
        x.snow(0, 1);
        x.seed(44);
        Due.cannot("strike", () -> x.strike(0));
        Due.noNumber("lend", () -> x.lend(0, 1, 0));
        Due.noNumber("days", () -> x.days(0));
        Due.is("one act", x.count(12), 1);
        Due.tape(x, "fall");
        Due.noNumber("a wrong text", () -> x.province());
        Due.is("one act still", x.count(12), 1);
        Due.is("a tape to stay", x.feed(1, 1, 1, 1, 1), 20);
        x.undo();
        Due.is("the seed", x.seed(1), 33);
        Due.is("the tape stays", x.end(20), true);
        Due.is("fault() stays", x.fault(), 4);
        x.snow(0, 1);
        Due.law(x, "");
        Due.is("a law: none are remembered", x.undo(), false);
        x.snow(0, 1);
        Due.province(x, "");
        Due.is("a province: none are remembered", x.count(12), 0);
        x.snow(0, 1);
        Due.tape(x, "melt");
        Due.noNumber("a wrong law", () -> x.law());
        Due.tape(x, "\0\0");
        x.who();
        x.image();
        Due.is("these forget nothing", x.undo(), true);
        x.snow(0, 1);
        x.back();
        Due.is("back: none are remembered", x.undo(), false);
    }

    private static void image() {
        SnowNames x = new SnowNames();
        Due.is("none was kept", x.back(), false);
        Due.province(x, "field slope 0 room 9 snow 9;name a on 0;fall 7");
        Due.law(x, "deep 1");
        x.write(0, 0);
        x.seed(6);
        String before = Seen.all(x);
        x.image();
        x.write(0, 0);
        x.seed(7);
        Due.law(x, "deep 2;deep 3");
        Due.province(x, "name bc on 0;fall 8;day 5;field slope 1 room 1");
        Due.tape(x, "z");
        Due.noNumber("a wrong text", () -> x.law());
        x.feed(1, 2, 3, 4, 5);
        Due.is("back", x.back(), true);
        Due.is("all of it", Seen.all(x), before);
        Due.is("the law", x.deep(0, 0), 5);
        Due.is("its lines", x.count(4), 1);
        Due.is("the tape stays", x.end(20), true);
        Due.is("fault() stays", x.fault(), 0);
        x.snow(0, 9);
        Due.is("back once more", x.back(), true);
        Due.is("all of it", Seen.all(x), before);
        x.snow(0, 9);
        x.image();
        x.snow(0, 9);
        x.undo();
        x.undo();
        Due.is("undone", x.field(0, 1), 9);
        x.back();
        Due.is("the image is not undone", x.field(0, 1), 18);
        x.days(9);
        Due.is("the image itself is not altered", x.back(), true);
        Due.is("the image itself is not altered", x.field(0, 1), 18);
    }

    private static void count() {
        SnowNames x = Due.of("field slope 0 room 9 snow 9;field slope 0 room 9 snow 90;name a on 0;name b;name c;"
                + "debt 0 1 5;flakes 3;fall 4;hares 5;wind 6;day 7");
        Due.law(x, "melt 1;keep 2");
        x.strike(0);
        int[] due = {2, 3, 1, 1, 2, 3, 4, 5, 6, 7, 99, 1, 1, -1, -1};
        for (int what = 0; what < due.length; what++) {
            Due.is("count(" + what + ")", x.count(what), due[what]);
        }
        Due.is("count(MIN)", x.count(Integer.MIN_VALUE), -1);
    }
}
