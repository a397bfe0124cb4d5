import java.io.IOException;
import java.nio.file.Files;
import java.nio.file.Path;

/**
 * Each sentence of the document that names an edge of a day, of an act, and of what is kept of them, with a test of its
 * own. From SEED 1 the draws are 16838, 5758, 10113, 17515, 31051, 5627, 23010, 7419, 16212, 4086, 2749, 12767, ..
 */
public final class EdgesOfActsTest {
    private static final String ONE = "field slope 0 room 20 snow 50";
    private static final String FLAT = ONE + ";";

    private static String doc = "";

    public static void main(String[] args) throws IOException {
        doc = Files.readString(Path.of("../shared/DOC.md"));
        falls();
        thaws();
        hares();
        winds();
        daysAndDraws();
        daysAndWrite();
        strikeAndTread();
        debts();
        slopeAndSnow();
        log();
        undone();
        image();
        count();
        refused();
        manyCalls();
        Due.end("EdgesOfActsTest");
    }

    private static void edge(String sentence, Runnable test) {
        Due.sentence(doc, sentence, test);
    }

    private static SnowNames after(int days, String province) {
        SnowNames x = Due.of(province);
        x.days(days);
        return x;
    }

    private static void falls() {
        edge("(a) if DRAW modulo 100 is below FALL (the DRAW always)", () -> {
            Due.is("38 is not below 38", Due.of("fall 38").days(1), 0);
            Due.is("38 is below 39", Due.of("fall 39").days(1), 1);
            SnowNames none = Due.of("fall 0");
            Due.is("never", none.days(60), 0);
            Due.is("the draw always", none.seed(1), Seen.seedAfter(1, 180));
            SnowNames all = Due.of("fall 100");
            Due.is("always", all.days(60), 60);
            Due.is("the draw always", all.seed(1), Seen.seedAfter(1, 180));
        });
        edge("each FIELD'S SNOW is FLAKES more (99 at most)", () -> {
            Due.is("94", after(1, "fall 100;field slope 9 room 1 snow 94").field(0, 1), 99);
            Due.is("95", after(1, "fall 100;field slope 9 room 1 snow 95").field(0, 1), 99);
            Due.is("93", after(1, "fall 100;field slope 9 room 1 snow 93").field(0, 1), 98);
            Due.is("99", after(1, "fall 100;field slope 9 room 1 snow 99").field(0, 1), 99);
            Due.is("none", after(1, "fall 100;flakes 1;field slope 9 room 1").field(0, 1), 1);
            Due.is("the last field", after(1, "fall 100;flakes 9;" + "field slope 0 room 1;".repeat(6) + "day 1").field(5, 1), 9);
        });
        edge("1 less deep (it is snowed in, and may be GONE by that)", () -> {
            String text = "fall 100;" + FLAT + "name ab on 0";
            SnowNames x = after(3, text);
            Due.is("1 deep", x.letter(0, 1, 2), 1);
            Due.is("on its field", x.person(0, 1), 0);
            Due.is("not gone", x.person(0, 2), 2);
            Due.is("whole", x.person(0, 3), 1);
            Due.is("it is read", x.letter(0, 0, 3) + " " + x.letter(0, 1, 3), "0 1");
            Due.is("it is itself", x.person(0, 4), 0);
            Due.is("it is struck by turns", x.first(), 2);
            Due.is("it may be trodden", x.tread(0, 1), 2);
            Due.is("all of it", x.letter(0, 0, 2) + " " + x.letter(0, 1, 2), "2 2");
            SnowNames y = after(4, text);
            Due.is("gone", y.person(0, 1), -1);
            Due.is("went", y.log(0, 2), 2);
            Due.is("there is snow", y.field(0, 1), 70);
        });
        edge("One is ON no FIELD any more whenever all MARKS are GONE.", () -> {
            SnowNames x = after(4, "fall 100;" + FLAT + "name ab on 0");
            Due.is("on", x.person(0, 1), -1);
            Due.is("marks left", x.person(0, 2), 0);
            Due.is("there", x.field(0, 4), 0);
            Due.is("used", x.field(0, 3), 0);
            Due.is("written", x.written(false), 0);
            Due.cannot("nothing to strike out", () -> x.strike(0));
            Due.cannot("nothing to tread", () -> x.tread(0, 1));
        });
    }

    private static void thaws() {
        edge("each FIELD'S SNOW is its SLOPE and 1 less (0 at least)", () -> {
            int[][] due = {{3, 5, 1}, {3, 4, 0}, {3, 3, 0}, {0, 1, 0}, {0, 2, 1}, {0, 0, 0}, {9, 99, 89}, {9, 11, 1}, {9, 10, 0}};
            for (int[] one : due) {
                SnowNames x = after(1, "fall 0;field slope " + one[0] + " room 1 snow " + one[1]);
                Due.is("slope " + one[0] + ", snow " + one[1], x.field(0, 1), one[2]);
            }
        });
        edge("less deep by MELTS of its PERSON and the FIELD, by all as it is ahead of (a) (0 at least", () -> {
            SnowNames x = Due.of("fall 0;" + FLAT + "name ab on 0");
            Due.law(x, "melt 3");
            x.days(1);
            Due.is("4 less 3", x.letter(0, 0, 2), 1);
            SnowNames y = Due.of("fall 0;" + FLAT + "name ab on 0");
            Due.law(y, "melt 4");
            y.days(1);
            Due.is("4 less 4", y.person(0, 1), -1);
            SnowNames z = Due.of("fall 0;" + FLAT + "name ab on 0");
            Due.law(z, "melt 40;melt 40");
            z.days(1);
            Due.is("4 less 80", z.person(0, 1), -1);
            SnowNames w = Due.of("fall 0;day 6;" + FLAT + "name ab on 0");
            Due.law(w, "melt 1 if snow>49 and day<7 and whole;melt 2 if snow<50;melt 2 if day>6;melt 2 if not whole");
            w.days(1);
            Due.is("by snow, day and all else as they were", w.letter(0, 0, 2), 3);
        });
        edge("GONE all, if the FIELD'S SNOW is 0 then", () -> {
            String text = "fall 0;field slope 1 room 9 snow 3;field slope 1 room 9 snow 2;field slope 1 room 9 snow 1;"
                    + "name a on 0;name b on 1;name c on 2";
            SnowNames x = Due.of(text);
            for (int p = 0; p < 3; p++) {
                x.tread(p, 9);
            }
            x.days(1);
            Due.is("1 of snow left", x.letter(0, 0, 2), 9);
            Due.is("none left, 9 deep", x.person(1, 1), -1);
            Due.is("none left of less than it takes", x.person(2, 1), -1);
            Due.is("rows", x.count(11), 2);
        });
    }

    private static void hares() {
        edge("(b) if DRAW modulo 100 is below HARES (the DRAW always), and somebody is ON a FIELD", () -> {
            SnowNames no = after(1, "hares 58;" + FLAT + "name a on 0");
            Due.is("58 is not below 58", no.letter(0, 0, 1), 0);
            Due.is("three draws", no.seed(1), Seen.seedAfter(1, 3));
            SnowNames yes = after(1, "hares 59;" + FLAT + "name a on 0");
            Due.is("58 is below 59", yes.letter(0, 0, 1), 1);
            Due.is("five draws", yes.seed(1), Seen.seedAfter(1, 5));
            SnowNames nobody = after(1, "hares 100;" + FLAT + "name a");
            Due.is("nobody on a field: three draws", nobody.seed(1), Seen.seedAfter(1, 3));
            Due.is("no row", nobody.count(11), 0);
            SnowNames gone = after(1, "fall 0;hares 100;field slope 0 room 1 snow 1;name a on 0");
            Due.is("gone by (a): three draws", gone.seed(1), Seen.seedAfter(1, 3));
            Due.is("one row", gone.count(11), 1);
            Due.is("never", after(60, "fall 0;hares 0;field slope 0 room 1 snow 99;name a on 0").letter(0, 0, 1), 0);
        });
        edge("of those ON one, by numbers, the one by DRAW modulo how many they are", () -> {
            int[] due = {0, 1, 0, 1, 3, 3};
            for (int n = 1; n <= 6; n++) {
                SnowNames x = after(1, "hares 59;" + FLAT + ("name a on 0;").repeat(n) + "name b".repeat(n < 6 ? 1 : 0)
                        + "day 1".repeat(n < 6 ? 0 : 1));
                Due.is("10113 modulo " + n, x.log(0, 1), due[n - 1]);
            }
            SnowNames y = after(1, "hares 59;" + FLAT + FLAT + "name a;name a on 1;name a;name a on 0;name a");
            Due.is("by numbers, not by fields", y.log(0, 1), 3);
        });
        edge("of its MARKS, GONE ones, too, the one by DRAW modulo how many it has", () -> {
            int[] due = {0, 1, 1, 3, 0, 1};
            for (int n = 1; n <= 6; n++) {
                SnowNames x = after(1, "hares 59;" + FLAT + "name " + "a".repeat(n) + " on 0");
                for (int k = 0; k < n; k++) {
                    Due.is("17515 modulo " + n + ", " + k, x.letter(0, k, 1), k == due[n - 1] ? 1 : 0);
                }
            }
        });
        edge("it is the next LETTER (a behind h", () -> {
            SnowNames x = after(1, "hares 59;" + FLAT + "name h on 0");
            Due.is("an a", x.letter(0, 0, 1), 0);
            Due.is("not whole", x.person(0, 3), 0);
            Due.is("g is an h", after(1, "hares 59;" + FLAT + "name g on 0").letter(0, 0, 1), 7);
            SnowNames y = after(8, "fall 0;hares 100;" + FLAT + "name c on 0");
            Due.is("eight times: the same one", y.letter(0, 0, 1), 2);
            Due.is("whole again", y.person(0, 3), 1);
            Due.is("eight rows", y.count(11), 8);
        });
        edge("these two DRAWS just then, in that order", () -> {
            // (a) 16838, (b) 5758, 10113 and 17515, (c) 31051: 51.
            String text = "hares 59;" + FLAT + FLAT + "name aa on 0;";
            Due.is("51 is not below 51", after(1, text + "wind 51").person(0, 1), 0);
            Due.is("51 is below 52", after(1, text + "wind 52").person(0, 1), 1);
        });
    }

    private static void winds() {
        edge("(c) if DRAW modulo 100 is below WIND (the DRAW always)", () -> {
            Due.is("13 is not below 13", after(1, "wind 13;" + FLAT + FLAT + "name a on 0").person(0, 1), 0);
            Due.is("13 is below 14", after(1, "wind 14;" + FLAT + FLAT + "name a on 0").person(0, 1), 1);
            Due.is("never", after(3, "wind 0;" + FLAT + FLAT + "name a on 0").person(0, 1), 0);
            Due.is("always", after(3, "wind 100;" + FLAT + FLAT + "name a on 0").person(0, 1), 1);
        });
        edge("(0 behind the last one; with one FIELD that itself)", () -> {
            String three = FLAT + FLAT + FLAT;
            SnowNames x = after(1, "wind 100;" + three + "name a on 0;name a on 1;name a on 2");
            Due.is("all one on", x.person(0, 1) + " " + x.person(1, 1) + " " + x.person(2, 1), "1 2 0");
            Due.is("the sixth", after(1, "wind 100;" + three + three + "name a on 5").person(0, 1), 0);
            SnowNames y = after(1, "wind 100;" + FLAT + "name a on 0");
            Due.is("itself", y.person(0, 1), 0);
            Due.is("no row", y.count(11), 0);
        });
        edge("if that has SNOW above 0, and else ON none (ROOM is no matter)", () -> {
            String text = "wind 100;fall 0;field slope 0 room 6 snow 9;field slope 1 room 1 snow ";
            SnowNames x = after(1, text + "3;name abcdef on 0");
            Due.is("1 of snow then", x.person(0, 1), 1);
            Due.is("used beyond its room", x.field(1, 3), 6);
            Due.is("no row", x.count(11), 0);
            SnowNames y = after(1, text + "2;name abcdef on 0");
            Due.is("no snow then", y.person(0, 1), -1);
            Due.is("blown", y.log(0, 2), 4);
            Due.is("where it was", y.log(0, 3), 0);
            Due.is("on the day that ends", y.log(0, 0), 0);
            Due.is("snow that just came", after(1, "wind 100;fall 100;field slope 0 room 6 snow 9;field slope 1 room 1;"
                    + "name a on 0").person(0, 1), 1);
            Due.cannot("room is a matter to who writes", () -> x.write(0, 1));
        });
        edge("(4; by numbers)", () -> {
            SnowNames x = after(1, "wind 100;fall 0;field slope 0 room 9 snow 9;field slope 0 room 9;field slope 0 room 9 snow 9;"
                    + "field slope 0 room 9;name a on 2;name b on 0;name c on 2");
            Due.is("three rows", x.count(11), 3);
            Due.is("who", x.log(2, 1) + " " + x.log(1, 1) + " " + x.log(0, 1), "0 1 2");
            Due.is("where", x.log(2, 3) + " " + x.log(1, 3) + " " + x.log(0, 3), "2 0 2");
        });
        edge("all of whose MARKS went in a thaw or a fall (2; by numbers)", () -> {
            SnowNames x = after(1, "fall 0;field slope 0 room 9 snow 1;field slope 0 room 9 snow 1;name a on 1;name b;name c on 0");
            Due.is("two rows", x.count(11), 2);
            Due.is("who", x.log(1, 1) + " " + x.log(0, 1), "0 2");
            Due.is("where", x.log(1, 3) + " " + x.log(0, 3), "1 0");
            SnowNames y = after(4, "fall 100;" + FLAT + "name a on 0;name b on 0");
            Due.is("in a fall", y.log(1, 2) + " " + y.log(0, 2), "2 2");
            Due.is("by numbers", y.log(1, 1) + " " + y.log(0, 1), "0 1");
            Due.is("day 3", y.log(0, 0), 3);
        });
    }

    private static void daysAndDraws() {
        edge("DAY is 1 more (9999 at most)", () -> {
            SnowNames x = Due.of("day 999");
            x.days(1);
            Due.is("1000", x.count(9), 1000);
            for (int i = 0; i < 149; i++) {
                x.days(60);
            }
            x.days(58);
            Due.is("9998", x.count(9), 9998);
            x.days(1);
            Due.is("9999", x.count(9), 9999);
            x.days(1);
            Due.is("9999 still", x.count(9), 9999);
            x.days(60);
            Due.is("9999 still", x.count(9), 9999);
            Due.province(x, "day 0");
            Due.is("told anew", x.count(9), 0);
        });
        edge("as an int that goes round; bits 16 to 30 (SEED 1 at first)", () -> {
            Due.is("1 at first", new SnowNames().seed(1), 1);
            for (int seed : new int[] {0, 1, -1, 6, 12345, 65535, 65536, Integer.MAX_VALUE, Integer.MIN_VALUE, 1 << 30}) {
                long next = (1103515245L * seed + 12345L) & 0xffffffffL;
                int draw = (int) (next / 65536 % 32768) % 100;
                SnowNames x = Due.of("fall " + draw);
                x.seed(seed);
                Due.is("not below, from " + seed, x.days(1), 0);
                Due.is("goes round, from " + seed, x.seed(seed), Seen.seedAfter(seed, 3));
                Due.province(x, "fall " + (draw + 1));
                Due.is("below, from " + seed, x.days(1), 1);
            }
        });
        edge("SEED: what it was.", () -> {
            SnowNames x = new SnowNames();
            Due.is("at first", x.seed(Integer.MIN_VALUE), 1);
            Due.is("the least", x.seed(Integer.MAX_VALUE), Integer.MIN_VALUE);
            Due.is("the greatest", x.seed(-1), Integer.MAX_VALUE);
            Due.is("as NONE", x.seed(0), -1);
            Due.is("0", x.seed(0), 0);
            Due.is("no act", x.count(12), 0);
        });
        edge("So many DAYS more (1 to 60): on how many of these it snowed.", () -> {
            SnowNames x = new SnowNames();
            Due.noNumber("0", () -> x.days(0));
            Due.noNumber("61", () -> x.days(61));
            Due.noNumber("-1", () -> x.days(-1));
            Due.noNumber("the greatest", () -> x.days(Integer.MAX_VALUE));
            Due.noNumber("the least", () -> x.days(Integer.MIN_VALUE));
            Due.is("no day, no draw, no act", x.count(9) + " " + x.seed(1) + " " + x.count(12), "0 1 0");
            // 38, 15, 10, 86 and 84.
            Due.is("1", x.days(1), 1);
            Due.is("4", x.days(4), 2);
            x.seed(1);
            int snowed = 0;
            int seed = 1;
            for (int day = 0; day < 60; day++) {
                seed = Seen.seedAfter(seed, 1);
                snowed += (seed >>> 16 & 32767) % 100 < 50 ? 1 : 0;
                seed = Seen.seedAfter(seed, 2);
            }
            Due.is("60", x.days(60), snowed);
            Due.is("65 days", x.count(9), 65);
        });
    }

    private static void daysAndWrite() {
        edge("IllegalStateException: the FIELD has no SNOW, or not enough ROOM left (the PERSON'S own LETTERS there, if it "
                + "is ON that FIELD, are not counted as USED).", () -> {
            SnowNames x = Due.of("field slope 0 room 5 snow 1;field slope 0 room 9;name abc;name de;name f;name abcdef");
            Due.cannot("no snow", () -> x.write(0, 1));
            x.snow(1, 1);
            Due.is("1 of snow", x.write(0, 1), 4);
            Due.is("3 of 5", x.write(0, 0), 4);
            Due.is("5 of 5", x.write(1, 0), 4);
            Due.cannot("6 of 5", () -> x.write(2, 0));
            Due.is("its own are not counted", x.write(0, 0), 4);
            Due.is("5 of 5 still", x.field(0, 3), 5);
            Due.cannot("6 alone", () -> x.write(3, 0));
            Due.is("6 of 9", x.write(3, 1), 4);
            Due.cannot("own letters of another field are no matter", () -> x.write(3, 0));
            Due.is("7 of 9", x.write(2, 1), 4);
            Due.is("9 of 9", x.write(1, 1), 4);
            Due.cannot("10 of 9", () -> x.write(0, 1));
        });
        edge("(in place of where it was; there, too: its MARKS are anew)", () -> {
            SnowNames x = Due.of("hares 100;fall 0;" + FLAT + FLAT + "name a on 0");
            x.days(1);
            x.tread(0, 2);
            Due.is("altered", x.letter(0, 0, 1), 1);
            Due.is("written there", x.write(0, 0), 4);
            Due.is("anew", x.letter(0, 0, 1) + " " + x.letter(0, 0, 2), "0 4");
            x.write(0, 1);
            Due.is("in place of where it was", x.field(0, 4) + " " + x.field(1, 4), "0 1");
        });
        edge("A PERSON is WRITTEN: DEEP.", () -> {
            SnowNames x = Due.of(FLAT + "name a;name b", "deep 5 if not written;deep 1 if whole");
            Due.is("ahead of it it was not written", x.write(0, 0), 9);
            Due.is("ahead of it it was whole", x.write(0, 0), 5);
            Due.noIndex("no person", () -> x.write(2, 0));
            Due.noIndex("no person", () -> x.write(-1, 0));
            Due.noIndex("no field", () -> x.write(0, 1));
            Due.noIndex("no field", () -> x.write(0, -1));
        });
    }

    private static void strikeAndTread() {
        edge("Struck out: the FIELD where it was. IllegalStateException: it is ON none.", () -> {
            SnowNames x = Due.of(FLAT + FLAT + "name a on 1;name b");
            Due.cannot("on none", () -> x.strike(1));
            Due.is("the field", x.strike(0), 1);
            Due.cannot("on none any more", () -> x.strike(0));
            Due.noIndex("nobody", () -> x.strike(2));
            Due.noIndex("nobody", () -> x.strike(-1));
            Due.is("one row, one act", x.count(11) + " " + x.count(12), "1 1");
        });
        edge("trodden deeper (each MARK that is not GONE by N more, 9 at most each)", () -> {
            SnowNames x = Due.of(FLAT + "name ab on 0;name c on 0");
            Due.is("1 more", x.tread(0, 1), 5);
            Due.is("4 more", x.tread(0, 4), 9);
            Due.is("9 at most", x.tread(0, 1), 9);
            Due.is("each", x.letter(0, 0, 2) + " " + x.letter(0, 1, 2), "9 9");
            Due.is("9 at once", x.tread(1, 9), 9);
            Due.is("its depth", x.letter(1, 0, 2), 9);
            SnowNames y = Due.of(FLAT + FLAT + "name abcdef on 0;".repeat(3) + "name abcdef on 1;".repeat(3) + "day 1");
            for (int p = 5; p >= 0; p--) {
                Due.is("person " + p, y.tread(p, p == 0 ? 9 : p), p == 0 ? 9 : 4 + p);
            }
            for (int p = 0; p < 6; p++) {
                for (int k = 0; k < 6; k++) {
                    Due.is("letter " + k + " of " + p, y.letter(p, k, 2), p == 0 ? 9 : 4 + p);
                }
            }
        });
        edge("each with a DEPTH 0 to 9; a MARK of DEPTH 0 is GONE", () -> {
            SnowNames x = Due.of("fall 100;" + FLAT + "name ab on 0", "deep 40");
            x.write(0, 0);
            Due.is("9 deep", x.letter(0, 1, 2), 9);
            x.days(8);
            Due.is("1 deep", x.letter(0, 1, 2), 1);
            Due.is("there", x.person(0, 2), 2);
            x.days(1);
            Due.is("gone", x.person(0, 2), 0);
            Due.is("no depth on none", x.letter(0, 1, 2), -1);
        });
        edge("Trodden deeper: the greatest DEPTH of its MARKS then.", () -> {
            SnowNames x = after(3, "fall 100;" + FLAT + "name ab on 0");
            Due.is("1 and 8", x.tread(0, 8), 9);
            SnowNames y = after(3, "fall 100;" + FLAT + "name ab on 0");
            Due.is("1 and 7", y.tread(0, 7), 8);
        });
        edge("IllegalArgumentException: n is none (1 to 9); IllegalStateException: it is ON none.", () -> {
            SnowNames x = Due.of(FLAT + "name a on 0;name b");
            Due.noNumber("0", () -> x.tread(0, 0));
            Due.noNumber("10", () -> x.tread(0, 10));
            Due.noNumber("-1", () -> x.tread(0, -1));
            Due.noNumber("the least", () -> x.tread(0, Integer.MIN_VALUE));
            Due.noNumber("the greatest", () -> x.tread(0, Integer.MAX_VALUE));
            Due.cannot("on none", () -> x.tread(1, 1));
            Due.noNumber("0 of one on none", () -> x.tread(1, 0));
            Due.noIndex("0 of nobody", () -> x.tread(2, 0));
            Due.noIndex("nobody", () -> x.tread(-1, 1));
            Due.is("as deep", x.letter(0, 0, 2), 4);
        });
    }

    private static void debts() {
        edge("IllegalArgumentException: both are one, or n is none (1 to 99); IllegalStateException: there are 8.", () -> {
            SnowNames x = Due.of("name a;name b");
            Due.noNumber("both are one", () -> x.lend(1, 1, 1));
            Due.noNumber("0", () -> x.lend(0, 1, 0));
            Due.noNumber("100", () -> x.lend(0, 1, 100));
            Due.noNumber("-1", () -> x.lend(0, 1, -1));
            Due.is("1", x.lend(0, 1, 1), 0);
            Due.is("99", x.lend(1, 0, 99), 1);
            for (int i = 2; i < 8; i++) {
                Due.is("its number", x.lend(0, 1, i), i);
            }
            Due.cannot("a ninth", () -> x.lend(0, 1, 1));
            Due.noNumber("a ninth of 0", () -> x.lend(0, 1, 0));
            Due.noNumber("a ninth to oneself", () -> x.lend(0, 0, 1));
            Due.noIndex("a ninth of nobody", () -> x.lend(2, 2, 0));
            Due.noIndex("to nobody", () -> x.lend(0, 2, 1));
            Due.noIndex("to nobody", () -> x.lend(0, -1, 1));
            Due.is("eight", x.count(2), 8);
        });
        edge("a DEBT is paid (it is no more; those of greater numbers have each the number 1 less)", () -> {
            SnowNames x = Due.of(FLAT + "name a on 0;name b on 0");
            for (int i = 0; i < 8; i++) {
                x.lend(i % 2, 1 - i % 2, 10 + i);
            }
            Due.is("the first", x.pay(0), 10);
            Due.is("the last", x.pay(6), 17);
            Due.is("one between", x.pay(2), 13);
            Due.noIndex("it is no more", () -> x.pay(5));
            int[] due = {11, 12, 14, 15, 16};
            for (int i = 0; i < 5; i++) {
                Due.is("debt " + i, x.debt(i, 2), due[i]);
                Due.is("of whom", x.debt(i, 0), due[i] % 2);
                Due.is("to whom", x.debt(i, 1), 1 - due[i] % 2);
            }
            Due.is("a new one has the next number", x.lend(0, 1, 5), 5);
        });
        edge("IllegalStateException: who owes it is not WHOLE, or the other one is not.", () -> {
            SnowNames x = Due.of(FLAT + "hares 59;name a on 0;name b on 0;name c on 0;debt 1 2 5;debt 0 1 6;debt 2 0 7");
            // 10113 modulo 3 is 0: a is altered.
            x.days(1);
            Due.cannot("who owes is altered", () -> x.pay(1));
            Due.cannot("the other one is altered", () -> x.pay(2));
            Due.is("both are whole", x.pay(0), 5);
            x.write(0, 0);
            Due.is("written anew", x.pay(0), 6);
            x.strike(2);
            Due.cannot("who owes is on none", () -> x.pay(0));
            x.write(2, 0);
            x.strike(0);
            Due.cannot("the other one is on none", () -> x.pay(0));
            Due.noIndex("none", () -> x.pay(1));
            Due.noIndex("none", () -> x.pay(-1));
            Due.is("one is left", x.count(2), 1);
        });
    }

    private static void slopeAndSnow() {
        edge("A SLOPE is told: what it was. IllegalArgumentException: n is none (0 to 9).", () -> {
            SnowNames x = Due.of("field slope 3 room 1;field slope 4 room 1");
            Due.is("9", x.slope(0, 9), 3);
            Due.is("0", x.slope(0, 0), 9);
            Due.noNumber("10", () -> x.slope(0, 10));
            Due.noNumber("-1", () -> x.slope(0, -1));
            Due.noIndex("no field", () -> x.slope(2, 0));
            Due.noIndex("no field, no number", () -> x.slope(-1, 10));
            Due.is("as told", x.field(0, 0) + " " + x.field(1, 0), "0 4");
        });
        edge("Snow is put on a FIELD: SNOW then (99 at most). IllegalArgumentException: n is none (1 to 99).", () -> {
            SnowNames x = Due.of("field slope 3 room 1;field slope 4 room 1");
            Due.is("1", x.snow(0, 1), 1);
            Due.is("97 more", x.snow(0, 97), 98);
            Due.is("1 more", x.snow(0, 1), 99);
            Due.is("99 at most", x.snow(0, 1), 99);
            Due.is("99 at once", x.snow(1, 99), 99);
            Due.is("99 twice", x.snow(1, 99), 99);
            Due.noNumber("0", () -> x.snow(0, 0));
            Due.noNumber("100", () -> x.snow(0, 100));
            Due.noNumber("-1", () -> x.snow(0, -1));
            Due.noNumber("the greatest", () -> x.snow(0, Integer.MAX_VALUE));
            Due.noIndex("no field", () -> x.snow(2, 0));
        });
    }

    private static void log() {
        edge("in the order in which it came about, the latest 60", () -> {
            SnowNames x = Due.of(FLAT + FLAT + "name a;name b");
            x.write(1, 1);
            x.strike(1);
            for (int i = 2; i < 60; i++) {
                x.write(0, i % 2);
            }
            Due.is("60", x.count(11), 60);
            Due.is("the first", x.log(59, 1) + " " + x.log(59, 2), "1 0");
            Due.is("none 60 ago", x.log(60, 1), -1);
            x.write(0, 0);
            Due.is("60 still", x.count(11), 60);
            Due.is("the first one went", x.log(59, 1) + " " + x.log(59, 2), "1 1");
            x.write(0, 1);
            Due.is("so did the second one", x.led(1, false) + " " + x.led(1, true) + " " + x.led(0, false), "0 -1 60");
            Due.is("the latest", x.log(0, 3), 1);
        });
        edge("(of 0 on which it is written, else where it was)", () -> {
            SnowNames x = Due.of(FLAT + FLAT + "name a on 0");
            x.write(0, 1);
            Due.is("written on", x.log(0, 3), 1);
            x.strike(0);
            Due.is("struck out where it was", x.log(0, 3), 1);
        });
        edge("LED: how many rows of THE LOG are of a PERSON; the DAY of the latest (none).", () -> {
            SnowNames x = Due.of("day 5;" + FLAT + "name a;name b");
            Due.is("no row", x.led(0, false), 0);
            Due.is("none", x.led(0, true), -1);
            x.write(0, 0);
            Due.is("one row", x.led(0, false), 1);
            Due.is("its day", x.led(0, true), 5);
            Due.is("none of the other one", x.led(1, true), -1);
            Due.noIndex("nobody", () -> x.led(2, true));
            Due.noIndex("nobody", () -> x.led(-1, false));
        });
        edge("THE LOG so many ago (0 the latest) what 0 DAY, 1 the PERSON, 2 0 to 4, 3 the FIELD; NONE without. "
                + "NoSuchElementException: another what.", () -> {
            SnowNames x = Due.of("day 5;" + FLAT + "name a;name b");
            Due.is("without", x.log(0, 0), -1);
            Due.noWhat("another what without a row", () -> x.log(0, 4));
            x.write(1, 0);
            Due.is("day, person, 0, field", x.log(0, 0) + " " + x.log(0, 1) + " " + x.log(0, 2) + " " + x.log(0, 3), "5 1 0 0");
            Due.is("1 ago", x.log(1, 3), -1);
            Due.is("-1 ago", x.log(-1, 1), -1);
            Due.is("the greatest", x.log(Integer.MAX_VALUE, 1), -1);
            Due.is("the least", x.log(Integer.MIN_VALUE, 1), -1);
            Due.noWhat("4", () -> x.log(0, 4));
            Due.noWhat("-1", () -> x.log(0, -1));
        });
    }

    private static void undone() {
        edge("(12 are remembered; DAYS of one call are one)", () -> {
            SnowNames x = Due.of("fall 0;" + ONE);
            Due.is("none", x.undo(), false);
            x.days(40);
            Due.is("one", x.count(12), 1);
            Due.is("undone", x.undo(), true);
            Due.is("all forty", x.field(0, 1) + " " + x.count(9) + " " + x.count(12), "50 0 0");
            for (int i = 1; i <= 12; i++) {
                x.slope(0, i % 10);
                Due.is("remembered", x.count(12), i);
            }
            x.slope(0, 9);
            Due.is("12 still", x.count(12), 12);
            for (int i = 12; i >= 1; i--) {
                Due.is("undone", x.undo(), true);
                Due.is("as ahead of it", x.field(0, 0), i % 10);
            }
            Due.is("the first one is remembered no more", x.undo(), false);
            Due.is("as behind it", x.field(0, 0), 1);
        });
        edge("UNDONE: whether there was one.", () -> {
            SnowNames x = Due.of(ONE);
            Due.is("none", x.undo(), false);
            x.snow(0, 1);
            Due.is("one", x.undo(), true);
            Due.is("none any more", x.undo(), false);
        });
        edge("all is as ahead of it (but for the TAPE, fault(), THE IMAGE", () -> {
            SnowNames x = Due.of(FLAT + "name ab");
            String before = Seen.all(x);
            x.write(0, 0);
            Due.tape(x, "x");
            Due.noNumber("a wrong text", () -> x.province());
            x.image();
            x.seed(5);
            x.feed(1, 2, 3, 4, 5);
            Due.is("undone", x.undo(), true);
            Due.is("all, the seed, too", Seen.all(x), before);
            Due.is("not the tape", x.end(20), true);
            Due.is("not fault()", x.fault(), 0);
            Due.is("not the image", x.back(), true);
            Due.is("as it was kept", x.person(0, 1), 0);
        });
        edge("an ACT that went as the thirteenth came is remembered no more", () -> {
            SnowNames x = Due.of(ONE);
            for (int i = 1; i <= 13; i++) {
                x.slope(0, i % 10);
            }
            x.undo();
            Due.is("one less, though there is room again", x.count(12), 11);
            x.slope(0, 5);
            for (int i = 0; i < 12; i++) {
                Due.is("undone", x.undo(), true);
            }
            Due.is("the first one is remembered no more", x.undo(), false);
            Due.is("as behind it", x.field(0, 0), 1);
        });
        edge("A text, going back: none are remembered.", () -> {
            SnowNames x = Due.of(ONE);
            x.slope(0, 1);
            Due.province(x, "");
            Due.is("a province", x.count(12) + " " + x.undo() + " " + x.field(0, 0), "0 false 1");
            x.slope(0, 2);
            Due.law(x, "");
            Due.is("a law", x.count(12) + " " + x.undo() + " " + x.field(0, 0), "0 false 2");
            x.image();
            x.slope(0, 3);
            Due.is("keeping the image forgets nothing", x.count(12), 1);
            Due.is("back", x.back(), true);
            Due.is("going back", x.count(12) + " " + x.undo() + " " + x.field(0, 0), "0 false 2");
            x.slope(0, 4);
            Due.tape(x, "deep 1;");
            Due.noNumber("a wrong law", () -> x.law());
            Due.tape(x, "day 1;");
            Due.noNumber("a wrong province", () -> x.province());
            Due.is("wrong ones forget nothing", x.count(12) + " " + x.undo() + " " + x.field(0, 0), "1 true 2");
        });
    }

    private static void image() {
        edge("true; false, and nothing happens, if none was kept", () -> {
            SnowNames x = Due.of(ONE);
            x.slope(0, 4);
            Due.is("none", x.back(), false);
            Due.is("nothing happened", x.field(0, 0) + " " + x.count(12), "4 1");
            Due.is("the act is undone", x.undo(), true);
            x.image();
            x.slope(0, 5);
            Due.is("one", x.back(), true);
            Due.is("as it was kept", x.field(0, 0), 0);
            Due.is("and once more", x.back(), true);
        });
        edge("THE IMAGE (one) of all may be kept, and gone back to (but for the TAPE, fault() and THE IMAGE itself)", () -> {
            SnowNames x = new SnowNames();
            x.image();
            Due.province(x, FLAT + "name a on 0;fall 0;day 9");
            Due.law(x, "deep 2");
            x.seed(8);
            x.days(2);
            Due.tape(x, " x");
            Due.noNumber("a wrong text", () -> x.law());
            x.feed(0, 0, 0, 0, 0);
            x.back();
            Due.is("all as it was made", Seen.all(x), Seen.all(new SnowNames()));
            Due.is("no law", x.count(4), -1);
            Due.is("fault()", x.fault(), 1);
            Due.is("the tape", x.end(20), true);
            Due.province(x, ONE);
            x.image();
            x.slope(0, 3);
            x.image();
            x.slope(0, 5);
            x.back();
            Due.is("the one kept at last", x.field(0, 0), 3);
            Due.is("texts count, too", x.count(3), 1);
        });
        edge("THE PROVINCE is told in texts (at most 12", () -> {
            SnowNames x = new SnowNames();
            x.image();
            for (int i = 0; i < 12; i++) {
                Due.province(x, "");
            }
            Due.tape(x, "");
            Due.fails("a 13th", UnsupportedOperationException.class, () -> x.province());
            x.back();
            Due.is("going back there are none", Due.province(x, "day 3"), 1);
        });
    }

    private static void count() {
        edge("4 LINES of THE LAW (NONE without one)", () -> {
            SnowNames x = new SnowNames();
            Due.is("without", x.count(4), -1);
            Due.tape(x, "melt");
            Due.noNumber("wrong", () -> x.law());
            Due.is("without still", x.count(4), -1);
            Due.law(x, "");
            Due.is("of no line", x.count(4), 0);
            Due.law(x, "melt 1;".repeat(11) + "melt 1");
            Due.is("of twelve", x.count(4), 12);
        });
        edge("10 SNOW of all together", () -> {
            Due.is("of none", new SnowNames().count(10), 0);
            Due.is("of six", Due.of("field slope 0 room 1 snow 99;".repeat(6) + "day 1").count(10), 594);
        });
        edge("NONE for another what.", () -> {
            SnowNames x = new SnowNames();
            for (int what : new int[] {-1, 13, 14, 100, Integer.MIN_VALUE, Integer.MAX_VALUE}) {
                Due.is("count(" + what + ")", x.count(what), -1);
            }
            Due.is("12 is none of them", x.count(12), 0);
        });
    }

    private static void refused() {
        edge("Of several exceptions the one told first is thrown; a call that throws changes nothing", () -> {
            SnowNames x = Due.of(FLAT + "field slope 0 room 1;name ab on 0;name c;hares 100;"
                    + "debt 0 1 1;".repeat(7) + "debt 1 0 1", "deep 1 if owes");
            x.days(1);
            x.snow(0, 1);
            String before = Seen.all(x);
            Due.noNumber("days", () -> x.days(0));
            Due.noIndex("write", () -> x.write(2, 2));
            Due.cannot("write", () -> x.write(0, 1));
            Due.noIndex("strike", () -> x.strike(2));
            Due.cannot("strike", () -> x.strike(1));
            Due.noIndex("tread", () -> x.tread(2, 0));
            Due.noNumber("tread", () -> x.tread(1, 0));
            Due.cannot("tread", () -> x.tread(1, 1));
            Due.noIndex("lend", () -> x.lend(2, 2, 0));
            Due.noNumber("lend", () -> x.lend(1, 1, 1));
            Due.noNumber("lend", () -> x.lend(1, 0, 0));
            Due.cannot("lend", () -> x.lend(1, 0, 1));
            Due.noIndex("pay", () -> x.pay(8));
            Due.cannot("pay", () -> x.pay(0));
            Due.noIndex("slope", () -> x.slope(2, 10));
            Due.noNumber("slope", () -> x.slope(1, 10));
            Due.noIndex("snow", () -> x.snow(2, 0));
            Due.noNumber("snow", () -> x.snow(1, 0));
            Due.is("all as it was", Seen.all(x), before);
            Due.is("two acts", x.count(12), 2);
        });
    }

    private static void manyCalls() {
        edge("An object is used for at most 512 calls after it has been made", () -> {
            SnowNames x = new SnowNames();
            x.feed(0x66616c6c, 0x20303b20, 0x6669656c, 0x6420736c, 0x6f706520);
            x.feed(0x3020726f, 0x6f6d2035, 0x20736e6f, 0x77203939, 0x3b206e61);
            x.feed(0x6d652061, 0x62636400, 0, 0, 0);
            x.end(47);
            Due.is("the 5th", x.province(), 1);
            for (int call = 6; call < 511; call++) {
                Due.is("call " + call, x.write(0, 0), 4);
            }
            Due.is("the 511th", x.days(60), 0);
            Due.is("the 512th", x.field(0, 1), 39);
        });
    }
}
