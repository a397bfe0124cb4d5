/** Promises 21 to 29, 36, 42 and 43: till a day, who it is, and what is asked of names. */
public final class NamesTest {
    public static void main(String[] args) {
        till();
        tillByLaw();
        who();
        look();
        places();
        change();
        mixedAndSafe();
        together();
        pairs();
        twinsAndHaving();
        Due.end("NamesTest");
    }

    private static void tillIs(SnowNames x, int n, int most, int... where) {
        Due.is("till(" + n + ")", x.till(n, -1), most);
        for (int p = 0; p < where.length; p++) {
            Due.is("till(" + n + ", " + p + ")", x.till(n, p), where[p]);
        }
    }

    private static void till() {
        // On field 0 marks melt by 1 a day: whole for 3 days; on field 1 the snow is gone in 6; field 2 has none.
        SnowNames x = Due.of("field slope 2 room 6 snow 99;field slope 0 room 3 snow 6;field slope 0 room 20;"
                + "name abc on 0;name de;name fg;name h");
        tillIs(x, 3, 4, 0, 0, 1, 0);
        tillIs(x, 4, 2, 0, 0, 1, 1);
        tillIs(x, 5, 2, 0, 0, 1, 1);
        tillIs(x, 6, 0, 0, 0, 1, 0);
        tillIs(x, 60, 0, 0, 0, 1, 0);
        Due.noNumber("till(0, -1)", () -> x.till(0, -1));
        Due.noNumber("till(61, 3)", () -> x.till(61, 3));
        Due.noIndex("till(0, 4)", () -> x.till(0, 4));
        Due.noIndex("till(1, -2)", () -> x.till(1, -2));
        Due.is("nothing stays", x.person(0, 1), 0);
        Due.is("nothing stays", x.person(1, 1), -1);
        // No room: unwritten; a longer one gives way, so that two shorter ones last.
        SnowNames y = Due.of("field slope 0 room 4 snow 99;name abcd;name ab;name ef");
        tillIs(y, 10, 2, -1, 0, 0);
        SnowNames z = Due.of("name a;field slope 0 room 4");
        tillIs(z, 10, 0, -1);
        z.snow(0, 1);
        tillIs(z, 10, 0, 0);
        z.snow(0, 1);
        tillIs(z, 1, 1, 0);
    }

    private static void tillByLaw() {
        // Deep as it is now: person 0 is written, and so deeper; the others are not.
        SnowNames x = Due.of("field slope 2 room 1 snow 99;field slope 2 room 9 snow 99;name a on 0;name b;name c",
                "deep 2 if written;keep 1 if person>1");
        tillIs(x, 5, 2, 0, 1, 1);
        tillIs(x, 6, 1, 0, 1, 1);
        tillIs(x, 3, 3, 0, 1, 1);
        Due.law(x, "melt 9 if field>0 and person<1;melt 9 if field<1 and person>0");
        tillIs(x, 3, 3, 0, 1, 1);
        Due.law(x, "melt 9 if field<1 and person<1;melt 9 if field>0 and person>0");
        tillIs(x, 3, 2, 1, 0, 1);
    }

    private static int whoOf(SnowNames x, String rows) {
        Due.tape(x, rows);
        return x.who();
    }

    private static int likelyOf(SnowNames x, String rows) {
        Due.tape(x, rows);
        return x.likely();
    }

    private static int lookOf(SnowNames x, String rows) {
        Due.tape(x, rows);
        return x.look();
    }

    private static void who() {
        SnowNames x = Due.of("name abc;name abd;name ab;name h;name abc");
        Due.is("no rows: all", whoOf(x, ""), 31);
        Due.is("likely of no rows", likelyOf(x, ""), 0);
        Due.is("one row", whoOf(x, "\0\7"), 31);
        Due.is("likely by one", likelyOf(x, "\0\7"), 3);
        Due.is("a, b, d", whoOf(x, "\0\0\1\1\2\3"), 23);
        Due.is("likely d", likelyOf(x, "\0\0\1\1\2\3"), 1);
        Due.is("two wrong", whoOf(x, "\2\3\2\3"), 2);
        Due.is("nothing there is wrong", whoOf(x, "\5\0\5\0"), 0);
        Due.is("likely none", likelyOf(x, "\5\0\5\0"), -1);
        Due.is("the least of like ones", likelyOf(x, "\2\2"), 0);
        Due.is("one wrong, the least", likelyOf(x, "\2\2\1\4"), 0);
        String forty = "\0\0\0\0\0\0\0\0\0\0\0\0\0\0\0\0\0\0\0\0\0\0\0\0\0\0\0\0\0\0\0\0\0\0\0\0\0\0\0\0";
        Due.is("40 bytes", whoOf(x, forty), 23);
        for (String wrong : new String[] {"\0", "\6\0", "\0\b", "\0\0\0", forty + "\0\0", "\0\0\377\0", "\0\377"}) {
            Due.tape(x, wrong);
            Due.noNumber("who", () -> x.who());
            Due.is("the tape is used up", x.end(1), false);
            Due.tape(x, wrong);
            Due.noNumber("likely", () -> x.likely());
            Due.is("the tape is used up", x.end(1), false);
            Due.tape(x, wrong);
            Due.noNumber("look", () -> x.look());
            Due.is("the tape is used up", x.end(1), false);
        }
        Due.is("fault() is of texts", x.fault(), -1);
        whoOf(x, "\0\0");
        Due.is("the tape is used up", x.end(1), false);
    }

    private static void look() {
        SnowNames x = Due.of("name abc;name abd;name ab;name h");
        Due.is("place 2", lookOf(x, ""), 2);
        Due.is("one alone", lookOf(x, "\0\7\1\7"), -1);
        Due.is("likely that", likelyOf(x, "\0\7\1\7"), 3);
        Due.is("of abc, abd", lookOf(x, "\0\0\1\1\2\2"), 2);
        SnowNames y = Due.of("name aaaaaa;name aaaaab");
        Due.is("the last place", lookOf(y, ""), 5);
        SnowNames z = Due.of("name aa;name aa");
        Due.is("the least of like ones", lookOf(z, ""), 0);
        SnowNames w = Due.of("name ab;name cb;name cd;name ad;name cbe");
        Due.is("two parts of 2 and 3: the least place", lookOf(w, ""), 0);
        Due.is("one", lookOf(Due.of("name a"), ""), -1);
        Due.is("six alike", lookOf(Due.of("name a;name a;name a;name a;name a;name a"), ""), 0);
        // abc and abd fit; the others, all unlike at place 0, do not.
        Due.is("of those alone that fit", lookOf(Due.of("name abc;name abd;name ha;name ga;name fa"), "\0\0\1\1"), 2);
    }

    private static void places() {
        Due.is("nobody", new SnowNames().places(), 0);
        Due.is("one", Due.of("name a").places(), 0);
        Due.is("alike", Due.of("name abc;name d;name abc").places(), -1);
        Due.is("by length", Due.of("name ab;name a").places(), 2);
        Due.is("the least of two", Due.of("name ab;name cd").places(), 1);
        Due.is("two places", Due.of("name aa;name ab;name ba;name bb").places(), 3);
        Due.is("fewest ahead of least", Due.of("name aac;name abd;name bae").places(), 4);
        Due.is("the last", Due.of("name aaaaaa;name aaaaa").places(), 32);
        Due.is("two of many", Due.of("name aabcaa;name aabdaa;name abbcaa;name abbdaa").places(), 10);
    }

    private static void change() {
        SnowNames x = Due.of("name abcdef;name bcdefa;name h;name abcdef;name abdf;name aebcdf");
        Due.is("itself", x.change(0, 0), 0);
        Due.is("like", x.change(0, 3), 0);
        Due.is("one out, one in", x.change(0, 1), 2);
        Due.is("all", x.change(0, 2), 6);
        Due.is("two out", x.change(0, 4), 2);
        Due.is("two in", x.change(4, 0), 2);
        Due.is("moved", x.change(0, 5), 2);
        Due.is("of one", x.change(2, 4), 4);
        Due.noIndex("change(0, 6)", () -> x.change(0, 6));
        Due.noIndex("change(-1, 0)", () -> x.change(-1, 0));
    }

    private static void mixedAndSafe() {
        SnowNames x = Due.of("name ab;name ac;name ad;name hb;name ab;name abc");
        int[] due = {0b001010, 0b010101, 0b000010, 0b010001, 0b001010, 0};
        for (int p = 0; p < 6; p++) {
            int bits = 0;
            for (int q = 0; q < 6; q++) {
                bits |= x.mixed(p, q) ? 1 << q : 0;
            }
            Due.is("mixed of " + p, bits, due[p]);
        }
        Due.noIndex("mixed(6, 0)", () -> x.mixed(6, 0));
        Due.noIndex("mixed(0, -1)", () -> x.mixed(0, -1));
        // ab, ad, ab, abc: four.
        Due.is("safe", x.safe(), 0b110101);
        Due.is("nobody", new SnowNames().safe(), 0);
        Due.is("the least of two", Due.of("name a;name b").safe(), 1);
        Due.is("both ends", Due.of("name b;name a;name c").safe(), 6);
        Due.is("ring", Due.of("name h;name a;name b;name c").safe(), 5);
        SnowNames y = Due.of("day 1");
        y.image();
        Due.province(y, "name a;name b;name b");
        Due.is("two like ones", y.safe(), 6);
        Due.is("pairs", y.pairs(-1), 1);
        y.back();
        Due.province(y, "name a;name c");
        Due.is("nothing of those before", y.safe(), 3);
        Due.is("no pairs any more", y.pairs(-1), 0);
        Due.is("with nobody", y.pairs(1), -1);
        Due.is("two unlike places are not mixed", Due.of("name aa;name bb").safe(), 3);
    }

    private static void rowIs(SnowNames x, int p, int q, String row) {
        Due.is("together(" + p + ", " + q + ")", x.together(p, q, -1), row.length());
        for (int k = 0; k < row.length(); k++) {
            Due.is(row + " " + k, x.together(p, q, k), row.charAt(k) - 'a');
        }
        Due.is("behind " + row, x.together(p, q, row.length()), -1);
    }

    private static void together() {
        SnowNames x = Due.of("name abc;name bcd;name dab;name b;name abc;name hgfedc");
        rowIs(x, 0, 1, "abcd");
        rowIs(x, 1, 0, "abcd");
        rowIs(x, 0, 2, "dabc");
        rowIs(x, 1, 2, "bcdab");
        rowIs(x, 2, 1, "dabcd");
        rowIs(x, 0, 3, "abc");
        rowIs(x, 3, 0, "abc");
        rowIs(x, 0, 4, "abc");
        rowIs(x, 0, 5, "abchgfedc");
        rowIs(x, 5, 0, "hgfedcabc");
        rowIs(x, 5, 2, "hgfedcdab");
        Due.is("together(0, 1, -2)", x.together(0, 1, -2), -1);
        Due.is("together(0, 1, MAX)", x.together(0, 1, Integer.MAX_VALUE), -1);
        Due.noNumber("both are one", () -> x.together(5, 5, -1));
        Due.noIndex("together(6, 6, 0)", () -> x.together(6, 6, 0));
        Due.noIndex("together(6, 0, 0)", () -> x.together(6, 0, 0));
        Due.noIndex("together(0, -1, 0)", () -> x.together(0, -1, 0));
        SnowNames y = Due.of("name aba;name bab;name aaaaaa;name aa;name abcdef;name ghghgh");
        rowIs(y, 0, 1, "abab");
        rowIs(y, 1, 0, "baba");
        rowIs(y, 2, 3, "aaaaaa");
        rowIs(y, 2, 0, "aaaaaaba");
        rowIs(y, 0, 2, "abaaaaaa");
        rowIs(y, 4, 5, "abcdefghghgh");
        // Once the longer one's second occurrence counts too.
        rowIs(Due.of("name abab;name ab"), 1, 0, "abab");
    }

    private static void pairsAre(SnowNames x, int most, int... with) {
        Due.is("pairs(-1)", x.pairs(-1), most);
        for (int p = 0; p < with.length; p++) {
            Due.is("pairs(" + p + ")", x.pairs(p), with[p]);
        }
    }

    private static void pairs() {
        pairsAre(new SnowNames(), 0);
        pairsAre(Due.of("name a"), 0, -1);
        pairsAre(Due.of("name a;name b"), 0, -1, -1);
        pairsAre(Due.of("name aaa;name aa"), 1, 1, 0);
        pairsAre(Due.of("name ab;name bc;name ca"), 1, -1, 2, 1);
        pairsAre(Due.of("name abcd;name ab;name cd;name dcba"), 4, 1, 0, 3, 2);
        pairsAre(Due.of("name ab;name abc;name bcd;name cd"), 4, 1, 0, 3, 2);
        pairsAre(Due.of("name a;name a;name a;name a;name a;name a"), 3, 1, 0, 3, 2, 5, 4);
        pairsAre(Due.of("name a;name b;name c;name c;name b;name a"), 3, 5, 4, 3, 2, 1, 0);
        SnowNames x = Due.of("name a");
        Due.noIndex("pairs(1)", () -> x.pairs(1));
        Due.noIndex("pairs(-2)", () -> x.pairs(-2));
    }

    private static void twinsAndHaving() {
        SnowNames x = Due.of("name ab;name ba;name ab;name abh;name ab;name ba");
        Due.is("twins", x.twins(), 4);
        Due.is("side by side", Due.of("name ab;name ab;name c").twins(), 1);
        Due.is("no twins", new SnowNames().twins(), 0);
        Due.is("a begin is no twin", Due.of("name ab;name a;name aba").twins(), 0);
        Due.is("having a", x.having(0), 63);
        Due.is("having h", x.having(7), 8);
        Due.is("having c", x.having(2), 0);
        Due.noIndex("having(8)", () -> x.having(8));
        Due.noIndex("having(-1)", () -> x.having(-1));
    }
}
