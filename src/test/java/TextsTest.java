/** Promises 1 to 6: a new object, the tape, the texts and their first wrong byte. */
public final class TextsTest {
    private static final String LINE14 = "fall 1;fall 2;fall 3;fall 4;fall 5;fall 6;fall 7;fall 8;fall 9;fall 10;"
            + "fall 11;fall 12;fall 13;fall 14";
    private static final String LAW12 = "melt 1;melt 2;melt 3;melt 4;melt 5;melt 6;melt 7;melt 8;melt 9;keep 1;"
            + "keep 2;deep 1";
    private static final String SIX_FIELDS = "field slope 0 room 1;field slope 0 room 1;field slope 0 room 1;"
            + "field slope 0 room 1;field slope 0 room 1;field slope 0 room 1";
    private static final String SIX_NAMES = "name a;name b;name c;name d;name e;name f";

    public static void main(String[] args) {
        newObject();
        tape();
        provinceRight();
        provinceWrong();
        provinceRefused();
        lawRight();
        lawWrong();
        Due.end("TextsTest");
    }

    private static void newObject() {
        SnowNames x = new SnowNames();
        int[] due = {0, 0, 0, 0, -1, 5, 50, 0, 0, 0, 0, 0, 0, -1};
        for (int what = 0; what < due.length; what++) {
            Due.is("new count(" + what + ")", x.count(what), due[what]);
        }
        Due.is("count(-1)", x.count(-1), -1);
        Due.is("new fault()", x.fault(), -1);
        Due.is("NONE", SnowNames.NONE, -1);
    }

    private static void tape() {
        SnowNames x = new SnowNames();
        for (int i = 1; i <= 20; i++) {
            Due.is("feed " + i, x.feed(-1, -1, -1, -1, -1), 20 * i);
        }
        Due.is("feed beyond 400", x.feed(0, 0, 0, 0, 0), -1);
        Due.is("end(401)", x.end(401), false);
        Due.is("end(-1)", x.end(-1), false);
        Due.is("end(400)", x.end(400), true);
        Due.is("end(381)", x.end(381), true);
        Due.is("feed to 401", x.feed(0, 0, 0, 0, 0), -1);
        Due.is("end(382)", x.end(382), false);
        Due.is("end(380)", x.end(380), true);
        Due.is("feed to 400", x.feed(0, 0, 0, 0, 0), 400);
        Due.is("end(0)", x.end(0), true);
        Due.is("end(0) again", x.end(0), true);
        Due.is("end(1) of none", x.end(1), false);
        // "flakes 7" and what is behind it is cut off: the highest byte of a number is the first one.
        x.feed(0x666c616b, 0x65732037, 0x37373737, 0, 0);
        x.end(8);
        Due.is("province", x.province(), 1);
        Due.is("flakes", x.count(5), 7);
        Due.is("the tape is used up", x.feed(0, 0, 0, 0, 0), 20);
        Due.noNumber("zeros are no text", () -> x.law());
        Due.is("the tape is used up by a wrong text", x.feed(0, 0, 0, 0, 0), 20);
    }

    private static void provinceRight() {
        SnowNames x = new SnowNames();
        Due.is("blanks", Due.province(x, "    "), 1);
        Due.is("fault", x.fault(), -1);
        Due.is("blanks between all", Due.province(x,
                "  field   slope 9 room 020 snow 099 ; name abcdef   on 0;name h;debt 0 1 99 ; debt 1 0 1  "), 2);
        Due.is("slope", x.field(0, 0), 9);
        Due.is("snow", x.field(0, 1), 99);
        Due.is("room", x.field(0, 2), 20);
        Due.is("used", x.field(0, 3), 6);
        Due.is("no row", x.count(11), 0);
        Due.is("of 0", x.debt(0, 2), 99);
        Due.is("of 1", x.debt(1, 0), 1);
        Due.is("no blanks between words and numbers", Due.province(x,
                "flakes9;fall100;hares100;wind100;day999;field slope0room1;flakes 1;fall 0;hares 0;wind 0"), 3);
        Due.is("flakes", x.count(5), 1);
        Due.is("fall", x.count(6), 0);
        Due.is("hares", x.count(7), 0);
        Due.is("wind", x.count(8), 0);
        Due.is("day", x.count(9), 999);
        Due.is("snow is 0 at first", x.field(1, 1), 0);
        Due.is("14 lines", Due.province(x, LINE14), 4);
        Due.is("fall", x.count(6), 14);
        Due.is("day back", Due.province(x, "day 5"), 5);
        Due.is("day", x.count(9), 5);
        // Each line sees those ahead of it: the depth is by the day that is told first.
        SnowNames y = new SnowNames();
        Due.law(y, "deep 2 if day>9 and not written and not whole and not owes;deep 1 if person+field>0");
        Due.province(y, "field slope 0 room 5 snow 1;field slope 0 room 1 snow 1;name a on 0;day 10;name b on 0;name c on 1");
        Due.is("depth by a person's number", y.letter(0, 0, 2), 4);
        Due.is("depth by the day told", y.letter(1, 0, 2), 7);
        Due.is("depth by the field's number", y.letter(2, 0, 2), 7);
    }

    private static void wrongAt(SnowNames x, String text, int at) {
        Due.tape(x, text);
        Due.noNumber("province " + text, () -> x.province());
        Due.is("fault of " + text, x.fault(), at);
    }

    private static void provinceWrong() {
        SnowNames x = new SnowNames();
        Object[][] all = {
            {";", 0}, {"  ;", 2}, {"fall", 4}, {"fall  ", 6}, {"fall 1;", 7}, {"fall 1 ; ", 9}, {"fall 1;;fall 2", 7},
            {"fall 1 2", 7}, {"fall 0001", 5}, {"fall 1x", 6}, {"fall x", 5}, {"fall 101", 5}, {"fall -1", 5},
            {"Fall 1", 0}, {"fal 1", 0}, {"falls 1", 0}, {"5", 0}, {"\u00e9fall 1", 0}, {"fall 1\u0000", 6},
            {"fall\t1", 4}, {"flakes 0", 7}, {"flakes 10", 7}, {"hares 101", 6}, {"wind 101", 5}, {"day 1000", 4},
            {"field", 5}, {"field room 1", 6}, {"field slope", 11}, {"field slope 1 snow 1", 14},
            {"field slope 1 room 1 snow", 25}, {"field slope 1 room 1 snow 1 2", 28}, {"field slope 1 room 1 room 2", 21},
            {"fieldslope 1 room 1", 0}, {"name 5", 5}, {"name", 4}, {"name a b", 7}, {"name aon 0", 5}, {"name a on", 9},
            {"name a on b", 10}, {"name aB", 6}, {"name az", 5}, {"name a;debt 0", 13}, {"field slope 1 room", 18},
            {SIX_FIELDS + ";name a on 6", SIX_FIELDS.length() + 11}, {SIX_FIELDS + ";name a on 7", SIX_FIELDS.length() + 11},
            {"field slope 1 room 21", 19}, {"field slope 1 room 0", 19}, {"field slope 10 room 1", 12},
            {"field slope 1 room 1 snow 100", 26}, {"name abcdefa", 5}, {"name i", 5}, {"name a on 0;", 10},
            {"field slope 0 room 2 snow 1;name abc on 0", 40}, {"field slope 0 room 5 snow 1;name abc on 0;name abc on 0", 54},
            {"field slope 0 room 5 snow 0;name abc on 0", 40}, {"field slope 0 room 5 snow 1;name abc on 1", 40},
            {"debt", 4}, {"debt 0", 5}, {"name a;debt 1 0 1", 12}, {"name a;debt 0 1 1", 14}, {"name a;debt 0 0 1", 14},
            {"name a;name b;debt 0 1", 22}, {"name a;name b;debt 0 1 100", 23}, {"name a;name b;debt 0 1 0100", 23},
            {"name a;name b;debt 0 1 5 5", 25}, {LINE14 + ";", LINE14.length() + 1},
            {LINE14 + " ; fall 1", LINE14.length() + 3}, {SIX_FIELDS + "; field slope 99", SIX_FIELDS.length() + 2},
            {SIX_NAMES + ";name z", SIX_NAMES.length() + 1},
            {"name a;name b;debt 0 1 1;debt 0 1 1;debt 0 1 1;debt 0 1 1;debt 0 1 1;debt 0 1 1;debt 0 1 1;debt 0 1 1;debt 5",
                102},
        };
        for (Object[] one : all) {
            wrongAt(x, (String) one[0], (Integer) one[1]);
        }
        for (int what = 0; what < 13; what++) {
            Due.is("of wrong texts nothing stays: count(" + what + ")", x.count(what), new SnowNames().count(what));
        }
        Due.province(x, "");
        Due.is("fault of a right text", x.fault(), -1);
    }

    private static void provinceRefused() {
        SnowNames x = new SnowNames();
        for (int i = 1; i <= 12; i++) {
            Due.is("text " + i, Due.province(x, "fall " + i), i);
        }
        wrongAt(x, "fall", 4);
        Due.tape(x, "fall 77");
        Due.fails("a 13th text", UnsupportedOperationException.class, () -> x.province());
        Due.is("it was read", x.fault(), -1);
        Due.is("it changed nothing", x.count(6), 12);
        Due.is("texts", x.count(3), 12);
        Due.is("the tape is used up", x.end(1), false);
    }

    private static void lawRight() {
        SnowNames x = Due.of("field slope 5 room 9 snow 8;field slope 0 room 9 snow 3;name abc on 0;name b;debt 0 1 30;day 123");
        Due.is("no law", x.count(4), -1);
        Due.is("melts without one", x.melts(0, 0), 2);
        Due.is("deep without one", x.deep(0, 0), 4);
        Due.is("a law", Due.law(x, "melt 40;keep 3;deep 2"), 3);
        Due.is("melts", x.melts(0, 0), 39);
        Due.is("deep", x.deep(0, 0), 6);
        Due.is("12 lines", Due.law(x, LAW12), 12);
        Due.is("melts", x.melts(0, 0), 44);
        Due.is("in place of the one before", Due.law(x, "keep 40"), 1);
        Due.is("melts 0 at least", x.melts(0, 0), 0);
        Due.law(x, "deep 4;deep 40");
        Due.is("deep 9 at most", x.deep(1, 1), 9);
        Object[][] conditions = {
            {"written", 5}, {"whole", 5}, {"owes", 5}, {"not written", 10}, {"not not owes", 5},
            {"person<1", 5}, {"person>0", 10}, {"field>0", 12}, {"slope>4", 3}, {"slope>5", 0}, {"snow<8", 12},
            {"snow<9", 15}, {"letters>2", 5}, {"letters+1<3", 10}, {"debts>29", 5}, {"debts>30", 0}, {"debts<1", 10},
            {"day<24", 15}, {"day<23", 0}, {"day+100>122", 15}, {"2<1+1", 0}, {"1+1<1+2", 15}, {"999>998", 15},
            {"owes and field>0", 4}, {"owes or field>0", 13}, {"not owes and field>0", 8}, {"not(owes and field>0)", 11},
            {"owes or field>0 and person>0", 13}, {"(owes or field>0)and person>0", 8}, {"field>0 and person>0 or owes", 13},
            {"((((((owes))))))", 5}, {"not not not not not not owes", 5}, {"not(not(not(field>0)))", 3},
            {"((((((owes)))))) and ((((((field>0))))))", 4}, {"person + field + slope < 2", 4},
        };
        for (Object[] one : conditions) {
            Due.law(x, "deep 1 if " + one[0]);
            int bits = 0;
            for (int i = 0; i < 4; i++) {
                bits |= x.deep(i & 1, i >> 1) == 5 ? 1 << i : 0;
            }
            Due.is("holds of " + one[0], bits, one[1]);
        }
        for (int i = 0; i < 100; i++) {
            Due.law(x, "deep 1 if person+field+slope+snow+letters+debts+day>900;melt 0;deep 2 if owes");
        }
        Due.is("the hundredth law is read as the first", x.deep(0, 0), 6);
        Due.is("melt 0", x.melts(0, 0), 2);
        Due.is("no line", Due.law(x, "  "), 0);
        Due.is("count(4)", x.count(4), 0);
        Due.noIndex("melts of no person", () -> x.melts(2, 0));
        Due.noIndex("melts on no field", () -> x.melts(0, 2));
        Due.noIndex("deep of no person", () -> x.deep(-1, 0));
        Due.noIndex("deep on no field", () -> x.deep(0, -1));
    }

    private static void lawWrong() {
        SnowNames x = Due.of("field slope 0 room 5;name a");
        Due.law(x, "deep 3");
        Object[][] all = {
            {";", 0}, {"melt", 4}, {"melt 1;", 7}, {"melt 41", 5}, {"melt 0001", 5}, {"melt 1 deep 1", 7}, {"fall 1", 0},
            {"melt if owes", 5}, {"melt 1 if", 9}, {"melt 1 if ", 10}, {"melt 1 if if", 10}, {"melt 1 if not", 13},
            {"melt 1 if owes and", 18}, {"melt 1 if owes or or", 18}, {"melt 1 if owes owes", 15}, {"melt 1 if owes)", 14},
            {"melt 1 if (owes", 15}, {"melt 1 if (owes;", 15}, {"melt 1 if ()", 11}, {"melt 1 if owes>1", 14},
            {"melt 1 if snow", 14}, {"melt 1 if snow+", 15}, {"melt 1 if snow<", 15}, {"melt 1 if owes or", 17}, {"melt 1 if snow+<2", 15}, {"melt 1 if snow 1", 15},
            {"melt 1 if snow<1<2", 16}, {"melt 1 if snow=1", 14}, {"melt 1 if 1000>1", 10}, {"melt 1 if 1>1000", 12},
            {"melt 1 if snows>1", 10}, {"melt 1 if (snow)>1", 15}, {"melt 1 if 1>owes", 12}, {"melt 1 if 1>not", 12},
            {"melt 1 if (((((((owes)))))))", 16}, {"melt 1 if not(not(not(not owes)))", 22},
            {"melt 1 if ((((((not owes))))))", 16}, {"melt 1 if not not not not not not(owes)", 33},
            {"melt 1 if owes+1>1", 14}, {"melt 1 If owes", 7}, {LAW12 + ";", LAW12.length() + 1},
            {LAW12 + ";melt 1", LAW12.length() + 1},
        };
        for (Object[] one : all) {
            Due.tape(x, (String) one[0]);
            Due.noNumber("law " + one[0], () -> x.law());
            Due.is("fault of " + one[0], x.fault(), one[1]);
        }
        Due.is("the law before stays", x.deep(0, 0), 7);
        Due.is("its lines", x.count(4), 1);
        Due.law(x, "");
        Due.is("fault of a right one", x.fault(), -1);
    }
}
