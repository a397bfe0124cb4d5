/** What all tests share: answers that are due, exceptions that are due, and texts put on the tape. */
final class Due {
    interface Call {
        Object answer();
    }

    private static int wrong = 0;
    private static int asked = 0;
    private static String heading = "";

    private Due() { }

    static void is(String call, Object got, Object want) {
        asked++;
        if (!String.valueOf(got).equals(String.valueOf(want))) {
            wrong++;
            System.out.println(heading + call + " answered " + got + ", due is " + want);
        }
    }

    /** A test of one sentence of the document, which must stand there word for word. */
    static void sentence(String doc, String sentence, Runnable test) {
        heading = "\"" + sentence + "\": ";
        is("this sentence in the document", doc.contains(sentence), true);
        try {
            test.run();
        } catch (RuntimeException e) {
            is("the test", e, "no exception");
        }
        heading = "";
    }

    static void fails(String call, Class<?> due, Call made) {
        String got;
        try {
            got = String.valueOf(made.answer());
        } catch (RuntimeException e) {
            got = e.getClass().getName();
        }
        is(call, got, due.getName());
    }

    static void noIndex(String call, Call made) {
        fails(call, IndexOutOfBoundsException.class, made);
    }

    static void noNumber(String call, Call made) {
        fails(call, IllegalArgumentException.class, made);
    }

    static void cannot(String call, Call made) {
        fails(call, IllegalStateException.class, made);
    }

    static void noWhat(String call, Call made) {
        fails(call, java.util.NoSuchElementException.class, made);
    }

    /** Puts a text alone on the tape. */
    static void tape(SnowNames x, String text) {
        x.end(0);
        for (int i = 0; i < text.length(); i += 20) {
            int[] n = new int[5];
            for (int k = 0; k < 20; k++) {
                n[k / 4] = n[k / 4] << 8 | (i + k < text.length() ? text.charAt(i + k) : 0);
            }
            x.feed(n[0], n[1], n[2], n[3], n[4]);
        }
        is("end(" + text.length() + ")", x.end(text.length()), true);
    }

    static int province(SnowNames x, String text) {
        tape(x, text);
        return x.province();
    }

    static int law(SnowNames x, String text) {
        tape(x, text);
        return x.law();
    }

    static SnowNames of(String province) {
        SnowNames x = new SnowNames();
        province(x, province);
        return x;
    }

    static SnowNames of(String province, String law) {
        SnowNames x = of(province);
        law(x, law);
        return x;
    }

    static void end(String test) {
        System.out.println(test + ": " + (asked - wrong) + " of " + asked + " answers are as due");
        if (wrong > 0) {
            System.exit(1);
        }
    }
}
