/** Texts drawn at random: most of them right, some with one thing wrong. */
final class Texts {
    private final Draws draws;

    Texts(Draws draws) {
        this.draws = draws;
    }

    String province(int fields, int people) {
        StringBuilder b = new StringBuilder();
        int lines = draws.below(12) == 0 ? draws.below(17) : 1 + draws.below(8);
        int f = fields;
        int p = people;
        for (int i = 0; i < lines; i++) {
            b.append(i == 0 ? "" : blank("") + ";" + blank(""));
            int sort = draws.below(100);
            if (f == 0 || sort < 20 && f < 6 || sort < 2) {
                b.append("field").append(blank(" ")).append("slope").append(blank("")).append(draws.below(10));
                b.append(blank("")).append("room").append(blank("")).append(1 + draws.below(20));
                if (draws.below(6) > 0) {
                    b.append(" snow ").append(draws.below(draws.below(3) == 0 ? 10 : 100));
                }
                f++;
            } else if (sort < 60 && p < 6 || sort < 22) {
                b.append("name ").append(name());
                if (draws.below(3) > 0) {
                    b.append(blank(" ")).append("on ").append(draws.below(f + (draws.below(9) == 0 ? 1 : 0)));
                }
                p++;
            } else if (sort < 80 && p > 1 || sort < 24) {
                int a = draws.below(Math.max(1, p));
                int o = draws.below(Math.max(1, p));
                o = a == o && draws.below(9) > 0 ? (a + 1) % Math.max(1, p) : o;
                b.append("debt ").append(a).append(" ").append(o).append(" ");
                b.append(draws.below(40) == 0 ? 0 : draws.below(3) == 0 ? 5 : 1 + draws.below(99));
            } else {
                setting(b);
            }
        }
        return spoilt(b);
    }

    private void setting(StringBuilder b) {
        switch (draws.below(5)) {
            case 0 -> b.append("flakes ").append(1 + draws.below(9));
            case 1 -> b.append("fall ").append(draws.below(101));
            case 2 -> b.append("hares ").append(draws.below(101));
            case 3 -> b.append("wind").append(blank("")).append(draws.below(101));
            default -> b.append("day ").append(draws.below(1000));
        }
    }

    private String name() {
        String all = draws.below(2) == 0 ? "ab" : draws.below(2) == 0 ? "abch" : "abcdefgh";
        StringBuilder b = new StringBuilder();
        int n = 1 + draws.below(draws.below(2) == 0 ? 3 : 6);
        for (int i = 0; i < n; i++) {
            b.append(all.charAt(draws.below(all.length())));
        }
        return b.toString();
    }

    String law() {
        StringBuilder b = new StringBuilder();
        int lines = draws.below(12) == 0 ? draws.below(15) : draws.below(7);
        for (int i = 0; i < lines; i++) {
            b.append(i == 0 ? "" : blank("") + ";" + blank(""));
            b.append(draws.oneOf("melt", "keep", "deep")).append(blank(" "));
            b.append(draws.below(draws.below(4) == 0 ? 42 : 5)).append(blank(""));
            if (draws.below(4) > 0) {
                b.append("if ");
                either(b, 0);
            }
            if (b.length() > 390) {
                break;
            }
        }
        return spoilt(b);
    }

    private void either(StringBuilder b, int deep) {
        int terms = draws.below(3) == 0 ? 2 : 1;
        for (int i = 0; i < terms; i++) {
            b.append(i == 0 ? "" : " or ");
            int atoms = draws.below(3) == 0 ? 2 : 1;
            for (int j = 0; j < atoms; j++) {
                b.append(j == 0 ? "" : " and ");
                atom(b, deep);
            }
        }
    }

    private void atom(StringBuilder b, int deep) {
        int sort = draws.below(deep > 6 ? 6 : draws.below(9) == 0 ? 16 : 8);
        if (sort == 0 || sort == 1) {
            b.append(draws.oneOf("written", "whole"));
        } else if (sort == 2) {
            b.append("owes");
        } else if (sort < 6) {
            sum(b);
            b.append(blank("")).append(draws.oneOf("<", ">")).append(blank(""));
            sum(b);
        } else if (sort % 2 == 0) {
            b.append("not ");
            atom(b, deep + 1);
        } else {
            b.append("(").append(blank(""));
            either(b, deep + 1);
            b.append(blank("")).append(")");
        }
    }

    private void sum(StringBuilder b) {
        int parts = draws.below(3) == 0 ? 2 : 1;
        for (int i = 0; i < parts; i++) {
            b.append(i == 0 ? "" : blank("") + "+" + blank(""));
            b.append(draws.below(2) == 0 ? "" + draws.below(draws.below(3) == 0 ? 1001 : 12)
                    : draws.oneOf("person", "field", "slope", "snow", "letters", "debts", "day"));
        }
    }

    private String blank(String least) {
        return draws.below(8) > 0 ? least.isEmpty() && draws.below(2) == 0 ? "" : " " : least + "  ";
    }

    /** One in five with a byte altered, put in, or left out, or with a thing put in; 400 bytes at most. */
    private String spoilt(StringBuilder b) {
        if (draws.below(5) == 0 && b.length() > 0) {
            int at = draws.below(b.length());
            switch (draws.below(5)) {
                case 0 -> b.setCharAt(at, (char) draws.below(256));
                case 1 -> b.deleteCharAt(at);
                case 2 -> b.insert(at, draws.oneOf(" ", ";", "0", "a", "9", "(", "not ", " if ", "name ", "on", " 7 "));
                case 3 -> b.setLength(at);
                default -> b.append(draws.oneOf(";", " ;", " ", "  ", "1", " x", ")", ";;", "; fall 5", "; melt 5"));
            }
        }
        if (b.length() > 400) {
            b.setLength(400);
        }
        return b.toString();
    }
}
