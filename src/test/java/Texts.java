import java.util.Random;

/** Texts of LAWS for tests: told to an object, made by chance, or spoiled by chance. */
final class Texts {
    private Texts() {
    }

    /** A text comes to THE TAPE, by one byte a call at its end, else by four. */
    static void tell(HollowSteps x, String text) {
        int i = 0;
        while (i < text.length()) {
            int n = i + 4 <= text.length() ? 4 : 1;
            int v = 0;
            for (int b = 0; b < n; b++) {
                v |= text.charAt(i + b) << 8 * b;
            }
            x.feed(n, v);
            i += n;
        }
    }

    static int law(HollowSteps x, String text) {
        tell(x, text);
        return x.law();
    }

    /** A text that is a LAW. */
    static String some(Random chance) {
        String text;
        do {
            StringBuilder out = new StringBuilder();
            for (int lines = 1 + chance.nextInt(3); lines > 0; lines--) {
                if (chance.nextInt(3) > 0) {
                    expression(out, chance, 0, 0);
                    out.append('?');
                }
                expression(out, chance, 0, 0);
                out.append(lines > 1 ? ";" : "");
            }
            text = out.toString();
        } while (text.length() > 120);
        return text;
    }

    /** A text with some bytes changed, left out, put in, or cut off at the end. */
    static String spoiled(Random chance) {
        StringBuilder out = new StringBuilder(some(chance));
        String signs = "()()!!--;?|&<=>+*/%hwkxdsb0123456789 z~" + (char) 0 + (char) 200 + (char) 255;
        for (int n = 1 + chance.nextInt(2); n > 0; n--) {
            int at = chance.nextInt(out.length() + 1);
            char sign = signs.charAt(chance.nextInt(signs.length()));
            switch (chance.nextInt(4)) {
                case 0: out.insert(at, sign); break;
                case 1: out.delete(at, Math.min(out.length(), at + 1)); break;
                case 2: out.setLength(at); break;
                default: out.replace(at, Math.min(out.length(), at + 1), "" + sign); break;
            }
        }
        out.setLength(Math.min(120, out.length()));
        return out.toString();
    }

    private static void expression(StringBuilder out, Random chance, int level, int open) {
        if (level == 5) {
            operand(out, chance, open);
            return;
        }
        String[] signs = {"|", "&", "<=>", "+-", "*/%"};
        int joins = chance.nextInt(level < 2 ? 7 : 4) == 0 ? 1 + chance.nextInt(2) : 0;
        expression(out, chance, level + 1, open);
        for (int n = level == 2 ? Math.min(1, joins) : joins; n > 0; n--) {
            out.append(signs[level].charAt(chance.nextInt(signs[level].length())));
            expression(out, chance, level + 1, open);
        }
    }

    private static void operand(StringBuilder out, Random chance, int open) {
        int kind = chance.nextInt(open < 6 ? 12 : 8);
        if (kind < 5) {
            out.append("hwkxdsb".charAt(chance.nextInt(7)));
        } else if (kind < 8) {
            int digits = 1 + chance.nextInt(4);
            for (int n = 0; n < digits; n++) {
                out.append((char) ('0' + chance.nextInt(10)));
            }
        } else if (kind < 9) {
            out.append('(');
            expression(out, chance, 0, open + 1);
            out.append(')');
        } else {
            out.append(kind < 10 ? '!' : '-');
            operand(out, chance, open + 1);
        }
    }
}
