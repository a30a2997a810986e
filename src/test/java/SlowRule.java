import java.util.ArrayList;
import java.util.List;
import java.util.Random;

/** A rule made at random: its text, and what it gives, found from its tree and not from the text. */
final class SlowRule {
    private static final String[] TRUCE = {"day", "sung", "own", "other", "fallen", "can"};
    private static final String[] AIM = {"skill", "part", "singer", "tone"};

    private final Random random;
    private final String[] names;
    final Node root;
    final String text;

    private SlowRule(Random random, String[] names) {
        this.random = random;
        this.names = names;
        root = expr(0);
        StringBuilder out = new StringBuilder();
        root.write(out);
        text = out.toString();
    }

    /** One that is not too long for a text. */
    static SlowRule make(Random random, boolean truce, int longest) {
        while (true) {
            SlowRule rule = new SlowRule(random, truce ? TRUCE : AIM);
            if (rule.text.length() <= longest) {
                return rule;
            }
        }
    }

    int give(int[] values) {
        return root.give(values);
    }

    private interface Node {
        int give(int[] values);

        void write(StringBuilder out);
    }

    private Node expr(int depth) {
        return chain(depth, 0);
    }

    private static final String[][] SIGNS = {{"or"}, {"and"}, {}, {"+", "-"}, {"*", "/"}};

    /** Levels: 0 or, 1 and, 2 not and tests, 3 sums, 4 products, 5 terms. */
    private Node chain(int depth, int level) {
        if (level == 2) {
            return not(depth);
        }
        if (level == 5) {
            return term(depth);
        }
        List<Node> parts = new ArrayList<>();
        List<String> signs = new ArrayList<>();
        parts.add(chain(depth, level + 1));
        while (random.nextInt(4) == 0) {
            signs.add(SIGNS[level][random.nextInt(SIGNS[level].length)]);
            parts.add(chain(depth, level + 1));
        }
        return new Node() {
            public int give(int[] values) {
                int left = parts.get(0).give(values);
                for (int i = 0; i < signs.size(); i++) {
                    left = join(left, signs.get(i), parts.get(i + 1).give(values));
                }
                return left;
            }

            public void write(StringBuilder out) {
                parts.get(0).write(out);
                for (int i = 0; i < signs.size(); i++) {
                    put(out, signs.get(i));
                    parts.get(i + 1).write(out);
                }
            }
        };
    }

    private Node not(int depth) {
        int nots = random.nextInt(4) == 0 ? random.nextInt(7) : 0;
        Node left = chain(depth, 3);
        String sign = random.nextInt(3) == 0 ? random.nextBoolean() ? "<" : "=" : "";
        Node right = sign.isEmpty() ? left : chain(depth, 3);
        return new Node() {
            public int give(int[] values) {
                int value = left.give(values);
                if (!sign.isEmpty()) {
                    value = join(value, sign, right.give(values));
                }
                for (int i = 0; i < nots; i++) {
                    value = value == 0 ? 1 : 0;
                }
                return value;
            }

            public void write(StringBuilder out) {
                for (int i = 0; i < nots; i++) {
                    put(out, "not");
                }
                left.write(out);
                if (!sign.isEmpty()) {
                    put(out, sign);
                    right.write(out);
                }
            }
        };
    }

    private Node term(int depth) {
        if (depth < 5 && random.nextInt(4) == 0) {
            Node inner = expr(depth + 1);
            return new Node() {
                public int give(int[] values) {
                    return inner.give(values);
                }

                public void write(StringBuilder out) {
                    put(out, "(");
                    inner.write(out);
                    put(out, ")");
                }
            };
        }
        int name = random.nextInt(names.length);
        int number = random.nextInt(10) == 0 ? random.nextInt(10000) : random.nextInt(6);
        boolean isName = random.nextBoolean();
        return new Node() {
            public int give(int[] values) {
                return isName ? values[name] : number;
            }

            public void write(StringBuilder out) {
                put(out, isName ? names[name] : Integer.toString(number));
            }
        };
    }

    private static int join(int left, String sign, int right) {
        switch (sign) {
            case "or": return left != 0 ? 1 : right != 0 ? 1 : 0;
            case "and": return left == 0 ? 0 : right == 0 ? 0 : 1;
            case "<": return left < right ? 1 : 0;
            case "=": return left == right ? 1 : 0;
            case "+": return left + right;
            case "-": return left - right;
            case "*": return left * right;
            default: return right == 0 ? 0 : left / right;
        }
    }

    /** Words and numbers side by side need a blank between them; signs don't. */
    private void put(StringBuilder out, String token) {
        boolean word = Character.isLetterOrDigit(token.charAt(0));
        boolean behindWord = out.length() > 0
            && Character.isLetterOrDigit(out.charAt(out.length() - 1));
        if (word && behindWord || random.nextInt(8) == 0) {
            out.append(random.nextInt(5) == 0 ? '\n' : ' ');
        }
        out.append(token);
    }
}
