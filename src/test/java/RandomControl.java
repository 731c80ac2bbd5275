import java.util.ArrayList;
import java.util.List;

/** Writes texts of guards, blocks, returns and failures within one another; the same seed always gives the same text. */
final class RandomControl {
    private static final int[] GUARDS_BY_DEPTH = {60, 60, 50, 35, 20, 10, 5};
    private static final int[] KINDS = {0, 0, 0, 1, 2, 3, 5, 9, 10, 20, 21};
    private final RandomText random;
    private final List<List<String>> scopes = new ArrayList<>();
    private int helpers;
    private int marks;
    private int literals;
    private int sites;
    private int room;

    RandomControl(RandomText random) {
        this.random = random;
    }

    /** Some methods ma, mb .. and go, all of two parameters, and at last setup, which gives them to the lobby. */
    String text() {
        StringBuilder out = new StringBuilder();
        StringBuilder gives = new StringBuilder();
        helpers = 1 + random.below(5);
        for (int m = 0; m < helpers; m++) {
            out.append(method(helper(m), 4500 / helpers));
            gives.append("give lobby,").append(helper(m)).append(",").append(helper(m)).append(";");
        }
        out.append(method("go", 900));
        gives.append("add lobby,hk=[answer 1;]; add lobby,hl=[|x,y| return x;];");
        if (random.chance(50)) {
            gives.append("give lobby,lost,").append(someHelper()).append(";");
        }
        return out + "method setup(a,b){" + gives + "}";
    }

    private static String helper(int m) {
        return "m" + (char) ('a' + m);
    }

    private String someHelper() {
        return helper(random.below(helpers));
    }

    private String method(String word, int itsRoom) {
        scopes.clear();
        scopes.add(new ArrayList<>(List.of("f", "g", "x")));
        room = itsRoom;
        return "method " + word + "(f,g){var x=0;" + statements(0, 2 + random.below(5)) + "}\n";
    }

    private String statements(int depth, int many) {
        StringBuilder all = new StringBuilder();
        for (int n = 0; n < many && room > 0; n++) {
            boolean guards = depth < GUARDS_BY_DEPTH.length && random.chance(GUARDS_BY_DEPTH[depth]);
            String one = guards ? guard(depth) : statement(depth);
            room -= one.length();
            all.append(one);
        }
        return all.toString();
    }

    private String body(int depth) {
        return "{" + statements(depth + 1, random.below(4)) + "}";
    }

    private List<String> scope() {
        return scopes.get(scopes.size() - 1);
    }

    private String word() {
        List<String> all = new ArrayList<>();
        for (List<String> s : scopes) {
            all.addAll(s);
        }
        return all.get(random.below(all.size()));
    }

    /** A word that no scope has, which is declared from now on. */
    private String declare() {
        marks++;
        String word = "v" + (char) ('a' + marks / 26 / 26 % 26) + (char) ('a' + marks / 26 % 26) + (char) ('a' + marks % 26);
        scope().add(word);
        return word;
    }

    private String guard(int depth) {
        StringBuilder all = new StringBuilder("guard{" + statements(depth + 1, 1 + random.below(3)) + "}");
        boolean ends = true;
        for (int n = random.below(3); n > 0 && scope().size() < 12; n--) {
            all.append("on ").append(KINDS[random.below(KINDS.length)]).append(" ").append(declare()).append(body(depth));
            ends = random.chance(50);
        }
        return ends ? all + "ensure" + body(depth) : all.toString();
    }

    private String statement(int depth) {
        int k = random.below(100);
        if (depth > 8 || k < 12) {
            marks++;
            return "write " + marks + ";";
        } else if (depth > 3 && k < 50) {
            return leaf(depth);
        } else if (k < 22) {
            return "write " + exp(depth) + ";";
        } else if (k < 30 && scope().size() < 12) {
            String value = exp(depth);
            return scope().size() < 12 ? "var " + declare() + "=" + value + ";" : value + ";";
        } else if (k < 40) {
            return word() + "=" + exp(depth) + ";";
        } else if (k < 58) {
            return leaf(depth);
        } else if (k < 64) {
            return "return " + exp(depth) + ";";
        } else if (k < 69) {
            return "answer " + exp(depth) + ";";
        } else if (k < 78) {
            return "add lobby,h" + (random.chance(50) ? "k=" : "l=") + literal(depth) + ";";
        } else if (k < 86) {
            return "if " + exp(depth) + body(depth) + "else" + body(depth);
        } else if (k < 91) {
            return "x=0; while x<" + (1 + random.below(5)) + "{x=x+1;" + statements(depth + 1, random.below(3)) + "}";
        }
        return exp(depth) + ";";
    }

    /** A statement that leaves something, or may. */
    private String leaf(int depth) {
        switch (random.below(11)) {
            case 0:
                return "fail " + (20 + random.below(3)) + ";";
            case 1:
                return "fail " + (20 + random.below(3)) + "," + exp(depth + 1) + ";";
            case 2:
                return "x=1/0;";
            case 3:
                return "return " + marks + ";";
            case 4:
                return "answer " + marks + ";";
            case 5:
                return "write " + word() + "!();";
            case 6:
                return word() + "!();";
            case 7:
                return message("hk!()") + ";";
            case 8:
                return message("hl!(1,2)") + ";";
            case 9:
                return "return " + message("hk!()") + ";";
            default:
                return "write " + message(someHelper() + "(" + word() + "," + literal(depth) + ")") + ";";
        }
    }

    private String message(String rest) {
        if (sites >= 140) {
            return "x";
        }
        sites++;
        return "lobby." + rest;
    }

    private String literal(int depth) {
        if (literals >= 55 || depth > 8) {
            return "1";
        }
        literals++;
        List<String> parameters = new ArrayList<>(List.of("px", "qx").subList(0, random.below(5) / 2));
        scopes.add(new ArrayList<>(parameters));
        String inner = statements(depth + 1, random.below(5));
        scopes.remove(scopes.size() - 1);
        return "[" + (parameters.isEmpty() ? "" : "|" + String.join(",", parameters) + "|") + inner + "]";
    }

    private String exp(int depth) {
        int k = random.below(100);
        if (depth > 9) {
            return "1";
        } else if (k < 20) {
            return word();
        } else if (k < 30) {
            return String.valueOf(random.below(4));
        } else if (k < 40) {
            return literal(depth);
        } else if (k < 55) {
            return (random.chance(60) ? literal(depth) : word()) + "!(" + arguments() + ")";
        } else if (k < 70) {
            return message((random.chance(50) ? "hk!(" : "hl!(") + arguments() + ")");
        } else if (k < 90) {
            return message(someHelper() + "(" + exp(depth + 1) + "," + exp(depth + 1) + ")");
        } else if (k < 95) {
            return message("nix(" + exp(depth + 1) + ")");
        }
        return word() + "+1";
    }

    private String arguments() {
        return random.chance(50) ? "" : random.chance(50) ? "1" : "1,2";
    }
}
