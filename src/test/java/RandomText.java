import java.util.ArrayList;
import java.util.List;

/** Writes texts that are mostly without fault and mostly do something; the same seed always gives the same text. */
final class RandomText {
    private static final String[] NAMES = {"p", "q", "r", "s", "t", "lost"};
    private long state;
    private final StringBuilder out = new StringBuilder();
    private final List<int[]> methods = new ArrayList<>();
    private final List<List<String>> scopes = new ArrayList<>();
    private int literals;
    private int sites;
    private int size;

    RandomText(long seed) {
        state = seed * 0x9E3779B97F4A7C15L + 12345;
        below(2);
        below(2);
    }

    int below(int n) {
        state = state * 6364136223846793005L + 1442695040888963407L;
        return (int) ((state >>> 33) % n);
    }

    boolean chance(int percent) {
        return below(100) < percent;
    }

    /** A text of some methods; those with two parameters can be run. */
    String text() {
        int many = 4 + below(4);
        size = 5800 / many;
        method(0, 2);
        walk();
        for (int m = 2; m < many; m++) {
            method(m, m == many - 1 ? 2 : below(4) == 0 ? below(4) : 2);
        }
        return out.toString();
    }

    private static String methodName(int m) {
        return "m" + (char) ('a' + m);
    }

    /** A method that goes through many shapes: it changes a clone of what it is given and runs itself with it. */
    private void walk() {
        scopes.clear();
        scopes.add(new ArrayList<>());
        methods.add(new int[] {2});
        out.append("method mb(").append(declare("o")).append(",").append(declare("n")).append(") {\n");
        for (int n = 1 + below(3); n > 0; n--) {
            wrapped(0);
        }
        for (int n = below(3); n > 0; n--) {
            literals++;
            sites++;
            out.append("[guard{write oab.").append(slotName(false)).append(chance(50) ? ";} on 0 e {}]!();" : ";} on 0 e {} ensure {nil;}]!();");
        }
        out.append("if nbb>0 { var ocb=clone(oab); ");
        scope().add("ocb");
        if (chance(60)) {
            literals++;
            out.append("[guard{").append(chance(50) ? "link ocb,oab;" : "add ocb,p=1; link ocb,lobby;").append("} on 0 e {}]!();");
        }
        for (int n = 1 + below(2); n > 0; n--) {
            wrapped(0);
        }
        out.append("give lobby,w,mb; lobby.w(ocb,nbb-1); } }\n");
    }

    /** A statement, mostly such that its failures are caught. */
    private void wrapped(int depth) {
        if (literals >= 50 || chance(20)) {
            statement(depth);
            return;
        }
        literals++;
        out.append("[guard{");
        scopes.add(new ArrayList<>());
        statement(depth);
        out.append("} on 0 ").append(declare("e")).append(chance(70) ? " {}]!();" : " {write nil;}]!();");
        scopes.remove(scopes.size() - 1);
    }

    private void setUp() {
        out.append("give lobby,w,mb; ".substring(0, methods.size() > 1 ? 17 : 0));
        for (String name : new String[] {"p", "q", "t"}) {
            if (chance(60)) {
                out.append("[guard{ lobby.").append(name).append("; } on 1 e { add lobby,").append(name).append("=");
                out.append(chance(80) ? "new" : "clone(lobby)").append("; }]!();\n");
                literals++;
                sites++;
            }
        }
    }

    private void method(int m, int parameters) {
        scopes.clear();
        scopes.add(new ArrayList<>());
        methods.add(new int[] {parameters});
        out.append("method ").append(methodName(m)).append('(');
        for (int i = 0; i < parameters; i++) {
            out.append(i == 0 ? "" : ",").append(declare("na"));
        }
        out.append(") {\n");
        int until = out.length() + size * 3 / 5;
        setUp();
        if (chance(70)) {
            out.append("var ").append(peek("o")).append("=").append(chance(50) ? "new" : "clone(lobby)").append(";\n");
            declare("o");
        }
        if (chance(60)) {
            out.append("var ").append(peek("o")).append("=");
            object(0);
            out.append(";\n");
            declare("o");
        }
        for (int n = 0; n < 14 && out.length() < until && sites < 130; n++) {
            if (parameters == 2 && chance(7)) {
                literals++;
                out.append("add lobby,").append(chance(50) ? "q" : "t").append("=[").append(chance(50) ? "" : "write nab; ");
                out.append(chance(60) ? "return self;" : "answer nbb;").append("];\n");
            } else if (chance(4)) {
                out.append("while 1 { ");
                if (chance(50) && scope().size() < 10) {
                    out.append("guard {");
                    statement(0);
                    out.append("} on ").append(chance(50) ? "0 " : "1 ").append(declare("e")).append(" {write nil;}");
                } else {
                    wrapped(0);
                }
                out.append(" }");
            } else {
                wrapped(3);
            }
        }
        if (chance(60)) {
            out.append("answer ");
            any(1);
            out.append(";");
        }
        out.append("}\n");
    }

    private List<String> scope() {
        return scopes.get(scopes.size() - 1);
    }

    private String peek(String kind) {
        return kind.charAt(0) + String.valueOf((char) ('a' + scope().size())) + (char) ('a' + scopes.size());
    }

    private String declare(String kind) {
        String w = peek(kind);
        scope().add(w);
        return w;
    }

    private String name() {
        return NAMES[chance(4) ? 5 : below(5)];
    }

    private String slotName(boolean forMethod) {
        return chance(4) ? "lost" : chance(80) ? forMethod ? chance(50) ? "r" : "s" : chance(50) ? "p" : "q" : name();
    }

    private String word(char kind) {
        List<String> fit = new ArrayList<>();
        for (List<String> s : scopes) {
            for (String w : s) {
                if (kind == '?' || w.charAt(0) == kind) {
                    fit.add(w);
                }
            }
        }
        return fit.isEmpty() ? "" : fit.get(below(fit.size()));
    }

    private void body(int depth) {
        out.append(" {");
        for (int n = below(3); n >= 0; n--) {
            if (depth > 0) {
                statement(depth - 1);
            }
        }
        out.append("}");
    }

    private void statement(int depth) {
        int k = below(100);
        if (k < 12) {
            out.append("give ");
            object(1);
            out.append(",").append(slotName(true)).append(",").append(methodName(below(methods.size()))).append(";");
        } else if (k < 22) {
            out.append("add ");
            object(1);
            out.append(",").append(slotName(false)).append("=");
            any(1);
            out.append(";");
        } else if (k < 34) {
            out.append(chance(75) ? "link " : "unlink ");
            object(1);
            out.append(",");
            object(1);
            out.append(";");
        } else if (k < 38) {
            out.append("drop ");
            object(1);
            out.append(",").append(name()).append(";");
        } else if (k < 44) {
            out.append("set ");
            object(1);
            out.append(",").append(slotName(false)).append("=");
            sites++;
            any(1);
            out.append(";");
        } else if (k < 54) {
            out.append("write ");
            any(2);
            out.append(";");
        } else if (k < 64 && scope().size() < 11) {
            String w = peek(k < 58 ? "o" : k < 61 ? "n" : "b");
            out.append("var ").append(w).append("=");
            ofKind(w.charAt(0), 2);
            out.append(";");
            declare(w);
        } else if (k < 69) {
            String w = word('?');
            if (w.isEmpty()) {
                out.append("nil;");
            } else {
                out.append(w).append("=");
                ofKind(w.charAt(0), 2);
                out.append(";");
            }
        } else {
            longStatement(k, depth);
        }
        out.append(chance(20) ? "\n" : "");
    }

    private void longStatement(int k, int depth) {
        if (k < 74) {
            out.append("if ");
            any(1);
            body(depth);
            if (chance(40)) {
                out.append(" else");
                body(depth);
            }
        } else if (k < 78 && scope().size() < 10) {
            String w = peek("n");
            out.append("var ").append(w).append("=0; while ").append(w).append("<").append(below(7)).append(" {").append(w)
                .append("=").append(w).append("+1;");
            declare("n");
            for (int n = below(3); n >= 0; n--) {
                statement(Math.max(0, depth - 1));
            }
            out.append("}");
        } else if (k < 88 && scope().size() < 9) {
            guard(depth);
        } else if (k < 90) {
            out.append("fail ").append(20 + below(3));
            if (chance(50)) {
                out.append(",");
                any(1);
            }
            out.append(";");
        } else if (k < 93 && literals < 40) {
            literals++;
            out.append("[");
            scopes.add(new ArrayList<>());
            guard(depth);
            scopes.remove(scopes.size() - 1);
            out.append("]!();");
        } else if (k < 95) {
            out.append(chance(50) ? "return " : "answer ");
            any(1);
            out.append(";");
        } else {
            any(2);
            out.append(";");
        }
    }

    private void guard(int depth) {
        out.append("guard");
        body(depth);
        int ons = below(3);
        for (int i = 0; i < ons && scope().size() < 11; i++) {
            out.append(" on ").append(chance(50) ? 0 : chance(50) ? 20 + below(3) : 1 + below(11)).append(" ").append(declare("e"));
            body(depth);
        }
        if (ons == 0 || chance(30)) {
            out.append(" ensure");
            body(depth);
        }
    }

    private void ofKind(char kind, int depth) {
        if (kind == 'o') {
            object(depth);
        } else if (kind == 'n') {
            number(depth);
        } else if (kind == 'b') {
            literal(depth);
        } else {
            any(depth);
        }
    }

    private void object(int depth) {
        int k = below(100);
        String w = word('o');
        if (k < 60 && !w.isEmpty()) {
            out.append(w);
        } else if (k < 66) {
            out.append("lobby");
        } else if (k < 71) {
            out.append(new String[] {"lobby.p", "lobby.q", "lobby.t"}[below(3)]);
            sites++;
        } else if (k < 76) {
            out.append("self");
        } else if (k < 81) {
            out.append("new");
        } else if (k < 86 && !w.isEmpty()) {
            out.append("clone(").append(w).append(")");
        } else if (k < 97 && depth > 0) {
            message(depth - 1);
        } else {
            any(depth);
        }
    }

    private void number(int depth) {
        int k = below(100);
        String w = word('n');
        if (k < 40 && !w.isEmpty()) {
            out.append(w);
        } else if (k < 70 || depth == 0) {
            out.append(k < 42 ? 999999999 : below(9));
        } else {
            out.append("(");
            number(depth - 1);
            out.append(new String[] {"+", "-", "*", "/", "%", "<", ">", "==", "-  -"}[below(9)]);
            number(depth - 1);
            out.append(")");
        }
    }

    private void any(int depth) {
        int k = below(100);
        if (k < 35 && depth > 0 && sites < 130) {
            message(depth - 1);
        } else if (k < 55) {
            object(depth);
        } else if (k < 75) {
            number(depth);
        } else if (k < 80 && depth > 0) {
            literal(depth - 1);
        } else if (k < 86) {
            call(depth);
        } else if (k < 90) {
            out.append("nil");
        } else {
            String w = word('?');
            out.append(w.isEmpty() ? "0" : w);
        }
    }

    private void call(int depth) {
        String w = word('b');
        if (w.isEmpty()) {
            w = word('?');
        }
        if (chance(40)) {
            w = new String[] {"lobby.p", "lobby.q", "lobby.t"}[below(3)];
            sites++;
        }
        out.append(w.isEmpty() ? "lobby" : w).append("!(");
        arguments(below(2), depth);
        out.append(")");
    }

    private void literal(int depth) {
        if (literals >= 40) {
            out.append("nil");
            return;
        }
        literals++;
        out.append("[");
        scopes.add(new ArrayList<>());
        if (chance(40)) {
            out.append("|").append(declare("n")).append("|");
        }
        for (int n = below(3); n > 0; n--) {
            statement(Math.max(0, depth - 1));
        }
        if (chance(50)) {
            out.append(chance(70) ? "answer " : "return ");
            any(Math.max(0, depth - 1));
            out.append(";");
        }
        scopes.remove(scopes.size() - 1);
        out.append("]");
    }

    private void message(int depth) {
        sites++;
        if (chance(20)) {
            out.append("above");
        } else if (chance(85)) {
            object(depth);
        } else {
            any(depth);
        }
        boolean forMethod = chance(50);
        if (methods.size() > 1 && chance(12)) {
            out.append(".w(");
            object(0);
            out.append(",").append(chance(3) ? 70 : below(8)).append(")");
            return;
        }
        out.append(".").append(slotName(forMethod));
        if (forMethod || chance(10)) {
            out.append("(");
            arguments(chance(85) ? 2 : below(5), depth);
            out.append(")");
        }
    }

    private void arguments(int many, int depth) {
        for (int i = 0; i < many; i++) {
            out.append(i == 0 ? "" : ",");
            if (chance(60)) {
                object(0);
            } else {
                any(Math.max(0, depth - 1));
            }
        }
    }
}
