import java.util.ArrayList;
import java.util.HashMap;
import java.util.HashSet;
import java.util.List;
import java.util.Map;
import java.util.Set;

/**
 * The document once more, written as plainly as may be and without regard to cost: it walks a tree, keeps rows as
 * lists, and looks everything up anew. The fuzz test compares DelegationShop with it.
 */
final class Reference {
    record Val(int sort, long worth) {
    }

    static final Val NIL = new Val(0, 0);

    static Val num(long n) {
        return new Val(1, n);
    }

    /** A token, or a part of the text's tree. */
    static final class Node {
        final String op;
        final int place;
        final List<Node> kids = new ArrayList<>();
        String word = "";
        long number;
        int hops;
        int site = -1;

        Node(String op, int place) {
            this.op = op;
            this.place = place;
        }

        Node with(Node... more) {
            kids.addAll(List.of(more));
            return this;
        }
    }

    static final class Fault extends RuntimeException {
        final int place;

        Fault(int place) {
            super(null, null, false, false);
            this.place = place;
        }
    }

    static final class Method {
        String word;
        int parameters;
        List<Node> body;
        int number;
    }

    static final class Literal {
        int parameters;
        List<Node> body;
        Method method;
    }

    static final class Parsed {
        final List<Method> methods = new ArrayList<>();
        final List<String> names = new ArrayList<>(List.of("lost"));
        final List<int[]> sites = new ArrayList<>();
        final List<Literal> literals = new ArrayList<>();
    }

    // ---------------------------------------------------------------- reading

    static final Set<String> KEYWORDS = Set.of("method", "var", "if", "else", "while", "return", "answer", "write", "fail",
        "guard", "on", "ensure", "set", "add", "give", "drop", "link", "unlink", "clone", "new", "nil", "self", "lobby", "above");

    static final class Reader {
        final List<Node> tokens = new ArrayList<>();
        int at = 0;
        int open = 0;
        final Parsed parsed = new Parsed();
        final List<List<String>> scopes = new ArrayList<>();
        Method method;

        Reader(String tape) {
            int i = 0;
            while (i < tape.length()) {
                char c = tape.charAt(i);
                int j = i;
                if (c == ' ' || c == '\n') {
                    i++;
                    continue;
                }
                if (c >= 'a' && c <= 'z') {
                    while (j < tape.length() && tape.charAt(j) >= 'a' && tape.charAt(j) <= 'z') {
                        j++;
                    }
                    String w = tape.substring(i, j);
                    put(w.length() > 8 ? "bad" : KEYWORDS.contains(w) ? w : "W", i, w);
                } else if (c >= '0' && c <= '9') {
                    while (j < tape.length() && tape.charAt(j) >= '0' && tape.charAt(j) <= '9') {
                        j++;
                    }
                    put(j - i > 9 ? "bad" : "9", i, tape.substring(i, j));
                } else if (tape.startsWith("==", i)) {
                    j = i + 2;
                    put("==", i, "");
                } else {
                    j = i + 1;
                    put("{}()[]|,;.!=<>+-*/%".indexOf(c) >= 0 ? String.valueOf(c) : "bad", i, "");
                }
                i = j;
            }
            put("end", tape.length(), "");
        }

        void put(String op, int place, String word) {
            Node n = new Node(op, place);
            n.word = word;
            tokens.add(n);
        }

        Node here() {
            return tokens.get(at);
        }

        boolean is(String op) {
            return here().op.equals(op);
        }

        Fault fault() {
            return new Fault(here().place);
        }

        Node take(String op) {
            if (!is(op)) {
                throw fault();
            }
            if ("{([".contains(op)) {
                if (open == 20) {
                    throw fault();
                }
                open++;
            }
            if ("})]".contains(op)) {
                open--;
            }
            return tokens.get(at++);
        }

        boolean may(String op) {
            if (is(op)) {
                take(op);
                return true;
            }
            return false;
        }

        Parsed text() {
            do {
                method();
            } while (!is("end"));
            return parsed;
        }

        void method() {
            if (is("method") && parsed.methods.size() == 40) {
                throw fault();
            }
            take("method");
            if (is("W") && parsed.methods.stream().anyMatch(m -> m.word.equals(here().word))) {
                throw fault();
            }
            method = new Method();
            method.word = take("W").word;
            method.number = parsed.methods.size();
            parsed.methods.add(method);
            scopes.clear();
            scopes.add(new ArrayList<>());
            take("(");
            if (!is(")")) {
                method.parameters = parameters();
            }
            take(")");
            method.body = body();
        }

        int parameters() {
            int n = 0;
            do {
                if (n == 4) {
                    throw fault();
                }
                scope().add(fresh());
                n++;
            } while (may(","));
            return n;
        }

        List<String> scope() {
            return scopes.get(scopes.size() - 1);
        }

        String fresh() {
            if (is("W") && (scope().contains(here().word) || scope().size() == 12)) {
                throw fault();
            }
            return take("W").word;
        }

        List<Node> body() {
            take("{");
            List<Node> all = new ArrayList<>();
            while (!is("}")) {
                all.add(statement());
            }
            take("}");
            return all;
        }

        Node block(List<Node> statements) {
            Node n = new Node("body", 0);
            n.kids.addAll(statements);
            return n;
        }

        Node statement() {
            Node s = new Node(here().op, here().place);
            switch (s.op) {
                case "var": {
                    take("var");
                    String w = fresh();
                    take("=");
                    s.with(exp());
                    take(";");
                    scope().add(w);
                    s.number = scope().size() - 1;
                    return s;
                }
                case "set":
                    take("set");
                    s.with(exp());
                    take(",");
                    site(s, 2);
                    take("=");
                    s.with(exp());
                    take(";");
                    return s;
                case "add":
                    take("add");
                    s.with(exp());
                    take(",");
                    s.number = name();
                    take("=");
                    s.with(exp());
                    take(";");
                    return s;
                case "give":
                    take("give");
                    s.with(exp());
                    take(",");
                    s.number = name();
                    take(",");
                    if (is("W")) {
                        Node w = here();
                        Method m = parsed.methods.stream().filter(x -> x.word.equals(w.word)).findAny().orElse(null);
                        if (m == null) {
                            throw fault();
                        }
                        s.hops = m.number;
                    }
                    take("W");
                    take(";");
                    return s;
                case "drop":
                    take("drop");
                    s.with(exp());
                    take(",");
                    s.number = name();
                    take(";");
                    return s;
                case "link":
                case "unlink":
                    take(s.op);
                    s.with(exp());
                    take(",");
                    s.with(exp());
                    take(";");
                    return s;
                case "if":
                    take("if");
                    s.with(exp(), block(body()));
                    if (may("else")) {
                        s.with(block(body()));
                    }
                    return s;
                case "while":
                    take("while");
                    s.with(exp(), block(body()));
                    return s;
                case "return":
                case "answer":
                case "write":
                    take(s.op);
                    s.with(exp());
                    take(";");
                    return s;
                case "fail":
                    take("fail");
                    if (is("9") && (number() < 20 || number() > 99)) {
                        throw fault();
                    }
                    s.number = number();
                    take("9");
                    if (may(",")) {
                        s.with(exp());
                    }
                    take(";");
                    return s;
                case "guard":
                    return guard(s);
                default:
                    return plain(s);
            }
        }

        long number() {
            return is("9") ? Long.parseLong(here().word) : -1;
        }

        Node guard(Node s) {
            take("guard");
            s.with(block(body()));
            if (!is("on") && !is("ensure")) {
                throw fault();
            }
            while (is("on")) {
                Node on = new Node(take("on").op, 0);
                if (is("9") && number() > 99) {
                    throw fault();
                }
                on.number = number();
                take("9");
                String w = fresh();
                scope().add(w);
                on.hops = scope().size() - 1;
                s.with(on.with(block(body())));
            }
            if (may("ensure")) {
                s.with(new Node("ensure", 0).with(block(body())));
            }
            return s;
        }

        Node plain(Node s) {
            if (is("W") && tokens.get(at + 1).op.equals("=")) {
                Node n = new Node("assign", s.place);
                reach(n);
                take("W");
                take("=");
                n.with(exp());
                take(";");
                return n;
            }
            Node n = new Node("exp", s.place).with(exp());
            take(";");
            return n;
        }

        void reach(Node n) {
            for (int i = scopes.size() - 1; i >= 0; i--) {
                int k = scopes.get(i).indexOf(here().word);
                if (k >= 0) {
                    n.hops = scopes.size() - 1 - i;
                    n.number = k;
                    return;
                }
            }
            throw fault();
        }

        int name() {
            if (is("W") && !parsed.names.contains(here().word)) {
                if (parsed.names.size() == 100) {
                    throw fault();
                }
                parsed.names.add(here().word);
            }
            return parsed.names.indexOf(take("W").word);
        }

        void site(Node n, int kind) {
            if (parsed.sites.size() == 150) {
                throw fault();
            }
            int place = here().place;
            n.number = name();
            n.site = parsed.sites.size();
            parsed.sites.add(new int[] {kind, (int) n.number, place});
        }

        Node exp() {
            Node left = sum();
            if (is("<") || is(">") || is("==")) {
                Node n = new Node(take(here().op).op, 0);
                return n.with(left, sum());
            }
            return left;
        }

        Node sum() {
            Node left = product();
            while (is("+") || is("-")) {
                left = new Node(take(here().op).op, 0).with(left, product());
            }
            return left;
        }

        Node product() {
            Node left = unary();
            while (is("*") || is("/") || is("%")) {
                left = new Node(take(here().op).op, 0).with(left, unary());
            }
            return left;
        }

        Node unary() {
            return may("-") ? new Node("neg", 0).with(unary()) : chain();
        }

        Node chain() {
            Node e = primary();
            while (is(".") || is("!")) {
                if (may(".")) {
                    Node n = new Node("message", 0).with(e);
                    site(n, 0);
                    arguments(n, true);
                    e = n;
                } else {
                    take("!");
                    Node n = new Node("call", 0).with(e);
                    arguments(n, false);
                    e = n;
                }
            }
            return e;
        }

        void arguments(Node n, boolean optional) {
            if (optional && !is("(")) {
                return;
            }
            take("(");
            int many = 0;
            if (!is(")")) {
                do {
                    if (many == 4) {
                        throw fault();
                    }
                    n.with(exp());
                    many++;
                } while (may(","));
            }
            take(")");
        }

        Node primary() {
            Node t = here();
            Node n;
            switch (t.op) {
                case "9":
                    n = new Node("num", 0);
                    n.number = number();
                    take("9");
                    return n;
                case "nil":
                case "self":
                case "lobby":
                case "new":
                    return new Node(take(t.op).op, 0);
                case "clone":
                    take("clone");
                    take("(");
                    n = new Node("clone", 0).with(exp());
                    take(")");
                    return n;
                case "W":
                    n = new Node("word", 0);
                    reach(n);
                    take("W");
                    return n;
                case "above":
                    take("above");
                    take(".");
                    n = new Node("above", 0).with(new Node("self", 0));
                    site(n, 1);
                    arguments(n, true);
                    return n;
                case "(":
                    take("(");
                    n = exp();
                    take(")");
                    return n;
                case "[":
                    return literal();
                default:
                    throw fault();
            }
        }

        Node literal() {
            if (parsed.literals.size() == 60) {
                throw fault();
            }
            take("[");
            Literal l = new Literal();
            l.method = method;
            parsed.literals.add(l);
            Node n = new Node("literal", 0);
            n.number = parsed.literals.size() - 1;
            scopes.add(new ArrayList<>());
            if (may("|")) {
                l.parameters = parameters();
                take("|");
            }
            l.body = new ArrayList<>();
            while (!is("]")) {
                l.body.add(statement());
            }
            take("]");
            scopes.remove(scopes.size() - 1);
            return n;
        }
    }

    // ---------------------------------------------------------------- objects

    record Item(int kind, int what) {
    }

    static final class Obj {
        final List<Item> items = new ArrayList<>();
        final List<Val> values = new ArrayList<>();
    }

    static final class Entry {
        int shape;
        int start;
        int place;
        int holder;
        int name;
        Set<Integer> rests = new HashSet<>();
    }

    static final class Site {
        int state;
        int uses;
        int misses;
        int voids;
        int tests;
        final List<Entry> own = new ArrayList<>();
    }

    StringBuilder tape = new StringBuilder();
    Parsed text = null;
    int manner = 0;
    List<Obj> objects;
    List<List<Item>> shapes;
    Map<List<Item>, Integer> shapeNumbers;
    List<Site> sites;
    List<Entry> table;
    List<int[]> gone;
    List<Room> blockRooms;
    List<Literal> blockLiterals;
    int[] methodCalls;

    Val latestAnswer;
    int steps;
    int leftBy;
    List<long[]> failures;
    List<Val> written;
    List<long[]> begun;

    int shapeNumber(List<Item> row) {
        return shapeNumbers.getOrDefault(row, -1);
    }

    void makeShape(List<Item> row) {
        if (shapeNumber(row) < 0) {
            List<Item> copy = List.copyOf(row);
            shapeNumbers.put(copy, shapes.size());
            shapes.add(copy);
        }
    }

    int shapeOf(int o) {
        return shapeNumber(objects.get(o).items);
    }

    static boolean hasSlot(List<Item> row, int name) {
        return row.stream().anyMatch(i -> i.kind() != 2 && i.what() == name);
    }

    List<Integer> wayOf(List<Item> row) {
        List<Integer> way = new ArrayList<>();
        visitParents(row, way);
        return way;
    }

    void visitParents(List<Item> row, List<Integer> way) {
        for (Item i : row) {
            if (i.kind() == 2 && !way.contains(i.what())) {
                way.add(i.what());
                visitParents(objects.get(i.what()).items, way);
            }
        }
    }

    /** PLACE and HOLDER. */
    int[] lookUp(int shape, int name, int start) {
        List<Item> row = shapes.get(shape);
        if (start == 0 && hasSlot(row, name)) {
            return new int[] {0, -1};
        }
        List<Integer> way = wayOf(row);
        int from = start <= 0 ? 0 : way.contains(start - 1) ? way.indexOf(start - 1) + 1 : way.size();
        for (int k = from; k < way.size(); k++) {
            if (hasSlot(objects.get(way.get(k)).items, name)) {
                return new int[] {k + 1, way.get(k)};
            }
        }
        return new int[] {-1, -1};
    }

    Entry entryOf(int shape, int name, int start) {
        Entry e = new Entry();
        e.shape = shape;
        e.name = name;
        e.start = start;
        int[] found = lookUp(shape, name, start);
        e.place = found[0];
        e.holder = found[1];
        List<Integer> way = wayOf(shapes.get(shape));
        e.rests.addAll(e.place == 0 ? List.of() : e.place > 0 ? way.subList(0, e.place) : way);
        return e;
    }

    int[] use(int site, int shape, int start) {
        int name = text.sites.get(site)[1];
        if (manner == 0) {
            return lookUp(shape, name, start);
        }
        Site s = sites.get(site);
        s.uses++;
        if (s.state == 3) {
            s.tests++;
            for (Entry e : table) {
                if (e.shape == shape && e.start == start && e.name == name) {
                    return new int[] {e.place, e.holder};
                }
            }
        } else {
            for (Entry e : s.own) {
                s.tests++;
                if (e.shape == shape && e.start == start) {
                    return new int[] {e.place, e.holder};
                }
            }
        }
        s.misses++;
        Entry e = entryOf(shape, name, start);
        remember(s, e);
        return new int[] {e.place, e.holder};
    }

    void remember(Site s, Entry e) {
        if (manner == 1) {
            s.own.clear();
            s.own.add(e);
            s.state = 1;
            return;
        }
        switch (s.state) {
            case 0:
                s.state = 1;
                s.own.add(e);
                return;
            case 1:
                s.state = s.own.isEmpty() ? 1 : 2;
                s.own.add(e);
                return;
            case 2:
                if (s.own.size() < 4) {
                    s.own.add(e);
                    return;
                }
                s.state = 3;
                s.own.clear();
                break;
            default:
        }
        if (table.stream().noneMatch(t -> t.shape == e.shape && t.name == e.name && t.start == e.start)) {
            if (table.size() == 128) {
                table.clear();
            }
            table.add(e);
        }
    }

    void shapeChanged(int o) {
        gone = new ArrayList<>();
        for (int i = 0; i < sites.size(); i++) {
            Site s = sites.get(i);
            for (Entry e : List.copyOf(s.own)) {
                if (e.rests.contains(o)) {
                    gone.add(new int[] {i, e.shape, e.name, e.start});
                    s.own.remove(e);
                    s.voids++;
                }
            }
        }
        for (Entry e : List.copyOf(table)) {
            if (e.rests.contains(o)) {
                gone.add(new int[] {-1, e.shape, e.name, e.start});
                table.remove(e);
            }
        }
    }

    int indexOf(int o, int kind, int what) {
        return objects.get(o).items.indexOf(new Item(kind, what));
    }

    int put(int o, int kind, int what, Val v) {
        Obj obj = objects.get(o);
        int other = kind == 2 ? -1 : indexOf(o, 1 - kind, what);
        int at = indexOf(o, kind, what);
        if (other >= 0 || at >= 0 && kind == 2) {
            return 7;
        }
        if (at >= 0) {
            obj.values.set(at, v);
            return 0;
        }
        List<Item> row = new ArrayList<>(obj.items);
        row.add(new Item(kind, what));
        if (row.size() > 12 || shapeNumber(row) < 0 && shapes.size() == 400) {
            return 8;
        }
        makeShape(row);
        obj.items.add(new Item(kind, what));
        obj.values.add(v);
        shapeChanged(o);
        return 0;
    }

    int takeAway(int o, int at) {
        if (at < 0) {
            return 7;
        }
        Obj obj = objects.get(o);
        List<Item> row = new ArrayList<>(obj.items);
        row.remove(at);
        int needed = 0;
        for (int n = at + 1; n <= row.size(); n++) {
            needed += shapeNumber(row.subList(0, n)) < 0 ? 1 : 0;
        }
        if (shapes.size() + needed > 400) {
            return 8;
        }
        for (int n = at + 1; n <= row.size(); n++) {
            makeShape(row.subList(0, n));
        }
        obj.items.remove(at);
        obj.values.remove(at);
        shapeChanged(o);
        return 0;
    }

    int dropSlot(int o, int name) {
        return takeAway(o, Math.max(indexOf(o, 0, name), indexOf(o, 1, name)));
    }

    // ---------------------------------------------------------------- running

    /** The words of a beginning. */
    static final class Room {
        Val[] words = new Val[12];
        Room outer;
        Room home;
        boolean live = true;
        Method method;
        Val self;
        int place;
        int holder;
        boolean handler;
        int statement;

        Room() {
            java.util.Arrays.fill(words, NIL);
        }
    }

    static class Leaving extends RuntimeException {
        Leaving() {
            super(null, null, false, false);
        }
    }

    static final class Failing extends Leaving {
        final int number;
        final int kind;
        final Val value;

        Failing(int number, int kind, Val value) {
            this.number = number;
            this.kind = kind;
            this.value = value;
        }
    }

    static final class Ending extends Leaving {
        final Room room;
        final Val value;

        Ending(Room room, Val value) {
            this.room = room;
            this.value = value;
        }
    }

    static final class RunOver extends RuntimeException {
        final int outcome;

        RunOver(int outcome) {
            super(null, null, false, false);
            this.outcome = outcome;
        }
    }

    List<Room> underWay;
    List<Integer> causes;

    Failing fail(Room r, int kind, Val value) {
        long cause = causes.isEmpty() ? -1 : causes.get(causes.size() - 1);
        failures.add(new long[] {kind, value.sort(), value.worth(), r.method.number, r.statement, cause});
        return new Failing(failures.size() - 1, kind, value);
    }

    Failing fail(Room r, int kind) {
        return fail(r, kind, NIL);
    }

    void step() {
        if (steps == 4000) {
            throw new RunOver(2);
        }
        steps++;
    }

    Val beginIt(Room room, List<Node> body, List<Val> arguments) {
        if (underWay.size() == 60) {
            throw new RunOver(3);
        }
        underWay.add(room);
        for (int i = 0; i < arguments.size(); i++) {
            room.words[i] = arguments.get(i);
        }
        if (room.home == room) {
            begun.add(new long[] {room.method.number, room.self.sort(), room.self.worth(), room.place});
            methodCalls[room.method.number]++;
        }
        try {
            for (Node s : body) {
                statement(s, room);
            }
            return NIL;
        } catch (Ending e) {
            if (e.room != room) {
                throw e;
            }
            return e.value;
        } finally {
            room.live = false;
            underWay.remove(underWay.size() - 1);
        }
    }

    Val beginMethod(Method m, Val self, List<Val> arguments, int place, int holder, boolean handler) {
        Room room = new Room();
        room.home = room;
        room.method = m;
        room.self = self;
        room.place = place;
        room.holder = holder;
        room.handler = handler;
        return beginIt(room, m.body, arguments);
    }

    void statements(Node body, Room r) {
        for (Node s : body.kids) {
            statement(s, r);
        }
    }

    static boolean isTrue(Val v) {
        return v.sort() != 0 && !(v.sort() == 1 && v.worth() == 0);
    }

    void statement(Node s, Room r) {
        step();
        r.statement = s.place;
        Val v;
        Val w;
        switch (s.op) {
            case "var":
                r.words[(int) s.number] = exp(s.kids.get(0), r);
                return;
            case "assign":
                v = exp(s.kids.get(0), r);
                roomOf(s, r).words[(int) s.number] = v;
                return;
            case "exp":
                exp(s.kids.get(0), r);
                return;
            case "write":
                written.add(exp(s.kids.get(0), r));
                return;
            case "fail":
                throw fail(r, (int) s.number, s.kids.isEmpty() ? NIL : exp(s.kids.get(0), r));
            case "answer":
                throw new Ending(r, exp(s.kids.get(0), r));
            case "return":
                v = exp(s.kids.get(0), r);
                if (!r.home.live) {
                    throw fail(r, 9);
                }
                throw new Ending(r.home, v);
            case "if":
                if (isTrue(exp(s.kids.get(0), r))) {
                    statements(s.kids.get(1), r);
                } else if (s.kids.size() > 2) {
                    statements(s.kids.get(2), r);
                }
                return;
            case "while":
                while (isTrue(exp(s.kids.get(0), r))) {
                    statements(s.kids.get(1), r);
                    step();
                    r.statement = s.place;
                }
                return;
            case "guard":
                guard(s, r);
                return;
            case "set":
                v = exp(s.kids.get(0), r);
                w = exp(s.kids.get(1), r);
                set(s, r, v, w);
                return;
            case "add":
                v = exp(s.kids.get(0), r);
                w = exp(s.kids.get(1), r);
                change(r, v, () -> put((int) v(v), 0, (int) s.number, w));
                return;
            case "give":
                v = exp(s.kids.get(0), r);
                change(r, v, () -> put((int) v(v), 1, (int) s.number, new Val(4, s.hops)));
                return;
            case "drop":
                v = exp(s.kids.get(0), r);
                change(r, v, () -> dropSlot((int) v(v), (int) s.number));
                return;
            case "link":
            case "unlink":
                v = exp(s.kids.get(0), r);
                w = exp(s.kids.get(1), r);
                if (w.sort() != 2) {
                    throw fail(r, 6);
                }
                change(r, v, () -> s.op.equals("link") ? put((int) v(v), 2, (int) v(w), NIL)
                    : takeAway((int) v(v), indexOf((int) v(v), 2, (int) v(w))));
                return;
            default:
                throw new IllegalStateException(s.op);
        }
    }

    static long v(Val v) {
        return v.worth();
    }

    void change(Room r, Val v, java.util.function.IntSupplier what) {
        if (v.sort() != 2) {
            throw fail(r, 6);
        }
        int kind = what.getAsInt();
        if (kind != 0) {
            throw fail(r, kind);
        }
    }

    void guard(Node s, Room r) {
        Node ensure = null;
        for (Node k : s.kids) {
            ensure = k.op.equals("ensure") ? k : null;
        }
        Leaving leaving = null;
        try {
            guarded(s, r);
        } catch (Leaving l) {
            leaving = l;
        }
        if (ensure != null) {
            statements(ensure.kids.get(0), r);
        }
        if (leaving != null) {
            throw leaving;
        }
    }

    void guarded(Node s, Room r) {
        try {
            statements(s.kids.get(0), r);
        } catch (Failing f) {
            for (Node on : s.kids) {
                if (on.op.equals("on") && (on.number == 0 || on.number == f.kind)) {
                    r.words[on.hops] = f.value;
                    causes.add(f.number);
                    try {
                        statements(on.kids.get(0), r);
                    } finally {
                        causes.remove(causes.size() - 1);
                    }
                    return;
                }
            }
            throw f;
        }
    }

    int standsFor(Val v) {
        return v.sort() == 2 ? (int) v.worth() : v.sort() == 1 ? 1 : v.sort() == 3 ? 2 : 3;
    }

    void set(Node s, Room r, Val e, Val w) {
        step();
        int o = standsFor(e);
        int[] found = use(s.site, shapeOf(o), 0);
        if (found[0] < 0) {
            throw fail(r, 1, num(s.number));
        }
        int holder = found[0] == 0 ? o : found[1];
        if (indexOf(holder, 1, (int) s.number) >= 0) {
            throw fail(r, 11);
        }
        objects.get(holder).values.set(indexOf(holder, 0, (int) s.number), w);
    }

    Room roomOf(Node n, Room r) {
        Room room = r;
        for (int i = 0; i < n.hops; i++) {
            room = room.outer;
        }
        return room;
    }

    Val exp(Node e, Room r) {
        List<Val> k = new ArrayList<>();
        for (Node kid : e.kids) {
            k.add(exp(kid, r));
        }
        switch (e.op) {
            case "num":
                return num(e.number);
            case "nil":
                return NIL;
            case "self":
                return r.home.self;
            case "lobby":
                return new Val(2, 0);
            case "new":
                return newObject(r, new Obj());
            case "clone": {
                if (k.get(0).sort() != 2) {
                    throw fail(r, 6);
                }
                Obj copy = new Obj();
                copy.items.addAll(objects.get((int) k.get(0).worth()).items);
                copy.values.addAll(objects.get((int) k.get(0).worth()).values);
                return newObject(r, copy);
            }
            case "word":
                return roomOf(e, r).words[(int) e.number];
            case "literal":
                if (blockRooms.size() == 500) {
                    throw fail(r, 8);
                }
                blockRooms.add(r);
                blockLiterals.add(text.literals.get((int) e.number));
                return new Val(3, blockRooms.size() - 1);
            case "message":
                return message(e, r, k.get(0), k.subList(1, k.size()), 0);
            case "above":
                return message(e, r, k.get(0), k.subList(1, k.size()), r.home.place == 0 ? -1 : r.home.holder + 1);
            case "call":
                return call(r, k.get(0), k.subList(1, k.size()));
            case "==":
                return num(k.get(0).equals(k.get(1)) ? 1 : 0);
            default:
                return reckon(e.op, r, k);
        }
    }

    Val newObject(Room r, Obj o) {
        if (objects.size() == 200) {
            throw fail(r, 8);
        }
        objects.add(o);
        return new Val(2, objects.size() - 1);
    }

    Val call(Room r, Val b, List<Val> arguments) {
        step();
        if (b.sort() != 3) {
            throw fail(r, 10);
        }
        Literal l = blockLiterals.get((int) b.worth());
        if (l.parameters != arguments.size()) {
            throw fail(r, 2);
        }
        Room room = new Room();
        room.outer = blockRooms.get((int) b.worth());
        room.home = room.outer.home;
        room.method = l.method;
        return beginIt(room, l.body, arguments);
    }

    Val message(Node e, Room r, Val receiver, List<Val> arguments, int start) {
        step();
        int o = standsFor(receiver);
        int[] found = use(e.site, shapeOf(o), start);
        if (found[0] < 0) {
            int[] lost = lookUp(shapeOf(o), 0, 0);
            if (lost[0] >= 0 && underWay.stream().noneMatch(x -> x.handler)) {
                int holder = lost[0] == 0 ? o : lost[1];
                int at = indexOf(holder, 1, 0);
                if (at >= 0) {
                    Method m = text.methods.get((int) objects.get(holder).values.get(at).worth());
                    if (m.parameters == 2) {
                        return beginMethod(m, receiver, List.of(num(e.number), num(arguments.size())), lost[0], lost[1], true);
                    }
                }
            }
            throw fail(r, 1, num(e.number));
        }
        int holder = found[0] == 0 ? o : found[1];
        int at = indexOf(holder, 1, (int) e.number);
        if (at < 0) {
            if (!arguments.isEmpty()) {
                throw fail(r, 2);
            }
            return objects.get(holder).values.get(indexOf(holder, 0, (int) e.number));
        }
        Method m = text.methods.get((int) objects.get(holder).values.get(at).worth());
        if (m.parameters != arguments.size()) {
            throw fail(r, 2);
        }
        return beginMethod(m, receiver, arguments, found[0], found[1], false);
    }

    Val reckon(String op, Room r, List<Val> k) {
        for (Val x : k) {
            if (x.sort() != 1) {
                throw fail(r, 3);
            }
        }
        java.math.BigInteger a = java.math.BigInteger.valueOf(k.get(0).worth());
        if (op.equals("neg")) {
            return exact(r, a.negate());
        }
        java.math.BigInteger b = java.math.BigInteger.valueOf(k.get(1).worth());
        if ((op.equals("/") || op.equals("%")) && b.signum() == 0) {
            throw fail(r, 5);
        }
        switch (op) {
            case "+":
                return exact(r, a.add(b));
            case "-":
                return exact(r, a.subtract(b));
            case "*":
                return exact(r, a.multiply(b));
            case "/":
                return exact(r, a.divide(b));
            case "%":
                return exact(r, a.remainder(b));
            case "<":
                return num(a.compareTo(b) < 0 ? 1 : 0);
            default:
                return num(a.compareTo(b) > 0 ? 1 : 0);
        }
    }

    Val exact(Room r, java.math.BigInteger n) {
        if (n.bitLength() > 63) {
            throw fail(r, 4);
        }
        return num(n.longValue());
    }

    // ---------------------------------------------------------------- the face

    int feed(int a, int b, int c, int d, int e) {
        if (tape.length() + 20 > 6000) {
            throw new UnsupportedOperationException();
        }
        for (int n : new int[] {a, b, c, d, e}) {
            for (int i = 3; i >= 0; i--) {
                tape.append((char) (n >>> 8 * i & 255));
            }
        }
        return tape.length();
    }

    void end(int n) {
        if (n < 0 || n > tape.length()) {
            throw new IllegalArgumentException();
        }
        tape.setLength(n);
    }

    int load() {
        String bytes = tape.toString();
        tape.setLength(0);
        try {
            text = new Reader(bytes).text();
        } catch (Fault f) {
            return -1 - f.place;
        }
        objects = new ArrayList<>();
        shapes = new ArrayList<>();
        shapeNumbers = new HashMap<>();
        makeShape(List.of());
        for (int i = 0; i < 4; i++) {
            objects.add(new Obj());
        }
        gone = new ArrayList<>();
        blockRooms = new ArrayList<>();
        blockLiterals = new ArrayList<>();
        methodCalls = new int[text.methods.size()];
        clearRun();
        forget();
        return text.methods.size();
    }

    void clearRun() {
        latestAnswer = NIL;
        steps = 0;
        leftBy = -1;
        failures = new ArrayList<>();
        written = new ArrayList<>();
        begun = new ArrayList<>();
    }

    void manner(int m) {
        if (m < 0 || m > 2) {
            throw new IllegalArgumentException();
        }
        manner = m;
        forget();
    }

    void forget() {
        if (text == null) {
            return;
        }
        sites = new ArrayList<>();
        for (int i = 0; i < text.sites.size(); i++) {
            sites.add(new Site());
        }
        table = new ArrayList<>();
    }

    void loaded() {
        if (text == null) {
            throw new IllegalStateException();
        }
    }

    static void index(long i, int bound) {
        if (i < 0 || i >= bound) {
            throw new IndexOutOfBoundsException();
        }
    }

    static void argument(boolean fits) {
        if (!fits) {
            throw new IllegalArgumentException();
        }
    }

    int run(int m, long a, long b) {
        loaded();
        argument(m >= 0 && m < text.methods.size() && text.methods.get(m).parameters == 2);
        clearRun();
        underWay = new ArrayList<>();
        causes = new ArrayList<>();
        try {
            latestAnswer = beginMethod(text.methods.get(m), new Val(2, 0), List.of(num(a), num(b)), 0, -1, false);
            return 0;
        } catch (Failing f) {
            leftBy = f.number;
            return 1;
        } catch (RunOver o) {
            return o.outcome;
        }
    }

    long latest(int what) {
        loaded();
        argument(what >= 0 && what <= 6);
        return new long[] {latestAnswer.sort(), latestAnswer.worth(), steps, leftBy, failures.size(), written.size(), begun.size()}[what];
    }

    long written(int i, int what) {
        loaded();
        index(i, Math.min(300, written.size()));
        argument(what == 0 || what == 1);
        return what == 0 ? written.get(i).sort() : written.get(i).worth();
    }

    long begun(int i, int what) {
        loaded();
        index(i, Math.min(300, begun.size()));
        argument(what >= 0 && what <= 3);
        return begun.get(i)[what];
    }

    long failure(int i, int what) {
        loaded();
        index(i, Math.min(64, failures.size()));
        argument(what >= 0 && what <= 5);
        return failures.get(i)[what];
    }

    int calls(int m) {
        loaded();
        index(m, text.methods.size());
        return methodCalls[m];
    }

    int change(int o, int op, int x, long v) {
        loaded();
        argument(op >= 0 && op <= 4);
        index(o, objects.size());
        index(x, op >= 3 ? objects.size() : text.names.size());
        if (op == 1) {
            index(v, text.methods.size());
        }
        switch (op) {
            case 0:
                return put(o, 0, x, num(v));
            case 1:
                return put(o, 1, x, new Val(4, v));
            case 2:
                return dropSlot(o, x);
            case 3:
                return put(o, 2, x, NIL);
            default:
                return takeAway(o, indexOf(o, 2, x));
        }
    }

    int count(int what) {
        loaded();
        argument(what >= 0 && what <= 8);
        return new int[] {text.methods.size(), text.names.size(), text.sites.size(), text.literals.size(), objects.size(),
            shapes.size(), blockRooms.size(), table.size(), manner}[what];
    }

    int nameByte(int x, int k) {
        loaded();
        index(x, text.names.size());
        String n = text.names.get(x);
        return k >= 0 && k < n.length() ? n.charAt(k) : 0;
    }

    int shape(int o) {
        loaded();
        index(o, objects.size());
        return shapeOf(o);
    }

    int item(int s, int what) {
        loaded();
        index(s, shapes.size());
        argument(what >= 0);
        List<Item> row = shapes.get(s);
        if (what == 0) {
            return row.size();
        }
        int at = (what - 1) / 2;
        return at >= row.size() ? -1 : what % 2 == 1 ? row.get(at).kind() : row.get(at).what();
    }

    int next(int s, int kind, int x) {
        loaded();
        index(s, shapes.size());
        List<Item> row = new ArrayList<>(shapes.get(s));
        row.add(new Item(kind, x));
        return shapeNumber(row);
    }

    long held(int o, int x, int what) {
        loaded();
        index(o, objects.size());
        index(x, text.names.size());
        argument(what == 0 || what == 1);
        int at = Math.max(indexOf(o, 0, x), indexOf(o, 1, x));
        if (at < 0) {
            return what - 1;
        }
        Val v = objects.get(o).values.get(at);
        return what == 0 ? v.sort() : v.worth();
    }

    int way(int o, int k) {
        loaded();
        index(o, objects.size());
        List<Integer> way = wayOf(objects.get(o).items);
        return k >= 1 && k <= way.size() ? way.get(k - 1) : -1;
    }

    int look(int o, int x, int start) {
        loaded();
        index(o, objects.size());
        index(x, text.names.size());
        argument(start >= -1 && start <= objects.size());
        return lookUp(shapeOf(o), x, start)[0];
    }

    int site(int i, int what) {
        loaded();
        index(i, text.sites.size());
        argument(what >= 0 && what <= 8);
        Site s = sites.get(i);
        int[] t = text.sites.get(i);
        return new int[] {t[0], t[1], s.state, s.own.size(), s.uses, s.misses, s.voids, s.tests, t[2]}[what];
    }

    Entry entryAt(int i, int k) {
        if (i != -1) {
            index(i, text.sites.size());
        }
        List<Entry> all = i == -1 ? table : sites.get(i).own;
        index(k, all.size());
        return all.get(k);
    }

    int entry(int i, int k, int what) {
        loaded();
        Entry e = entryAt(i, k);
        argument(what >= 0 && what <= 4);
        return new int[] {e.shape, e.start, e.place, e.holder, e.name}[what];
    }

    boolean rests(int i, int k, int o) {
        loaded();
        Entry e = entryAt(i, k);
        index(o, objects.size());
        return e.rests.contains(o);
    }

    int voids() {
        loaded();
        return gone.size();
    }

    int gone(int j, int what) {
        loaded();
        index(j, gone.size());
        argument(what >= 0 && what <= 3);
        return gone.get(j)[what];
    }

    int astray() {
        loaded();
        return 0;
    }
}
