import java.util.ArrayList;
import java.util.HashMap;
import java.util.List;
import java.util.Map;

/**
 * The document once more, in the plainest way: trees, real substitution, exceptions. It is slow and
 * makes objects without end; the tests hold FrameBench against it.
 */
final class Oracle {
    private static final int PI = 1, LAM = 2, VAR = 3, CON = 4, APP = 5, TYPE = 6;

    /** What is read. */
    private static final class E {
        String form;             // "{", "[", ">", "app", "name", "type", "( )"
        int first, sign;
        String word;
        E one, two;
        List<E> parts = new ArrayList<>();
    }

    /** What is meant. */
    private static final class T {
        final int kind, id;
        final T one, two;
        T(int kind, int id, T one, T two) { this.kind = kind; this.id = id; this.one = one; this.two = two; }
    }

    private static final class Constant {
        String name;
        int sort;
        T type, body;
    }

    private static final class Fault extends RuntimeException {
        private static final long serialVersionUID = 1;
        final int kind, place;
        Fault(int kind, int place) { super(null, null, false, false); this.kind = kind; this.place = place; }
        int number() { return kind + 16 * place; }
    }

    /** SPENT, DEEP or too long, before it is known where that is told. */
    private static final class Stop extends RuntimeException {
        private static final long serialVersionUID = 1;
        final int kind;
        Stop(int kind) { super(null, null, false, false); this.kind = kind; }
    }

    private final StringBuilder tape = new StringBuilder();
    private final List<Constant> constants = new ArrayList<>();
    private String out = "";
    private int inAll, latest, fresh;

    // ---- the face

    int feed(long a, long b, long c) {
        for (long eight : new long[] {a, b, c}) {
            for (int i = 7; i >= 0; i--) {
                int sign = (int) (eight >> 8 * i) & 0xff;
                if ((sign == 10 || sign >= 32 && sign < 127) && tape.length() < 4000) tape.append((char) sign);
            }
        }
        return tape.length();
    }

    int declare() {
        begin();
        try {
            while (!token.equals("")) declaration();
            return 0;
        } catch (Fault f) {
            return f.number();
        }
    }

    int canon() { return written(false); }

    int type() { return written(true); }

    int equal() {
        begin();
        try {
            E a = whole();
            take(";");
            E b = whole();
            take("");
            T[] first = object(a, new ArrayList<>()), second = object(b, new ArrayList<>());
            try {
                if (!families(first[1], second[1], 1)) return -2;
                return objects(first[1], first[0], second[0], 1) ? 1 : 0;
            } catch (Stop s) {
                throw new Fault(s.kind, text.length());
            }
        } catch (Fault f) {
            return -1 - f.number();
        }
    }

    int named() {
        text = tape.toString();
        tape.setLength(0);
        String word = text.replace('\n', ' ').trim();
        for (int k = 0; k < constants.size(); k++) if (constants.get(k).name.equals(word)) return k;
        return -1;
    }

    int constant(int k, int what) {
        if (k < 0 || k >= constants.size() || what < 0 || what > 1) return -1;
        Constant c = constants.get(k);
        if (what == 0) return c.sort;
        int n = 0;
        for (T t = c.type; t.kind == PI; t = t.two) n++;
        return n;
    }

    int size() { return out.length(); }

    int out(int i) { return i < 0 || i >= out.length() ? -1 : out.charAt(i); }

    int forget(int n) {
        if (n < 0 || n > constants.size()) return -1;
        for (int i = 0; i < n; i++) constants.remove(constants.size() - 1);
        return constants.size();
    }

    int count(int what) {
        return what == 0 ? constants.size() : what == 1 ? inAll : what == 2 ? latest : what == 3 ? tape.length() : -1;
    }

    // ---- tokens

    private String text = "", token = "";
    private int place, behind;
    private boolean none;

    private void begin() {
        text = tape.toString();
        tape.setLength(0);
        latest = 0;
        behind = 0;
        next();
    }

    private void next() {
        while (behind < text.length() && (text.charAt(behind) == ' ' || text.charAt(behind) == '\n')) behind++;
        place = behind;
        none = false;
        if (place == text.length()) { token = ""; return; }
        if (isLetter(text.charAt(place))) {
            while (behind < text.length() && (isLetter(text.charAt(behind)) || isDigit(text.charAt(behind)))) behind++;
        } else {
            behind++;
        }
        token = text.substring(place, behind);
        none = token.length() > 12 || !isLetter(token.charAt(0)) && "{}[]():.=;>".indexOf(token) < 0;
    }

    private static boolean isLetter(char c) { return c >= 'a' && c <= 'z' || c >= 'A' && c <= 'Z'; }

    private static boolean isDigit(char c) { return c >= '0' && c <= '9'; }

    private boolean isName() { return !none && !token.isEmpty() && isLetter(token.charAt(0)) && !token.equals("type"); }

    private boolean startsP() { return isName() || token.equals("type") || token.equals("("); }

    private String take(String what) {
        if (none || !token.equals(what)) throw new Fault(1, place);
        next();
        return what;
    }

    private String takeName() {
        if (!isName()) throw new Fault(1, place);
        String name = token;
        next();
        return name;
    }

    // ---- reading

    private int parts;

    private E whole() { parts = 0; return readE(0); }

    private void onePart() { if (++parts > 600) throw new Fault(5, place); }

    private E readE(int within) {
        boolean binder = token.equals("{") || token.equals("[");
        if (!binder && !startsP()) throw new Fault(1, place);
        if (within >= 40) throw new Fault(5, place);
        E e = new E();
        e.first = place;
        if (binder) {
            onePart();
            e.form = token;
            e.sign = place;
            next();
            e.word = takeName();
            take(":");
            e.one = readE(within + 1);
            take(e.form.equals("{") ? "}" : "]");
            e.two = readE(within + 1);
            return e;
        }
        E a = new E();
        a.form = "app";
        a.first = place;
        while (startsP()) a.parts.add(readP(within + 1));
        if (a.parts.size() == 1) a = a.parts.get(0);
        if (!token.equals(">")) return a;
        onePart();
        e.form = ">";
        e.sign = place;
        next();
        e.one = a;
        e.two = readE(within + 1);
        return e;
    }

    private E readP(int within) {
        if (within >= 40) throw new Fault(5, place);
        onePart();
        E e = new E();
        e.first = e.sign = place;
        if (token.equals("(")) {
            e.form = "( )";
            next();
            e.one = readE(within + 1);
            take(")");
        } else {
            e.form = token.equals("type") ? "type" : "name";
            e.word = token;
            next();
        }
        return e;
    }

    private void declaration() {
        int at = place;
        if (!isName()) throw new Fault(1, at);
        for (Constant c : constants) if (c.name.equals(token)) throw new Fault(3, at);
        if (constants.size() >= 100) throw new Fault(5, at);
        Constant c = new Constant();
        c.name = takeName();
        take(":");
        E e = whole(), d = null;
        if (token.equals("=")) { next(); d = whole(); }
        take(".");
        List<Object[]> empty = new ArrayList<>();
        if (d == null) {
            boolean[] kind = new boolean[1];
            c.type = classifier(e, empty, true, kind);
            c.sort = kind[0] ? 0 : 1;
        } else {
            c.type = classifier(e, empty, false, new boolean[1]);
            c.body = fitting(d, empty, c.type);
            c.sort = 2;
        }
        constants.add(c);
    }

    // ---- checking; a scope is a list of { word, VAR, family }

    private void step() {
        if (latest == 20000 || inAll == 60000) throw new Stop(9);
        latest++;
        inAll++;
    }

    private void stepAt(int at) {
        try { step(); } catch (Stop s) { throw new Fault(s.kind, at); }
    }

    private static List<Object[]> with(List<Object[]> scope, String word, T var, T family) {
        List<Object[]> more = new ArrayList<>(scope);
        more.add(new Object[] {word, var, family});
        return more;
    }

    private T newVar() { return new T(VAR, ++fresh, null, null); }

    private T classifier(E e, List<Object[]> scope, boolean kindToo, boolean[] isKind) {
        if (e.form.equals("( )")) return classifier(e.one, scope, kindToo, isKind);
        if (e.form.equals("{") || e.form.equals(">")) {
            stepAt(e.sign);
            T f = classifier(e.one, scope, false, new boolean[1]);
            T v = newVarOf(f);
            return new T(PI, v.id, f, classifier(e.two, with(scope, e.word == null ? "" : e.word, v, f), kindToo, isKind));
        }
        if (e.form.equals("type")) {
            stepAt(e.sign);
            if (!kindToo) throw new Fault(6, e.first);
            isKind[0] = true;
            return new T(TYPE, 0, null, null);
        }
        if (e.form.equals("[")) { stepAt(e.sign); throw new Fault(6, e.first); }
        E head = e.form.equals("app") ? e.parts.get(0) : e;
        if (head.form.equals("( )")) throw new Fault(6, head.first);
        stepAt(head.sign);
        if (head.form.equals("type")) throw new Fault(6, head.first);
        T name = lookUp(head, scope)[0];
        if (name.kind != CON || constants.get(name.id).sort != 0) throw new Fault(6, head.first);
        T want = constants.get(name.id).type, all = name;
        for (int i = 1; i < e.parts.size(); i++) {
            E p = e.parts.get(i);
            stepAt(p.first);
            if (want.kind != PI) throw new Fault(4, p.first);
            T n = fitting(p, scope, want.one);
            all = new T(APP, 0, all, n);
            want = put(n, want.id, want.two);
        }
        if (want.kind == PI) throw new Fault(4, head.sign);
        return all;
    }

    /** The object and its type. */
    private T[] object(E e, List<Object[]> scope) {
        switch (e.form) {
            case "( )":
                return object(e.one, scope);
            case "[": {
                stepAt(e.sign);
                T f = classifier(e.one, scope, false, new boolean[1]);
                T v = newVarOf(f);
                T[] m = object(e.two, with(scope, e.word, v, f));
                return new T[] {new T(LAM, v.id, f, m[0]), new T(PI, v.id, f, m[1])};
            }
            case "name": {
                stepAt(e.sign);
                T[] found = lookUp(e, scope);
                if (found[0].kind == CON && constants.get(found[0].id).sort == 0) throw new Fault(6, e.first);
                return found;
            }
            case "app": {
                T[] m = object(e.parts.get(0), scope);
                for (int i = 1; i < e.parts.size(); i++) {
                    E p = e.parts.get(i);
                    stepAt(p.first);
                    if (m[1].kind != PI) throw new Fault(8, p.first);
                    T n = fitting(p, scope, m[1].one);
                    m = new T[] {new T(APP, 0, m[0], n), put(n, m[1].id, m[1].two)};
                }
                return m;
            }
            default:
                stepAt(e.sign);
                throw new Fault(6, e.first);
        }
    }

    private T fitting(E e, List<Object[]> scope, T family) {
        T[] n = object(e, scope);
        try {
            if (!families(n[1], family, 1)) throw new Fault(7, e.first);
        } catch (Stop s) {
            throw new Fault(s.kind, e.first);
        }
        return n[0];
    }

    private T[] lookUp(E e, List<Object[]> scope) {
        for (int i = scope.size() - 1; i >= 0; i--) {
            if (scope.get(i)[0].equals(e.word)) return new T[] {(T) scope.get(i)[1], (T) scope.get(i)[2]};
        }
        for (int k = 0; k < constants.size(); k++) {
            if (constants.get(k).name.equals(e.word)) return new T[] {new T(CON, k, null, null), constants.get(k).type};
        }
        throw new Fault(2, e.sign);
    }

    // ---- equality. Free VARS are always new ones, so nothing that is put can be caught by a binder.

    private static T put(T n, int x, T in) {
        switch (in.kind) {
            case VAR:
                return in.id == x ? n : in;
            case PI:
            case LAM: {
                T f = put(n, x, in.one), m = in.id == x ? in.two : put(n, x, in.two);
                return f == in.one && m == in.two ? in : new T(in.kind, in.id, f, m);
            }
            case APP: {
                T f = put(n, x, in.one), a = put(n, x, in.two);
                return f == in.one && a == in.two ? in : new T(APP, 0, f, a);
            }
            default:
                return in;
        }
    }

    private void question(int depth) {
        if (depth > 100) throw new Stop(10);
        step();
    }

    private static T headOf(T t) { while (t.kind == APP) t = t.one; return t; }

    private static List<T> behind(T t) {
        List<T> all = new ArrayList<>();
        for (; t.kind == APP; t = t.one) all.add(0, t.two);
        return all;
    }

    private T headForm(T t) {
        while (true) {
            T head = headOf(t);
            List<T> args = behind(t);
            if (head.kind == LAM && !args.isEmpty()) {
                step();
                head = put(args.remove(0), head.id, head.two);
            } else if (head.kind == CON && constants.get(head.id).sort == 2) {
                step();
                head = constants.get(head.id).body;
            } else {
                return t;
            }
            t = head;
            for (T a : args) t = new T(APP, 0, t, a);
        }
    }

    private final Map<Integer, T> varTypes = new HashMap<>();

    private T newVarOf(T family) {
        T v = newVar();
        varTypes.put(v.id, family);
        return v;
    }

    private T typeOfHead(T head) { return head.kind == VAR ? varTypes.get(head.id) : constants.get(head.id).type; }

    private boolean families(T f, T g, int depth) {
        question(depth);
        if (f.kind == PI && g.kind == PI) {
            if (!families(f.one, g.one, depth + 1)) return false;
            T v = newVarOf(f.one);
            return families(put(v, f.id, f.two), put(v, g.id, g.two), depth + 1);
        }
        T a = headOf(f), b = headOf(g);
        if (f.kind == PI || g.kind == PI || a.id != b.id) return false;
        return rows(constants.get(a.id).type, behind(f), behind(g), depth + 1);
    }

    private boolean rows(T want, List<T> as, List<T> bs, int depth) {
        if (as.size() != bs.size()) return false;
        for (int i = 0; i < as.size(); i++) {
            if (!objects(want.one, as.get(i), bs.get(i), depth)) return false;
            want = put(as.get(i), want.id, want.two);
        }
        return true;
    }

    private boolean objects(T type, T m, T n, int depth) {
        question(depth);
        if (type.kind == PI) {
            T v = newVarOf(type.one);
            return objects(put(v, type.id, type.two), new T(APP, 0, m, v), new T(APP, 0, n, v), depth + 1);
        }
        T a = headForm(m), b = headForm(n);
        T ha = headOf(a), hb = headOf(b);
        if (ha.kind != hb.kind || ha.id != hb.id) return false;
        return rows(typeOfHead(ha), behind(a), behind(b), depth + 1);
    }

    // ---- canonical forms

    private StringBuilder draft;
    private String xs;
    private final Map<Integer, String> varNames = new HashMap<>();

    private int written(boolean ofType) {
        begin();
        try {
            E e = whole();
            take("");
            T[] m = object(e, new ArrayList<>());
            draft = new StringBuilder();
            xs = "x";
            while (constants.stream().anyMatch(c -> c.name.matches(xs + "(0|[1-9][0-9]*)"))) xs += "x";
            try {
                if (ofType) family(m[1], 1, 0); else form(m[1], m[0], 1, 0, false);
            } catch (Stop s) {
                throw new Fault(s.kind, text.length());
            }
            out = draft.toString();
            return 0;
        } catch (Fault f) {
            return f.number();
        }
    }

    private void print(String s) {
        for (char c : s.toCharArray()) {
            if (draft.length() == 2000) throw new Stop(11);
            draft.append(c);
        }
    }

    private T bound(T family, int within) {
        T v = newVarOf(family);
        varNames.put(v.id, xs + within);
        return v;
    }

    private void family(T f, int depth, int within) {
        question(depth);
        if (f.kind == PI) {
            print("{" + xs + within + ":");
            family(f.one, depth + 1, within);
            print("}");
            family(put(bound(f.one, within), f.id, f.two), depth + 1, within + 1);
        } else {
            T c = headOf(f);
            print(constants.get(c.id).name);
            forms(constants.get(c.id).type, behind(f), depth + 1, within);
        }
    }

    private void form(T type, T m, int depth, int within, boolean arg) {
        question(depth);
        if (type.kind == PI) {
            print((arg ? "(" : "") + "[" + xs + within + ":");
            family(type.one, depth + 1, within);
            print("]");
            T v = bound(type.one, within);
            form(put(v, type.id, type.two), new T(APP, 0, m, v), depth + 1, within + 1, false);
            if (arg) print(")");
            return;
        }
        T h = headForm(m);
        boolean wrap = arg && h.kind == APP;
        T head = headOf(h);
        print((wrap ? "(" : "") + (head.kind == VAR ? varNames.get(head.id) : constants.get(head.id).name));
        forms(typeOfHead(head), behind(h), depth + 1, within);
        if (wrap) print(")");
    }

    private void forms(T want, List<T> args, int depth, int within) {
        for (T a : args) {
            print(" ");
            form(want.one, a, depth, within, true);
            want = put(a, want.id, want.two);
        }
    }
}
