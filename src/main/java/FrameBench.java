/**
 * A bench for the logical framework LF (Harper, Honsell, Plotkin 1993; Harper, Pfenning 2005):
 * signatures of families and objects are read and checked, definitions are transparent, equality
 * is asked by types, and each object has its one canonical form.
 *
 * <p>Nothing is ever substituted: an object with others put for its VARS is a syntax tree beside an
 * environment (see Cells), so that a STEP costs a cell or two and all rows are made once.
 */
public final class FrameBench {

    public static final int NONE = -1;

    private static final int CANNOT_STAND = 1;
    private static final int NAME_OF_NOTHING = 2;
    private static final int TOLD_ALREADY = 3;
    private static final int WRONG_NUMBER = 4;
    private static final int ONE_TOO_MANY = 5;
    private static final int WRONG_SORT = 6;
    private static final int NOT_EQUAL = 7;
    private static final int NO_FUNCTION = 8;
    private static final int SPENT = 9;
    private static final int DEEP = 10;
    private static final int TOO_LONG = 11;

    private static final int TYPES_DIFFER = -2;

    private final Tape tape;
    private final Nodes nodes;
    private final Constants constants;
    private final Meter meter;
    private final Cells cells;
    private final Page page;
    private final Reader reader;
    private final Judge judge;
    private final Checker checker;
    private final Writer writer;

    public FrameBench() {
        tape = new Tape();
        nodes = new Nodes();
        constants = new Constants(nodes);
        meter = new Meter();
        cells = new Cells(meter);
        page = new Page(meter);
        reader = new Reader(tape, nodes, constants);
        Machine machine = new Machine(nodes, constants, meter, cells);
        judge = new Judge(nodes, constants, meter, cells, machine);
        checker = new Checker(nodes, constants, meter, cells, machine, judge);
        writer = new Writer(nodes, constants, meter, cells, machine, page);
    }

    public int feed(long a, long b, long c) {
        tape.append(a);
        tape.append(b);
        tape.append(c);
        return tape.length();
    }

    public int declare() {
        begin();
        int fault = 0;
        for (int turn = 0; turn < Tape.ROOM && fault == 0 && !tape.atEnd(); turn++) {
            int floor = nodes.mark();
            fault = reader.faultOfDeclaration();
            if (fault == 0) {
                fault = checker.faultOfDeclaration(reader.typeRoot(), reader.bodyRoot());
            }
            if (fault == 0) {
                constants.name(tape, reader.namePlace(), reader.nameLength());
                constants.add(checker.sort(), reader.typeRoot(), reader.bodyRoot(), floor);
            } else {
                nodes.release(floor);
            }
        }
        tape.empty();
        return fault;
    }

    public int canon() {
        return writtenForm(false);
    }

    public int type() {
        return writtenForm(true);
    }

    public int equal() {
        int floor = nodes.mark();
        begin();
        int first = reader.expressionBefore(';');
        int second = reader.expressionBefore(Tape.END);
        int fault = reader.fault();
        if (fault == 0) {
            fault = checker.faultOfObject(first);
        }
        if (fault == 0) {
            fault = checker.faultOfObject(second);
        }
        int answer = fault == 0 ? comparison(first, second) : -1 - fault;
        nodes.release(floor);
        tape.empty();
        return answer;
    }

    public int named() {
        tape.rewind();
        int answer = NONE;
        if (tape.token() == Tape.WORD) {
            int found = constants.find(tape, tape.place(), tape.wordLength());
            tape.advance();
            answer = tape.atEnd() ? found : NONE;
        }
        tape.empty();
        return answer;
    }

    public int constant(int k, int what) {
        if (k < 0 || k >= constants.number()) {
            return NONE;
        }
        if (what == 0) {
            return constants.sort(k);
        }
        return what == 1 ? constants.wanted(k) : NONE;
    }

    public int size() {
        return page.length();
    }

    public int out(int i) {
        return page.signAt(i);
    }

    public int forget(int n) {
        if (n < 0 || n > constants.number()) {
            return NONE;
        }
        constants.drop(n);
        return constants.number();
    }

    public int count(int what) {
        switch (what) {
            case 0:
                return constants.number();
            case 1:
                return meter.stepsInAll();
            case 2:
                return meter.stepsOfLatest();
            case 3:
                return tape.length();
            default:
                return NONE;
        }
    }

    private void begin() {
        meter.begin();
        cells.release(Cells.FIRST);
        reader.begin();
    }

    private int writtenForm(boolean ofType) {
        int floor = nodes.mark();
        begin();
        int root = reader.expressionBefore(Tape.END);
        int fault = reader.fault();
        if (fault == 0) {
            fault = checker.faultOfObject(root);
        }
        if (fault == 0) {
            writer.write(root, ofType);
            fault = troubleAtEnd();
        }
        nodes.release(floor);
        tape.empty();
        return fault;
    }

    private int comparison(int first, int second) {
        boolean sameType = judge.families(first, 0, second, 0, 1);
        boolean same = sameType && judge.sameObjects(first, second);
        if (meter.trouble() != 0) {
            return -1 - troubleAtEnd();
        }
        if (!sameType) {
            return TYPES_DIFFER;
        }
        return same ? 1 : 0;
    }

    private int troubleAtEnd() {
        return meter.trouble() == 0 ? 0 : faultAt(meter.trouble(), tape.length());
    }

    private static int faultAt(int kind, int place) {
        return kind + 16 * place;
    }

    private static boolean isLetter(int sign) {
        return sign >= 'a' && sign <= 'z' || sign >= 'A' && sign <= 'Z';
    }

    private static boolean isDigit(int sign) {
        return sign >= '0' && sign <= '9';
    }

    /** The TAPE and the token on it that is read next. */
    private static final class Tape {
        static final int ROOM = 4000;
        static final int LONGEST_WORD = 12;

        // A sign that is a token is its own number, so these stay below all signs.
        static final int END = 0;
        static final int WORD = 1;
        static final int TYPE = 2;
        static final int NO_TOKEN = 3;

        private final char[] signs = new char[ROOM];
        private int length;
        private int token;
        private int place;
        private int behind;

        void append(long bytes) {
            for (int shift = 56; shift >= 0; shift -= 8) {
                int sign = (int) ((bytes >>> shift) & 255);
                boolean taken = sign == 10 || sign >= 32 && sign <= 126;
                if (taken && length >= 0 && length < ROOM) {
                    signs[length] = (char) sign;
                    length++;
                }
            }
        }

        int length() {
            return length;
        }

        void empty() {
            length = 0;
        }

        int signAt(int index) {
            return index >= 0 && index < length && index < ROOM ? signs[index] : 0;
        }

        int token() {
            return token;
        }

        int place() {
            return place;
        }

        int wordLength() {
            return behind - place;
        }

        boolean atEnd() {
            return token == END;
        }

        void rewind() {
            behind = 0;
            advance();
        }

        void advance() {
            int at = behind;
            while (at < length && isBlank(signAt(at))) {
                at++;
            }
            place = at;
            if (at >= length) {
                token = END;
                behind = at;
            } else if (isLetter(signAt(at))) {
                readWord();
            } else {
                token = isMark(signAt(at)) ? signAt(at) : NO_TOKEN;
                behind = at + 1;
            }
        }

        private void readWord() {
            int at = place;
            while (at < length && (isLetter(signAt(at)) || isDigit(signAt(at)))) {
                at++;
            }
            behind = at;
            boolean isType = at == place + 4 && signAt(place) == 't' && signAt(place + 1) == 'y'
                    && signAt(place + 2) == 'p' && signAt(place + 3) == 'e';
            if (at - place > LONGEST_WORD) {
                token = NO_TOKEN;
            } else {
                token = isType ? TYPE : WORD;
            }
        }

        boolean sameSigns(int one, int other, int many) {
            for (int i = 0; i < many; i++) {
                if (signAt(one + i) != signAt(other + i)) {
                    return false;
                }
            }
            return true;
        }

        private static boolean isBlank(int sign) {
            return sign == 10 || sign == 32;
        }

        private static boolean isMark(int sign) {
            switch (sign) {
                case '{':
                case '}':
                case '[':
                case ']':
                case '(':
                case ')':
                case ':':
                case '.':
                case '=':
                case ';':
                case '>':
                    return true;
                default:
                    return false;
            }
        }
    }

    /**
     * Syntax trees. ( ) has no node of its own: what stands in it is told by its place, which is
     * ahead of its first token then. A &gt; is a PI whose VAR stands nowhere.
     */
    private static final class Nodes {
        // A call feeds 24 signs and each node takes one at least: 512 calls stay below this.
        static final int ROOM = 12800;

        static final int TYPE = 1;
        static final int PI = 2;
        static final int LAMBDA = 3;
        static final int VARIABLE = 4;
        static final int CONSTANT = 5;
        static final int UNKNOWN = 6;
        static final int APPLIED = 7;
        static final int FAMILY = 8;

        private final int[] kinds = new int[ROOM];
        // PI, LAMBDA: the VAR's family; APPLIED: the object ahead; else a constant or how far out a VAR is bound.
        private final int[] lefts = new int[ROOM];
        // PI, LAMBDA: what stands behind; APPLIED, FAMILY: the first of the objects behind.
        private final int[] rights = new int[ROOM];
        private final int[] siblings = new int[ROOM];
        private final int[] tokens = new int[ROOM];
        private final int[] firsts = new int[ROOM];
        private final int[] places = new int[ROOM];
        private int top = 1;

        int mark() {
            return top;
        }

        void release(int mark) {
            if (mark >= 1 && mark < top) {
                top = mark;
            }
        }

        boolean full() {
            return top >= ROOM;
        }

        int make(int kind, int left, int right, int token, int first) {
            if (top < 1 || top >= ROOM) {
                return 0;
            }
            int node = top;
            top++;
            kinds[node] = kind;
            lefts[node] = left;
            rights[node] = right;
            siblings[node] = 0;
            tokens[node] = token;
            firsts[node] = first;
            places[node] = first;
            return node;
        }

        int kind(int node) {
            return node > 0 && node < ROOM ? kinds[node] : 0;
        }

        int left(int node) {
            return node > 0 && node < ROOM ? lefts[node] : 0;
        }

        int right(int node) {
            return node > 0 && node < ROOM ? rights[node] : 0;
        }

        int sibling(int node) {
            return node > 0 && node < ROOM ? siblings[node] : 0;
        }

        /** The token at which the node takes its STEP. */
        int token(int node) {
            return node > 0 && node < ROOM ? tokens[node] : 0;
        }

        /** The first token of the E, within the ( ) about it. */
        int first(int node) {
            return node > 0 && node < ROOM ? firsts[node] : 0;
        }

        /** The first token of the P, with the ( ) about it. */
        int place(int node) {
            return node > 0 && node < ROOM ? places[node] : 0;
        }

        boolean inBrackets(int node) {
            return place(node) != first(node);
        }

        /** A { }, or an [ ] that stands for its type. */
        boolean isArrow(int node) {
            int kind = kind(node);
            return kind == PI || kind == LAMBDA;
        }

        void setPlace(int node, int place) {
            if (node > 0 && node < ROOM) {
                places[node] = place;
            }
        }

        void setSibling(int node, int sibling) {
            if (node > 0 && node < ROOM) {
                siblings[node] = sibling;
            }
        }

        void becomeFamily(int node, int constant) {
            if (node > 0 && node < ROOM) {
                kinds[node] = FAMILY;
                lefts[node] = constant;
            }
        }
    }

    /** What has been declared, in order. */
    private static final class Constants {
        static final int MOST = 100;

        static final int FAMILY = 0;
        static final int OBJECT = 1;
        static final int DEFINITION = 2;

        private final Nodes nodes;
        private final char[] names = new char[MOST * Tape.LONGEST_WORD];
        private final int[] nameLengths = new int[MOST];
        private final int[] sorts = new int[MOST];
        private final int[] types = new int[MOST];
        private final int[] bodies = new int[MOST];
        private final int[] floors = new int[MOST];
        private int number;

        Constants(Nodes nodes) {
            this.nodes = nodes;
        }

        int number() {
            return number;
        }

        boolean full() {
            return number >= MOST;
        }

        int sort(int k) {
            return k >= 0 && k < MOST ? sorts[k] : 0;
        }

        /** The root of its type or its KIND. */
        int typeRoot(int k) {
            return k >= 0 && k < MOST ? types[k] : 0;
        }

        int bodyRoot(int k) {
            return k >= 0 && k < MOST ? bodies[k] : 0;
        }

        int wanted(int k) {
            int node = typeRoot(k);
            int many = 0;
            while (many < Nodes.ROOM && nodes.kind(node) == Nodes.PI) {
                node = nodes.right(node);
                many++;
            }
            return many;
        }

        int nameLength(int k) {
            return k >= 0 && k < MOST ? nameLengths[k] : 0;
        }

        int nameSign(int k, int i) {
            int index = k * Tape.LONGEST_WORD + i;
            return k >= 0 && k < number && index >= 0 && index < names.length ? names[index] : 0;
        }

        /** Writes the name of the constant that add takes next. */
        void name(Tape tape, int place, int length) {
            if (number < 0 || number >= MOST) {
                return;
            }
            int start = number * Tape.LONGEST_WORD;
            for (int i = 0; i < length && i < Tape.LONGEST_WORD; i++) {
                names[start + i] = (char) tape.signAt(place + i);
            }
            nameLengths[number] = length;
        }

        void add(int sort, int type, int body, int floor) {
            if (number < 0 || number >= MOST) {
                return;
            }
            sorts[number] = sort;
            types[number] = type;
            bodies[number] = body;
            floors[number] = floor;
            number++;
        }

        void drop(int many) {
            int left = number - many;
            if (many > 0 && left >= 0 && left < MOST) {
                number = left;
                nodes.release(floors[left]);
            }
        }

        int find(Tape tape, int place, int length) {
            for (int k = 0; k < number; k++) {
                if (nameLength(k) == length && isNamed(k, tape, place)) {
                    return k;
                }
            }
            return NONE;
        }

        private boolean isNamed(int k, Tape tape, int place) {
            for (int i = 0; i < nameLength(k); i++) {
                if (nameSign(k, i) != tape.signAt(place + i)) {
                    return false;
                }
            }
            return true;
        }

        /** How many xs keep the WORDS for VARS apart from all names. */
        int fewestXs() {
            int xs = 1;
            while (xs <= Tape.LONGEST_WORD && anyIsXsAndNumber(xs)) {
                xs++;
            }
            return xs;
        }

        private boolean anyIsXsAndNumber(int xs) {
            for (int k = 0; k < number; k++) {
                if (isXsAndNumber(k, xs)) {
                    return true;
                }
            }
            return false;
        }

        private boolean isXsAndNumber(int k, int xs) {
            int length = nameLength(k);
            if (length <= xs) {
                return false;
            }
            for (int i = 0; i < length; i++) {
                boolean fits = i < xs ? nameSign(k, i) == 'x' : isDigit(nameSign(k, i));
                if (!fits) {
                    return false;
                }
            }
            // No VAR is printed with a 0 ahead of other digits.
            return length == xs + 1 || nameSign(k, xs) != '0';
        }
    }

    /** Reads expressions from the TAPE; the first fault stays and ends the reading. */
    private static final class Reader {
        private static final int MOST_PARTS = 600;
        private static final int MOST_WITHIN = 40;

        private final Tape tape;
        private final Nodes nodes;
        private final Constants constants;
        // The VARS in whose reach the token stands, outermost first; one of length 0 is that of a >.
        private final int[] scopePlaces = new int[MOST_WITHIN];
        private final int[] scopeLengths = new int[MOST_WITHIN];
        private int scope;
        private int parts;
        private int fault;
        private int namePlace;
        private int nameLength;
        private int typeRoot;
        private int bodyRoot;

        Reader(Tape tape, Nodes nodes, Constants constants) {
            this.tape = tape;
            this.nodes = nodes;
            this.constants = constants;
        }

        void begin() {
            fault = 0;
            tape.rewind();
        }

        int fault() {
            return fault;
        }

        int namePlace() {
            return namePlace;
        }

        int nameLength() {
            return nameLength;
        }

        int typeRoot() {
            return typeRoot;
        }

        /** What a definition stands for; 0 of another declaration. */
        int bodyRoot() {
            return bodyRoot;
        }

        int faultOfDeclaration() {
            bodyRoot = 0;
            readNewName();
            take(':');
            typeRoot = wholeExpression();
            if (fault == 0 && tape.token() == '=') {
                tape.advance();
                bodyRoot = wholeExpression();
            }
            take('.');
            return fault;
        }

        int expressionBefore(int token) {
            int root = wholeExpression();
            take(token);
            return root;
        }

        private void readNewName() {
            namePlace = tape.place();
            nameLength = tape.wordLength();
            if (tape.token() != Tape.WORD) {
                refuse(CANNOT_STAND);
            } else if (constants.find(tape, namePlace, nameLength) != NONE) {
                refuse(TOLD_ALREADY);
            } else if (constants.full()) {
                refuse(ONE_TOO_MANY);
            } else {
                tape.advance();
            }
        }

        private void take(int token) {
            if (fault != 0) {
                return;
            }
            if (tape.token() == token) {
                tape.advance();
            } else {
                refuse(CANNOT_STAND);
            }
        }

        private int refuse(int kind) {
            if (fault == 0) {
                fault = faultAt(kind, tape.place());
            }
            return 0;
        }

        private int wholeExpression() {
            parts = 0;
            scope = 0;
            return expression(0);
        }

        private int expression(int within) {
            if (fault != 0) {
                return 0;
            }
            int token = tape.token();
            boolean bound = token == '{' || token == '[';
            if (!bound && !startsPart()) {
                return refuse(CANNOT_STAND);
            }
            if (within >= MOST_WITHIN) {
                return refuse(ONE_TOO_MANY);
            }
            return bound ? binding(within) : arrow(within);
        }

        private int binding(int within) {
            boolean product = tape.token() == '{';
            int place = tape.place();
            if (!countPart()) {
                return 0;
            }
            tape.advance();
            int variable = tape.place();
            int length = tape.wordLength();
            take(Tape.WORD);
            take(':');
            int family = expression(within + 1);
            take(product ? '}' : ']');
            enterScope(variable, length);
            int body = expression(within + 1);
            leaveScope();
            return node(product ? Nodes.PI : Nodes.LAMBDA, family, body, place, place);
        }

        private int arrow(int within) {
            int first = tape.place();
            int ahead = application(within);
            if (fault != 0 || tape.token() != '>') {
                return ahead;
            }
            int place = tape.place();
            if (!countPart()) {
                return 0;
            }
            tape.advance();
            enterScope(place, 0);
            int body = expression(within + 1);
            leaveScope();
            return node(Nodes.PI, ahead, body, place, first);
        }

        private int application(int within) {
            int head = part(within + 1);
            int first = 0;
            int last = 0;
            for (int turn = 0; turn < MOST_PARTS && fault == 0 && startsPart(); turn++) {
                int next = part(within + 1);
                if (first == 0) {
                    first = next;
                } else {
                    nodes.setSibling(last, next);
                }
                last = next;
            }
            if (fault != 0 || first == 0) {
                return head;
            }
            return node(Nodes.APPLIED, head, first, nodes.place(head), nodes.place(head));
        }

        private int part(int within) {
            if (within >= MOST_WITHIN) {
                return refuse(ONE_TOO_MANY);
            }
            if (!countPart()) {
                return 0;
            }
            int place = tape.place();
            if (tape.token() == '(') {
                tape.advance();
                int inner = expression(within + 1);
                take(')');
                nodes.setPlace(inner, place);
                return inner;
            }
            int leaf = tape.token() == Tape.TYPE ? node(Nodes.TYPE, 0, 0, place, place) : nameNode(place);
            tape.advance();
            return leaf;
        }

        private boolean startsPart() {
            int token = tape.token();
            return token == Tape.WORD || token == Tape.TYPE || token == '(';
        }

        private boolean countPart() {
            parts++;
            if (parts > MOST_PARTS) {
                refuse(ONE_TOO_MANY);
            }
            return fault == 0;
        }

        private int nameNode(int place) {
            int length = tape.wordLength();
            int nearest = Math.min(scope, MOST_WITHIN) - 1;
            for (int binder = nearest; binder >= 0; binder--) {
                if (scopeLengths[binder] == length && tape.sameSigns(scopePlaces[binder], place, length)) {
                    return node(Nodes.VARIABLE, nearest - binder, 0, place, place);
                }
            }
            int found = constants.find(tape, place, length);
            return node(found == NONE ? Nodes.UNKNOWN : Nodes.CONSTANT, found, 0, place, place);
        }

        private int node(int kind, int left, int right, int token, int first) {
            if (nodes.full()) {
                return refuse(ONE_TOO_MANY);
            }
            return fault == 0 ? nodes.make(kind, left, right, token, first) : 0;
        }

        private void enterScope(int place, int length) {
            if (scope >= 0 && scope < MOST_WITHIN) {
                scopePlaces[scope] = place;
                scopeLengths[scope] = length;
            }
            scope++;
        }

        private void leaveScope() {
            scope--;
        }
    }

    /** Counts the STEPS of a call and of all; the first trouble stays until the next call. */
    private static final class Meter {
        static final int DEEPEST = 100;
        private static final int MOST_IN_CALL = 20000;
        private static final int MOST_IN_ALL = 60000;

        private int inAll;
        private int ofLatest;
        private int trouble;

        void begin() {
            ofLatest = 0;
            trouble = 0;
        }

        int stepsInAll() {
            return inAll;
        }

        int stepsOfLatest() {
            return ofLatest;
        }

        /** 0, or why the work had to end: SPENT, DEEP, TOO_LONG. */
        int trouble() {
            return trouble;
        }

        void stop(int kind) {
            if (trouble == 0) {
                trouble = kind;
            }
        }

        boolean step() {
            if (ofLatest >= MOST_IN_CALL || inAll >= MOST_IN_ALL) {
                stop(SPENT);
            }
            if (trouble != 0) {
                return false;
            }
            ofLatest++;
            inAll++;
            return true;
        }

        /** The STEP of a question that stands within depth - 1 others. */
        boolean question(int depth) {
            if (depth > DEEPEST) {
                stop(DEEP);
            }
            return step();
        }
    }

    /**
     * Environments and what waits behind a head. A cell holds an object: a term and the environment
     * of its VARS. A term below 0 is a new VAR, whose own cell holds its family and its number.
     * Cells are taken and given back in the manner of a stack; cell 0 is none.
     */
    private static final class Cells {
        // At once a call holds a cell for each STEP of a head form, 20,000 at most, and for each of
        // 100 open questions two rows of less than 40: no { } stands within 40 others.
        static final int ROOM = 32768;
        static final int FIRST = 1;

        private final Meter meter;
        private final int[] terms = new int[ROOM];
        private final int[] scopes = new int[ROOM];
        private final int[] nexts = new int[ROOM];
        private final int[] binders = new int[ROOM];
        private int top = FIRST;

        Cells(Meter meter) {
            this.meter = meter;
        }

        int mark() {
            return top;
        }

        void release(int mark) {
            if (mark >= FIRST && mark < top) {
                top = mark;
            }
        }

        int make(int term, int scope) {
            if (top < FIRST || top >= ROOM) {
                meter.stop(SPENT);
                return 0;
            }
            int cell = top;
            top++;
            terms[cell] = term;
            scopes[cell] = scope;
            nexts[cell] = 0;
            binders[cell] = 0;
            return cell;
        }

        int term(int cell) {
            return cell >= FIRST && cell < ROOM ? terms[cell] : 0;
        }

        int scope(int cell) {
            return cell >= FIRST && cell < ROOM ? scopes[cell] : 0;
        }

        int next(int cell) {
            return cell >= FIRST && cell < ROOM ? nexts[cell] : 0;
        }

        /** The { } or [ ] for whose VAR the cell's object is put. */
        int binder(int cell) {
            return cell >= FIRST && cell < ROOM ? binders[cell] : 0;
        }

        void link(int cell, int next) {
            if (cell >= FIRST && cell < ROOM) {
                nexts[cell] = next;
            }
        }

        /** Puts the cell's object for the VAR of binder; answers the environment behind it. */
        int bind(int cell, int binder, int scope) {
            if (cell >= FIRST && cell < ROOM) {
                nexts[cell] = scope;
                binders[cell] = binder;
            }
            return cell;
        }

        int newVariable(int family, int scope, int number) {
            int cell = make(family, scope);
            link(cell, number);
            return cell;
        }

        int numberOf(int variable) {
            return next(variable);
        }

        /** The environment with a new VAR for that of binder. */
        int enter(int binder, int scope, int variable) {
            return bind(make(-variable, 0), binder, scope);
        }

        /** The row with a VAR behind all that wait in it. */
        int append(int row, int variable) {
            int added = make(-variable, 0);
            if (row == 0) {
                return added;
            }
            int last = row;
            for (int turn = 0; turn < ROOM && next(last) != 0; turn++) {
                last = next(last);
            }
            link(last, added);
            return row;
        }

        int outward(int scope, int steps) {
            int cell = scope;
            for (int i = 0; i < steps && cell != 0; i++) {
                cell = next(cell);
            }
            return cell;
        }
    }

    /** HEAD FORMS and types; the answers stay until the next question of their sort. */
    private static final class Machine {
        // Far above what STEPS and trees allow between two ends.
        private static final int TURNS = 1000000;
        // Stands for no head at all: there is no such cell.
        private static final int NO_HEAD = -Cells.ROOM;

        private final Nodes nodes;
        private final Constants constants;
        private final Meter meter;
        private final Cells cells;
        private int shape;
        private int shapeScope;
        private int head;
        private int row;

        Machine(Nodes nodes, Constants constants, Meter meter, Cells cells) {
            this.nodes = nodes;
            this.constants = constants;
            this.meter = meter;
            this.cells = cells;
        }

        /** A { }, an [ ] (its { } and its body's type) or a family with its objects. */
        int shape() {
            return shape;
        }

        int shapeScope() {
            return shapeScope;
        }

        /** A constant's number, or a VAR's cell below 0. */
        int head() {
            return head;
        }

        int row() {
            return row;
        }

        int headType() {
            return head < 0 ? cells.term(-head) : constants.typeRoot(head);
        }

        int headTypeScope() {
            return head < 0 ? cells.scope(-head) : 0;
        }

        /**
         * The objects behind the node's head, and behind them those of waiting. A VAR is looked up
         * at once, so that no chain of VARS grows.
         */
        int push(int node, int scope, int waiting) {
            int first = 0;
            int last = 0;
            int object = nodes.right(node);
            for (int turn = 0; turn < Nodes.ROOM && object != 0; turn++) {
                boolean isVariable = nodes.kind(object) == Nodes.VARIABLE;
                int known = isVariable ? cells.outward(scope, nodes.left(object)) : 0;
                int cell = isVariable ? cells.make(cells.term(known), cells.scope(known))
                        : cells.make(object, scope);
                if (first == 0) {
                    first = cell;
                } else {
                    cells.link(last, cell);
                }
                last = cell;
                object = nodes.sibling(object);
            }
            if (first == 0) {
                return waiting;
            }
            cells.link(last, waiting);
            return first;
        }

        /** Leaves the shape of a family, or of the type of an object that stands for its type. */
        void expose(int node, int scope) {
            int at = node;
            int around = scope;
            int waiting = 0;
            for (int turn = 0; turn < TURNS; turn++) {
                int kind = nodes.kind(at);
                if (kind == Nodes.APPLIED) {
                    waiting = push(at, around, waiting);
                    at = nodes.left(at);
                } else if (kind == Nodes.VARIABLE) {
                    int cell = cells.outward(around, nodes.left(at));
                    at = nodes.left(cells.binder(cell));
                    around = cells.next(cell);
                } else if (kind == Nodes.CONSTANT) {
                    at = constants.typeRoot(nodes.left(at));
                    around = 0;
                } else if (waiting != 0 && nodes.isArrow(at)) {
                    int rest = cells.next(waiting);
                    around = cells.bind(waiting, at, around);
                    at = nodes.right(at);
                    waiting = rest;
                } else {
                    break;
                }
            }
            shape = at;
            shapeScope = around;
        }

        /** Leaves the head and the row behind it; false if there was trouble. */
        boolean headForm(int term, int scope, int waiting) {
            int at = term;
            int around = scope;
            row = waiting;
            head = NO_HEAD;
            for (int turn = 0; turn < TURNS && at > 0; turn++) {
                int kind = nodes.kind(at);
                if (kind == Nodes.APPLIED) {
                    row = push(at, around, row);
                    at = nodes.left(at);
                } else if (kind == Nodes.VARIABLE) {
                    int cell = cells.outward(around, nodes.left(at));
                    at = cells.term(cell);
                    around = cells.scope(cell);
                } else if (kind == Nodes.LAMBDA && row != 0) {
                    if (!meter.step()) {
                        return false;
                    }
                    int rest = cells.next(row);
                    around = cells.bind(row, at, around);
                    at = nodes.right(at);
                    row = rest;
                } else if (kind == Nodes.CONSTANT && isDefinition(at)) {
                    if (!meter.step()) {
                        return false;
                    }
                    at = constants.bodyRoot(nodes.left(at));
                    around = 0;
                } else {
                    head = kind == Nodes.CONSTANT ? nodes.left(at) : NO_HEAD;
                    return meter.trouble() == 0;
                }
            }
            head = at < 0 ? at : NO_HEAD;
            return meter.trouble() == 0;
        }

        private boolean isDefinition(int node) {
            return constants.sort(nodes.left(node)) == Constants.DEFINITION;
        }
    }

    /** EQUAL. */
    private static final class Judge {
        private final Nodes nodes;
        private final Constants constants;
        private final Meter meter;
        private final Cells cells;
        private final Machine machine;
        // What two objects that have met leave: rows behind one head, its type, and how deep that was.
        private int metOne;
        private int metOther;
        private int metType;
        private int metDepth;

        Judge(Nodes nodes, Constants constants, Meter meter, Cells cells, Machine machine) {
            this.nodes = nodes;
            this.constants = constants;
            this.meter = meter;
            this.cells = cells;
            this.machine = machine;
        }

        /** Of two objects without free VARS, by the type of the first. */
        boolean sameObjects(int one, int other) {
            return meet(one, cells.make(one, 0), cells.make(other, 0), 1)
                    && rows(metType, metOne, metOther, metDepth + 1);
        }

        /** Two families, each told by itself or by an object whose type it is. */
        boolean families(int one, int oneScope, int other, int otherScope, int depth) {
            int left = one;
            int leftScope = oneScope;
            int right = other;
            int rightScope = otherScope;
            int level = depth;
            for (int turn = 0; turn <= Meter.DEEPEST; turn++) {
                if (!meter.question(level)) {
                    return false;
                }
                machine.expose(left, leftScope);
                left = machine.shape();
                leftScope = machine.shapeScope();
                machine.expose(right, rightScope);
                right = machine.shape();
                rightScope = machine.shapeScope();
                if (!nodes.isArrow(left) || !nodes.isArrow(right)) {
                    break;
                }
                int mark = cells.mark();
                if (!families(nodes.left(left), leftScope, nodes.left(right), rightScope, level + 1)) {
                    return false;
                }
                cells.release(mark);
                int variable = cells.newVariable(nodes.left(left), leftScope, 0);
                leftScope = cells.enter(left, leftScope, variable);
                left = nodes.right(left);
                rightScope = cells.enter(right, rightScope, variable);
                right = nodes.right(right);
                level++;
            }
            boolean sameFamily = nodes.kind(left) == Nodes.FAMILY && nodes.kind(right) == Nodes.FAMILY
                    && nodes.left(left) == nodes.left(right);
            return sameFamily && rows(constants.typeRoot(nodes.left(left)),
                    machine.push(left, leftScope, 0), machine.push(right, rightScope, 0), level + 1);
        }

        /** Two rows of objects by the { } of a type or a KIND, in order. */
        private boolean rows(int type, int one, int other, int depth) {
            int want = type;
            int left = one;
            int right = other;
            for (int turn = 0; turn < Cells.ROOM && left != 0 && right != 0; turn++) {
                int mark = cells.mark();
                int nextLeft = cells.next(left);
                int nextRight = cells.next(right);
                if (!meet(nodes.left(want), left, right, depth)
                        || !rows(metType, metOne, metOther, metDepth + 1)) {
                    return false;
                }
                cells.release(mark);
                left = nextLeft;
                right = nextRight;
                want = nodes.right(want);
            }
            return left == 0 && right == 0 && meter.trouble() == 0;
        }

        /**
         * Brings two objects to their heads, by a type of which only the { } count; false if the
         * heads or the numbers behind them are not the same.
         */
        private boolean meet(int type, int one, int other, int depth) {
            int want = type;
            int wantScope = 0;
            int level = depth;
            int left = 0;
            int right = 0;
            for (int turn = 0; turn <= Meter.DEEPEST; turn++) {
                if (!meter.question(level)) {
                    return false;
                }
                machine.expose(want, wantScope);
                want = machine.shape();
                wantScope = machine.shapeScope();
                if (!nodes.isArrow(want)) {
                    break;
                }
                int variable = cells.newVariable(nodes.left(want), wantScope, 0);
                left = cells.append(left, variable);
                right = cells.append(right, variable);
                wantScope = cells.enter(want, wantScope, variable);
                want = nodes.right(want);
                level++;
            }
            if (!machine.headForm(cells.term(one), cells.scope(one), left)) {
                return false;
            }
            int head = machine.head();
            metOne = machine.row();
            if (!machine.headForm(cells.term(other), cells.scope(other), right)) {
                return false;
            }
            metOther = machine.row();
            metType = machine.headType();
            metDepth = level;
            return head == machine.head() && sameLength(metOne, metOther);
        }

        private boolean sameLength(int one, int other) {
            int left = one;
            int right = other;
            for (int turn = 0; turn < Cells.ROOM && left != 0 && right != 0; turn++) {
                left = cells.next(left);
                right = cells.next(right);
            }
            return left == 0 && right == 0;
        }
    }

    /** CHECKING. An object that is well formed stands for its own type from then on. */
    private static final class Checker {
        private final Nodes nodes;
        private final Constants constants;
        private final Meter meter;
        private final Cells cells;
        private final Machine machine;
        private final Judge judge;
        private int fault;
        private int sort;

        Checker(Nodes nodes, Constants constants, Meter meter, Cells cells, Machine machine, Judge judge) {
            this.nodes = nodes;
            this.constants = constants;
            this.meter = meter;
            this.cells = cells;
            this.machine = machine;
            this.judge = judge;
        }

        /** Of the declaration that was found well formed. */
        int sort() {
            return sort;
        }

        int faultOfDeclaration(int type, int body) {
            fault = 0;
            boolean isKind = classifier(type, 0, body == 0);
            if (body == 0) {
                sort = isKind ? Constants.FAMILY : Constants.OBJECT;
            } else {
                sort = Constants.DEFINITION;
                fitting(body, 0, type, 0);
            }
            return fault;
        }

        int faultOfObject(int node) {
            fault = 0;
            object(node, 0);
            return fault;
        }

        private void wrong(int kind, int place) {
            if (fault == 0) {
                fault = faultAt(kind, place);
            }
        }

        private boolean step(int place) {
            if (fault != 0) {
                return false;
            }
            if (!meter.step()) {
                wrong(meter.trouble(), place);
            }
            return fault == 0;
        }

        /** A FAMILY, or, where one may stand, a KIND: then true. */
        private boolean classifier(int node, int scope, boolean kindMayStand) {
            int at = node;
            int around = scope;
            int mark = cells.mark();
            for (int turn = 0; turn < Nodes.ROOM && nodes.kind(at) == Nodes.PI; turn++) {
                if (!step(nodes.token(at))) {
                    return false;
                }
                classifier(nodes.left(at), around, false);
                around = under(at, around);
                at = nodes.right(at);
            }
            boolean isKind = nodes.kind(at) == Nodes.TYPE && kindMayStand;
            if (isKind) {
                step(nodes.token(at));
            } else {
                family(at, around);
            }
            cells.release(mark);
            return isKind;
        }

        private int under(int binder, int scope) {
            return cells.enter(binder, scope, cells.newVariable(nodes.left(binder), scope, 0));
        }

        private void family(int node, int scope) {
            boolean applied = nodes.kind(node) == Nodes.APPLIED;
            int name = applied ? nodes.left(node) : node;
            if (fault != 0) {
                return;
            }
            if (applied && nodes.inBrackets(name)) {
                wrong(WRONG_SORT, nodes.place(name));
            } else if (step(nodes.token(name))) {
                if (nodes.kind(name) == Nodes.UNKNOWN) {
                    wrong(NAME_OF_NOTHING, nodes.token(name));
                } else if (!isFamilyName(name)) {
                    wrong(WRONG_SORT, nodes.first(name));
                } else {
                    nodes.becomeFamily(node, nodes.left(name));
                    objectsOfFamily(node, nodes.token(name), scope);
                }
            }
        }

        private boolean isFamilyName(int node) {
            return nodes.kind(node) == Nodes.CONSTANT && constants.sort(nodes.left(node)) == Constants.FAMILY;
        }

        private void objectsOfFamily(int node, int namePlace, int scope) {
            int want = constants.typeRoot(nodes.left(node));
            int wantScope = 0;
            int object = nodes.right(node);
            int cell = machine.push(node, scope, 0);
            for (int turn = 0; turn < Nodes.ROOM && object != 0; turn++) {
                if (!step(nodes.place(object))) {
                    return;
                }
                if (nodes.kind(want) != Nodes.PI) {
                    wrong(WRONG_NUMBER, nodes.place(object));
                    return;
                }
                fitting(object, scope, nodes.left(want), wantScope);
                int next = cells.next(cell);
                wantScope = cells.bind(cell, want, wantScope);
                want = nodes.right(want);
                object = nodes.sibling(object);
                cell = next;
            }
            if (nodes.kind(want) == Nodes.PI) {
                wrong(WRONG_NUMBER, namePlace);
            }
        }

        /** An OBJECT whose type is EQUAL to a family. */
        private void fitting(int node, int scope, int family, int familyScope) {
            object(node, scope);
            if (fault != 0) {
                return;
            }
            int mark = cells.mark();
            boolean same = judge.families(node, scope, family, familyScope, 1);
            cells.release(mark);
            if (meter.trouble() != 0) {
                wrong(meter.trouble(), nodes.place(node));
            } else if (!same) {
                wrong(NOT_EQUAL, nodes.place(node));
            }
        }

        private void object(int node, int scope) {
            int at = node;
            int around = scope;
            int mark = cells.mark();
            for (int turn = 0; turn < Nodes.ROOM && nodes.kind(at) == Nodes.LAMBDA; turn++) {
                if (!step(nodes.token(at))) {
                    return;
                }
                classifier(nodes.left(at), around, false);
                around = under(at, around);
                at = nodes.right(at);
            }
            if (fault == 0 && nodes.kind(at) == Nodes.APPLIED) {
                applied(at, around);
            } else if (step(nodes.token(at))) {
                bareObject(at);
            }
            cells.release(mark);
        }

        private void bareObject(int node) {
            int kind = nodes.kind(node);
            if (kind == Nodes.UNKNOWN) {
                wrong(NAME_OF_NOTHING, nodes.token(node));
            } else if (kind != Nodes.VARIABLE && (kind != Nodes.CONSTANT || isFamilyName(node))) {
                wrong(WRONG_SORT, nodes.first(node));
            }
        }

        private void applied(int node, int scope) {
            int head = nodes.left(node);
            object(head, scope);
            if (fault != 0) {
                return;
            }
            machine.expose(head, scope);
            int want = machine.shape();
            int wantScope = machine.shapeScope();
            int object = nodes.right(node);
            int cell = machine.push(node, scope, 0);
            for (int turn = 0; turn < Nodes.ROOM && object != 0; turn++) {
                if (!step(nodes.place(object))) {
                    return;
                }
                if (!nodes.isArrow(want)) {
                    wrong(NO_FUNCTION, nodes.place(object));
                    return;
                }
                fitting(object, scope, nodes.left(want), wantScope);
                int next = cells.next(cell);
                machine.expose(nodes.right(want), cells.bind(cell, want, wantScope));
                want = machine.shape();
                wantScope = machine.shapeScope();
                object = nodes.sibling(object);
                cell = next;
            }
        }
    }

    /** OUT, and the draft that becomes it when it is whole. */
    private static final class Page {
        private static final int ROOM = 2000;

        private final Meter meter;
        private final char[] signs = new char[ROOM];
        private final char[] draft = new char[ROOM];
        private int length;
        private int draftLength;

        Page(Meter meter) {
            this.meter = meter;
        }

        int length() {
            return length;
        }

        int signAt(int index) {
            return index >= 0 && index < length && index < ROOM ? signs[index] : NONE;
        }

        void beginDraft() {
            draftLength = 0;
        }

        void put(int sign) {
            if (draftLength < 0 || draftLength >= ROOM) {
                meter.stop(TOO_LONG);
            }
            if (meter.trouble() == 0) {
                draft[draftLength] = (char) sign;
                draftLength++;
            }
        }

        void keepDraft() {
            for (int i = 0; i < draftLength && i < ROOM; i++) {
                signs[i] = draft[i];
            }
            length = draftLength;
        }
    }

    /** CANONICAL FORMS, PRINTED as they are worked out, so that the sign too many ends the work. */
    private static final class Writer {
        private final Nodes nodes;
        private final Constants constants;
        private final Meter meter;
        private final Cells cells;
        private final Machine machine;
        private final Page page;
        private int xs;

        Writer(Nodes nodes, Constants constants, Meter meter, Cells cells, Machine machine, Page page) {
            this.nodes = nodes;
            this.constants = constants;
            this.meter = meter;
            this.cells = cells;
            this.machine = machine;
            this.page = page;
        }

        /** An object without free VARS by its type, or that type. */
        void write(int node, boolean ofType) {
            xs = constants.fewestXs();
            page.beginDraft();
            if (ofType) {
                family(node, 0, 1, 0);
            } else {
                object(node, 0, cells.make(node, 0), 1, 0, false);
            }
            if (meter.trouble() == 0) {
                page.keepDraft();
            }
        }

        private void family(int node, int scope, int depth, int within) {
            int at = node;
            int around = scope;
            int level = depth;
            int inside = within;
            for (int turn = 0; turn <= Meter.DEEPEST; turn++) {
                if (!meter.question(level)) {
                    return;
                }
                machine.expose(at, around);
                at = machine.shape();
                around = machine.shapeScope();
                if (!nodes.isArrow(at)) {
                    break;
                }
                page.put('{');
                binding(nodes.left(at), around, level + 1, inside);
                page.put('}');
                around = cells.enter(at, around, cells.newVariable(nodes.left(at), around, inside));
                at = nodes.right(at);
                level++;
                inside++;
            }
            int constant = nodes.left(at);
            putName(constant);
            objects(constants.typeRoot(constant), 0, machine.push(at, around, 0), level + 1, inside);
        }

        private void binding(int family, int scope, int depth, int within) {
            int mark = cells.mark();
            putVariable(within);
            page.put(':');
            family(family, scope, depth, within);
            cells.release(mark);
        }

        private void object(int type, int typeScope, int cell, int depth, int within, boolean behind) {
            int want = type;
            int wantScope = typeScope;
            int level = depth;
            int inside = within;
            int row = 0;
            for (int turn = 0; turn <= Meter.DEEPEST; turn++) {
                if (!meter.question(level)) {
                    return;
                }
                machine.expose(want, wantScope);
                want = machine.shape();
                wantScope = machine.shapeScope();
                if (!nodes.isArrow(want)) {
                    break;
                }
                if (behind && turn == 0) {
                    page.put('(');
                }
                page.put('[');
                binding(nodes.left(want), wantScope, level + 1, inside);
                page.put(']');
                int variable = cells.newVariable(nodes.left(want), wantScope, inside);
                row = cells.append(row, variable);
                wantScope = cells.enter(want, wantScope, variable);
                want = nodes.right(want);
                level++;
                inside++;
            }
            if (!machine.headForm(cells.term(cell), cells.scope(cell), row)) {
                return;
            }
            boolean bound = inside > within;
            boolean bracketed = behind && (bound || machine.row() != 0);
            if (bracketed && !bound) {
                page.put('(');
            }
            putHead(machine.head());
            objects(machine.headType(), machine.headTypeScope(), machine.row(), level + 1, inside);
            if (bracketed) {
                page.put(')');
            }
        }

        private void putHead(int head) {
            if (head < 0) {
                putVariable(cells.numberOf(-head));
            } else {
                putName(head);
            }
        }

        /** The objects of a row by the { } of a type or a KIND, each put in for those behind it. */
        private void objects(int type, int scope, int row, int depth, int within) {
            int want = type;
            int wantScope = scope;
            int cell = row;
            for (int turn = 0; turn < Cells.ROOM && cell != 0 && meter.trouble() == 0; turn++) {
                int next = cells.next(cell);
                int mark = cells.mark();
                page.put(' ');
                object(nodes.left(want), wantScope, cell, depth, within, true);
                cells.release(mark);
                wantScope = cells.bind(cell, want, wantScope);
                want = nodes.right(want);
                cell = next;
            }
        }

        private void putName(int constant) {
            for (int i = 0; i < constants.nameLength(constant); i++) {
                page.put(constants.nameSign(constant, i));
            }
        }

        private void putVariable(int number) {
            for (int i = 0; i < xs; i++) {
                page.put('x');
            }
            // Two digits do: who stands within 100 others would be DEEP.
            if (number >= 10) {
                page.put('0' + number / 10 % 10);
            }
            page.put('0' + number % 10);
        }
    }
}
