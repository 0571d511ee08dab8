/** Graphs in texts: read with the first FAULT told by LINE and PLACE, asked, and WRITTEN in one normal form. */
public final class GraphTexts {
    public static final int NONE = -1, UNKNOWN = -101, OUTSIDE = -102, STATE = -103, FULL = -104;

    private static final int TEXT_MOST = 600;
    // 600 bytes, a last 10, and two quotes round each of the 120 numbers that a guessed column may turn into NAMES.
    private static final int WRITTEN_MOST = 841;
    // The shortest LINE that is WRITTEN again is # with its 10.
    private static final int LINES_MOST = 300;
    private static final int NODES_MOST = 30;
    private static final int ARCS_MOST = 40;
    private static final int COLUMNS_MOST = 3;
    private static final int NAME_MOST = 8;
    private static final int COMMENT_MOST = 20;
    private static final int NUMBER_MOST = 2;
    private static final int WHOLE_MOST = 6;
    private static final int DECIMAL_MOST = 3;

    private static final int FAULT_SIGN = 1;
    private static final int FAULT_LONG = 2;
    private static final int FAULT_KIND = 3;
    private static final int FAULT_ORDER = 4;
    private static final int FAULT_DOUBLED = 5;
    private static final int FAULT_FULL = 6;
    private static final int FAULT_LIES = 7;

    private static final int DOUBLED_LEFT_OUT = 1;
    private static final int DOUBLED_WRONG = 2;

    private static final int KIND_W = 0;
    private static final int KIND_D = 1;
    private static final int KIND_T = 2;
    private static final int KIND_G = 3;

    private static final int MISSING = 0;
    private static final int WHOLE = 1;
    private static final int DECIMAL = 2;
    private static final int NAME = 3;

    private static final int LINE_OF_COMMENT = 0;
    private static final int LINE_OF_COUNT = 1;
    private static final int LINE_OF_HEAD = 2;
    private static final int LINE_OF_ARC = 3;

    private static final int NEW_LINE = 10;
    private static final int LINE_END = -1;
    private static final int NOWHERE = -1;

    private final Row text;
    private final Row written;
    private final Reader reader;
    private final Writer writer;
    private Graph graph;
    // A read fills this one, so that THE GRAPH stays when there is a FAULT.
    private Graph spare;
    private boolean graphIsThere;
    private int mannerNow;

    public GraphTexts() {
        text = new Row(TEXT_MOST);
        written = new Row(WRITTEN_MOST);
        writer = new Writer(written);
        graph = new Graph();
        spare = new Graph();
        reader = new Reader(text, spare);
        graphIsThere = false;
        mannerNow = 0;
    }

    public int feed(int n, long w) {
        if (n < 1 || n > 8) {
            return OUTSIDE;
        }
        if (text.length + n > TEXT_MOST) {
            return FULL;
        }
        for (int k = n - 1; k >= 0; k--) {
            text.add((int) ((w >>> (8 * k)) & 255L));
        }
        return text.length;
    }

    public int read() {
        boolean right = reader.readText(text, spare, mannerNow);
        text.clear();
        if (!right) {
            return -10 - reader.cursor.faultCode;
        }
        Graph old = graph;
        graph = spare;
        spare = old;
        graphIsThere = true;
        return graph.arcCount();
    }

    public int fault(int what) {
        if (what < 0 || what > 1) {
            return OUTSIDE;
        }
        if (reader.cursor.faultCode == 0) {
            return NONE;
        }
        return what == 0 ? reader.cursor.faultLine : reader.cursor.faultPlace;
    }

    public int manner(int m) {
        if (m < 0 || m > 2) {
            return OUTSIDE;
        }
        int before = mannerNow;
        mannerNow = m;
        return before;
    }

    public int find() {
        int found = graph.nodes.indexOf(text, 0, text.length);
        text.clear();
        return found == NOWHERE ? NONE : found;
    }

    public int node(int node, int i) throws ArrayIndexOutOfBoundsException {
        return signOfSpan(graph.nodes, node, i);
    }

    public int arc(int arc, int what) {
        if (!graph.from.has(arc)) {
            return UNKNOWN;
        }
        switch (what) {
            case 0:
                return graph.from.at(arc);
            case 1:
                return graph.to.at(arc);
            case 2:
                return graph.arcLines.at(arc);
            case 3:
                return graph.missingOf(arc);
            default:
                return OUTSIDE;
        }
    }

    public int kind(int column) {
        return graph.kinds.has(column) ? graph.kinds.at(column) : UNKNOWN;
    }

    public int head(int column, int i) throws ArrayIndexOutOfBoundsException {
        return signOfSpan(graph.heads, column, i);
    }

    public int value(int arc, int column) throws NullPointerException, ClassCastException {
        if (!graph.hasValue(arc, column)) {
            return UNKNOWN;
        }
        int room = graph.roomOf(arc, column);
        if (graph.types.at(room) == MISSING) {
            throw new NullPointerException("the VALUE is MISSING");
        }
        if (graph.kinds.at(column) == KIND_T) {
            throw new ClassCastException("the VALUE is a NAME");
        }
        return graph.thousandths.at(room);
    }

    public int sign(int arc, int column, int i)
            throws NullPointerException, ClassCastException, ArrayIndexOutOfBoundsException {
        if (!graph.hasValue(arc, column)) {
            return UNKNOWN;
        }
        int room = graph.roomOf(arc, column);
        if (graph.types.at(room) == MISSING) {
            throw new NullPointerException("the VALUE is MISSING");
        }
        if (graph.kinds.at(column) != KIND_T) {
            throw new ClassCastException("the VALUE is a number");
        }
        return signOfSpan(graph.values, room, i);
    }

    public int comment(int comment, int i) throws ArrayIndexOutOfBoundsException {
        return signOfSpan(graph.comments, comment, i);
    }

    public int print() {
        if (!graphIsThere) {
            return STATE;
        }
        writer.writeGraph(graph);
        return written.length;
    }

    public int out(int i) throws ArrayIndexOutOfBoundsException {
        if (!written.has(i)) {
            throw new ArrayIndexOutOfBoundsException("no such byte was WRITTEN");
        }
        return written.at(i);
    }

    public int about(int what) {
        switch (what) {
            case 0:
                return text.length;
            case 1:
                return graph.nodes.count;
            case 2:
                return graph.arcCount();
            case 3:
                return graph.heads.count;
            case 4:
                return graph.arcsLeftOut;
            case 5:
                return graph.comments.count;
            case 6:
                return written.length;
            default:
                return OUTSIDE;
        }
    }

    private static int signOfSpan(Spans spans, int which, int i) throws ArrayIndexOutOfBoundsException {
        if (!spans.has(which)) {
            return UNKNOWN;
        }
        if (i < 0 || i >= spans.lengthOf(which)) {
            throw new ArrayIndexOutOfBoundsException("no such sign");
        }
        return spans.signAt(which, i);
    }

    private static boolean isFigure(int x) {
        return x >= '0' && x <= '9';
    }

    private static boolean isPlain(int x) {
        return x >= 'a' && x <= 'z' || x >= '0' && x <= '9' || x == '_';
    }

    private static boolean isPrintable(int x) {
        return x >= 32 && x <= 126;
    }

    /** Numbers one behind the other, up to a length that is told once. */
    private static final class Row {
        private final int[] cells;
        private int length;

        Row(int most) {
            cells = new int[Math.max(most, 0)];
            length = 0;
        }

        void clear() {
            length = 0;
        }

        void cut(int most) {
            length = Math.max(0, Math.min(length, most));
        }

        void add(int x) {
            if (length >= 0 && length < cells.length) {
                cells[length] = x;
                length++;
            }
        }

        void put(int i, int x) {
            if (i >= 0 && i < length && i < cells.length) {
                cells[i] = x;
            }
        }

        boolean has(int i) {
            return i >= 0 && i < length && i < cells.length;
        }

        int at(int i) {
            return i >= 0 && i < length && i < cells.length ? cells[i] : NOWHERE;
        }
    }

    /** Numbered pieces of one Row of signs. */
    private static final class Spans {
        private final Row signs;
        private final Row starts;
        private final Row lengths;
        private int count;

        Spans(Row signs, int most) {
            this.signs = signs;
            starts = new Row(most);
            lengths = new Row(most);
            count = 0;
        }

        void clear() {
            starts.clear();
            lengths.clear();
            count = 0;
        }

        void cut(int most) {
            starts.cut(most);
            lengths.cut(most);
            count = lengths.length;
        }

        void add(int start, int length) {
            starts.add(start);
            lengths.add(length);
            count = lengths.length;
        }

        boolean has(int which) {
            return which >= 0 && which < count;
        }

        int lengthOf(int which) {
            return lengths.at(which);
        }

        int signAt(int which, int i) {
            return i >= 0 && i < lengths.at(which) ? signs.at(starts.at(which) + i) : NOWHERE;
        }

        int indexOf(Row other, int start, int length) {
            for (int which = 0; which < count; which++) {
                if (isSame(which, other, start, length)) {
                    return which;
                }
            }
            return NOWHERE;
        }

        private boolean isSame(int which, Row other, int start, int length) {
            if (lengths.at(which) != length) {
                return false;
            }
            int own = starts.at(which);
            for (int i = 0; i < length; i++) {
                if (signs.at(own + i) != other.at(start + i)) {
                    return false;
                }
            }
            return true;
        }

        boolean isPlainName(int which) {
            for (int i = 0; i < lengthOf(which); i++) {
                if (!isPlain(signAt(which, i))) {
                    return false;
                }
            }
            return true;
        }
    }

    /** What a TEXT told: all of it lies in Rows that are made once and filled anew by each read. */
    private static final class Graph {
        private final Row signs;
        private final Spans nodes;
        private final Spans heads;
        private final Spans comments;
        private final Row kinds;
        private final Row from;
        private final Row to;
        private final Row arcLines;
        private final Spans values;
        private final Row types;
        private final Row thousandths;
        private final Row lines;
        private int arcsLeftOut;
        private int toldNodes;
        private int toldArcs;

        Graph() {
            signs = new Row(TEXT_MOST);
            nodes = new Spans(signs, NODES_MOST);
            heads = new Spans(signs, COLUMNS_MOST);
            comments = new Spans(signs, LINES_MOST);
            kinds = new Row(COLUMNS_MOST);
            from = new Row(ARCS_MOST);
            to = new Row(ARCS_MOST);
            arcLines = new Row(ARCS_MOST);
            // The VALUES of one ARC more: they come before it is known whether that ARC counts.
            values = new Spans(signs, (ARCS_MOST + 1) * COLUMNS_MOST);
            types = new Row((ARCS_MOST + 1) * COLUMNS_MOST);
            thousandths = new Row((ARCS_MOST + 1) * COLUMNS_MOST);
            lines = new Row(LINES_MOST);
            arcsLeftOut = 0;
            toldNodes = 0;
            toldArcs = 0;
        }

        void clear() {
            signs.clear();
            nodes.clear();
            heads.clear();
            comments.clear();
            kinds.clear();
            from.clear();
            to.clear();
            arcLines.clear();
            values.clear();
            types.clear();
            thousandths.clear();
            lines.clear();
            arcsLeftOut = 0;
            toldNodes = 0;
            toldArcs = 0;
        }

        int arcCount() {
            return from.length;
        }

        boolean hasValue(int arc, int column) {
            return from.has(arc) && heads.has(column);
        }

        /** All HEADS stand ahead of all ARCS, so each ARC has the same number of VALUES. */
        int roomOf(int arc, int column) {
            return arc * heads.count + column;
        }

        int missingOf(int arc) {
            int missing = 0;
            for (int column = 0; column < heads.count; column++) {
                if (types.at(roomOf(arc, column)) == MISSING) {
                    missing++;
                }
            }
            return missing;
        }

        boolean hasArc(int first, int second) {
            for (int arc = 0; arc < from.length; arc++) {
                if (from.at(arc) == first && to.at(arc) == second) {
                    return true;
                }
            }
            return false;
        }

        void addArc(int first, int second, int line) {
            from.add(first);
            to.add(second);
            arcLines.add(line);
            lines.add(LINE_OF_ARC);
        }

        void addValue(int type, int number, int start) {
            types.add(type);
            thousandths.add(number);
            values.add(start, signs.length - start);
        }

        /** Drops the VALUES of an ARC that is none. */
        void leaveArcOut() {
            int kept = roomOf(from.length, 0);
            types.cut(kept);
            thousandths.cut(kept);
            values.cut(kept);
            arcsLeftOut++;
        }

        void settleKinds() {
            for (int column = 0; column < kinds.length; column++) {
                if (kinds.at(column) == KIND_G) {
                    kinds.put(column, guessKind(column));
                }
            }
        }

        private int guessKind(int column) {
            int guessed = KIND_W;
            for (int arc = 0; arc < from.length; arc++) {
                int type = types.at(roomOf(arc, column));
                if (type == NAME) {
                    return KIND_T;
                }
                if (type == DECIMAL) {
                    guessed = KIND_D;
                }
            }
            return guessed;
        }
    }

    /** Where a read is in THE TEXT, byte by byte, and the FAULT that it has found. */
    private static final class Cursor {
        private Row text;
        private int at;
        private int now;
        private int line;
        private int lineStart;
        private int faultCode;
        private int faultLine;
        private int faultPlace;

        Cursor(Row nothing) {
            text = nothing;
            at = 0;
            now = LINE_END;
            line = 0;
            lineStart = 0;
            faultCode = 0;
            faultLine = 0;
            faultPlace = 0;
        }

        void start(Row newText) {
            text = newText;
            at = -1;
            line = 0;
            faultCode = 0;
            nextLine();
        }

        boolean hasLine() {
            return at < text.length;
        }

        void nextLine() {
            step();
            line++;
            lineStart = at;
        }

        void step() {
            at++;
            boolean inside = at >= 0 && at < text.length && at < text.cells.length;
            now = inside && text.cells[at] != NEW_LINE ? text.cells[at] : LINE_END;
        }

        void skipBlanks() {
            for (int k = 0; k < TEXT_MOST && now == ' '; k++) {
                step();
            }
        }

        boolean isWordEnd() {
            return now == ' ' || now == LINE_END;
        }

        int placeOf(int index) {
            return index - lineStart + 1;
        }

        /** Answers false always: the readers answer so when they have found a FAULT. */
        boolean wrong(int code, int index) {
            faultCode = code;
            faultLine = line;
            faultPlace = index - lineStart + 1;
            return false;
        }

        boolean wrongElsewhere(int code, int otherLine, int otherPlace) {
            faultCode = code;
            faultLine = otherLine;
            faultPlace = otherPlace;
            return false;
        }
    }

    /** Reads a TEXT into a Graph; each of its readers answers whether there was no FAULT. */
    private static final class Reader {
        private final Cursor cursor;
        private Graph graph;
        private int manner;
        private boolean arcWasRead;
        private int countLine;
        private int nodesPlace;
        private int arcsPlace;
        private int number;
        private int nameAt;
        private int nameStart;
        private int valueType;
        private int valueStart;
        private int arcAt;
        private int first;
        private int second;
        private boolean doubled;

        Reader(Row text, Graph empty) {
            cursor = new Cursor(text);
            graph = empty;
        }

        boolean readText(Row text, Graph empty, int mannerNow) {
            cursor.start(text);
            graph = empty;
            graph.clear();
            manner = mannerNow;
            arcWasRead = false;
            countLine = 0;
            for (int k = 0; k < TEXT_MOST && cursor.hasLine(); k++) {
                if (!readLine()) {
                    return false;
                }
                cursor.nextLine();
            }
            graph.settleKinds();
            return countIsTrue();
        }

        private boolean countIsTrue() {
            if (countLine == 0) {
                return true;
            }
            if (graph.toldNodes != graph.nodes.count) {
                return cursor.wrongElsewhere(FAULT_LIES, countLine, nodesPlace);
            }
            if (graph.toldArcs != graph.arcCount()) {
                return cursor.wrongElsewhere(FAULT_LIES, countLine, arcsPlace);
            }
            return true;
        }

        private boolean readLine() {
            cursor.skipBlanks();
            switch (cursor.now) {
                case LINE_END:
                    return true;
                case '#':
                    return readComment();
                case '!':
                    return readCount();
                case '%':
                    return readHead();
                default:
                    return readEnds() && readValues() && endArc();
            }
        }

        private boolean readComment() {
            cursor.step();
            int start = graph.signs.length;
            for (int k = 0; k <= COMMENT_MOST && cursor.now != LINE_END; k++) {
                if (!isPrintable(cursor.now)) {
                    return cursor.wrong(FAULT_SIGN, cursor.at);
                }
                if (k == COMMENT_MOST) {
                    return cursor.wrong(FAULT_LONG, cursor.at);
                }
                graph.signs.add(cursor.now);
                cursor.step();
            }
            graph.comments.add(start, graph.signs.length - start);
            graph.lines.add(LINE_OF_COMMENT);
            return true;
        }

        private boolean readCount() {
            if (countLine != 0) {
                return cursor.wrong(FAULT_ORDER, cursor.at);
            }
            countLine = cursor.line;
            cursor.step();
            if (!readGap()) {
                return false;
            }
            nodesPlace = cursor.placeOf(cursor.at);
            if (!readNumber()) {
                return false;
            }
            graph.toldNodes = number;
            if (!readGap()) {
                return false;
            }
            arcsPlace = cursor.placeOf(cursor.at);
            if (!readNumber()) {
                return false;
            }
            graph.toldArcs = number;
            graph.lines.add(LINE_OF_COUNT);
            return readLineEnd();
        }

        private boolean readNumber() {
            if (!isFigure(cursor.now)) {
                return cursor.wrong(FAULT_SIGN, cursor.at);
            }
            number = 0;
            for (int k = 0; k <= NUMBER_MOST && isFigure(cursor.now); k++) {
                if (k == NUMBER_MOST) {
                    return cursor.wrong(FAULT_LONG, cursor.at);
                }
                number = number * 10 + (cursor.now - '0');
                cursor.step();
            }
            return true;
        }

        private boolean readHead() {
            if (arcWasRead || graph.heads.count >= COLUMNS_MOST) {
                return cursor.wrong(FAULT_ORDER, cursor.at);
            }
            cursor.step();
            if (!readGap() || !readName()) {
                return false;
            }
            int nameLength = graph.signs.length - nameStart;
            if (graph.heads.indexOf(graph.signs, nameStart, nameLength) != NOWHERE) {
                return cursor.wrong(FAULT_ORDER, nameAt);
            }
            graph.heads.add(nameStart, nameLength);
            if (!readGap()) {
                return false;
            }
            int told = kindOfLetter(cursor.now);
            if (told == NOWHERE) {
                return cursor.wrong(FAULT_SIGN, cursor.at);
            }
            graph.kinds.add(told);
            graph.lines.add(LINE_OF_HEAD);
            cursor.step();
            return readLineEnd();
        }

        private static int kindOfLetter(int letter) {
            switch (letter) {
                case 'w':
                    return KIND_W;
                case 'd':
                    return KIND_D;
                case 't':
                    return KIND_T;
                case 'g':
                    return KIND_G;
                default:
                    return NOWHERE;
            }
        }

        private boolean readEnds() {
            arcAt = cursor.at;
            if (!readName()) {
                return false;
            }
            first = takeNode();
            if (first == NOWHERE || !readGap() || !readName()) {
                return false;
            }
            second = takeNode();
            if (second == NOWHERE) {
                return false;
            }
            doubled = graph.hasArc(first, second);
            if (doubled && manner == DOUBLED_WRONG) {
                return cursor.wrong(FAULT_DOUBLED, nameAt);
            }
            return true;
        }

        private boolean endArc() {
            if (!readLineEnd()) {
                return false;
            }
            arcWasRead = true;
            if (doubled && manner == DOUBLED_LEFT_OUT) {
                graph.leaveArcOut();
                return true;
            }
            if (graph.arcCount() >= ARCS_MOST) {
                return cursor.wrong(FAULT_FULL, arcAt);
            }
            graph.addArc(first, second, cursor.line);
            return true;
        }

        /** The NODE with the NAME that was read, a new one if need be; NOWHERE when there are too many. */
        private int takeNode() {
            int nameLength = graph.signs.length - nameStart;
            int found = graph.nodes.indexOf(graph.signs, nameStart, nameLength);
            if (found != NOWHERE) {
                return found;
            }
            if (graph.nodes.count >= NODES_MOST) {
                cursor.wrong(FAULT_FULL, nameAt);
                return NOWHERE;
            }
            graph.nodes.add(nameStart, nameLength);
            return graph.nodes.count - 1;
        }

        private boolean readValues() {
            for (int column = 0; column < graph.kinds.length; column++) {
                if (!readGap() || !readValue(graph.kinds.at(column))) {
                    return false;
                }
                int size = valueType == WHOLE || valueType == DECIMAL ? thousandthsRead() : 0;
                graph.addValue(valueType, size, valueStart);
            }
            return true;
        }

        private boolean readValue(int told) {
            valueStart = graph.signs.length;
            boolean minus = cursor.now == '-';
            if (minus) {
                graph.signs.add(cursor.now);
                cursor.step();
                if (cursor.isWordEnd()) {
                    valueType = MISSING;
                    return true;
                }
            }
            if (!minus && (told == KIND_T || told == KIND_G && cursor.now == '"')) {
                valueType = NAME;
                return readName();
            }
            if (!minus && told == KIND_G) {
                return readGuessed();
            }
            if (!minus && (cursor.now == '"' || isPlain(cursor.now) && !isFigure(cursor.now))) {
                return cursor.wrong(FAULT_KIND, cursor.at);
            }
            if (told == KIND_T || !isFigure(cursor.now)) {
                return cursor.wrong(FAULT_SIGN, cursor.at);
            }
            return readFigures(told, minus);
        }

        private boolean readFigures(int told, boolean minus) {
            int figuresAt = cursor.at;
            boolean zero = cursor.now == '0';
            if (zero && minus && told == KIND_W) {
                return cursor.wrong(FAULT_SIGN, cursor.at);
            }
            for (int k = 0; k <= WHOLE_MOST && isFigure(cursor.now); k++) {
                if (zero && k > 0) {
                    return cursor.wrong(FAULT_SIGN, cursor.at);
                }
                if (k == WHOLE_MOST) {
                    return cursor.wrong(FAULT_LONG, cursor.at);
                }
                graph.signs.add(cursor.now);
                cursor.step();
            }
            if (cursor.now == '.' && told != KIND_W) {
                return readFraction(figuresAt);
            }
            if (zero && minus) {
                return cursor.wrong(FAULT_SIGN, figuresAt);
            }
            valueType = WHOLE;
            return true;
        }

        private boolean readFraction(int figuresAt) {
            if (cursor.at - figuresAt > DECIMAL_MOST) {
                return cursor.wrong(FAULT_LONG, figuresAt + DECIMAL_MOST);
            }
            valueType = DECIMAL;
            graph.signs.add(cursor.now);
            cursor.step();
            if (!isFigure(cursor.now)) {
                return cursor.wrong(FAULT_SIGN, cursor.at);
            }
            for (int k = 0; k <= DECIMAL_MOST && isFigure(cursor.now); k++) {
                if (k == DECIMAL_MOST) {
                    return cursor.wrong(FAULT_LONG, cursor.at);
                }
                graph.signs.add(cursor.now);
                cursor.step();
            }
            return true;
        }

        /** Only a point tells a DECIMAL from a NAME of figures, so the signs are judged when they have ended. */
        private boolean readGuessed() {
            int figuresAt = cursor.at;
            if (!readPlain()) {
                return false;
            }
            int length = graph.signs.length - valueStart;
            boolean zeroAhead = length > 1 && graph.signs.at(valueStart) == '0';
            boolean figures = figuresOnly(valueStart);
            if (figures && cursor.now == '.') {
                return zeroAhead ? cursor.wrong(FAULT_SIGN, figuresAt + 1) : readFraction(figuresAt);
            }
            valueType = figures && !zeroAhead && length <= WHOLE_MOST ? WHOLE : NAME;
            return true;
        }

        private boolean figuresOnly(int start) {
            for (int i = start; i < graph.signs.length; i++) {
                if (!isFigure(graph.signs.at(i))) {
                    return false;
                }
            }
            return true;
        }

        private int thousandthsRead() {
            int size = 0;
            int behind = 0;
            boolean pointSeen = false;
            for (int i = valueStart; i < graph.signs.length; i++) {
                int next = graph.signs.at(i);
                if (next == '.') {
                    pointSeen = true;
                } else if (isFigure(next)) {
                    size = size * 10 + (next - '0');
                    behind = pointSeen ? behind + 1 : 0;
                }
            }
            for (int k = behind; k < DECIMAL_MOST; k++) {
                size = size * 10;
            }
            return graph.signs.at(valueStart) == '-' ? -size : size;
        }

        private boolean readName() {
            nameAt = cursor.at;
            nameStart = graph.signs.length;
            return cursor.now == '"' ? readQuoted() : readPlain();
        }

        private boolean readPlain() {
            if (!isPlain(cursor.now)) {
                return cursor.wrong(FAULT_SIGN, cursor.at);
            }
            for (int k = 0; k <= NAME_MOST && isPlain(cursor.now); k++) {
                if (k == NAME_MOST) {
                    return cursor.wrong(FAULT_LONG, cursor.at);
                }
                graph.signs.add(cursor.now);
                cursor.step();
            }
            return true;
        }

        private boolean readQuoted() {
            cursor.step();
            if (cursor.now == '"') {
                return cursor.wrong(FAULT_SIGN, cursor.at);
            }
            for (int k = 0; k <= NAME_MOST && cursor.now != '"'; k++) {
                if (!isPrintable(cursor.now)) {
                    return cursor.wrong(FAULT_SIGN, cursor.at);
                }
                if (k == NAME_MOST) {
                    return cursor.wrong(FAULT_LONG, cursor.at);
                }
                if (cursor.now == '\\') {
                    cursor.step();
                    if (cursor.now != '"' && cursor.now != '\\') {
                        return cursor.wrong(FAULT_SIGN, cursor.at);
                    }
                }
                graph.signs.add(cursor.now);
                cursor.step();
            }
            cursor.step();
            return true;
        }

        private boolean readGap() {
            if (cursor.now != ' ') {
                return cursor.wrong(FAULT_SIGN, cursor.at);
            }
            cursor.skipBlanks();
            return true;
        }

        private boolean readLineEnd() {
            cursor.skipBlanks();
            return cursor.now == LINE_END || cursor.wrong(FAULT_SIGN, cursor.at);
        }
    }

    /** Writes a Graph in the normal form. */
    private static final class Writer {
        private final Row written;

        Writer(Row written) {
            this.written = written;
        }

        void writeGraph(Graph graph) {
            written.clear();
            int comments = 0;
            int heads = 0;
            int arcs = 0;
            for (int k = 0; k < graph.lines.length; k++) {
                switch (graph.lines.at(k)) {
                    case LINE_OF_COMMENT:
                        writeComment(graph, comments);
                        comments++;
                        break;
                    case LINE_OF_COUNT:
                        writeCount(graph);
                        break;
                    case LINE_OF_HEAD:
                        writeHead(graph, heads);
                        heads++;
                        break;
                    default:
                        writeArc(graph, arcs);
                        arcs++;
                        break;
                }
                written.add(NEW_LINE);
            }
        }

        private void writeComment(Graph graph, int which) {
            written.add('#');
            for (int i = 0; i < graph.comments.lengthOf(which); i++) {
                written.add(graph.comments.signAt(which, i));
            }
        }

        private void writeCount(Graph graph) {
            written.add('!');
            written.add(' ');
            writeWhole(graph.toldNodes);
            written.add(' ');
            writeWhole(graph.toldArcs);
        }

        private void writeHead(Graph graph, int which) {
            written.add('%');
            written.add(' ');
            writeName(graph.heads, which);
            written.add(' ');
            written.add(letterOfKind(graph.kinds.at(which)));
        }

        private static int letterOfKind(int settled) {
            if (settled == KIND_W) {
                return 'w';
            }
            return settled == KIND_D ? 'd' : 't';
        }

        private void writeArc(Graph graph, int which) {
            writeName(graph.nodes, graph.from.at(which));
            written.add(' ');
            writeName(graph.nodes, graph.to.at(which));
            for (int column = 0; column < graph.kinds.length; column++) {
                written.add(' ');
                writeValue(graph, graph.roomOf(which, column), graph.kinds.at(column));
            }
        }

        private void writeValue(Graph graph, int room, int settled) {
            if (graph.types.at(room) == MISSING) {
                written.add('-');
            } else if (settled == KIND_T) {
                writeName(graph.values, room);
            } else {
                writeThousandths(graph.thousandths.at(room));
            }
        }

        private void writeName(Spans names, int which) {
            boolean quoted = !names.isPlainName(which);
            if (quoted) {
                written.add('"');
            }
            for (int i = 0; i < names.lengthOf(which); i++) {
                int next = names.signAt(which, i);
                if (next == '"' || next == '\\') {
                    written.add('\\');
                }
                written.add(next);
            }
            if (quoted) {
                written.add('"');
            }
        }

        private void writeThousandths(int size) {
            int rest = size < 0 ? -size : size;
            if (size < 0) {
                written.add('-');
            }
            writeWhole(rest / 1000);
            int fraction = rest % 1000;
            if (fraction > 0) {
                written.add('.');
            }
            for (int k = 0; k < DECIMAL_MOST && fraction > 0; k++) {
                written.add('0' + fraction / 100);
                fraction = fraction % 100 * 10;
            }
        }

        /** All that is written here stays under a million. */
        private void writeWhole(int size) {
            for (int unit = 100000; unit > 0; unit = unit / 10) {
                if (size >= unit || unit == 1) {
                    written.add('0' + size / unit % 10);
                }
            }
        }
    }
}
