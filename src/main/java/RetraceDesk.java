import java.util.NoSuchElementException;

/**
 * Reads what a shrinker wrote about its renaming of classes and methods, turns stack traces with
 * short names back into real ones, lines and inlined calls included, and real ones into short
 * ones, and counts crashes that are alike.
 */
public final class RetraceDesk {
    private static final int NONE = -1;
    private static final int MOST_IN_PUT = 8;
    private static final int MOST_IN_DRAFT = 600;
    private static final int MOST_IN_PRINT = 1000;
    private static final int MOST_IN_PART = 40;
    private static final int MOST_IN_NAME = 40;
    private static final int MOST_IN_FILE = MOST_IN_PART + 1 + MOST_IN_PART;
    private static final int MOST_FIGURES = 4;
    private static final int PARTS_OF_FILE = 2;
    private static final int PARTS_OF_NAME = MOST_IN_NAME;
    private static final int MOST_CLASS_LINES = 8;
    private static final int MOST_METHOD_LINES = 32;
    private static final int MOST_HEADERS = 4;
    private static final int MOST_FRAMES = 20;
    private static final int MOST_CRASHES = 16;
    private static final int FRAMES_IN_KEY = 6;
    private static final long KEY_START = -3750763034362895579L;
    private static final long KEY_FACTOR = 1099511628211L;
    private static final String ARROW = " -> ";
    private static final String METHOD_INDENT = "    ";
    private static final String CAUSE_START = "Caused by: ";
    private static final String FRAME_START = "\tat ";
    private static final String MORE_START = "\t... ";
    private static final String MORE_END = " more";
    private static final String UNKNOWN_SOURCE = "Unknown Source";
    private static final String NATIVE_METHOD = "Native Method";
    private static final String SHORT_FILE = "SourceFile";
    private static final String FILE_END = ".java";

    private final Text draft;
    private final Trace trace;
    private final CrashBook book;
    private Mapping mapping;
    private Mapping spareMapping;
    private Text print;
    private Text sparePrint;
    private boolean isLoaded;
    private int wrongLine;
    private int doubtfulFrames;

    public RetraceDesk() {
        draft = new Text(MOST_IN_DRAFT);
        trace = new Trace(draft.codes);
        book = new CrashBook();
        mapping = new Mapping(new char[MOST_IN_DRAFT]);
        spareMapping = new Mapping(new char[MOST_IN_DRAFT]);
        print = new Text(MOST_IN_PRINT);
        sparePrint = new Text(MOST_IN_PRINT);
    }

    public boolean put(int n, long codes) {
        if (n < 1 || n > MOST_IN_PUT || draft.size + n > MOST_IN_DRAFT) {
            return false;
        }
        for (int place = n - 1; place >= 0; place--) {
            if (!isDraftCode(codeIn(codes, place))) {
                return false;
            }
        }
        for (int place = n - 1; place >= 0; place--) {
            draft.add(codeIn(codes, place));
        }
        return true;
    }

    public void scrap() {
        draft.clear();
    }

    public int load() throws IllegalArgumentException {
        int size = draft.size;
        spareMapping.begin(draft);
        draft.clear();
        int bad = spareMapping.firstWrongLine(size);
        if (bad != NONE) {
            wrongLine = bad;
            throw new IllegalArgumentException();
        }
        Mapping old = mapping;
        mapping = spareMapping;
        spareMapping = old;
        isLoaded = true;
        return mapping.groupCount;
    }

    public int retrace() throws IllegalArgumentException, IllegalStateException {
        readTrace();
        Rewriter work = newRewriter();
        work.retraceTrace();
        refuseLongPrint();
        keepRetraced(work);
        return work.frameCount;
    }

    public int shorten() throws IllegalArgumentException, IllegalStateException {
        readTrace();
        Rewriter work = newRewriter();
        work.shortenTrace();
        refuseLongPrint();
        swapPrints();
        return work.frameCount;
    }

    public int report() throws IllegalArgumentException, IllegalStateException {
        readTrace();
        Rewriter work = newRewriter();
        work.retraceTrace();
        refuseLongPrint();
        long found = CrashBook.keyOf(sparePrint);
        int crash = book.placeOf(found);
        if (crash == MOST_CRASHES) {
            throw new IllegalStateException();
        }
        book.enter(crash, found);
        keepRetraced(work);
        return crash;
    }

    public int wrong() {
        return wrongLine;
    }

    public int length() {
        return print.size;
    }

    public int at(int i) throws IndexOutOfBoundsException {
        if (i < 0 || i >= print.size) {
            throw new IndexOutOfBoundsException();
        }
        return print.codes[i];
    }

    public int doubtful() {
        return doubtfulFrames;
    }

    public int groups(int line) throws NoSuchElementException {
        if (line < 0 || line >= mapping.classCount) {
            throw new NoSuchElementException();
        }
        return mapping.classLines[line].groupCount;
    }

    public int crashes() {
        return book.size;
    }

    public long key(int crash) throws NoSuchElementException {
        refuseUnknownCrash(crash);
        return book.keys[crash];
    }

    public int reports(int crash, int which)
            throws NoSuchElementException, IllegalArgumentException {
        refuseUnknownCrash(crash);
        if (which < 0 || which > 2) {
            throw new IllegalArgumentException();
        }
        if (which == 0) {
            return book.times[crash];
        }
        return which == 1 ? book.firsts[crash] : book.lasts[crash];
    }

    private void refuseUnknownCrash(int crash) {
        if (crash < 0 || crash >= book.size) {
            throw new NoSuchElementException();
        }
    }

    /** The draft is empty behind this, but its row keeps the codes that the trace points at. */
    private void readTrace() {
        trace.begin();
        int bad = trace.firstWrongLine(draft.sizeWithoutEmptyLastLine());
        draft.clear();
        if (bad != NONE) {
            wrongLine = bad;
            throw new IllegalArgumentException();
        }
    }

    /** Work goes to the spare print, so that a call that throws leaves the latest one alone. */
    private Rewriter newRewriter() {
        if (!isLoaded) {
            throw new IllegalStateException();
        }
        sparePrint.clear();
        return new Rewriter(trace, mapping, sparePrint);
    }

    private void refuseLongPrint() {
        if (sparePrint.isOverfull) {
            throw new IllegalStateException();
        }
    }

    private void keepRetraced(Rewriter work) {
        doubtfulFrames = work.doubtfulCount;
        swapPrints();
    }

    private void swapPrints() {
        Text old = print;
        print = sparePrint;
        sparePrint = old;
    }

    private static char codeIn(long codes, int place) {
        return (char) ((codes >>> (8 * place)) & 255L);
    }

    private static boolean isDraftCode(char code) {
        return code == '\n' || code == '\t' || (code >= 32 && code <= 126);
    }

    private static boolean isFigure(char code) {
        return code >= '0' && code <= '9';
    }

    private static boolean isLetter(char code) {
        return (code >= 'a' && code <= 'z') || (code >= 'A' && code <= 'Z')
                || code == '_' || code == '$';
    }

    /** A piece of a row of codes; made once and set again and again. */
    private static final class Slice {
        final char[] codes;
        int from;
        int to;

        Slice(char[] codes) {
            this.codes = codes;
        }

        void set(int newFrom, int newTo) {
            from = newFrom;
            to = newTo;
        }

        boolean isSame(Slice other) {
            int size = to - from;
            if (other.to - other.from != size) {
                return false;
            }
            for (int i = 0; i < size; i++) {
                if (codes[from + i] != other.codes[other.from + i]) {
                    return false;
                }
            }
            return true;
        }

        int lastPoint() {
            for (int i = to - 1; i >= from; i--) {
                if (codes[i] == '.') {
                    return i;
                }
            }
            return NONE;
        }
    }

    /** A row of codes that grows up to a bound, and remembers when more was asked for. */
    private static final class Text {
        final char[] codes;
        int size;
        boolean isOverfull;

        Text(int most) {
            codes = new char[most];
        }

        void clear() {
            size = 0;
            isOverfull = false;
        }

        void add(char code) {
            if (size >= codes.length) {
                isOverfull = true;
                return;
            }
            codes[size] = code;
            size++;
        }

        void addWord(String word) {
            for (int i = 0; i < word.length(); i++) {
                add(word.charAt(i));
            }
        }

        void addSlice(Slice slice) {
            addSpan(slice.codes, slice.from, slice.to);
        }

        void addSpan(char[] from, int start, int end) {
            if (end - start > codes.length - size) {
                isOverfull = true;
                return;
            }
            System.arraycopy(from, start, codes, size, end - start);
            size += end - start;
        }

        /** No number of a mapping or a trace has more than four figures. */
        void addNumber(int number) {
            for (int unit = 1000; unit >= 1; unit /= 10) {
                if (number >= unit || unit == 1) {
                    add((char) ('0' + number / unit % 10));
                }
            }
        }

        void addFileOf(Slice type) {
            int start = type.lastPoint() == NONE ? type.from : type.lastPoint() + 1;
            int end = type.to;
            for (int i = type.to - 1; i > start; i--) {
                if (type.codes[i] == '$') {
                    end = i;
                }
            }
            addSpan(type.codes, start, end);
            addWord(FILE_END);
        }

        int sizeWithoutEmptyLastLine() {
            return size > 0 && codes[size - 1] == '\n' ? size - 1 : size;
        }

        boolean hasWordAt(int start, String word) {
            if (word.length() > size - start) {
                return false;
            }
            for (int i = 0; i < word.length(); i++) {
                if (codes[start + i] != word.charAt(i)) {
                    return false;
                }
            }
            return true;
        }

        int placeOf(char code, int start, int end) {
            for (int i = start; i < end; i++) {
                if (codes[i] == code) {
                    return i;
                }
            }
            return end;
        }
    }

    /** What is read line by line; the take.. methods move on over what they find in a line. */
    private abstract static class Form {
        final char[] codes;
        private int here;
        private int end;

        Form(char[] codes) {
            this.codes = codes;
        }

        /** Looks at the line that was begun; false when it is wrong. */
        abstract boolean takesLine();

        int firstWrongLine(int size) {
            int number = 1;
            here = 0;
            for (int i = 0; i <= size; i++) {
                if (i == size || codes[i] == '\n') {
                    end = i;
                    if (!takesLine()) {
                        return number;
                    }
                    number++;
                    here = i + 1;
                }
            }
            return NONE;
        }

        boolean isDone() {
            return here >= end;
        }

        boolean isAtComment() {
            return here < end && codes[here] == '#';
        }

        boolean isAtFigure() {
            return here < end && isFigure(codes[here]);
        }

        boolean takeWord(String word) {
            if (word.length() > end - here) {
                return false;
            }
            for (int i = 0; i < word.length(); i++) {
                if (codes[here + i] != word.charAt(i)) {
                    return false;
                }
            }
            here += word.length();
            return true;
        }

        boolean takeWordInto(String word, Slice into) {
            into.set(here, Math.min(here + word.length(), end));
            return takeWord(word);
        }

        void takeRest(Slice into) {
            into.set(here, end);
            here = end;
        }

        boolean takeParts(Slice into, int mostParts, int mostSize) {
            int parts = 1;
            int partStart = here;
            int i = here;
            for (; i < end; i++) {
                char code = codes[i];
                if (isLetter(code) || (isFigure(code) && i > partStart)) {
                    continue;
                }
                if (code != '.' || i == partStart || parts == mostParts) {
                    break;
                }
                if (i - partStart > MOST_IN_PART) {
                    return false;
                }
                parts++;
                partStart = i + 1;
            }
            if (i == partStart || i - partStart > MOST_IN_PART || i - here > mostSize) {
                return false;
            }
            into.set(here, i);
            here = i;
            return true;
        }

        /** Answers NONE when no number stands there. */
        int takeNumber() {
            int value = 0;
            int i = here;
            for (; i < end && isFigure(codes[i]); i++) {
                if (i - here >= MOST_FIGURES || (i > here && value == 0)) {
                    return NONE;
                }
                value = value * 10 + (codes[i] - '0');
            }
            if (i == here) {
                return NONE;
            }
            here = i;
            return value;
        }
    }

    private static final class ClassLine {
        final Slice real;
        final Slice brief;
        int firstMethod;
        int endMethod;
        int groupCount;

        ClassLine(char[] codes) {
            real = new Slice(codes);
            brief = new Slice(codes);
        }
    }

    private static final class MethodLine {
        final Slice owner;
        final Slice method;
        final Slice brief;
        int classPlace;
        /** Above 0 in the first line of a group only: a group is known by that line. */
        int groupSize;
        int first;
        int last;
        int realFirst;
        int realLast;

        MethodLine(char[] codes) {
            owner = new Slice(codes);
            method = new Slice(codes);
            brief = new Slice(codes);
        }

        boolean hasRange() {
            return first != NONE;
        }

        boolean hasOneRealLine() {
            return realFirst == realLast;
        }

        boolean isRealCall(Slice someOwner, Slice someMethod) {
            return owner.isSame(someOwner) && method.isSame(someMethod);
        }

        boolean isInGroupOf(MethodLine other) {
            return hasRange() && classPlace == other.classPlace && first == other.first
                    && last == other.last && brief.isSame(other.brief);
        }
    }

    private static final class Mapping extends Form {
        final ClassLine[] classLines;
        final MethodLine[] methodLines;
        int classCount;
        int methodCount;
        int groupCount;
        private int latestGroup;
        private final Slice call;

        Mapping(char[] codes) {
            super(codes);
            call = new Slice(codes);
            classLines = new ClassLine[MOST_CLASS_LINES];
            for (int i = 0; i < MOST_CLASS_LINES; i++) {
                classLines[i] = new ClassLine(codes);
            }
            methodLines = new MethodLine[MOST_METHOD_LINES];
            for (int i = 0; i < MOST_METHOD_LINES; i++) {
                methodLines[i] = new MethodLine(codes);
            }
        }

        /** The mapping outlives the draft, so it has a row of its own. */
        void begin(Text draft) {
            System.arraycopy(draft.codes, 0, codes, 0, draft.size);
            classCount = 0;
            methodCount = 0;
            groupCount = 0;
            latestGroup = NONE;
        }

        boolean takesLine() {
            if (isDone() || isAtComment()) {
                return true;
            }
            return takeWord(METHOD_INDENT) ? takesMethodLine() : takesClassLine();
        }

        private boolean takesClassLine() {
            if (classCount == MOST_CLASS_LINES) {
                return false;
            }
            ClassLine line = classLines[classCount];
            if (!takeParts(line.real, PARTS_OF_NAME, MOST_IN_NAME) || !takeWord(ARROW)
                    || !takeParts(line.brief, PARTS_OF_NAME, MOST_IN_NAME)
                    || !takeWord(":") || !isDone()) {
                return false;
            }
            if (lineOfReal(line.real) != null || lineOfShort(line.brief) != null) {
                return false;
            }
            line.firstMethod = methodCount;
            line.endMethod = methodCount;
            line.groupCount = 0;
            classCount++;
            return true;
        }

        private boolean takesMethodLine() {
            if (classCount == 0 || methodCount == MOST_METHOD_LINES) {
                return false;
            }
            MethodLine line = methodLines[methodCount];
            line.classPlace = classCount - 1;
            if (!takesRange(line) || !takesRealCall(line) || !takesRealRange(line)
                    || !takeWord(ARROW) || !takeParts(line.brief, 1, MOST_IN_PART) || !isDone()) {
                return false;
            }
            enterMethodLine(line, classLines[classCount - 1]);
            return true;
        }

        private boolean takesRange(MethodLine line) {
            line.first = NONE;
            line.last = NONE;
            if (!isAtFigure()) {
                return true;
            }
            line.first = takeNumber();
            if (line.first == NONE || !takeWord(":")) {
                return false;
            }
            line.last = takeNumber();
            return line.last != NONE && takeWord(":") && line.first <= line.last;
        }

        private boolean takesRealCall(MethodLine line) {
            if (!takeParts(call, PARTS_OF_NAME, MOST_IN_NAME)) {
                return false;
            }
            int point = call.lastPoint();
            if (point == NONE) {
                Slice latest = classLines[line.classPlace].real;
                line.owner.set(latest.from, latest.to);
                line.method.set(call.from, call.to);
            } else {
                line.owner.set(call.from, point);
                line.method.set(point + 1, call.to);
            }
            return true;
        }

        private boolean takesRealRange(MethodLine line) {
            line.realFirst = line.first;
            line.realLast = line.last;
            if (!line.hasRange() || !takeWord(":")) {
                return true;
            }
            line.realFirst = takeNumber();
            line.realLast = line.realFirst;
            if (line.realFirst == NONE) {
                return false;
            }
            if (takeWord(":")) {
                line.realLast = takeNumber();
            }
            return line.realLast != NONE && (line.hasOneRealLine()
                    || line.realLast - line.realFirst == line.last - line.first);
        }

        private void enterMethodLine(MethodLine line, ClassLine owner) {
            line.groupSize = 0;
            if (latestGroup == NONE || !line.isInGroupOf(methodLines[latestGroup])) {
                latestGroup = methodCount;
                groupCount++;
                owner.groupCount++;
            }
            methodLines[latestGroup].groupSize++;
            methodCount++;
            owner.endMethod = methodCount;
        }

        /** Answers null when there is none. */
        ClassLine lineOfReal(Slice type) {
            for (int i = 0; i < classCount; i++) {
                if (classLines[i].real.isSame(type)) {
                    return classLines[i];
                }
            }
            return null;
        }

        /** Answers null when there is none. */
        ClassLine lineOfShort(Slice type) {
            for (int i = 0; i < classCount; i++) {
                if (classLines[i].brief.isSame(type)) {
                    return classLines[i];
                }
            }
            return null;
        }

        private boolean isGroup(int place, Slice method) {
            return methodLines[place].groupSize > 0 && methodLines[place].brief.isSame(method);
        }

        /** The first group of a class line with a short method, or NONE. */
        int firstGroup(ClassLine owner, Slice method) {
            for (int i = owner.firstMethod; i < owner.endMethod; i++) {
                if (isGroup(i, method)) {
                    return i;
                }
            }
            return NONE;
        }

        /** The first of those groups with a range that has a line in it, or NONE. */
        int groupAround(ClassLine owner, Slice method, int line) {
            for (int i = owner.firstMethod; i < owner.endMethod; i++) {
                MethodLine lead = methodLines[i];
                if (lead.hasRange() && lead.first <= line && line <= lead.last
                        && isGroup(i, method)) {
                    return i;
                }
            }
            return NONE;
        }

        /** If two of those groups end unlike one another, one ends unlike the first. */
        boolean hasUnlikeGroups(ClassLine owner, Slice method, MethodLine lastOfFirst) {
            for (int i = owner.firstMethod; i < owner.endMethod; i++) {
                if (isGroup(i, method)
                        && !lastLineOf(i).isRealCall(lastOfFirst.owner, lastOfFirst.method)) {
                    return true;
                }
            }
            return false;
        }

        /** The group without a range that stands for a real call, or NONE. */
        int groupWithoutRange(Slice owner, Slice method) {
            for (int i = 0; i < methodCount; i++) {
                if (!methodLines[i].hasRange() && methodLines[i].isRealCall(owner, method)) {
                    return i;
                }
            }
            return NONE;
        }

        MethodLine lastLineOf(int group) {
            return methodLines[group + methodLines[group].groupSize - 1];
        }

        Slice shortClassOf(MethodLine line) {
            return classLines[line.classPlace].brief;
        }
    }

    private static final class Header {
        final Slice type;
        final Slice message;
        boolean hasMessage;
        /** The number of the more line, or NONE. */
        int more;
        int firstFrame;
        int endFrame;

        Header(char[] codes) {
            type = new Slice(codes);
            message = new Slice(codes);
        }
    }

    private static final class Frame {
        final Slice owner;
        final Slice method;
        /** The place without its line. */
        final Slice place;
        boolean hasFile;
        /** NONE when the place has none. */
        int line;

        Frame(char[] codes) {
            owner = new Slice(codes);
            method = new Slice(codes);
            place = new Slice(codes);
        }
    }

    private static final class Trace extends Form {
        final Header[] headers;
        final Frame[] frames;
        int headerCount;
        int frameCount;
        private final Slice call;

        Trace(char[] codes) {
            super(codes);
            call = new Slice(codes);
            headers = new Header[MOST_HEADERS];
            for (int i = 0; i < MOST_HEADERS; i++) {
                headers[i] = new Header(codes);
            }
            frames = new Frame[MOST_FRAMES];
            for (int i = 0; i < MOST_FRAMES; i++) {
                frames[i] = new Frame(codes);
            }
        }

        void begin() {
            headerCount = 0;
            frameCount = 0;
        }

        boolean takesLine() {
            if (headerCount == 0 || takeWord(CAUSE_START)) {
                return takesHeader();
            }
            Header latest = headers[headerCount - 1];
            if (latest.more != NONE) {
                return false;
            }
            if (!takeWord(FRAME_START)) {
                return takesMore(latest);
            }
            if (frameCount == MOST_FRAMES) {
                return false;
            }
            Frame frame = frames[frameCount];
            if (!takesCall(frame) || !takesPlace(frame) || !isDone()) {
                return false;
            }
            frameCount++;
            latest.endFrame = frameCount;
            return true;
        }

        private boolean takesHeader() {
            if (headerCount == MOST_HEADERS) {
                return false;
            }
            Header header = headers[headerCount];
            if (!takeParts(header.type, PARTS_OF_NAME, MOST_IN_NAME)) {
                return false;
            }
            header.hasMessage = takeWord(": ");
            if (!header.hasMessage && !isDone()) {
                return false;
            }
            takeRest(header.message);
            header.more = NONE;
            header.firstFrame = frameCount;
            header.endFrame = frameCount;
            headerCount++;
            return true;
        }

        private boolean takesCall(Frame frame) {
            if (!takeParts(call, PARTS_OF_NAME, MOST_IN_NAME)) {
                return false;
            }
            int point = call.lastPoint();
            if (point == NONE) {
                return false;
            }
            frame.owner.set(call.from, point);
            frame.method.set(point + 1, call.to);
            return true;
        }

        private boolean takesPlace(Frame frame) {
            frame.line = NONE;
            frame.hasFile = false;
            if (!takeWord("(")) {
                return false;
            }
            if (takeWordInto(UNKNOWN_SOURCE, frame.place)
                    || takeWordInto(NATIVE_METHOD, frame.place)) {
                return takeWord(")");
            }
            if (!takeParts(frame.place, PARTS_OF_FILE, MOST_IN_FILE)) {
                return false;
            }
            frame.hasFile = true;
            if (takeWord(":")) {
                frame.line = takeNumber();
                return frame.line != NONE && takeWord(")");
            }
            return takeWord(")");
        }

        private boolean takesMore(Header header) {
            if (!takeWord(MORE_START)) {
                return false;
            }
            header.more = takeNumber();
            return header.more != NONE && takeWord(MORE_END) && isDone();
        }
    }

    /** Writes a trace anew; the trace and the mapping stay as they are meanwhile. */
    private static final class Rewriter {
        private final Trace trace;
        private final Mapping mapping;
        private final Text print;
        int frameCount;
        int doubtfulCount;

        Rewriter(Trace trace, Mapping mapping, Text print) {
            this.trace = trace;
            this.mapping = mapping;
            this.print = print;
        }

        void retraceTrace() {
            for (int i = 0; i < trace.headerCount; i++) {
                Header header = trace.headers[i];
                ClassLine line = mapping.lineOfShort(header.type);
                writeHeader(i, line == null ? header.type : line.real);
                for (int k = header.firstFrame; k < header.endFrame; k++) {
                    retraceFrame(trace.frames[k]);
                }
                writeMore(header);
            }
        }

        private void retraceFrame(Frame frame) {
            ClassLine line = mapping.lineOfShort(frame.owner);
            if (line == null) {
                writeUnchanged(frame);
                return;
            }
            int around = mapping.groupAround(line, frame.method, frame.line);
            if (around != NONE) {
                writeInlined(around, frame.line);
                return;
            }
            int first = mapping.firstGroup(line, frame.method);
            if (first == NONE) {
                writeReal(line.real, frame.method, frame);
                return;
            }
            MethodLine real = mapping.lastLineOf(first);
            writeReal(real.owner, real.method, frame);
            if (mapping.hasUnlikeGroups(line, frame.method, real)) {
                doubtfulCount++;
            }
        }

        private void writeInlined(int group, int line) {
            int end = group + mapping.methodLines[group].groupSize;
            for (int i = group; i < end; i++) {
                MethodLine real = mapping.methodLines[i];
                int offset = real.hasOneRealLine() ? 0 : line - real.first;
                openFrame(real.owner, real.method);
                print.addFileOf(real.owner);
                closeFrame(real.realFirst + offset);
            }
        }

        void shortenTrace() {
            for (int i = 0; i < trace.headerCount; i++) {
                Header header = trace.headers[i];
                ClassLine line = mapping.lineOfReal(header.type);
                writeHeader(i, line == null ? header.type : line.brief);
                int next = header.firstFrame;
                for (int k = header.firstFrame; k < header.endFrame; k++) {
                    if (k == next) {
                        next = k + shortenFrom(k, header.endFrame);
                    }
                }
                writeMore(header);
            }
        }

        /** Answers how many frames, from this one on, became one. */
        private int shortenFrom(int start, int end) {
            int best = NONE;
            int bestSize = 0;
            int bestOffset = 0;
            for (int i = 0; i < mapping.methodCount; i++) {
                if (mapping.methodLines[i].groupSize > bestSize) {
                    int offset = offsetOfFit(i, start, end);
                    if (offset != NONE) {
                        best = i;
                        bestSize = mapping.methodLines[i].groupSize;
                        bestOffset = offset;
                    }
                }
            }
            if (best == NONE) {
                shortenAlone(trace.frames[start]);
                return 1;
            }
            MethodLine lead = mapping.methodLines[best];
            openFrame(mapping.shortClassOf(lead), lead.brief);
            print.addWord(SHORT_FILE);
            closeFrame(lead.first + bestOffset);
            return bestSize;
        }

        /** Answers NONE when the group does not fit from the frame on. */
        private int offsetOfFit(int group, int start, int end) {
            MethodLine lead = mapping.methodLines[group];
            if (!lead.hasRange() || lead.groupSize > end - start) {
                return NONE;
            }
            int offset = NONE;
            for (int i = 0; i < lead.groupSize; i++) {
                MethodLine real = mapping.methodLines[group + i];
                Frame frame = trace.frames[start + i];
                if (frame.line < real.realFirst || frame.line > real.realLast
                        || !real.isRealCall(frame.owner, frame.method)) {
                    return NONE;
                }
                if (!real.hasOneRealLine()) {
                    int own = frame.line - real.realFirst;
                    if (offset != NONE && offset != own) {
                        return NONE;
                    }
                    offset = own;
                }
            }
            return offset == NONE ? 0 : offset;
        }

        private void shortenAlone(Frame frame) {
            int group = mapping.groupWithoutRange(frame.owner, frame.method);
            if (group != NONE) {
                MethodLine line = mapping.methodLines[group];
                writeShort(mapping.shortClassOf(line), line.brief, frame);
                return;
            }
            ClassLine line = mapping.lineOfReal(frame.owner);
            if (line == null) {
                writeUnchanged(frame);
            } else {
                writeShort(line.brief, frame.method, frame);
            }
        }

        private void writeHeader(int number, Slice type) {
            Header header = trace.headers[number];
            if (number > 0) {
                print.addWord(CAUSE_START);
            }
            print.addSlice(type);
            if (header.hasMessage) {
                print.addWord(": ");
                print.addSlice(header.message);
            }
            print.add('\n');
        }

        private void writeMore(Header header) {
            if (header.more != NONE) {
                print.addWord(MORE_START);
                print.addNumber(header.more);
                print.addWord(MORE_END);
                print.add('\n');
            }
        }

        private void writeUnchanged(Frame frame) {
            openFrame(frame.owner, frame.method);
            print.addSlice(frame.place);
            closeFrame(frame.line);
        }

        private void writeReal(Slice owner, Slice method, Frame frame) {
            openFrame(owner, method);
            if (frame.hasFile) {
                print.addFileOf(owner);
            } else {
                print.addSlice(frame.place);
            }
            closeFrame(frame.line);
        }

        private void writeShort(Slice owner, Slice method, Frame frame) {
            openFrame(owner, method);
            if (frame.hasFile) {
                print.addWord(SHORT_FILE);
            } else {
                print.addSlice(frame.place);
            }
            closeFrame(frame.line);
        }

        private void openFrame(Slice owner, Slice method) {
            print.addWord(FRAME_START);
            print.addSlice(owner);
            print.add('.');
            print.addSlice(method);
            print.add('(');
            frameCount++;
        }

        private void closeFrame(int line) {
            if (line != NONE) {
                print.add(':');
                print.addNumber(line);
            }
            print.addWord(")\n");
        }
    }

    /** The groups of crashes, and how a print becomes a key. */
    private static final class CrashBook {
        final long[] keys;
        final int[] times;
        final int[] firsts;
        final int[] lasts;
        int size;
        private int reportCount;

        CrashBook() {
            keys = new long[MOST_CRASHES];
            times = new int[MOST_CRASHES];
            firsts = new int[MOST_CRASHES];
            lasts = new int[MOST_CRASHES];
        }

        /** The group with this key, or the place where it would come. */
        int placeOf(long key) {
            for (int i = 0; i < size; i++) {
                if (keys[i] == key) {
                    return i;
                }
            }
            return size;
        }

        /** The place has to be one of placeOf, and below the most groups there may be. */
        void enter(int place, long key) {
            reportCount++;
            if (place == size) {
                keys[place] = key;
                firsts[place] = reportCount;
                size++;
            }
            times[place]++;
            lasts[place] = reportCount;
        }

        static long keyOf(Text print) {
            long key = KEY_START;
            int start = 0;
            int taken = 0;
            int latestCall = NONE;
            for (int i = 0; i < print.size; i++) {
                if (print.codes[i] != '\n') {
                    continue;
                }
                if (print.hasWordAt(start, FRAME_START)) {
                    int call = start + FRAME_START.length();
                    if (latestCall == NONE || !isSameCall(print, latestCall, call)) {
                        key = taken < FRAMES_IN_KEY ? mixCall(key, print, call) : key;
                        taken++;
                        latestCall = call;
                    }
                } else if (!print.hasWordAt(start, MORE_START)) {
                    int type = start == 0 ? 0 : start + CAUSE_START.length();
                    key = mixHeader(key, print, type, i);
                    taken = 0;
                    latestCall = NONE;
                }
                start = i + 1;
            }
            return key;
        }

        private static boolean isSameCall(Text print, int one, int other) {
            int most = print.size - Math.max(one, other);
            for (int i = 0; i < most; i++) {
                if (print.codes[one + i] != print.codes[other + i]) {
                    return false;
                }
                if (print.codes[one + i] == '(') {
                    return true;
                }
            }
            return false;
        }

        private static long mixCall(long start, Text print, int call) {
            long key = start;
            int end = print.placeOf('(', call, print.size);
            for (int i = call; i < end; i++) {
                key = mix(key, print.codes[i]);
            }
            return mix(key, '\n');
        }

        private static long mixHeader(long start, Text print, int type, int end) {
            int colon = print.placeOf(':', type, end);
            long key = mixWithoutFigures(start, print, type, colon);
            key = mix(key, ':');
            key = mixWithoutFigures(key, print, colon + 2, end);
            return mix(key, '\n');
        }

        private static long mixWithoutFigures(long start, Text print, int from, int end) {
            long key = start;
            for (int i = from; i < end; i++) {
                char code = print.codes[i];
                if (!isFigure(code)) {
                    key = mix(key, code);
                } else if (i == from || !isFigure(print.codes[i - 1])) {
                    key = mix(key, '0');
                }
            }
            return key;
        }

        private static long mix(long key, char code) {
            return (key ^ code) * KEY_FACTOR;
        }
    }
}
