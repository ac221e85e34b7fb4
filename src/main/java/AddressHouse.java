import java.util.NoSuchElementException;

/** A house of address books that is spoken to over connections. */
public final class AddressHouse {
    public static final int NONE = -1;

    private static final int TAPE_ROOM = 6000;
    private static final int OUT_ROOM = 65536;
    private static final int BODY_LIMIT = 60000;
    /** Some bytes more than a body may have, for what is written and then taken back. */
    private static final int BODY_ROOM = 60100;
    private static final int WIRES = 4;

    private final Row tape;
    private final Row answers;
    private final Wire[] wires;
    private final House house;
    private final Card card;
    private final Scribe scribe;
    private final Xml xml;
    private final Listing listing;
    private final Clerk clerk;

    public AddressHouse() {
        tape = new Row(TAPE_ROOM);
        answers = new Row(OUT_ROOM);
        wires = new Wire[WIRES];
        for (int i = 0; i < WIRES; i++) {
            wires[i] = new Wire();
        }
        house = new House();
        card = new Card();
        xml = new Xml();
        scribe = new Scribe(card, xml);
        listing = new Listing(house, xml, new Row(BODY_ROOM));
        clerk = new Clerk(house, listing, card, xml);
    }

    public boolean feed(int a, int b, int c, int d, int e) {
        if (tape.size + 20 > TAPE_ROOM) {
            return false;
        }
        tape.four(a);
        tape.four(b);
        tape.four(c);
        tape.four(d);
        tape.four(e);
        return true;
    }

    public boolean end(int n) {
        if (n < 0 || n > tape.size) {
            return false;
        }
        tape.cutTo(n);
        return true;
    }

    public int user() {
        int number = house.addUser(tape);
        tape.clear();
        return number;
    }

    public int open() {
        for (int i = 0; i < WIRES; i++) {
            if (!wires[i].alive) {
                wires[i].alive = true;
                wires[i].next();
                return i;
            }
        }
        return NONE;
    }

    public int come(int c) throws IllegalStateException {
        if (!isOpen(c)) {
            throw new IllegalStateException("the connection is not open");
        }
        Wire wire = wires[c];
        answers.clear();
        int given = 0;
        for (int i = 0; i < tape.size && wire.alive; i++) {
            int event = wire.take(tape.at(i));
            if (event == Wire.MORE) {
                continue;
            }
            // The steps of an answer stand side by side here, so that no calls go deep.
            int method = clerk.begin(wire, event);
            clerk.xmlRight = method >= Clerk.PROPFIND && method <= Clerk.REPORT && xml.read(wire.load);
            if (method == Clerk.PUT) {
                clerk.keep();
            } else if (method == Clerk.GET || method == Clerk.HEAD) {
                clerk.fetch();
            } else {
                clerk.act(method);
                clerk.query();
            }
            scribe.pick(listing.dataElement);
            if (clerk.page != null) {
                scribe.write(clerk.version, clerk.page);
            }
            if (clerk.status == 207) {
                listing.start();
                for (int k = 0; k < listing.entryCount && !listing.body.over; k++) {
                    if (clerk.bringsCard(k)) {
                        scribe.write(clerk.version, listing.data);
                    }
                    listing.response(k);
                }
            }
            given += clerk.give(answers);
        }
        tape.clear();
        return given;
    }

    public boolean isOpen(int c) {
        return c >= 0 && c < WIRES && wires[c].alive;
    }

    public boolean shut(int c) {
        if (!isOpen(c)) {
            return false;
        }
        wires[c].alive = false;
        return true;
    }

    public int out() {
        return answers.size;
    }

    public int outAt(int i) throws NoSuchElementException {
        int b = answers.at(i);
        if (b == NONE) {
            throw new NoSuchElementException("no such byte");
        }
        return b;
    }

    public int turn(int version) {
        answers.clear();
        boolean right = (version == 0 || version == 3 || version == 4) && card.read(tape);
        tape.clear();
        if (!right) {
            return NONE;
        }
        scribe.pick(NONE);
        scribe.write(version, answers);
        return answers.size;
    }

    public int count(int what) {
        switch (what) {
            case 0:
                return house.bookCount();
            case 1:
                return house.itemCount();
            case 2:
                return house.changes;
            default:
                return NONE;
        }
    }

    /** Bytes in a row, filled from the front and never past its room; what does not go in is only remembered as over. */
    private static final class Row {
        static final String BASE64 = "ABCDEFGHIJKLMNOPQRSTUVWXYZabcdefghijklmnopqrstuvwxyz0123456789+/";

        final byte[] cells;
        int size;
        boolean over;

        Row(int room) {
            cells = new byte[room > 0 ? room : 0];
        }

        void clear() {
            size = 0;
            over = false;
        }

        void cutTo(int length) {
            if (length >= 0 && length < size) {
                size = length;
            }
        }

        int at(int i) {
            return i >= 0 && i < size ? cells[i] & 255 : NONE;
        }

        void put(int b) {
            if (size < cells.length) {
                cells[size] = (byte) b;
                size++;
            } else {
                over = true;
            }
        }

        void four(int n) {
            put(n >> 24);
            put(n >> 16);
            put(n >> 8);
            put(n);
        }

        void text(String s) {
            for (int i = 0; i < s.length(); i++) {
                if (size < cells.length) {
                    cells[size] = (byte) s.charAt(i);
                    size++;
                } else {
                    over = true;
                }
            }
        }

        void number(int n) {
            int unit = 1;
            while (unit < 1000000000 && n / unit >= 10) {
                unit *= 10;
            }
            for (; unit > 0; unit /= 10) {
                if (size < cells.length) {
                    cells[size] = (byte) ('0' + n / unit % 10);
                    size++;
                } else {
                    over = true;
                }
            }
        }

        void copy(Row r, int from, int to) {
            int length = to - from;
            if (from < 0 || to > r.size || length <= 0) {
                return;
            }
            if (length > cells.length - size) {
                length = cells.length - size;
                over = true;
            }
            System.arraycopy(r.cells, from, cells, size, length);
            size += length;
        }

        /** The bytes as they stand in XML: in a text, or in an attribute's value. */
        void escaped(Row r, int from, int to, boolean inAttribute) {
            for (int i = from; i < to && !over; i++) {
                int b = r.at(i);
                if (b == '&') {
                    text("&amp;");
                } else if (b == '<') {
                    text("&lt;");
                } else if (b == '>') {
                    text("&gt;");
                } else if (b == '"' && inAttribute) {
                    text("&quot;");
                } else {
                    put(b);
                }
            }
        }

        void utf8(int code) {
            if (code < 0x80) {
                put(code);
                return;
            }
            int more = widthOf(code) - 1;
            int mark = more == 1 ? 0xC0 : more == 2 ? 0xE0 : 0xF0;
            put(mark | code >> 6 * more);
            for (int k = more - 1; k >= 0; k--) {
                put(0x80 | code >> 6 * k & 0x3F);
            }
        }

        void capitals(int from, int to) {
            for (int i = from; i < to && i < size; i++) {
                if (i >= 0) {
                    cells[i] = (byte) high(cells[i]);
                }
            }
        }

        /** Word number n of a list of words with S between. */
        void word(String words, int n) {
            int word = 0;
            for (int i = 0; i < words.length(); i++) {
                char c = words.charAt(i);
                if (c == ' ') {
                    word++;
                } else if (word == n) {
                    put(c);
                }
            }
        }

        boolean is(int from, int to, String s) {
            if (from < 0 || to > size || to - from != s.length()) {
                return false;
            }
            for (int i = 0; i < s.length(); i++) {
                if ((cells[from + i] & 255) != s.charAt(i)) {
                    return false;
                }
            }
            return true;
        }

        boolean like(int from, int to, String s) {
            if (from < 0 || to > size || to - from != s.length()) {
                return false;
            }
            for (int i = 0; i < s.length(); i++) {
                int b = cells[from + i] & 255;
                int c = s.charAt(i);
                if (b != c && ((b ^ c) != 32 || (b | 32) < 'a' || (b | 32) > 'z')) {
                    return false;
                }
            }
            return true;
        }

        boolean same(int from, int to, Row r, int otherFrom, int otherTo) {
            if (from < 0 || to > size || otherFrom < 0 || otherTo > r.size || to - from != otherTo - otherFrom) {
                return false;
            }
            for (int i = 0; i < to - from; i++) {
                if (cells[from + i] != r.cells[otherFrom + i]) {
                    return false;
                }
            }
            return true;
        }

        boolean alike(int from, int to, Row r, int otherFrom, int otherTo) {
            if (from < 0 || to > size || otherFrom < 0 || otherTo > r.size || to - from != otherTo - otherFrom) {
                return false;
            }
            for (int i = 0; i < to - from; i++) {
                int b = cells[from + i] & 255;
                int c = r.cells[otherFrom + i] & 255;
                if (b != c && ((b ^ c) != 32 || (b | 32) < 'a' || (b | 32) > 'z')) {
                    return false;
                }
            }
            return true;
        }

        boolean starts(int i, String s) {
            return is(i, i + s.length(), s);
        }

        /** Where s first stands at from or behind it, or NONE. */
        int find(int from, String s) {
            for (int i = from; i + s.length() <= size; i++) {
                if (starts(i, s)) {
                    return i;
                }
            }
            return NONE;
        }

        /** Where byte b first stands in from .. to, or to. */
        int indexOf(int b, int from, int to) {
            for (int i = from; i < to && i < size; i++) {
                if (i >= 0 && (cells[i] & 255) == b) {
                    return i;
                }
            }
            return to;
        }

        /** Which word of a list with S between stands at from .. to, or NONE; with loose, LIKE a list in small letters. */
        int wordOf(String words, int from, int to, boolean loose) {
            int word = 0;
            int i = from;
            boolean right = true;
            for (int k = 0; k < words.length(); k++) {
                char c = words.charAt(k);
                if (c != ' ') {
                    int b = i >= 0 && i < to && i < size ? cells[i] : NONE;
                    right = right && (b == c || loose && b >= 'A' && b <= 'Z' && b + 32 == c);
                    i++;
                } else if (right && i == to) {
                    return word;
                } else {
                    word++;
                    i = from;
                    right = true;
                }
            }
            return right && i == to ? word : NONE;
        }

        /** The character that begins at i, or NONE when no right one does. */
        int codeAt(int i) {
            int first = at(i);
            if (first < 0x80) {
                return first;
            }
            if (first < 0xC2 || first > 0xF4) {
                return NONE;
            }
            int more = first >= 0xF0 ? 3 : first >= 0xE0 ? 2 : 1;
            int code = first & 0x3F >> more;
            for (int k = 1; k <= more; k++) {
                int b = at(i + k);
                if (b < 0x80 || b > 0xBF) {
                    return NONE;
                }
                code = code << 6 | b & 0x3F;
            }
            boolean shortest = widthOf(code) == more + 1;
            return shortest && code <= 0x10FFFF && (code < 0xD800 || code > 0xDFFF) ? code : NONE;
        }

        /** Whether from .. to is base64, perhaps of nothing. */
        boolean isBase64(int from, int to) {
            if ((to - from & 3) != 0) {
                return false;
            }
            int last = to;
            while (last > from && to - last < 2 && at(last - 1) == '=') {
                last--;
            }
            for (int i = from; i < last; i++) {
                if (sixBits(at(i)) == NONE) {
                    return false;
                }
            }
            int unused = to - last == 2 ? 15 : to - last == 1 ? 3 : 0;
            return unused == 0 || (sixBits(at(last - 1)) & unused) == 0;
        }

        static int sixBits(int b) {
            return b > 0 ? BASE64.indexOf((char) b) : NONE;
        }

        static int widthOf(int code) {
            return code < 0x80 ? 1 : code < 0x800 ? 2 : code < 0x10000 ? 3 : 4;
        }

        static int low(int b) {
            return b >= 'A' && b <= 'Z' ? b + 32 : b;
        }

        static int high(int b) {
            return b >= 'a' && b <= 'z' ? b - 32 : b;
        }

        static boolean isDigit(int b) {
            return b >= '0' && b <= '9';
        }

        static boolean isLetter(int b) {
            return b >= 'A' && b <= 'Z' || b >= 'a' && b <= 'z';
        }

        /** Letters, digits, - : what names of headers, properties and parameters are made of. */
        static boolean isNameByte(int b) {
            return isLetter(b) || isDigit(b) || b == '-';
        }

        static boolean isBlank(int b) {
            return b == 32 || b == 9 || b == 10 || b == 13;
        }

        static int hexOf(int b) {
            if (isDigit(b)) {
                return b - '0';
            }
            int letter = low(b);
            return letter >= 'a' && letter <= 'f' ? letter - 'a' + 10 : NONE;
        }
    }

    /** A connection: takes bytes one by one until a request is whole or can't be right. */
    private static final class Wire {
        static final int MORE = 0;
        static final int WHOLE = 1;

        static final String HEADERS = "host authorization content-length transfer-encoding connection content-type accept depth if-match if-none-match";
        static final int HOST = 0;
        static final int AUTHORIZATION = 1;
        static final int CONTENT_LENGTH = 2;
        static final int TRANSFER_ENCODING = 3;
        static final int CONNECTION = 4;
        static final int CONTENT_TYPE = 5;
        static final int ACCEPT = 6;
        static final int DEPTH = 7;
        static final int IF_MATCH = 8;
        static final int IF_NONE_MATCH = 9;
        static final int KNOWN = 10;

        static final int HEAD_ROOM = 2000;
        static final int LOAD_ROOM = 3000;

        static final int IN_HEAD = 0;
        static final int IN_BODY = 1;
        static final int IN_NUMBER = 2;
        static final int NUMBER_LF = 3;
        static final int IN_CHUNK = 4;
        static final int CHUNK_CR = 5;
        static final int CHUNK_LF = 6;
        static final int LAST_CR = 7;
        static final int LAST_LF = 8;

        final Row head;
        final Row load;
        final int[] from;
        final int[] to;
        boolean alive;
        int methodTo;
        int targetTo;
        private int state;
        private int need;
        private int digits;
        private boolean twice;

        Wire() {
            head = new Row(HEAD_ROOM);
            load = new Row(LOAD_ROOM);
            from = new int[KNOWN];
            to = new int[KNOWN];
        }

        /** Makes ready for the next request. */
        void next() {
            head.clear();
            load.clear();
            state = IN_HEAD;
        }

        /** One more byte: MORE, WHOLE, or the status of a request that can't be right. */
        int take(int b) {
            switch (state) {
                case IN_HEAD:
                    return takeHead(b);
                case IN_BODY:
                    load.put(b);
                    return load.size >= need ? WHOLE : MORE;
                case IN_NUMBER:
                    return takeDigit(b);
                case IN_CHUNK:
                    load.put(b);
                    need--;
                    if (need <= 0) {
                        state = CHUNK_CR;
                    }
                    return MORE;
                default:
                    return takeLineEnd(b);
            }
        }

        private int takeHead(int b) {
            if (head.size >= HEAD_ROOM) {
                return 431;
            }
            head.put(b);
            if (b != 10 || !head.starts(head.size - 4, "\r\n\r\n")) {
                return MORE;
            }
            for (int i = 0; i < KNOWN; i++) {
                from[i] = NONE;
                to[i] = NONE;
            }
            twice = false;
            return readLines() ? judge() : 400;
        }

        private boolean readLines() {
            int start = 0;
            int lines = 0;
            for (int i = 0; i < head.size - 2; i++) {
                if (head.at(i) == 13 && head.at(i + 1) == 10) {
                    boolean right = lines == 0 ? requestLine(i) : lines <= 20 && headerLine(start, i);
                    if (!right) {
                        return false;
                    }
                    lines++;
                    start = i + 2;
                }
            }
            return true;
        }

        private boolean requestLine(int end) {
            int i = 0;
            while (i < end && head.at(i) >= 'A' && head.at(i) <= 'Z') {
                i++;
            }
            methodTo = i;
            if (i < 1 || i > 20 || head.at(i) != ' ') {
                return false;
            }
            i++;
            while (i < end && head.at(i) > 32 && head.at(i) < 127) {
                i++;
            }
            targetTo = i;
            int length = targetTo - methodTo - 1;
            if (length < 1 || length > 200 || end - i != 9 || !head.starts(i, " HTTP/")) {
                return false;
            }
            return Row.isDigit(head.at(i + 6)) && head.at(i + 7) == '.' && Row.isDigit(head.at(i + 8));
        }

        private boolean headerLine(int start, int end) {
            int colon = start;
            while (colon < end && Row.isNameByte(head.at(colon))) {
                colon++;
            }
            if (colon == start || colon - start > 40 || head.at(colon) != ':') {
                return false;
            }
            int first = colon + 1;
            int last = end;
            while (first < last && (head.at(first) == 32 || head.at(first) == 9)) {
                first++;
            }
            while (last > first && (head.at(last - 1) == 32 || head.at(last - 1) == 9)) {
                last--;
            }
            for (int i = first; i < last; i++) {
                int b = head.at(i);
                if (b != 9 && (b < 32 || b > 126)) {
                    return false;
                }
            }
            int header = head.wordOf(HEADERS, start, colon, true);
            if (header >= 0 && header < KNOWN) {
                twice = twice || from[header] != NONE;
                from[header] = first;
                to[header] = last;
            }
            return true;
        }

        /** What the whole HEAD brings: MORE or WHOLE by its body, or the status of what is wrong with it. */
        private int judge() {
            if (!head.starts(targetTo, " HTTP/1.1")) {
                return 505;
            }
            boolean chunked = has(TRANSFER_ENCODING);
            if (!has(HOST) || twice || chunked && has(CONTENT_LENGTH)) {
                return 400;
            }
            if (chunked) {
                state = IN_NUMBER;
                need = 0;
                digits = 0;
                return isLike(TRANSFER_ENCODING, "chunked") ? MORE : 501;
            }
            state = IN_BODY;
            need = 0;
            if (!has(CONTENT_LENGTH)) {
                return WHOLE;
            }
            int length = to[CONTENT_LENGTH] - from[CONTENT_LENGTH];
            for (int i = 0; i < length && i < 9; i++) {
                int b = head.at(from[CONTENT_LENGTH] + i);
                if (!Row.isDigit(b)) {
                    return 400;
                }
                need = need * 10 + b - '0';
            }
            if (length < 1 || length > 9) {
                return 400;
            }
            return need > LOAD_ROOM ? 413 : need == 0 ? WHOLE : MORE;
        }

        private int takeDigit(int b) {
            int digit = Row.hexOf(b);
            if (digit != NONE && digits < 4) {
                need = need * 16 + digit;
                digits++;
                return MORE;
            }
            if (b == 13 && digits > 0) {
                state = NUMBER_LF;
                return MORE;
            }
            return 400;
        }

        private int takeLineEnd(int b) {
            boolean lineFeed = state == NUMBER_LF || state == CHUNK_LF || state == LAST_LF;
            if (b != (lineFeed ? 10 : 13)) {
                return 400;
            }
            if (state == NUMBER_LF) {
                state = need == 0 ? LAST_CR : IN_CHUNK;
                return load.size + need > LOAD_ROOM ? 413 : MORE;
            }
            if (state == LAST_LF) {
                return WHOLE;
            }
            if (state == CHUNK_LF) {
                state = IN_NUMBER;
                need = 0;
                digits = 0;
            } else {
                state = state == CHUNK_CR ? CHUNK_LF : LAST_LF;
            }
            return MORE;
        }

        boolean has(int header) {
            return header >= 0 && header < KNOWN && from[header] != NONE;
        }

        boolean isLike(int header, String s) {
            return has(header) && head.like(from[header], to[header], s);
        }
    }

    /** A BOOK: what is told of it, who reads it, and the names that were deleted in it. */
    private static final class Book {
        static final int KEPT = 20;

        int owner;
        int made;
        final Row name;
        final Row title;
        boolean hasTitle;
        final Row note;
        boolean hasNote;
        final int[] readers;
        int readerCount;
        final Row[] goneNames;
        final int[] goneChanges;
        int goneCount;
        int forgotten;

        Book() {
            owner = NONE;
            name = new Row(20);
            title = new Row(60);
            note = new Row(60);
            readers = new int[House.USERS];
            goneNames = new Row[KEPT];
            for (int i = 0; i < KEPT; i++) {
                goneNames[i] = new Row(20);
            }
            goneChanges = new int[KEPT];
        }

        /** Makes the book anew. */
        void make(int itsOwner, int change) {
            owner = itsOwner;
            made = change;
            hasTitle = false;
            hasNote = false;
            readerCount = 0;
            goneCount = 0;
            forgotten = 0;
        }

        boolean isReader(int user) {
            for (int i = 0; i < readerCount && i < readers.length; i++) {
                if (readers[i] == user) {
                    return true;
                }
            }
            return false;
        }

        void addReader(int user) {
            if (!isReader(user) && readerCount < readers.length) {
                readers[readerCount] = user;
                readerCount++;
            }
        }

        /** Keeps a deleted name in mind; deletions come by rising changes, so the first one is the oldest. */
        void addGone(Row deleted, int change) {
            if (goneCount >= KEPT) {
                forgotten = goneChanges[0];
                dropGone(0);
            }
            goneNames[goneCount].clear();
            goneNames[goneCount].copy(deleted, 0, deleted.size);
            goneChanges[goneCount] = change;
            goneCount++;
        }

        /** A name that is there again is no longer a deleted one. */
        void comeBack(Row back) {
            for (int i = 0; i < goneCount; i++) {
                if (goneNames[i].same(0, goneNames[i].size, back, 0, back.size)) {
                    dropGone(i);
                    return;
                }
            }
        }

        Row goneName(int i) {
            return i >= 0 && i < KEPT ? goneNames[i] : name;
        }

        int goneChange(int i) {
            return i >= 0 && i < KEPT ? goneChanges[i] : 0;
        }

        private void dropGone(int gone) {
            Row free = goneNames[gone];
            for (int i = gone; i + 1 < goneCount; i++) {
                goneNames[i] = goneNames[i + 1];
                goneChanges[i] = goneChanges[i + 1];
            }
            goneCount--;
            goneNames[goneCount] = free;
        }
    }

    /** A CARD as it is kept, written by the house. */
    private static final class Item {
        int book;
        int change;
        final Row name;
        final Row text;
        final Row uid;

        Item() {
            book = NONE;
            name = new Row(20);
            text = new Row(House.TEXT_ROOM);
            uid = new Row(House.CARD_LIMIT);
        }
    }

    /** Users, BOOKS and CARDS, and where paths lead among them. */
    private static final class House {
        static final int USERS = 4;
        static final int BOOKS = 6;
        static final int ITEMS = 16;
        static final int CARD_LIMIT = 800;
        /** Writing at most doubles a card's bytes, and cutting its lines adds 3 of 72. */
        static final int TEXT_ROOM = 2000;

        static final int ROOT = 0;
        static final int PRINCIPAL = 1;
        static final int HOME = 2;
        static final int BOOK = 3;
        static final int CARD = 4;
        static final int NO_BOOK = 5;
        static final int NO_CARD = 6;
        static final int NOWHERE = 7;

        final Row[] users;
        final int[] nameTo;
        int userCount;
        final Book[] books;
        final Item[] items;
        int changes;
        final int[] order;
        private final Row secret;
        private final Book noBook;
        private final Item noItem;

        final Row path;
        int kind;
        int owner;
        int book;
        int item;
        int lastFrom;
        int lastTo;

        House() {
            users = new Row[USERS];
            nameTo = new int[USERS];
            for (int i = 0; i < USERS; i++) {
                users[i] = new Row(33);
            }
            books = new Book[BOOKS];
            for (int i = 0; i < BOOKS; i++) {
                books[i] = new Book();
            }
            items = new Item[ITEMS];
            for (int i = 0; i < ITEMS; i++) {
                items[i] = new Item();
            }
            order = new int[ITEMS];
            secret = new Row(64);
            noBook = new Book();
            noItem = new Item();
            path = new Row(Wire.LOAD_ROOM);
        }

        int addUser(Row row) {
            int colon = 0;
            while (colon < row.size && row.at(colon) >= 'a' && row.at(colon) <= 'z') {
                colon++;
            }
            int rest = row.size - colon - 1;
            if (colon < 1 || colon > 12 || row.at(colon) != ':' || rest < 1 || rest > 20) {
                return NONE;
            }
            for (int i = colon + 1; i < row.size; i++) {
                if (row.at(i) < 33 || row.at(i) > 126) {
                    return NONE;
                }
            }
            if (userCount >= USERS || userNamed(row, 0, colon) != NONE) {
                return NONE;
            }
            users[userCount].copy(row, 0, row.size);
            nameTo[userCount] = colon;
            userCount++;
            return userCount - 1;
        }

        /** A BOOK by its number, an empty one when there is none. */
        Book bookAt(int i) {
            return i >= 0 && i < BOOKS ? books[i] : noBook;
        }

        /** A CARD by its number, an empty one when there is none. */
        Item itemAt(int i) {
            return i >= 0 && i < ITEMS ? items[i] : noItem;
        }

        /** Brings the name of a user behind a row. */
        void nameOf(int i, Row into) {
            if (i >= 0 && i < userCount) {
                into.copy(users[i], 0, nameTo[i]);
            }
        }

        int userNamed(Row row, int from, int to) {
            for (int i = 0; i < userCount; i++) {
                if (users[i].same(0, nameTo[i], row, from, to)) {
                    return i;
                }
            }
            return NONE;
        }

        /** The user whom an Authorization names, or NONE. */
        int userOf(Row row, int from, int to) {
            int i = from + 5;
            if (!row.like(from, i, "Basic") || row.at(i) != 32) {
                return NONE;
            }
            while (i < to && row.at(i) == 32) {
                i++;
            }
            if (!row.isBase64(i, to)) {
                return NONE;
            }
            decode(row, i, to);
            for (int u = 0; u < userCount && !secret.over; u++) {
                if (users[u].same(0, users[u].size, secret, 0, secret.size)) {
                    return u;
                }
            }
            return NONE;
        }

        private void decode(Row row, int from, int to) {
            secret.clear();
            int bits = 0;
            int held = 0;
            for (int i = from; i < to && row.at(i) != '='; i++) {
                bits = (bits << 6 | Row.sixBits(row.at(i))) & 0xFFFF;
                held += 6;
                if (held >= 8) {
                    held -= 8;
                    secret.put(bits >> held);
                }
            }
        }

        /** Follows a TARGET: 0 when it is a path (the fields then say to what), else the status. */
        int follow(Row row, int from, int to) {
            int until = row.indexOf('?', from, to);
            path.clear();
            for (int i = from; i < until; i++) {
                int b = row.at(i);
                if (b == '%') {
                    int tens = i + 2 < until ? Row.hexOf(row.at(i + 1)) : NONE;
                    int ones = i + 2 < until ? Row.hexOf(row.at(i + 2)) : NONE;
                    if (tens == NONE || ones == NONE) {
                        return 400;
                    }
                    b = tens * 16 + ones;
                    i += 2;
                }
                path.put(b);
            }
            return lead() ? 0 : 404;
        }

        private boolean lead() {
            int size = path.size;
            owner = NONE;
            book = NONE;
            item = NONE;
            if (size == 0 || size == 1 && path.at(0) == '/') {
                kind = ROOT;
                return true;
            }
            boolean principal = path.starts(0, "/p/");
            if (!principal && !path.starts(0, "/a/")) {
                return false;
            }
            int to = path.indexOf('/', 3, size);
            owner = userNamed(path, 3, to);
            if (owner == NONE || principal && to + 1 < size) {
                return false;
            }
            if (to + 1 >= size) {
                kind = principal ? PRINCIPAL : HOME;
                return true;
            }
            int bookFrom = to + 1;
            to = path.indexOf('/', bookFrom, size);
            if (!isPlain(bookFrom, to)) {
                return false;
            }
            book = bookNamed(bookFrom, to);
            if (to + 1 >= size) {
                kind = book == NONE ? NO_BOOK : BOOK;
                return true;
            }
            if (!isPlain(to + 1, size)) {
                return false;
            }
            item = book == NONE ? NONE : itemNamed(to + 1, size);
            kind = book == NONE ? NOWHERE : item == NONE ? NO_CARD : CARD;
            return true;
        }

        /** Whether a part of the path is a name for a BOOK or a CARD; the last one asked is remembered. */
        private boolean isPlain(int from, int to) {
            lastFrom = from;
            lastTo = to;
            if (to - from < 1 || to - from > 20) {
                return false;
            }
            for (int i = from; i < to; i++) {
                int b = path.at(i);
                boolean sign = i > from && (b == '-' || b == '_' || b == '.');
                if (!Row.isLetter(b) && !Row.isDigit(b) && !sign) {
                    return false;
                }
            }
            return true;
        }

        private int bookNamed(int from, int to) {
            for (int i = 0; i < BOOKS; i++) {
                if (books[i].owner == owner && books[i].name.same(0, books[i].name.size, path, from, to)) {
                    return i;
                }
            }
            return NONE;
        }

        private int itemNamed(int from, int to) {
            for (int i = 0; i < ITEMS; i++) {
                if (items[i].book == book && items[i].name.same(0, items[i].name.size, path, from, to)) {
                    return i;
                }
            }
            return NONE;
        }

        int bookCount() {
            int sum = 0;
            for (int i = 0; i < BOOKS; i++) {
                if (books[i].owner != NONE) {
                    sum++;
                }
            }
            return sum;
        }

        int itemCount() {
            int sum = 0;
            for (int i = 0; i < ITEMS; i++) {
                if (items[i].book != NONE) {
                    sum++;
                }
            }
            return sum;
        }

        /** Makes the BOOK at whose place the path leads. */
        boolean makeBook() {
            for (int i = 0; i < BOOKS; i++) {
                if (books[i].owner == NONE) {
                    changes++;
                    books[i].make(owner, changes);
                    books[i].name.clear();
                    books[i].name.copy(path, lastFrom, lastTo);
                    return true;
                }
            }
            return false;
        }

        void dropBook(int which) {
            changes++;
            bookAt(which).owner = NONE;
            for (int i = 0; i < ITEMS; i++) {
                if (items[i].book == which) {
                    items[i].book = NONE;
                }
            }
        }

        void dropItem(int which) {
            changes++;
            Item it = itemAt(which);
            bookAt(it.book).addGone(it.name, changes);
            it.book = NONE;
        }

        /** The CARD at the path's end, a new one if there is none; NONE when there is no room. */
        int placeItem() {
            if (item != NONE) {
                return item;
            }
            for (int i = 0; i < ITEMS; i++) {
                if (items[i].book == NONE) {
                    items[i].book = book;
                    items[i].name.clear();
                    items[i].name.copy(path, lastFrom, lastTo);
                    bookAt(book).comeBack(items[i].name);
                    return i;
                }
            }
            return NONE;
        }

        /** The CARD that forbids a UID at the path's end, or NONE. */
        int conflict(Row uid) {
            Row own = itemAt(item).uid;
            if (item != NONE && !uid.same(0, uid.size, own, 0, own.size)) {
                return item;
            }
            for (int i = 0; i < ITEMS; i++) {
                Row other = items[i].uid;
                if (i != item && items[i].book == book && uid.same(0, uid.size, other, 0, other.size)) {
                    return i;
                }
            }
            return NONE;
        }

        /** Puts the BOOKS of a user into the order of their names: how many there are. */
        int orderBooks(int user) {
            int n = 0;
            for (int i = 0; i < BOOKS; i++) {
                if (books[i].owner == user) {
                    int k = n;
                    while (k > 0 && isAhead(books[i].name, books[order[k - 1]].name)) {
                        order[k] = order[k - 1];
                        k--;
                    }
                    order[k] = i;
                    n++;
                }
            }
            return n;
        }

        /** Puts the CARDS of a BOOK into the order of their names: how many there are. */
        int orderItems(int which) {
            int n = 0;
            for (int i = 0; i < ITEMS; i++) {
                if (items[i].book == which) {
                    int k = n;
                    while (k > 0 && isAhead(items[i].name, items[order[k - 1]].name)) {
                        order[k] = order[k - 1];
                        k--;
                    }
                    order[k] = i;
                    n++;
                }
            }
            return n;
        }

        private static boolean isAhead(Row a, Row b) {
            int i = 0;
            while (i < a.size && i < b.size && a.at(i) == b.at(i)) {
                i++;
            }
            return a.at(i) < b.at(i);
        }
    }

    /** A CARD as it is read: its lines unfolded, with their parts found and their values looked at. */
    private static final class Card {
        static final String NAMES = "FN N UID BDAY MAILER TZ SORT-STRING CLASS PRODID GEO REV NICKNAME CATEGORIES ADR ORG LABEL TEL EMAIL TITLE ROLE NOTE URL PHOTO LOGO SOUND KEY ANNIVERSARY GENDER KIND LANG IMPP MEMBER RELATED SOURCE BEGIN END VERSION";
        static final int FN = 0;
        static final int N = 1;
        static final int UID = 2;
        static final int BDAY = 3;
        static final int MAILER = 4;
        static final int TZ = 5;
        static final int SORT_STRING = 6;
        static final int CLASS = 7;
        static final int GEO = 9;
        static final int REV = 10;
        static final int ADR = 13;
        static final int LABEL = 15;
        static final int PHOTO = 22;
        static final int SOUND = 24;
        static final int KEY = 25;
        static final int ANNIVERSARY = 26;
        static final int SOURCE = 33;
        static final int TOLD = 34;

        /** How values are built, a sign for each of NAMES: the kinds below, p for BINARY or URI, 2 5 7 for PARTS, x for no name of a property. */
        static final String BUILT_3 = "t5tdtttttgsll77ttttttupppprrrrrrrrxxx";
        static final String BUILT_4 = "t5tdrtrrtgsll77rtttttuuuuud2tauuuuxxx";
        /** How often a property stands: 1 exactly once, ? at most once, + once or more, * as often as it likes. */
        static final String OFTEN_3 = "111????????***********************";
        static final String OFTEN_4 = "+?1?****?*?***************???*****";

        static final int TEXT = 't';
        static final int LIST = 'l';
        static final int PARTS = '7';
        static final int DATE = 'd';
        static final int STAMP = 's';
        static final int GEO_POINT = 'g';
        static final int LANGUAGE = 'a';
        static final int URI = 'u';
        static final int BINARY = 'b';
        static final int RAW = 'r';
        static final int WRONG = 'x';

        static final String PARAMETERS = "TYPE PREF VALUE ENCODING CHARSET LABEL SORT-AS";
        static final int P_TYPE = 0;
        static final int P_PREF = 1;
        static final int P_VALUE = 2;
        static final int P_ENCODING = 3;
        static final int P_CHARSET = 4;
        static final int P_LABEL = 5;
        static final int P_SORT_AS = 6;

        static final int MOST = 40;
        static final int MOST_PARAMETERS = 8;
        static final int MOST_VALUES = 8;

        /** The cells of a property. */
        static final int START = 0;
        static final int NAME = 1;
        static final int NAME_TO = 2;
        static final int CODE = 3;
        static final int KIND = 4;
        static final int VALUE = 5;
        static final int VALUE_TO = 6;
        static final int FIRST = 7;
        static final int FIRST_TO = 8;
        static final int CELLS = 9;

        static final int[] DAYS = {31, 29, 31, 30, 31, 30, 31, 31, 30, 31, 30, 31};

        final Row text;
        int version;
        final int[][] properties;
        int size;
        final int[][] parameters;
        int parameterCount;
        final int[] valueFrom;
        final int[] valueTo;
        int valueCount;
        private final int[] tally;

        Card() {
            text = new Row(TAPE_ROOM);
            properties = new int[MOST][CELLS];
            parameters = new int[MOST * MOST_PARAMETERS][CELLS];
            valueFrom = new int[MOST * MOST_PARAMETERS * MOST_VALUES];
            valueTo = new int[MOST * MOST_PARAMETERS * MOST_VALUES];
            tally = new int[TOLD];
        }

        /** Whether a row is a CARD, which then is here to be looked at. */
        boolean read(Row row) {
            unfold(row);
            version = 0;
            size = 0;
            parameterCount = 0;
            valueCount = 0;
            for (int i = 0; i < TOLD; i++) {
                tally[i] = 0;
            }
            if (!isClean()) {
                return false;
            }
            int start = 0;
            int lines = 0;
            for (int i = 0; i < text.size; i++) {
                if (text.at(i) == 13) {
                    boolean inside = lines > 1 && i + 2 < text.size;
                    boolean right = inside ? property(start, i) && isBuilt() : isFrame(lines, start, i);
                    if (!right) {
                        return false;
                    }
                    lines++;
                    start = i + 2;
                }
            }
            return start == text.size && size > 0 && isComplete();
        }

        private void unfold(Row row) {
            text.clear();
            for (int i = 0; i < row.size; i++) {
                int b = row.at(i);
                if (b == 13 && row.at(i + 1) == 10 && (row.at(i + 2) == 32 || row.at(i + 2) == 9)) {
                    i += 2;
                } else {
                    text.put(b);
                }
            }
        }

        /** Whether the bytes may stand in a CARD at all. */
        private boolean isClean() {
            for (int i = 0; i < text.size; i++) {
                int code = text.codeAt(i);
                if (code == 13 && text.at(i + 1) == 10) {
                    i++;
                } else if (code < 32 && code != 9 || code == 127) {
                    return false;
                } else {
                    i += Row.widthOf(code) - 1;
                }
            }
            return true;
        }

        /** Whether a line is the right one of BEGIN, VERSION and END. */
        private boolean isFrame(int number, int start, int end) {
            if (number == 0) {
                return text.like(start, end, "BEGIN:VCARD");
            }
            if (number > 1) {
                return text.like(start, end, "END:VCARD");
            }
            version = text.like(start, end, "VERSION:3.0") ? 3 : text.like(start, end, "VERSION:4.0") ? 4 : 0;
            return version != 0;
        }

        private boolean isComplete() {
            String often = version == 3 ? OFTEN_3 : OFTEN_4;
            for (int i = 0; i < TOLD && i < often.length(); i++) {
                char c = often.charAt(i);
                boolean few = tally[i] == 0 && (c == '1' || c == '+');
                boolean many = tally[i] > 1 && (c == '1' || c == '?');
                if (few || many) {
                    return false;
                }
            }
            return true;
        }

        private int wordEnd(int start) {
            int i = start;
            while (i < text.size && Row.isNameByte(text.at(i))) {
                i++;
            }
            return i;
        }

        private static boolean hasWrongLength(int from, int to) {
            return to - from < 1 || to - from > 30;
        }

        private boolean property(int start, int end) {
            if (size >= MOST) {
                return false;
            }
            int name = start;
            int i = wordEnd(start);
            if (text.at(i) == '.') {
                if (hasWrongLength(start, i)) {
                    return false;
                }
                name = i + 1;
                i = wordEnd(name);
            }
            if (hasWrongLength(name, i)) {
                return false;
            }
            int[] p = properties[size];
            text.capitals(name, i);
            p[START] = start;
            p[NAME] = name;
            p[NAME_TO] = i;
            p[CODE] = text.wordOf(NAMES, name, i, false);
            p[FIRST] = parameterCount;
            for (int k = 0; k < MOST_PARAMETERS && text.at(i) == ';'; k++) {
                i = parameter(p[FIRST], i + 1);
            }
            p[FIRST_TO] = parameterCount;
            if (text.at(i) != ':') {
                return false;
            }
            p[VALUE] = i + 1;
            p[VALUE_TO] = end;
            p[KIND] = kindOf(p);
            size++;
            if (p[CODE] >= 0 && p[CODE] < TOLD) {
                tally[p[CODE]]++;
            }
            return true;
        }

        /** Reads a parameter at start: where it ends, or NONE when it is none. */
        private int parameter(int first, int start) {
            int i = wordEnd(start);
            if (hasWrongLength(start, i) || text.at(i) != '=' || parameterCount >= parameters.length) {
                return NONE;
            }
            text.capitals(start, i);
            for (int k = first; k < parameterCount; k++) {
                if (text.same(parameters[k][NAME], parameters[k][NAME_TO], text, start, i)) {
                    return NONE;
                }
            }
            int[] q = parameters[parameterCount];
            parameterCount++;
            q[NAME] = start;
            q[NAME_TO] = i;
            q[CODE] = text.wordOf(PARAMETERS, start, i, false);
            q[FIRST] = valueCount;
            for (int k = 0; k < MOST_VALUES && (k == 0 || text.at(i) == ','); k++) {
                i = parameterValue(i + 1);
            }
            q[FIRST_TO] = valueCount;
            return text.at(i) == ';' || text.at(i) == ':' ? i : NONE;
        }

        /** Reads a parameter's value: where it ends. */
        private int parameterValue(int start) {
            boolean quoted = text.at(start) == '"';
            int from = quoted ? start + 1 : start;
            int i = from;
            while (i < text.size && !endsValue(text.at(i), quoted)) {
                i++;
            }
            if (valueCount < valueFrom.length) {
                valueFrom[valueCount] = from;
                valueTo[valueCount] = i;
                valueCount++;
            }
            if (quoted) {
                return text.at(i) == '"' ? i + 1 : NONE;
            }
            return i;
        }

        private static boolean endsValue(int b, boolean quoted) {
            if (b == '"' || b == 9 || b == 13) {
                return true;
            }
            return !quoted && (b == ';' || b == ':' || b == ',');
        }

        /** The number of a property's parameter by its code, or NONE. */
        int parameterOf(int[] p, int code) {
            for (int k = p[FIRST]; k < p[FIRST_TO]; k++) {
                if (parameters[k][CODE] == code) {
                    return k;
                }
            }
            return NONE;
        }

        /** Whether a parameter has just one value, LIKE s. */
        boolean says(int parameter, String s) {
            if (parameter < 0 || parameter >= parameterCount) {
                return false;
            }
            int v = parameters[parameter][FIRST];
            return parameters[parameter][FIRST_TO] == v + 1 && text.like(valueFrom[v], valueTo[v], s);
        }

        private int kindOf(int[] p) {
            int code = p[CODE];
            String built = version == 3 ? BUILT_3 : BUILT_4;
            if (code < 0 || code >= built.length()) {
                return RAW;
            }
            int kind = built.charAt(code);
            if (kind == 'p') {
                int encoding = parameterOf(p, P_ENCODING);
                if (encoding != NONE) {
                    return says(encoding, "b") ? BINARY : WRONG;
                }
                kind = URI;
            }
            boolean open = kind == DATE || kind == STAMP || kind == LANGUAGE || kind == GEO_POINT || kind == URI;
            return open && says(parameterOf(p, P_VALUE), "text") ? TEXT : kind;
        }

        /** Whether the latest property's value is built as its kind wants; PARTS are told by one sign from then on. */
        private boolean isBuilt() {
            int[] p = propertyAt(size - 1);
            int from = p[VALUE];
            int to = p[VALUE_TO];
            switch (p[KIND]) {
                case TEXT:
                    return isText(from, to, 0) && (p[CODE] != UID || to > from);
                case LIST:
                    return isText(from, to, 0);
                case '2':
                case '5':
                case PARTS:
                    int most = p[KIND] - '0';
                    p[KIND] = PARTS;
                    return isText(from, to, most);
                case DATE:
                    return version == 3 ? isDate3(from, to) : isDate4(from, to);
                case STAMP:
                    return version == 3 ? isDate3(from, to) : isStamp4(from, to);
                case GEO_POINT:
                    return isPoint(from, to);
                case LANGUAGE:
                    return to > from && to - from <= 20 && wordEnd(from) == to;
                case URI:
                    return isUri(from, to);
                case BINARY:
                    return to > from && text.isBase64(from, to);
                default:
                    return p[KIND] == RAW;
            }
        }

        /** Whether each \ is right and, with most above 0, there are at most so many parts. */
        private boolean isText(int from, int to, int most) {
            int parts = 1;
            for (int i = from; i < to; i++) {
                int b = text.at(i);
                if (b == '\\') {
                    i++;
                    int c = i < to ? text.at(i) : NONE;
                    if (c != '\\' && c != ',' && c != ';' && c != 'n' && c != 'N') {
                        return false;
                    }
                } else if (b == ';') {
                    parts++;
                }
            }
            return most == 0 || parts <= most;
        }

        private boolean isUri(int from, int to) {
            for (int i = from; i < to; i++) {
                if (text.at(i) < 33 || text.at(i) > 126) {
                    return false;
                }
            }
            return to > from;
        }

        private boolean isPoint(int from, int to) {
            int start = from;
            if (version == 4) {
                if (!text.starts(from, "geo:")) {
                    return false;
                }
                start += 4;
            }
            int i = floatEnd(start);
            return text.at(i) == (version == 3 ? ';' : ',') && floatEnd(i + 1) == to;
        }

        private int digitsEnd(int start, int most) {
            int i = start;
            while (i - start < most && Row.isDigit(text.at(i))) {
                i++;
            }
            return i;
        }

        private int floatEnd(int start) {
            int first = text.at(start) == '+' || text.at(start) == '-' ? start + 1 : start;
            int i = digitsEnd(first, 3);
            if (i == first) {
                return NONE;
            }
            return text.at(i) == '.' && Row.isDigit(text.at(i + 1)) ? digitsEnd(i + 1, 6) : i;
        }

        /** The number that so many digits at i say, or NONE. */
        private int number(int i, int digits) {
            int sum = 0;
            for (int k = i; k < i + digits; k++) {
                int b = k >= 0 && k < text.size ? text.cells[k] : NONE;
                if (b < '0' || b > '9') {
                    return NONE;
                }
                sum = sum * 10 + b - '0';
            }
            return sum;
        }

        /** Whether the two digits at i say a number up to most. */
        private boolean isPair(int i, int most) {
            if (i < 0 || i + 1 >= text.size) {
                return false;
            }
            int tens = text.cells[i] - '0';
            int ones = text.cells[i + 1] - '0';
            return tens >= 0 && tens <= 9 && ones >= 0 && ones <= 9 && tens * 10 + ones <= most;
        }

        /** Whether there is such a day; NONE for a year or a month that is not there. */
        private static boolean isDay(int year, int month, int day) {
            if (month == NONE) {
                return day >= 1 && day <= 31;
            }
            if (month < 1 || month > 12) {
                return false;
            }
            boolean leap = year == NONE || year % 4 == 0 && (year % 100 != 0 || year % 400 == 0);
            int most = month == 2 && !leap ? 28 : DAYS[month - 1];
            return day >= 1 && day <= most;
        }

        private boolean isDate3(int from, int to) {
            int year = number(from, 4);
            boolean dashes = text.at(from + 4) == '-';
            int month = number(dashes ? from + 5 : from + 4, 2);
            int day = number(dashes ? from + 8 : from + 6, 2);
            if (year == NONE || month == NONE || !isDay(year, month, day)) {
                return false;
            }
            if (dashes && text.at(from + 7) != '-') {
                return false;
            }
            int i = dashes ? from + 10 : from + 8;
            return i == to || text.at(i) == 'T' && timeEnd3(i + 1) == to;
        }

        private int timeEnd3(int start) {
            boolean colons = text.at(start + 2) == ':';
            int step = colons ? 3 : 2;
            if (!isPair(start, 23) || !isPair(start + step, 59) || !isPair(start + 2 * step, 59)) {
                return NONE;
            }
            if (colons && text.at(start + 5) != ':') {
                return NONE;
            }
            int i = colons ? start + 8 : start + 6;
            if (text.at(i) == 'Z') {
                return i + 1;
            }
            if (text.at(i) != '+' && text.at(i) != '-') {
                return i;
            }
            int minutes = text.at(i + 3) == ':' ? i + 4 : i + 3;
            return isPair(i + 1, 23) && isPair(minutes, 59) ? minutes + 2 : NONE;
        }

        private boolean isDate4(int from, int to) {
            if (text.at(from) == 'T') {
                return timeEnd4(from + 1) == to;
            }
            int i = dateEnd4(from);
            return i == to || text.at(i) == 'T' && timeEnd4(i + 1) == to;
        }

        private boolean isStamp4(int from, int to) {
            boolean date = dateEnd4(from) == from + 8;
            return date && text.at(from + 8) == 'T' && number(from + 9, 6) != NONE && timeEnd4(from + 9) == to;
        }

        private int dateEnd4(int start) {
            if (text.starts(start, "---")) {
                return isDay(NONE, NONE, number(start + 3, 2)) ? start + 5 : NONE;
            }
            boolean bare = text.starts(start, "--");
            int year = bare ? NONE : number(start, 4);
            if (!bare && year == NONE) {
                return NONE;
            }
            int i = bare ? start + 2 : start + 4;
            if (!bare && text.at(i) == '-') {
                return isDay(year, number(i + 1, 2), 1) && number(i + 1, 2) != NONE ? i + 3 : NONE;
            }
            if (!bare && !Row.isDigit(text.at(i))) {
                return i;
            }
            int month = number(i, 2);
            boolean dayless = bare && !Row.isDigit(text.at(i + 2));
            int day = dayless ? 1 : number(i + 2, 2);
            if (month == NONE || !isDay(year, month, day)) {
                return NONE;
            }
            return dayless ? i + 2 : i + 4;
        }

        private int timeEnd4(int start) {
            if (!isPair(start, 23)) {
                return NONE;
            }
            int i = start + 2;
            for (int k = 0; k < 2 && Row.isDigit(text.at(i)); k++) {
                if (!isPair(i, 59)) {
                    return NONE;
                }
                i += 2;
            }
            if (text.at(i) == 'Z') {
                return i + 1;
            }
            if (text.at(i) != '+' && text.at(i) != '-') {
                return i;
            }
            if (!isPair(i + 1, 23)) {
                return NONE;
            }
            i += 3;
            if (!Row.isDigit(text.at(i))) {
                return i;
            }
            return isPair(i, 59) ? i + 2 : NONE;
        }

        /** Brings what a property's value means behind a row. */
        void meaning(int[] p, Row into) {
            boolean plain = p[KIND] != TEXT && p[KIND] != LIST && p[KIND] != PARTS;
            for (int i = p[VALUE]; i < p[VALUE_TO]; i++) {
                int b = text.at(i);
                if (b == '\\' && !plain) {
                    i++;
                    b = text.at(i);
                    b = b == 'n' || b == 'N' ? 10 : b;
                }
                into.put(b);
            }
        }

        /** Brings what a parameter's value means behind a row. */
        void valueMeaning(int v, Row into) {
            if (v < 0 || v >= valueCount) {
                return;
            }
            for (int i = valueFrom[v]; i < valueTo[v]; i++) {
                int b = text.at(i);
                int c = i + 1 < valueTo[v] ? text.at(i + 1) : NONE;
                boolean sign = b == '^' && (c == 'n' || c == '^' || c == '\'');
                if (sign) {
                    i++;
                    b = c == 'n' ? 10 : c == '\'' ? '"' : '^';
                }
                into.put(b);
            }
        }

        /** A property by its number, the first one when there is none such. */
        int[] propertyAt(int i) {
            return properties[i >= 0 && i < size ? i : 0];
        }

        /** The first property with a code, or NONE. */
        int propertyOf(int code) {
            for (int i = 0; i < size; i++) {
                if (properties[i][CODE] == code) {
                    return i;
                }
            }
            return NONE;
        }

        /** Whether a name, perhaps with a group ahead, names what stands as group.NAME at from .. to of a row. */
        static boolean names(Row name, int nameFrom, int nameTo, Row row, int from, int to) {
            int start = from;
            if (name.indexOf('.', nameFrom, nameTo) == nameTo) {
                int dot = row.indexOf('.', from, to);
                start = dot == to ? from : dot + 1;
            }
            return row.alike(start, to, name, nameFrom, nameTo);
        }
    }

    /** Writes a CARD, in its own version or turned into the other one. */
    private static final class Scribe {
        static final int AS_IS = 0;
        static final int SMALL = 1;
        static final int CAPITAL = 2;
        /** A line of the longest tape, each byte of which may become two. */
        static final int LINE_ROOM = 16000;

        private final Card card;
        private final Xml xml;
        private final Row line;
        private final Row part;
        private Row page;
        private int picker;
        private boolean choosy;
        private int nameEnd;
        private int valueStart;

        Scribe(Card itsCard, Xml itsXml) {
            card = itsCard;
            xml = itsXml;
            line = new Row(LINE_ROOM);
            part = new Row(TAPE_ROOM);
            picker = NONE;
        }

        /** From now on only what an element C:address-data picks is written; NONE: all. */
        void pick(int element) {
            picker = element;
            choosy = element != NONE && xml.child(element, Xml.C, "prop") != NONE
                && xml.child(element, Xml.C, "allprop") == NONE;
        }

        /** Writes the card that was read in a version, 0 for its own, behind a row. */
        void write(int version, Row into) {
            page = into;
            int wanted = version == 0 ? card.version : version;
            page.text("BEGIN:VCARD\r\n");
            page.text(wanted == 3 ? "VERSION:3.0\r\n" : "VERSION:4.0\r\n");
            for (int i = 0; i < card.size; i++) {
                if (wanted == card.version) {
                    plain(card.properties[i]);
                } else if (wanted == 4) {
                    up(card.properties[i]);
                } else {
                    down(i);
                }
            }
            page.text("END:VCARD\r\n");
        }

        private void plain(int[] p) {
            beginLine(p, "", "");
            for (int k = p[Card.FIRST]; k < p[Card.FIRST_TO]; k++) {
                parameter(k, AS_IS);
            }
            colon();
            value(p);
            endLine();
        }

        /** Begins a line with the group of a property and its NAME, or with another name. */
        private void beginLine(int[] p, String ahead, String name) {
            line.clear();
            line.copy(card.text, p[Card.START], p[Card.NAME]);
            line.text(ahead);
            if (name.isEmpty()) {
                line.copy(card.text, p[Card.NAME], p[Card.NAME_TO]);
            } else {
                line.text(name);
            }
            nameEnd = line.size;
        }

        private void colon() {
            line.put(':');
            valueStart = line.size;
        }

        private void parameter(int k, int form) {
            int[] q = card.parameters[k];
            line.put(';');
            line.copy(card.text, q[Card.NAME], q[Card.NAME_TO]);
            for (int v = q[Card.FIRST]; v < q[Card.FIRST_TO]; v++) {
                line.put(v == q[Card.FIRST] ? '=' : ',');
                part.clear();
                card.valueMeaning(v, part);
                partAsParameter(form);
            }
        }

        private void partAsParameter(int form) {
            boolean quoted = false;
            for (int i = 0; i < part.size; i++) {
                int b = part.at(i);
                quoted = quoted || b == ';' || b == ':' || b == ',';
            }
            if (quoted) {
                line.put('"');
            }
            for (int i = 0; i < part.size; i++) {
                int b = part.at(i);
                if (b == 10 || b == '^' || b == '"') {
                    line.put('^');
                    line.put(b == 10 ? 'n' : b == '^' ? '^' : '\'');
                } else {
                    line.put(form == SMALL ? Row.low(b) : form == CAPITAL ? Row.high(b) : b);
                }
            }
            if (quoted) {
                line.put('"');
            }
        }

        private void partAsText() {
            for (int i = 0; i < part.size; i++) {
                int b = part.at(i);
                if (b == 10 || b == '\\' || b == ',' || b == ';') {
                    line.put('\\');
                }
                line.put(b == 10 ? 'n' : b);
            }
        }

        /** A property's value as it is written in its own version. */
        private void value(int[] p) {
            int kind = p[Card.KIND];
            boolean texts = kind == Card.TEXT || kind == Card.LIST || kind == Card.PARTS;
            if (!texts) {
                line.copy(card.text, p[Card.VALUE], p[Card.VALUE_TO]);
                return;
            }
            for (int i = p[Card.VALUE]; i < p[Card.VALUE_TO]; i++) {
                int b = card.text.at(i);
                if (b == '\\') {
                    i++;
                    b = card.text.at(i);
                    line.put('\\');
                    line.put(b == 'N' ? 'n' : b);
                } else {
                    if (b == ',' && kind == Card.TEXT || b == ';' && kind != Card.PARTS) {
                        line.put('\\');
                    }
                    line.put(b);
                }
            }
        }

        /** Brings the line to the page, cut into pieces, unless it is not picked. */
        private void endLine() {
            int chosen = choosy ? chosen() : NONE;
            if (choosy && chosen == NONE) {
                return;
            }
            if (chosen != NONE && xml.attributeLike(chosen, "novalue", "yes")) {
                line.cutTo(valueStart);
            }
            int room = 75;
            int from = 0;
            for (int i = 0; i < line.size; i++) {
                int first = line.at(i);
                int width = first < 0xC0 ? 1 : first < 0xE0 ? 2 : first < 0xF0 ? 3 : 4;
                if (i + width - from > room) {
                    page.copy(line, from, i);
                    page.text("\r\n ");
                    room = 74;
                    from = i;
                }
                i += width - 1;
            }
            page.copy(line, from, line.size);
            page.text("\r\n");
        }

        /** The first C:prop that names the line's property, or NONE. */
        private int chosen() {
            for (int e = picker + 1; e < xml.size; e++) {
                if (xml.elements[e][Xml.PARENT] == picker && xml.is(e, Xml.C, "prop")) {
                    int a = xml.attribute(e, "name");
                    if (a != NONE && Card.names(xml.values, xml.valueFrom(a), xml.valueTo(a), line, 0, nameEnd)) {
                        return e;
                    }
                }
            }
            return NONE;
        }

        /** A property of 3.0 as 4.0 has it. */
        private void up(int[] p) {
            int code = p[Card.CODE];
            if (code == Card.SORT_STRING) {
                return;
            }
            boolean other = code == Card.MAILER || code == Card.CLASS;
            beginLine(p, other ? "X-" : "", code == Card.LABEL ? "ADR" : "");
            upParameters(p);
            upExtras(p);
            colon();
            upValue(p);
            endLine();
        }

        private void upParameters(int[] p) {
            boolean binary = p[Card.KIND] == Card.BINARY;
            boolean uri = p[Card.KIND] == Card.URI;
            boolean pref = false;
            for (int k = p[Card.FIRST]; k < p[Card.FIRST_TO]; k++) {
                int code = card.parameters[k][Card.CODE];
                boolean link = uri && code == Card.P_VALUE && (card.says(k, "uri") || card.says(k, "url"));
                boolean goes = binary && (code == Card.P_TYPE || code == Card.P_VALUE || code == Card.P_ENCODING);
                if (code == Card.P_CHARSET || link || goes) {
                    continue;
                }
                if (code == Card.P_TYPE) {
                    pref = upType(k);
                } else {
                    parameter(k, AS_IS);
                }
            }
            if (pref && card.parameterOf(p, Card.P_PREF) == NONE) {
                line.text(";PREF=1");
            }
        }

        /** TYPE without 'pref': whether there was one. */
        private boolean upType(int k) {
            int[] q = card.parameters[k];
            boolean pref = false;
            boolean begun = false;
            for (int v = q[Card.FIRST]; v < q[Card.FIRST_TO]; v++) {
                if (card.text.like(card.valueFrom[v], card.valueTo[v], "pref")) {
                    pref = true;
                } else {
                    line.text(begun ? "," : ";TYPE=");
                    part.clear();
                    card.valueMeaning(v, part);
                    partAsParameter(SMALL);
                    begun = true;
                }
            }
            return pref;
        }

        private void upExtras(int[] p) {
            if (p[Card.CODE] == Card.LABEL && card.parameterOf(p, Card.P_LABEL) == NONE) {
                line.text(";LABEL=");
                part.clear();
                card.meaning(p, part);
                partAsParameter(AS_IS);
            }
            int sort = p[Card.CODE] == Card.N ? card.propertyOf(Card.SORT_STRING) : NONE;
            if (sort != NONE && card.parameterOf(p, Card.P_SORT_AS) == NONE) {
                line.text(";SORT-AS=");
                part.clear();
                card.meaning(card.propertyAt(sort), part);
                partAsParameter(AS_IS);
            }
        }

        private void upValue(int[] p) {
            int kind = p[Card.KIND];
            if (kind == Card.BINARY) {
                upBinary(p);
            } else if (kind == Card.DATE || kind == Card.STAMP) {
                upDate(p);
            } else if (kind == Card.GEO_POINT) {
                line.text("geo:");
                swap(p[Card.VALUE], p[Card.VALUE_TO], ';', ',');
            } else if (p[Card.CODE] == Card.LABEL) {
                line.text(";;;;;;");
            } else {
                value(p);
            }
        }

        private void upBinary(int[] p) {
            int type = card.parameterOf(p, Card.P_TYPE);
            line.text("data:");
            if (type == NONE) {
                line.text("application/octet-stream");
            } else {
                int code = p[Card.CODE];
                line.text(code == Card.SOUND ? "audio/" : code == Card.KEY ? "application/" : "image/");
                part.clear();
                card.valueMeaning(card.parameters[type][Card.FIRST], part);
                for (int i = 0; i < part.size; i++) {
                    line.put(Row.low(part.at(i)));
                }
            }
            line.text(";base64,");
            line.copy(card.text, p[Card.VALUE], p[Card.VALUE_TO]);
        }

        private void upDate(int[] p) {
            boolean time = false;
            for (int i = p[Card.VALUE]; i < p[Card.VALUE_TO]; i++) {
                int b = card.text.at(i);
                time = time || b == 'T';
                if (b != ':' && (b != '-' || time)) {
                    line.put(b);
                }
            }
            if (!time && p[Card.CODE] == Card.REV) {
                line.text("T000000Z");
            }
        }

        private void swap(int from, int to, int old, int other) {
            for (int i = from; i < to; i++) {
                int b = card.text.at(i);
                line.put(b == old ? other : b);
            }
        }

        /** Property number i of 4.0 as 3.0 has it, with what comes behind it. */
        private void down(int i) {
            int[] p = card.properties[i];
            boolean other = isOther(i);
            beginLine(p, other ? "X-" : "", "");
            int data = dataStart(p);
            downParameters(p, data);
            colon();
            if (other) {
                value(p);
            } else {
                downValue(p, data);
            }
            endLine();
            if (!other) {
                downExtras(p);
            }
        }

        /** Whether 3.0 has no such property: it gets another name and stays as it is. */
        private boolean isOther(int i) {
            int[] p = card.properties[i];
            int code = p[Card.CODE];
            if (code == Card.FN || code == Card.TZ || code == Card.GEO) {
                return card.propertyOf(code) != i;
            }
            if (code == Card.BDAY || code == Card.REV) {
                return p[Card.KIND] != Card.TEXT && !isFull(p[Card.VALUE], p[Card.VALUE_TO]);
            }
            return code >= Card.ANNIVERSARY && code <= Card.SOURCE;
        }

        /** YYYYMMDD, perhaps T and hhmmss with nothing, Z or a sign and hhmm; that it is a date or a stamp is known. */
        private boolean isFull(int from, int to) {
            for (int i = 0; i < 15 && from + i < to; i++) {
                if (i != 8 && !Row.isDigit(card.text.at(from + i))) {
                    return false;
                }
            }
            int length = to - from;
            boolean zulu = length == 16 && card.text.at(to - 1) == 'Z';
            return length == 8 || length == 15 || length == 20 || zulu;
        }

        /** Where the base64 of a picture's data: begins, or NONE when it is no such. */
        private int dataStart(int[] p) {
            boolean picture = p[Card.CODE] >= Card.PHOTO && p[Card.CODE] <= Card.KEY;
            int i = p[Card.VALUE];
            if (!picture || p[Card.KIND] != Card.URI || !card.text.starts(i, "data:")) {
                return NONE;
            }
            i += 5;
            while (i < p[Card.VALUE_TO] && isMedia(card.text.at(i))) {
                i++;
            }
            boolean right = i > p[Card.VALUE] + 5 && card.text.starts(i, ";base64,");
            return right && card.text.isBase64(i + 8, p[Card.VALUE_TO]) ? i + 8 : NONE;
        }

        private static boolean isMedia(int b) {
            return Row.isNameByte(b) || b == '/' || b == '.' || b == '+';
        }

        private void downParameters(int[] p, int data) {
            int own = p[Card.CODE];
            boolean picture = own >= Card.PHOTO && own <= Card.KEY && p[Card.KIND] == Card.URI;
            for (int k = p[Card.FIRST]; k < p[Card.FIRST_TO]; k++) {
                int code = card.parameters[k][Card.CODE];
                boolean goes = picture && (code == Card.P_ENCODING || code == Card.P_VALUE);
                goes = goes || code == Card.P_LABEL && own == Card.ADR || code == Card.P_SORT_AS && own == Card.N;
                if (code == Card.P_TYPE && data == NONE) {
                    downType(p);
                } else if (code != Card.P_TYPE && code != Card.P_PREF && !goes) {
                    parameter(k, AS_IS);
                }
            }
            if (data == NONE && card.parameterOf(p, Card.P_TYPE) == NONE) {
                downType(p);
            }
            if (data != NONE) {
                line.text(";ENCODING=b;TYPE=");
                downMedia(p[Card.VALUE] + 5, data - 8);
            } else if (picture) {
                line.text(";VALUE=uri");
            }
        }

        /** TYPE in capitals, with PREF behind when there is such a parameter; nothing when there is neither. */
        private void downType(int[] p) {
            int type = card.parameterOf(p, Card.P_TYPE);
            boolean pref = card.parameterOf(p, Card.P_PREF) != NONE;
            if (type != NONE) {
                parameter(type, CAPITAL);
            }
            if (pref) {
                line.text(type == NONE ? ";TYPE=PREF" : ",PREF");
            }
        }

        private void downMedia(int from, int to) {
            int start = from;
            for (int i = from; i < to; i++) {
                if (card.text.at(i) == '/') {
                    start = i + 1;
                }
            }
            for (int i = start; i < to; i++) {
                line.put(Row.high(card.text.at(i)));
            }
        }

        private void downValue(int[] p, int data) {
            int kind = p[Card.KIND];
            if (data != NONE) {
                line.copy(card.text, data, p[Card.VALUE_TO]);
            } else if (kind == Card.DATE || kind == Card.STAMP) {
                downDate(p[Card.VALUE], p[Card.VALUE_TO]);
            } else if (kind == Card.GEO_POINT) {
                swap(p[Card.VALUE] + 4, p[Card.VALUE_TO], ',', ';');
            } else {
                value(p);
            }
        }

        private void downDate(int from, int to) {
            for (int i = 0; from + i < to; i++) {
                if (i == 4 || i == 6) {
                    line.put('-');
                } else if (i == 11 || i == 13 || i == 18) {
                    line.put(':');
                }
                line.put(card.text.at(from + i));
            }
        }

        private void downExtras(int[] p) {
            int code = p[Card.CODE];
            int label = code == Card.ADR ? card.parameterOf(p, Card.P_LABEL) : NONE;
            int sort = code == Card.N ? card.parameterOf(p, Card.P_SORT_AS) : NONE;
            part.clear();
            if (label != NONE) {
                beginLine(p, "", "LABEL");
                downType(p);
                part.clear();
                card.valueMeaning(card.parameters[label][Card.FIRST], part);
            } else if (sort != NONE) {
                beginAnew("SORT-STRING");
                card.valueMeaning(card.parameters[sort][Card.FIRST], part);
            } else if (code == Card.FN && card.propertyOf(Card.N) == NONE) {
                beginAnew("N");
                card.meaning(p, part);
            } else {
                return;
            }
            colon();
            partAsText();
            line.text(code == Card.FN ? ";;;;" : "");
            endLine();
        }

        private void beginAnew(String name) {
            line.clear();
            line.text(name);
            nameEnd = line.size;
        }
    }

    /** A body in XML: its ELEMENTS in the order of the text, with their attributes, namespaces and own texts. */
    private static final class Xml {
        static final int NO_SPACE = 0;
        static final int D = 1;
        static final int C = 2;
        static final int R = 3;
        static final int XML_SPACE = 4;
        /** What xmlns: attributes are put under, so that they are like no others. */
        static final int XMLNS_SPACE = 5;
        static final int FIRST_OTHER = 6;
        static final String D_NAME = "DAV:";
        static final String C_NAME = "urn:ietf:params:xml:ns:carddav";
        static final String R_NAME = "urn:x-readers";
        static final String XML_NAME = "http://www.w3.org/XML/1998/namespace";

        static final int DEEPEST = 20;
        static final int MOST = 200;
        static final int MOST_ATTRIBUTES = 10;

        /** The cells of elements and attributes; QNAME .. NAME_TO is the name with its prefix, LOCAL where the prefix is over. */
        static final int PARENT = 0;
        static final int QNAME = 1;
        static final int LOCAL = 2;
        static final int NAME_TO = 3;
        static final int SPACE = 4;
        static final int ATTR = 5;
        static final int ATTR_TO = 6;
        static final int TEXT = 7;
        static final int TEXT_TO = 8;
        static final int CELLS = 9;

        final int[][] elements;
        int size;
        private final int[][] attributes;
        private int attributeCount;
        final Row values;
        private final int[][] spaces;
        private int spaceCount;
        private final int[][] bindings;
        private int bindingCount;
        private final int[] marks;
        private final int[] stack;
        private int depth;
        private final Row loose;
        private final int[] owners;
        final Row texts;
        Row source;
        private int pos;

        Xml() {
            elements = new int[MOST][CELLS];
            attributes = new int[Wire.LOAD_ROOM / 5][CELLS];
            values = new Row(Wire.LOAD_ROOM);
            spaces = new int[Wire.LOAD_ROOM / 8][2];
            bindings = new int[Wire.LOAD_ROOM / 8][3];
            marks = new int[DEEPEST];
            stack = new int[DEEPEST];
            loose = new Row(Wire.LOAD_ROOM);
            owners = new int[Wire.LOAD_ROOM];
            texts = new Row(Wire.LOAD_ROOM);
            source = texts;
        }

        /** Whether a row is XML, which then is here to be looked at. */
        boolean read(Row row) {
            source = row;
            size = 0;
            attributeCount = 0;
            spaceCount = 0;
            bindingCount = 0;
            depth = 0;
            values.clear();
            loose.clear();
            texts.clear();
            pos = 0;
            if (!isClean() || !declaration()) {
                return false;
            }
            for (int step = 0; step <= row.size && pos < row.size; step++) {
                int b = source.at(pos);
                int c = source.at(pos + 1);
                boolean right;
                if (b != '<') {
                    right = depth > 0 ? textRun() : blanks();
                } else if (c == '!') {
                    right = source.starts(pos, "<!--") ? comment() : literal();
                } else {
                    right = c == '/' ? endTag() : startTag();
                }
                if (!right) {
                    return false;
                }
            }
            sortTexts();
            return depth == 0 && size > 0;
        }

        private boolean isClean() {
            for (int i = 0; i < source.size; i++) {
                int code = source.codeAt(i);
                if (!mayStand(code)) {
                    return false;
                }
                i += Row.widthOf(code) - 1;
            }
            return true;
        }

        private static boolean mayStand(int code) {
            if (code < 32) {
                return code == 9 || code == 10 || code == 13;
            }
            return code < 0xD800 || code > 0xDFFF && code < 0xFFFE || code > 0xFFFF && code <= 0x10FFFF;
        }

        private boolean declaration() {
            if (source.starts(0, "<?xml ")) {
                int close = source.find(6, "?>");
                pos = close + 2;
                return close != NONE;
            }
            return true;
        }

        private int skipBlanks(int start) {
            int i = start;
            while (i < source.size && Row.isBlank(source.at(i))) {
                i++;
            }
            return i;
        }

        private boolean blanks() {
            int i = skipBlanks(pos);
            boolean some = i > pos;
            pos = i;
            return some;
        }

        private boolean comment() {
            int close = source.find(pos + 4, "-->");
            int dashes = source.find(pos + 4, "--");
            // A '-' right ahead of the end makes a '--' with it that is not the comment's own.
            boolean right = close != NONE && dashes + 2 > close;
            pos = close + 3;
            return right;
        }

        private boolean literal() {
            int close = depth > 0 && source.starts(pos, "<![CDATA[") ? source.find(pos + 9, "]]>") : NONE;
            for (int i = pos + 9; i < close; i++) {
                addText(source.at(i));
            }
            pos = close + 3;
            return close != NONE;
        }

        private void addText(int b) {
            if (depth > 0 && loose.size < owners.length) {
                owners[loose.size] = stack[depth - 1];
                loose.put(b);
            }
        }

        private boolean textRun() {
            for (int i = pos; i < source.size; i++) {
                int b = source.at(i);
                if (b == '<') {
                    pos = i;
                    return true;
                }
                if (b == ']' && source.starts(i, "]]>")) {
                    return false;
                }
                if (b == '&') {
                    int close = source.indexOf(';', i, source.size);
                    if (!addReferred(referred(i + 1, close))) {
                        return false;
                    }
                    i = close;
                } else {
                    addText(b);
                }
            }
            return false;
        }

        private boolean addReferred(int code) {
            int from = loose.size;
            if (code != NONE) {
                loose.utf8(code);
            }
            for (int k = from; k < loose.size && depth > 0; k++) {
                owners[k] = stack[depth - 1];
            }
            return code != NONE;
        }

        /** The character that a reference, from behind its & up to its ;, stands for, or NONE when it is wrong. */
        private int referred(int from, int to) {
            if (source.at(to) != ';') {
                return NONE;
            }
            if (source.at(from) != '#') {
                int which = source.wordOf("lt gt amp quot apos", from, to, false);
                return which >= 0 && which < 5 ? "<>&\"'".charAt(which) : NONE;
            }
            boolean hex = source.at(from + 1) == 'x';
            int first = hex ? from + 2 : from + 1;
            if (to - first < 1 || to - first > 7) {
                return NONE;
            }
            int code = 0;
            for (int i = first; i < to; i++) {
                int digit = Row.hexOf(source.at(i));
                if (digit == NONE || !hex && digit > 9) {
                    return NONE;
                }
                code = code * (hex ? 16 : 10) + digit;
            }
            return mayStand(code) ? code : NONE;
        }

        private int plainEnd(int start) {
            int i = start;
            while (i < source.size) {
                int b = source.at(i);
                boolean inner = i > start && (Row.isDigit(b) || b == '.' || b == '-');
                if (!Row.isLetter(b) && b != '_' && !inner) {
                    return i;
                }
                i++;
            }
            return i;
        }

        /** Reads a name into cells: where it ends, or NONE when it is none. */
        private int name(int start, int[] cells) {
            int i = plainEnd(start);
            boolean right = i > start;
            cells[QNAME] = start;
            cells[LOCAL] = start;
            if (source.at(i) == ':') {
                cells[LOCAL] = i + 1;
                i = plainEnd(i + 1);
                right = right && i > cells[LOCAL];
            }
            cells[NAME_TO] = i;
            return right ? i : NONE;
        }

        private boolean startTag() {
            if (depth == 0 && size > 0 || depth >= DEEPEST || size >= MOST) {
                return false;
            }
            int[] e = elements[size];
            int to = name(pos + 1, e);
            if (to == NONE) {
                return false;
            }
            pos = to;
            e[PARENT] = depth > 0 ? stack[depth - 1] : NONE;
            e[ATTR] = attributeCount;
            for (int k = 0; k <= MOST_ATTRIBUTES; k++) {
                int i = skipBlanks(pos);
                if (source.at(i) == '/' || source.at(i) == '>') {
                    pos = i;
                    break;
                }
                if (i == pos || k == MOST_ATTRIBUTES || !readAttribute(i)) {
                    return false;
                }
            }
            e[ATTR_TO] = attributeCount;
            boolean empty = source.at(pos) == '/';
            pos += empty ? 1 : 0;
            if (source.at(pos) != '>') {
                return false;
            }
            pos++;
            return enter(e, empty);
        }

        private boolean readAttribute(int start) {
            if (attributeCount >= attributes.length) {
                return false;
            }
            int[] a = attributes[attributeCount];
            int i = name(start, a);
            if (i == NONE) {
                return false;
            }
            i = skipBlanks(i);
            if (source.at(i) != '=') {
                return false;
            }
            i = skipBlanks(i + 1);
            int quote = source.at(i);
            if (quote != '"' && quote != '\'') {
                return false;
            }
            a[TEXT] = values.size;
            for (i++; i < source.size; i++) {
                int b = source.at(i);
                if (b == quote) {
                    a[TEXT_TO] = values.size;
                    attributeCount++;
                    pos = i + 1;
                    return true;
                }
                int code = Row.isBlank(b) ? 32 : b;
                if (b == '&') {
                    int close = source.indexOf(';', i, source.size);
                    code = referred(i + 1, close);
                    i = close;
                }
                if (code == NONE || b == '<') {
                    return false;
                }
                if (b == '&') {
                    values.utf8(code);
                } else {
                    values.put(code);
                }
            }
            return false;
        }

        /** Makes an element of what its tag says, with its namespaces. */
        private boolean enter(int[] e, boolean empty) {
            int mark = bindingCount;
            for (int a = e[ATTR]; a < e[ATTR_TO]; a++) {
                if (!bind(attributes[a])) {
                    return false;
                }
            }
            e[SPACE] = spaceOf(e);
            boolean right = e[SPACE] != NONE;
            for (int a = e[ATTR]; a < e[ATTR_TO] && right; a++) {
                right = settle(e[ATTR], a);
            }
            if (empty) {
                bindingCount = mark;
            } else if (depth < DEEPEST) {
                stack[depth] = size;
                marks[depth] = mark;
                depth++;
            }
            size++;
            return right;
        }

        /** Takes what an attribute says of namespaces: false when that is wrong. */
        private boolean bind(int[] a) {
            boolean whole = source.is(a[QNAME], a[NAME_TO], "xmlns");
            if (!whole && !source.is(a[QNAME], a[LOCAL], "xmlns:")) {
                return true;
            }
            boolean none = a[TEXT] == a[TEXT_TO];
            boolean taken = source.is(a[LOCAL], a[NAME_TO], "xml") || source.is(a[LOCAL], a[NAME_TO], "xmlns");
            if (!whole && (none || taken) || bindingCount >= bindings.length) {
                return false;
            }
            int[] b = bindings[bindingCount];
            b[0] = whole ? a[NAME_TO] : a[LOCAL];
            b[1] = a[NAME_TO];
            b[2] = none ? NO_SPACE : known(a[TEXT], a[TEXT_TO]);
            bindingCount++;
            return true;
        }

        /** The number of a namespace, a new one if need be. */
        private int known(int from, int to) {
            if (values.is(from, to, D_NAME)) {
                return D;
            }
            if (values.is(from, to, C_NAME)) {
                return C;
            }
            if (values.is(from, to, R_NAME)) {
                return R;
            }
            if (values.is(from, to, XML_NAME)) {
                return XML_SPACE;
            }
            for (int i = 0; i < spaceCount; i++) {
                if (values.same(spaces[i][0], spaces[i][1], values, from, to)) {
                    return FIRST_OTHER + i;
                }
            }
            if (spaceCount >= spaces.length) {
                return NO_SPACE;
            }
            spaces[spaceCount][0] = from;
            spaces[spaceCount][1] = to;
            spaceCount++;
            return FIRST_OTHER + spaceCount - 1;
        }

        /** The namespace that the prefix of a name stands for, or NONE when it was not said. */
        private int spaceOf(int[] cells) {
            int from = cells[QNAME];
            int to = cells[LOCAL] > from ? cells[LOCAL] - 1 : from;
            for (int i = bindingCount - 1; i >= 0; i--) {
                if (source.same(bindings[i][0], bindings[i][1], source, from, to)) {
                    return bindings[i][2];
                }
            }
            if (source.is(from, to, "xml")) {
                return XML_SPACE;
            }
            return from == to ? NO_SPACE : NONE;
        }

        /** Finds the namespace of attribute a of those from first on: false when that is wrong or it was there already. */
        private boolean settle(int first, int a) {
            int[] it = attributes[a];
            if (source.is(it[QNAME], it[LOCAL], "xmlns:")) {
                it[SPACE] = XMLNS_SPACE;
            } else {
                it[SPACE] = it[LOCAL] > it[QNAME] ? spaceOf(it) : NO_SPACE;
            }
            for (int k = first; k < a; k++) {
                int[] other = attributes[k];
                boolean same = source.same(it[LOCAL], it[NAME_TO], source, other[LOCAL], other[NAME_TO]);
                if (same && it[SPACE] == other[SPACE]) {
                    return false;
                }
            }
            return it[SPACE] != NONE;
        }

        private boolean endTag() {
            if (depth <= 0) {
                return false;
            }
            int[] e = elements[stack[depth - 1]];
            int from = pos + 2;
            int to = from + e[NAME_TO] - e[QNAME];
            int i = skipBlanks(to);
            if (!source.same(from, to, source, e[QNAME], e[NAME_TO]) || source.at(i) != '>') {
                return false;
            }
            depth--;
            bindingCount = marks[depth];
            pos = i + 1;
            return true;
        }

        /** Brings the texts of each element together. */
        private void sortTexts() {
            for (int i = 0; i < size; i++) {
                elements[i][TEXT_TO] = 0;
            }
            for (int k = 0; k < loose.size; k++) {
                elements[owners[k]][TEXT_TO]++;
            }
            int sum = 0;
            for (int i = 0; i < size; i++) {
                int length = elements[i][TEXT_TO];
                elements[i][TEXT] = sum;
                elements[i][TEXT_TO] = sum;
                sum += length;
            }
            texts.size = loose.size;
            for (int k = 0; k < loose.size; k++) {
                int[] e = elements[owners[k]];
                texts.cells[e[TEXT_TO]] = loose.cells[k];
                e[TEXT_TO]++;
            }
        }

        boolean is(int e, int space, String local) {
            int[] it = elements[e];
            return it[SPACE] == space && source.is(it[LOCAL], it[NAME_TO], local);
        }

        boolean isSameName(int e, int other) {
            int[] a = elements[e];
            int[] b = elements[other];
            return a[SPACE] == b[SPACE] && source.same(a[LOCAL], a[NAME_TO], source, b[LOCAL], b[NAME_TO]);
        }

        /** The first child of a name, or NONE. */
        int child(int parent, int space, String local) {
            for (int e = parent + 1; e < size; e++) {
                if (elements[e][PARENT] == parent && is(e, space, local)) {
                    return e;
                }
            }
            return NONE;
        }

        /** The number of an element's attribute that is of no namespace, or NONE. */
        int attribute(int e, String local) {
            for (int a = elements[e][ATTR]; a < elements[e][ATTR_TO]; a++) {
                int[] it = attributes[a];
                if (it[SPACE] == NO_SPACE && source.is(it[LOCAL], it[NAME_TO], local)) {
                    return a;
                }
            }
            return NONE;
        }

        int valueFrom(int a) {
            return a >= 0 && a < attributeCount ? attributes[a][TEXT] : 0;
        }

        int valueTo(int a) {
            return a >= 0 && a < attributeCount ? attributes[a][TEXT_TO] : 0;
        }

        boolean attributeLike(int e, String local, String s) {
            int a = attribute(e, local);
            return a != NONE && values.like(valueFrom(a), valueTo(a), s);
        }

        /** Where the texts of an element begin without BLANKS. */
        int trimmedFrom(int e) {
            int i = elements[e][TEXT];
            while (i < elements[e][TEXT_TO] && Row.isBlank(texts.at(i))) {
                i++;
            }
            return i;
        }

        /** Where the texts of an element end without BLANKS. */
        int trimmedTo(int e) {
            int i = elements[e][TEXT_TO];
            while (i > elements[e][TEXT] && Row.isBlank(texts.at(i - 1))) {
                i--;
            }
            return i;
        }

        /** Brings the name of a namespace behind a row as an attribute's value. */
        void spaceName(int space, Row into) {
            if (space == R) {
                into.text(R_NAME);
            } else if (space == XML_SPACE) {
                into.text(XML_NAME);
            } else if (space >= FIRST_OTHER && space < FIRST_OTHER + spaceCount) {
                into.escaped(values, spaces[space - FIRST_OTHER][0], spaces[space - FIRST_OTHER][1], true);
            }
        }
    }

    /** A C:filter, looked at once and then held against CARDS. */
    private static final class Filter {
        static final int ELEMENT = 0;
        static final int NAME = 1;
        static final int NAME_TO = 2;
        static final int ABSENT = 3;
        static final int ALL = 4;
        static final int FIRST = 5;
        static final int FIRST_TO = 6;
        static final int HAS_TEXT = 4;
        static final int NEEDLE = 5;
        static final int NEEDLE_TO = 6;
        static final int FOLD = 7;
        static final int MODE = 8;
        static final int NEGATE = 9;
        static final int CELLS = 10;

        static final int FOLD_ASCII = 1;
        static final int FOLD_UNICODE = 2;
        static final int EQUALS = 0;
        static final int CONTAINS = 1;
        static final int STARTS = 2;

        private final Xml xml;
        private final Card card;
        private final int[][] filters;
        private int filterCount;
        private final int[][] tests;
        private int testCount;
        private boolean all;
        private final Row needles;
        private final Row value;

        Filter(Xml itsXml, Card itsCard) {
            xml = itsXml;
            card = itsCard;
            filters = new int[Xml.MOST][CELLS];
            tests = new int[Xml.MOST][CELLS];
            needles = new Row(Wire.LOAD_ROOM);
            value = new Row(TAPE_ROOM);
        }

        /** Looks at a filter in the order of the text: 0, or the status of what is first wrong in it (403: a collation). */
        int read(int filter) {
            filterCount = 0;
            testCount = 0;
            needles.clear();
            int test = choice(filter, "test", "anyof allof", 0);
            all = test == 1;
            int wrong = test == NONE ? 400 : 0;
            for (int e = filter + 1; e < xml.size && wrong == 0; e++) {
                int parent = xml.elements[e][Xml.PARENT];
                int[] f = filterCount > 0 ? filters[filterCount - 1] : null;
                int[] t = testCount > 0 ? tests[testCount - 1] : null;
                if (parent == filter) {
                    wrong = xml.is(e, Xml.C, "prop-filter") ? addFilter(e) : 0;
                } else if (f != null && parent == f[ELEMENT]) {
                    wrong = addTest(e, f);
                } else if (t != null && parent == t[ELEMENT]) {
                    wrong = addToTest(e, t);
                }
            }
            return wrong;
        }

        private int choice(int e, String name, String words, int without) {
            int a = xml.attribute(e, name);
            return a == NONE ? without : xml.values.wordOf(words, xml.valueFrom(a), xml.valueTo(a), false);
        }

        private int addFilter(int e) {
            int name = xml.attribute(e, "name");
            int test = choice(e, "test", "anyof allof", 0);
            if (name == NONE || test == NONE || filterCount >= filters.length) {
                return 400;
            }
            int[] f = filters[filterCount];
            filterCount++;
            f[ELEMENT] = e;
            f[NAME] = xml.valueFrom(name);
            f[NAME_TO] = xml.valueTo(name);
            f[ABSENT] = 0;
            f[ALL] = test;
            f[FIRST] = testCount;
            f[FIRST_TO] = testCount;
            return 0;
        }

        /** Takes a child of a C:prop-filter. */
        private int addTest(int e, int[] f) {
            boolean text = xml.is(e, Xml.C, "text-match");
            boolean parameter = xml.is(e, Xml.C, "param-filter");
            if (xml.is(e, Xml.C, "is-not-defined")) {
                f[ABSENT] = 1;
            }
            if (!text && !parameter || testCount >= tests.length) {
                return 0;
            }
            int[] t = tests[testCount];
            testCount++;
            f[FIRST_TO] = testCount;
            t[ABSENT] = 0;
            t[HAS_TEXT] = 0;
            t[ELEMENT] = NONE;
            if (text) {
                return addMatch(e, t);
            }
            int name = xml.attribute(e, "name");
            t[ELEMENT] = e;
            t[NAME] = xml.valueFrom(name);
            t[NAME_TO] = xml.valueTo(name);
            return name == NONE ? 400 : 0;
        }

        /** Takes a child of a C:param-filter. */
        private int addToTest(int e, int[] t) {
            if (xml.is(e, Xml.C, "is-not-defined")) {
                t[ABSENT] = 1;
            }
            return t[HAS_TEXT] == 0 && xml.is(e, Xml.C, "text-match") ? addMatch(e, t) : 0;
        }

        private int addMatch(int e, int[] t) {
            int collation = choice(e, "collation", "i;octet i;ascii-casemap i;unicode-casemap default", FOLD_UNICODE);
            int mode = choice(e, "match-type", "equals contains starts-with ends-with", CONTAINS);
            int negate = choice(e, "negate-condition", "no yes", 0);
            if (collation == NONE) {
                return 403;
            }
            if (mode == NONE || negate == NONE) {
                return 400;
            }
            t[HAS_TEXT] = 1;
            t[FOLD] = Math.min(collation, FOLD_UNICODE);
            t[MODE] = mode;
            t[NEGATE] = negate;
            t[NEEDLE] = needles.size;
            needles.copy(xml.texts, xml.elements[e][Xml.TEXT], xml.elements[e][Xml.TEXT_TO]);
            t[NEEDLE_TO] = needles.size;
            fold(needles, t[NEEDLE], t[FOLD]);
            return 0;
        }

        /** Makes letters small from a place on; a folded letter has as many bytes as it had. */
        private static void fold(Row row, int from, int how) {
            for (int i = from; i < row.size && i >= 0; i++) {
                int b = row.cells[i] & 255;
                int c = i + 1 < row.size ? row.cells[i + 1] & 255 : 0;
                if (how >= FOLD_ASCII && b >= 'A' && b <= 'Z') {
                    row.cells[i] = (byte) (b + 32);
                } else if (how == FOLD_UNICODE && (b == 0xC3 || b == 0xCE || b == 0xD0) && c >= 0x80) {
                    int code = (b & 0x1F) << 6 | c & 0x3F;
                    boolean latin = code >= 0xC0 && code <= 0xDE && code != 0xD7;
                    boolean greek = code >= 0x391 && code <= 0x3A9;
                    boolean cyrillic = code >= 0x410 && code <= 0x42F;
                    boolean earlier = code >= 0x400 && code <= 0x40F;
                    code += latin || greek || cyrillic ? 32 : earlier ? 80 : 0;
                    row.cells[i] = (byte) (0xC0 | code >> 6);
                    row.cells[i + 1] = (byte) (0x80 | code & 0x3F);
                }
            }
        }

        /** Whether the card that was read fits. */
        boolean fits() {
            for (int k = 0; k < filterCount; k++) {
                boolean fit = fitsFilter(filters[k]);
                if (fit != all) {
                    return fit;
                }
            }
            return all || filterCount == 0;
        }

        private boolean fitsFilter(int[] f) {
            for (int i = 0; i < card.size; i++) {
                int[] p = card.properties[i];
                if (Card.names(xml.values, f[NAME], f[NAME_TO], card.text, p[Card.START], p[Card.NAME_TO])) {
                    if (f[ABSENT] == 1) {
                        return false;
                    }
                    if (f[FIRST] == f[FIRST_TO] || fitsTests(f, p)) {
                        return true;
                    }
                }
            }
            return f[ABSENT] == 1;
        }

        private boolean fitsTests(int[] f, int[] p) {
            boolean every = f[ALL] == 1;
            for (int k = f[FIRST]; k < f[FIRST_TO]; k++) {
                int[] t = tests[k];
                boolean fit;
                if (t[ELEMENT] == NONE) {
                    value.clear();
                    card.meaning(p, value);
                    fit = fitsText(t);
                } else {
                    fit = fitsParameter(t, p);
                }
                if (fit != every) {
                    return fit;
                }
            }
            return every;
        }

        private boolean fitsParameter(int[] t, int[] p) {
            for (int k = p[Card.FIRST]; k < p[Card.FIRST_TO]; k++) {
                int[] q = card.parameters[k];
                if (card.text.alike(q[Card.NAME], q[Card.NAME_TO], xml.values, t[NAME], t[NAME_TO])) {
                    if (t[ABSENT] == 1 || t[HAS_TEXT] == 0) {
                        return t[ABSENT] == 0;
                    }
                    for (int v = q[Card.FIRST]; v < q[Card.FIRST_TO]; v++) {
                        value.clear();
                        card.valueMeaning(v, value);
                        if (fitsText(t)) {
                            return true;
                        }
                    }
                    return false;
                }
            }
            return t[ABSENT] == 1;
        }

        private boolean fitsText(int[] t) {
            fold(value, 0, t[FOLD]);
            int length = t[NEEDLE_TO] - t[NEEDLE];
            int last = value.size - length;
            int from = t[MODE] == CONTAINS || t[MODE] == STARTS ? 0 : last;
            int to = t[MODE] == CONTAINS ? last : from;
            boolean found = false;
            for (int i = from; i <= to && !found; i++) {
                found = value.same(i, i + length, needles, t[NEEDLE], t[NEEDLE_TO]);
            }
            if (t[MODE] == EQUALS) {
                found = found && last == 0;
            }
            return found != (t[NEGATE] == 1);
        }
    }

    /** What a multi-status answer tells: of which places, and which of their properties. */
    private static final class Listing {
        static final String XML_HEAD = "<?xml version=\"1.0\" encoding=\"utf-8\"?>";
        static final String SPACES = " xmlns:D=\"DAV:\" xmlns:C=\"urn:ietf:params:xml:ns:carddav\">";

        static final String NAMES = "resourcetype displayname getetag getcontenttype getcontentlength current-user-principal addressbook-home-set owner current-user-privilege-set supported-report-set supported-address-data addressbook-description max-resource-size sync-token readers";
        /** The namespace of each of NAMES, and on which places it stands (1 ROOT, 2 PRINCIPAL, 4 HOME, 8 BOOK, 16 CARD). */
        static final int[] NAME_SPACES = {1, 1, 1, 1, 1, 1, 2, 1, 1, 1, 2, 2, 2, 1, 3};
        static final int[] PLACES = {31, 10, 16, 16, 16, 31, 2, 28, 31, 8, 8, 8, 8, 8, 8};
        static final int RESOURCETYPE = 0;
        static final int DISPLAYNAME = 1;
        static final int GETETAG = 2;
        static final int GETCONTENTTYPE = 3;
        static final int GETCONTENTLENGTH = 4;
        static final int CURRENT_USER_PRINCIPAL = 5;
        static final int HOME_SET = 6;
        static final int OWNER = 7;
        static final int PRIVILEGES = 8;
        static final int REPORT_SET = 9;
        static final int SUPPORTED_DATA = 10;
        static final int DESCRIPTION = 11;
        static final int MAX_SIZE = 12;
        static final int SYNC_TOKEN = 13;
        static final int READERS = 14;
        static final int ADDRESS_DATA = 15;
        static final int KNOWN = 15;

        static final int NOTHING = 0;
        static final int ALLPROP = 1;
        static final int PROPNAME = 2;
        static final int ASKED = 3;
        static final int PATCHED = 4;
        static final int MOST_ASKED = 20;

        /** Kinds of entries beside those of the house. */
        static final int GONE = 5;
        static final int HREF = 6;
        static final int MOST_ENTRIES = 40;

        final Row body;
        final Row data;
        int user;
        int book;
        int mode;
        final int[] asked;
        final int[] codes;
        int askedCount;
        int dataElement;
        final int[] kinds;
        final int[] indexes;
        final int[] statuses;
        int entryCount;
        private final House house;
        private final Xml xml;
        private final Row name;

        Listing(House itsHouse, Xml itsXml, Row itsBody) {
            house = itsHouse;
            xml = itsXml;
            body = itsBody;
            data = new Row(4 * House.TEXT_ROOM);
            asked = new int[MOST_ASKED];
            codes = new int[MOST_ASKED];
            kinds = new int[MOST_ENTRIES];
            indexes = new int[MOST_ENTRIES];
            statuses = new int[MOST_ENTRIES];
            name = new Row(Wire.LOAD_ROOM);
        }

        void clear(int itsUser, int itsBook) {
            user = itsUser;
            book = itsBook;
            mode = NOTHING;
            askedCount = 0;
            dataElement = NONE;
            entryCount = 0;
            body.clear();
        }

        /** A place that is to be told of; status 0: with its properties. */
        void add(int kind, int index, int status) {
            if (entryCount < MOST_ENTRIES) {
                kinds[entryCount] = kind;
                indexes[entryCount] = index;
                statuses[entryCount] = status;
                entryCount++;
            }
        }

        /** Takes what the first child of the root that says so asks for: false when that is too much. */
        boolean ask(boolean inReport) {
            for (int e = 1; e < xml.size; e++) {
                if (xml.elements[e][Xml.PARENT] == 0) {
                    mode = xml.is(e, Xml.D, "allprop") ? ALLPROP : xml.is(e, Xml.D, "propname") ? PROPNAME : NOTHING;
                    if (xml.is(e, Xml.D, "prop")) {
                        mode = ASKED;
                        return askChildren(e, inReport);
                    }
                    if (mode != NOTHING) {
                        return true;
                    }
                }
            }
            return true;
        }

        private boolean askChildren(int prop, boolean inReport) {
            int children = 0;
            for (int e = prop + 1; e < xml.size; e++) {
                if (xml.elements[e][Xml.PARENT] == prop) {
                    children++;
                    if (children > MOST_ASKED) {
                        return false;
                    }
                    if (firstAsked(e, askedCount) == NONE) {
                        asked[askedCount] = e;
                        codes[askedCount] = codeOf(e);
                        if (inReport && dataElement == NONE && xml.is(e, Xml.C, "address-data")) {
                            codes[askedCount] = ADDRESS_DATA;
                            dataElement = e;
                        }
                        askedCount++;
                    }
                }
            }
            return true;
        }

        /** The first of some asked properties that has the name of an element, or NONE. */
        int firstAsked(int e, int most) {
            for (int i = 0; i < most && i < askedCount; i++) {
                if (xml.isSameName(asked[i], e)) {
                    return i;
                }
            }
            return NONE;
        }

        /** A name stands in an answer only once, so that what is not allowed tells for all of its name ahead of it. */
        void refuse(int i) {
            for (int j = 0; j <= i && i < askedCount; j++) {
                if (xml.isSameName(asked[j], asked[i])) {
                    codes[j] = 403;
                }
            }
        }

        /** The number of the property that an element names, or NONE. */
        int codeOf(int e) {
            int[] it = xml.elements[e];
            int code = xml.source.wordOf(NAMES, it[Xml.LOCAL], it[Xml.NAME_TO], false);
            return code >= 0 && code < KNOWN && NAME_SPACES[code] == it[Xml.SPACE] ? code : NONE;
        }

        void start() {
            body.clear();
            body.text(XML_HEAD);
            body.text("<D:multistatus");
            body.text(SPACES);
        }

        /** The CARD whose data entry k is to show, or NONE. */
        int dataItem(int k) {
            boolean shows = dataElement != NONE && kinds[k] == House.CARD && statuses[k] == 0;
            return shows ? indexes[k] : NONE;
        }

        void response(int k) {
            body.text("<D:response><D:href>");
            path(kinds[k], indexes[k]);
            body.text("</D:href>");
            boolean nothing = mode == NOTHING || mode == ASKED && askedCount == 0;
            if (statuses[k] != 0 || nothing) {
                status(statuses[k] == 0 ? 200 : statuses[k]);
            } else if (mode == PATCHED) {
                patched(200);
                patched(403);
                patched(424);
            } else {
                propstat(k, 200);
                propstat(k, 404);
            }
            body.text("</D:response>");
        }

        void path(int kind, int index) {
            if (kind == HREF) {
                body.escaped(xml.texts, xml.trimmedFrom(index), xml.trimmedTo(index), false);
                return;
            }
            if (kind == House.ROOT) {
                body.text("/");
                return;
            }
            int number = kind == House.CARD ? house.itemAt(index).book : kind == House.BOOK ? index : book;
            Book in = house.bookAt(number);
            boolean low = kind != House.PRINCIPAL && kind != House.HOME;
            body.text(kind == House.PRINCIPAL ? "/p/" : "/a/");
            house.nameOf(low ? in.owner : index, body);
            body.text("/");
            if (low) {
                body.copy(in.name, 0, in.name.size);
                body.text("/");
            }
            if (kind == House.CARD || kind == GONE) {
                Row last = kind == GONE ? in.goneName(index) : house.itemAt(index).name;
                body.copy(last, 0, last.size);
            }
        }

        void status(int status) {
            body.text("<D:status>HTTP/1.1 ");
            body.number(status);
            body.text(" ");
            body.text(reason(status));
            body.text("</D:status>");
        }

        private void propstat(int k, int status) {
            int start = body.size;
            body.text("<D:propstat><D:prop>");
            int inner = body.size;
            int most = mode == ASKED ? askedCount : KNOWN;
            for (int i = 0; i < most && !body.over; i++) {
                int code = mode == ASKED ? codes[i] : i;
                boolean leftOut = mode == ALLPROP && code >= SUPPORTED_DATA && code != DESCRIPTION;
                boolean there = isThere(k, code);
                if (there == (status == 200) && !leftOut && (there || mode == ASKED)) {
                    int space = mode == ASKED ? nameAsked(i) : nameKnown(i);
                    property(space, there && mode != PROPNAME ? code : NONE, k);
                }
            }
            endPropstat(start, inner, status);
        }

        /** The names of what was to be patched, each once, with the status that codes tell for it. */
        private void patched(int status) {
            int start = body.size;
            body.text("<D:propstat><D:prop>");
            int inner = body.size;
            for (int i = 0; i < askedCount; i++) {
                if (codes[i] == status && firstAsked(asked[i], i) == NONE) {
                    property(nameAsked(i), NONE, 0);
                }
            }
            endPropstat(start, inner, status);
        }

        private void endPropstat(int start, int inner, int status) {
            if (body.size == inner) {
                body.cutTo(start);
                return;
            }
            body.text("</D:prop>");
            status(status);
            body.text("</D:propstat>");
        }

        private int nameAsked(int i) {
            int[] e = xml.elements[asked[i]];
            name.clear();
            name.copy(xml.source, e[Xml.LOCAL], e[Xml.NAME_TO]);
            return e[Xml.SPACE];
        }

        private int nameKnown(int code) {
            name.clear();
            name.word(NAMES, code);
            return NAME_SPACES[code];
        }

        private boolean isThere(int k, int code) {
            int kind = kinds[k];
            if (code == ADDRESS_DATA) {
                return kind == House.CARD;
            }
            if (code < 0 || code >= KNOWN || kind > House.CARD || (PLACES[code] >> kind & 1) == 0) {
                return false;
            }
            if (kind != House.BOOK) {
                return true;
            }
            Book it = house.bookAt(indexes[k]);
            if (code == DISPLAYNAME) {
                return it.hasTitle;
            }
            return code == DESCRIPTION ? it.hasNote : code != READERS || it.owner == user;
        }

        /** A property by the name that was made ready, with the contents of a code, or none. */
        private void property(int space, int code, int k) {
            String ahead = space == Xml.D ? "D:" : space == Xml.C ? "C:" : space == Xml.NO_SPACE ? "" : "x:";
            body.text("<");
            body.text(ahead);
            body.copy(name, 0, name.size);
            if (space >= Xml.R) {
                body.text(" xmlns:x=\"");
                xml.spaceName(space, body);
                body.text("\"");
            }
            int open = body.size;
            body.text(">");
            contents(code, kinds[k], indexes[k]);
            if (body.size == open + 1) {
                body.cutTo(open);
                body.text("/>");
                return;
            }
            body.text("</");
            body.text(ahead);
            body.copy(name, 0, name.size);
            body.text(">");
        }

        private void contents(int code, int kind, int index) {
            switch (code) {
                case RESOURCETYPE:
                    body.text(kind == House.PRINCIPAL ? "<D:principal/>" : kind == House.CARD ? "" : "<D:collection/>");
                    body.text(kind == House.BOOK ? "<C:addressbook/>" : "");
                    break;
                case CURRENT_USER_PRINCIPAL:
                    href("/p/", user);
                    break;
                case HOME_SET:
                    href("/a/", index);
                    break;
                case OWNER:
                    href("/p/", ownerOf(kind, index));
                    break;
                case PRIVILEGES:
                    body.text("<D:privilege><D:read/></D:privilege>");
                    boolean writes = kind > House.PRINCIPAL && ownerOf(kind, index) == user;
                    body.text(writes ? "<D:privilege><D:write/></D:privilege>" : "");
                    break;
                case ADDRESS_DATA:
                    body.escaped(data, 0, data.size, false);
                    break;
                case DISPLAYNAME:
                    if (kind == House.PRINCIPAL) {
                        house.nameOf(index, body);
                        break;
                    }
                    bookContents(code, index);
                    break;
                default:
                    if (kind == House.CARD) {
                        cardContents(code, house.itemAt(index));
                    } else if (kind == House.BOOK) {
                        bookContents(code, index);
                    }
                    break;
            }
        }

        private void cardContents(int code, Item it) {
            if (code == GETETAG) {
                body.text("\"");
                body.number(it.change);
                body.text("\"");
            } else if (code == GETCONTENTTYPE) {
                body.text("text/vcard; charset=utf-8");
            } else if (code == GETCONTENTLENGTH) {
                body.number(it.text.size);
            }
        }

        private void bookContents(int code, int index) {
            Book it = house.bookAt(index);
            switch (code) {
                case DISPLAYNAME:
                    body.escaped(it.title, 0, it.title.size, false);
                    break;
                case REPORT_SET:
                    report("C:addressbook-multiget");
                    report("C:addressbook-query");
                    report("D:sync-collection");
                    break;
                case SUPPORTED_DATA:
                    body.text("<C:address-data-type content-type=\"text/vcard\" version=\"3.0\"/>");
                    body.text("<C:address-data-type content-type=\"text/vcard\" version=\"4.0\"/>");
                    break;
                case DESCRIPTION:
                    body.escaped(it.note, 0, it.note.size, false);
                    break;
                case MAX_SIZE:
                    body.number(House.CARD_LIMIT);
                    break;
                case SYNC_TOKEN:
                    token(it.made, house.changes);
                    break;
                case READERS:
                    for (int i = 0; i < it.readerCount; i++) {
                        body.text(i == 0 ? "" : ",");
                        house.nameOf(it.readers[i], body);
                    }
                    break;
                default:
                    break;
            }
        }

        private void report(String which) {
            body.text("<D:supported-report><D:report><");
            body.text(which);
            body.text("/></D:report></D:supported-report>");
        }

        private void href(String ahead, int whose) {
            body.text("<D:href>");
            body.text(ahead);
            house.nameOf(whose, body);
            body.text("/</D:href>");
        }

        private int ownerOf(int kind, int index) {
            if (kind == House.CARD) {
                return house.bookAt(house.itemAt(index).book).owner;
            }
            return kind == House.BOOK ? house.bookAt(index).owner : index;
        }

        void token(int made, int change) {
            body.text("urn:x-sync:");
            body.number(made);
            body.text("-");
            body.number(change);
        }

        static String reason(int status) {
            switch (status) {
                case 200:
                    return "OK";
                case 201:
                    return "Created";
                case 204:
                    return "No Content";
                case 207:
                    return "Multi-Status";
                case 304:
                    return "Not Modified";
                case 400:
                    return "Bad Request";
                case 401:
                    return "Unauthorized";
                case 403:
                    return "Forbidden";
                case 404:
                    return "Not Found";
                case 405:
                    return "Method Not Allowed";
                case 406:
                    return "Not Acceptable";
                case 412:
                    return "Precondition Failed";
                case 413:
                    return "Content Too Large";
                case 415:
                    return "Unsupported Media Type";
                case 424:
                    return "Failed Dependency";
                case 431:
                    return "Request Header Fields Too Large";
                case 501:
                    return "Not Implemented";
                case 505:
                    return "HTTP Version Not Supported";
                default:
                    return "Insufficient Storage";
            }
        }
    }

    /** Sees to one request: who asks, where, whether it may be, and what is to be answered. */
    private static final class Clerk {
        static final String METHODS = "OPTIONS GET HEAD PUT DELETE MKCOL PROPFIND PROPPATCH REPORT";
        static final int OPTIONS = 0;
        static final int GET = 1;
        static final int HEAD = 2;
        static final int PUT = 3;
        static final int DELETE = 4;
        static final int MKCOL = 5;
        static final int PROPFIND = 6;
        static final int PROPPATCH = 7;
        static final int REPORT = 8;

        /** Sets of methods, a bit for each. */
        static final int READING = 1 << OPTIONS | 1 << GET | 1 << HEAD | 1 << PROPFIND | 1 << REPORT;
        static final int MISSING = 1 << GET | 1 << HEAD | 1 << DELETE | 1 << PROPFIND;
        static final int GUARDED = 1 << GET | 1 << HEAD | 1 << PUT | 1 << DELETE;
        /** The methods that go at each kind of place. */
        static final int[] GOING = {
            1 << OPTIONS | 1 << PROPFIND,
            1 << OPTIONS | 1 << PROPFIND,
            1 << OPTIONS | 1 << PROPFIND,
            1 << OPTIONS | 1 << DELETE | 1 << PROPFIND | 1 << PROPPATCH | 1 << REPORT,
            1 << OPTIONS | 1 << GET | 1 << HEAD | 1 << PUT | 1 << DELETE | 1 << PROPFIND,
            1 << MKCOL,
            1 << OPTIONS | 1 << PUT,
            0,
        };

        static final int NO_TYPE = 0;
        static final int VCARD = 1;
        static final int XML = 2;

        static final int INFINITY = 2;
        static final int OTHER_DEPTH = 3;
        static final int NO_LIMIT = 1000;

        boolean xmlRight;
        int status;
        /** Where the card that was read is to be written when the request has been seen to, if anywhere, and in which version. */
        Row page;
        int version;
        private final House house;
        private final Listing listing;
        private final Card card;
        private final Xml xml;
        private final Filter filter;
        private final Row told;
        private final Row plain;
        private Wire wire;
        private boolean closing;
        private int type;
        private int method;
        private int user;
        private boolean querying;
        /** The change that the sync-token behind all responses tells, or NONE. */
        private int tail;

        Clerk(House itsHouse, Listing itsListing, Card itsCard, Xml itsXml) {
            house = itsHouse;
            listing = itsListing;
            card = itsCard;
            xml = itsXml;
            filter = new Filter(itsXml, itsCard);
            told = new Row(400);
            plain = new Row(Wire.LOAD_ROOM);
        }

        /** Takes a request up: its method when it goes on, NONE when its answer is already known. */
        int begin(Wire itsWire, int event) {
            wire = itsWire;
            told.clear();
            type = NO_TYPE;
            page = null;
            tail = NONE;
            querying = false;
            user = NONE;
            method = NONE;
            closing = event != Wire.WHOLE || wire.isLike(Wire.CONNECTION, "close");
            listing.clear(NONE, NONE);
            status = event != Wire.WHOLE ? event : admit();
            return status == 0 ? method : NONE;
        }

        /** 0 when the request may go on, else the status of what is against it. */
        private int admit() {
            method = wire.head.wordOf(METHODS, 0, wire.methodTo, false);
            if (method == NONE) {
                return 501;
            }
            user = house.userOf(wire.head, wire.from[Wire.AUTHORIZATION], wire.to[Wire.AUTHORIZATION]);
            if (user == NONE) {
                told.text("WWW-Authenticate: Basic realm=\"cards\"\r\n");
                return 401;
            }
            int wrong = house.follow(wire.head, wire.methodTo + 1, wire.targetTo);
            if (wrong != 0) {
                return wrong;
            }
            if (!isAllowed()) {
                return 403;
            }
            listing.clear(user, house.book);
            int kind = house.kind;
            if ((GOING[kind] >> method & 1) == 0) {
                boolean missing = kind == House.NO_CARD && (MISSING >> method & 1) == 1;
                if (missing || kind == House.NO_BOOK || kind == House.NOWHERE) {
                    return 404;
                }
                allow();
                return 405;
            }
            boolean guarded = (kind == House.CARD || kind == House.NO_CARD) && (GUARDED >> method & 1) == 1;
            return guarded ? guard() : 0;
        }

        private boolean isAllowed() {
            if (house.kind == House.ROOT || house.kind == House.PRINCIPAL || house.owner == user) {
                return true;
            }
            boolean reads = house.book != NONE && house.bookAt(house.book).isReader(user);
            return reads && (READING >> method & 1) == 1;
        }

        private void allow() {
            told.text("Allow: ");
            int first = told.size;
            for (int m = 0; m <= REPORT; m++) {
                if ((GOING[house.kind] >> m & 1) == 1) {
                    told.text(told.size == first ? "" : ", ");
                    told.word(METHODS, m);
                }
            }
            told.text("\r\n");
        }

        /** If-Match, then If-None-Match: 0, or the status of what is against the request. */
        private int guard() {
            int match = wire.has(Wire.IF_MATCH) ? meets(Wire.IF_MATCH) : 1;
            if (match != 1) {
                return match == NONE ? 400 : 412;
            }
            int none = wire.has(Wire.IF_NONE_MATCH) ? meets(Wire.IF_NONE_MATCH) : 0;
            if (none == 0) {
                return 0;
            }
            if (none == NONE) {
                return 400;
            }
            if (method == GET || method == HEAD) {
                etag();
                return 304;
            }
            return 412;
        }

        /** 1 when the place has a CARD that a header's '*' or ETAGS name, 0 when not, NONE when the header is wrong. */
        private int meets(int header) {
            int i = wire.from[header];
            int to = wire.to[header];
            if (wire.head.is(i, to, "*")) {
                return house.item != NONE ? 1 : 0;
            }
            plain.clear();
            plain.number(house.itemAt(house.item).change);
            int met = 0;
            for (int round = 0; round < Wire.HEAD_ROOM; round++) {
                int first = i + 1;
                int last = first;
                while (last < to && Row.isDigit(wire.head.at(last))) {
                    last++;
                }
                if (wire.head.at(i) != '"' || last == first || last >= to || wire.head.at(last) != '"') {
                    return NONE;
                }
                boolean same = house.item != NONE && wire.head.same(first, last, plain, 0, plain.size);
                met = same ? 1 : met;
                i = skipSpaces(last + 1, to);
                if (i >= to) {
                    return met;
                }
                if (wire.head.at(i) != ',') {
                    return NONE;
                }
                i = skipSpaces(i + 1, to);
            }
            return NONE;
        }

        private int skipSpaces(int start, int to) {
            int i = start;
            while (i < to && wire.head.at(i) == 32) {
                i++;
            }
            return i;
        }

        private void etag() {
            told.text("ETag: \"");
            told.number(house.itemAt(house.item).change);
            told.text("\"\r\n");
        }

        /** Does what a method wants that needs no card to be read. */
        void act(int wanted) {
            switch (wanted) {
                case OPTIONS:
                    options();
                    break;
                case DELETE:
                    delete();
                    break;
                case MKCOL:
                    make();
                    break;
                case PROPFIND:
                    propfind();
                    break;
                case PROPPATCH:
                    proppatch();
                    break;
                case REPORT:
                    report();
                    break;
                default:
                    break;
            }
        }

        private void options() {
            status = 200;
            allow();
            told.text("DAV: 1, 3, access-control, addressbook\r\n");
        }

        private void make() {
            if (wire.load.size > 0) {
                status = 415;
            } else {
                status = house.makeBook() ? 201 : 507;
            }
        }

        private void delete() {
            status = 204;
            if (house.kind == House.BOOK) {
                house.dropBook(house.book);
            } else {
                house.dropItem(house.item);
            }
        }

        void fetch() {
            version = accepted();
            if (version == NONE) {
                status = 406;
                return;
            }
            status = 200;
            type = VCARD;
            etag();
            Row text = house.itemAt(house.item).text;
            if (version == 0) {
                listing.body.copy(text, 0, text.size);
            } else if (card.read(text)) {
                page = listing.body;
            }
        }

        /** The version that Accept wants, 0 for any, NONE when it wants none that there is. */
        private int accepted() {
            if (!wire.has(Wire.ACCEPT)) {
                return 0;
            }
            plain.clear();
            for (int i = wire.from[Wire.ACCEPT]; i < wire.to[Wire.ACCEPT]; i++) {
                if (wire.head.at(i) != 32) {
                    plain.put(wire.head.at(i));
                }
            }
            int start = 0;
            for (int i = 0; i <= plain.size; i++) {
                if (i == plain.size || plain.at(i) == ',') {
                    int says = acceptedBy(start, i);
                    if (says != NONE) {
                        return says;
                    }
                    start = i + 1;
                }
            }
            return NONE;
        }

        private int acceptedBy(int from, int to) {
            int end = plain.indexOf(';', from, to);
            if (plain.wordOf("text/vcard text/* */*", from, end, true) == NONE) {
                return NONE;
            }
            for (int round = 0; round < Wire.HEAD_ROOM && end < to; round++) {
                int start = end + 1;
                end = plain.indexOf(';', start, to);
                if (plain.like(start, Math.min(start + 8, end), "version=")) {
                    return plain.is(start + 8, end, "3.0") ? 3 : plain.is(start + 8, end, "4.0") ? 4 : NONE;
                }
            }
            return 0;
        }

        void keep() {
            if (!isVcard()) {
                status = 415;
            } else if (wire.load.size > House.CARD_LIMIT) {
                error("C:max-resource-size");
            } else if (!card.read(wire.load)) {
                error("C:valid-address-data");
            } else {
                plain.clear();
                card.meaning(card.propertyAt(card.propertyOf(Card.UID)), plain);
                int other = house.conflict(plain);
                if (other == NONE) {
                    store();
                } else {
                    conflict(other);
                }
            }
        }

        private boolean isVcard() {
            if (!wire.has(Wire.CONTENT_TYPE)) {
                return false;
            }
            int from = wire.from[Wire.CONTENT_TYPE];
            int to = wire.head.indexOf(';', from, wire.to[Wire.CONTENT_TYPE]);
            while (to > from && wire.head.at(to - 1) == 32) {
                to--;
            }
            return wire.head.like(from, to, "text/vcard");
        }

        private void store() {
            boolean fresh = house.item == NONE;
            int place = house.placeItem();
            if (place == NONE) {
                status = 507;
                return;
            }
            house.item = place;
            Item it = house.itemAt(place);
            house.changes++;
            it.change = house.changes;
            it.uid.clear();
            it.uid.copy(plain, 0, plain.size);
            it.text.clear();
            page = it.text;
            version = 0;
            status = fresh ? 201 : 204;
            etag();
        }

        private void beginError() {
            status = 403;
            type = XML;
            listing.body.clear();
            listing.body.text(Listing.XML_HEAD);
            listing.body.text("<D:error");
            listing.body.text(Listing.SPACES);
        }

        private void error(String element) {
            beginError();
            listing.body.text("<");
            listing.body.text(element);
            listing.body.text("/></D:error>");
        }

        private void conflict(int other) {
            beginError();
            listing.body.text("<C:no-uid-conflict><D:href>");
            listing.path(House.CARD, other);
            listing.body.text("</D:href></C:no-uid-conflict></D:error>");
        }

        /** What Depth says: 0, 1, INFINITY, OTHER_DEPTH, or NONE without it. */
        private int depth() {
            if (!wire.has(Wire.DEPTH)) {
                return NONE;
            }
            int said = wire.head.wordOf("0 1 infinity", wire.from[Wire.DEPTH], wire.to[Wire.DEPTH], true);
            return said == NONE ? OTHER_DEPTH : said;
        }

        private void propfind() {
            int depth = depth();
            if (depth == OTHER_DEPTH) {
                status = 400;
                return;
            }
            if (depth != 0 && depth != 1) {
                error("D:propfind-finite-depth");
                return;
            }
            if (wire.load.size == 0) {
                listing.mode = Listing.ALLPROP;
            } else if (!xmlRight || !xml.is(0, Xml.D, "propfind") || !listing.ask(false)
                || listing.mode == Listing.NOTHING) {
                status = 400;
                return;
            }
            status = 207;
            int kind = house.kind;
            listing.add(kind, kind == House.CARD ? house.item : kind == House.BOOK ? house.book : house.owner, 0);
            if (depth == 1) {
                addChildren(kind);
            }
        }

        private void addChildren(int kind) {
            if (kind == House.ROOT) {
                listing.add(House.PRINCIPAL, user, 0);
                listing.add(House.HOME, user, 0);
            } else if (kind == House.HOME) {
                int n = house.orderBooks(house.owner);
                for (int i = 0; i < n; i++) {
                    listing.add(House.BOOK, house.order[i], 0);
                }
            } else if (kind == House.BOOK) {
                int n = house.orderItems(house.book);
                for (int i = 0; i < n; i++) {
                    listing.add(House.CARD, house.order[i], 0);
                }
            }
        }

        private void proppatch() {
            if (!xmlRight || !xml.is(0, Xml.D, "propertyupdate") || !takeUpdates()) {
                status = 400;
                return;
            }
            status = 207;
            listing.mode = Listing.PATCHED;
            listing.add(House.BOOK, house.book, 0);
            boolean all = true;
            for (int i = 0; i < listing.askedCount; i++) {
                listing.codes[i] = 424;
                if (!mayPatch(listing.asked[i], listing.codeOf(listing.asked[i]))) {
                    listing.refuse(i);
                    all = false;
                }
            }
            for (int i = 0; i < listing.askedCount && all; i++) {
                patch(listing.asked[i], listing.codeOf(listing.asked[i]));
                listing.codes[i] = 200;
            }
        }

        /** Takes all properties of an update: false when it is not built as it should. */
        private boolean takeUpdates() {
            for (int e = 1; e < xml.size; e++) {
                boolean update = xml.is(e, Xml.D, "set") || xml.is(e, Xml.D, "remove");
                if (xml.elements[e][Xml.PARENT] == 0 && update) {
                    int props = 0;
                    for (int c = e + 1; c < xml.size; c++) {
                        if (xml.elements[c][Xml.PARENT] == e && xml.is(c, Xml.D, "prop")) {
                            props++;
                        }
                    }
                    if (props != 1 || !takeUpdate(xml.child(e, Xml.D, "prop"))) {
                        return false;
                    }
                }
            }
            return listing.askedCount > 0;
        }

        private boolean takeUpdate(int prop) {
            for (int e = prop + 1; e < xml.size; e++) {
                if (xml.elements[e][Xml.PARENT] == prop) {
                    if (listing.askedCount >= Listing.MOST_ASKED) {
                        return false;
                    }
                    listing.asked[listing.askedCount] = e;
                    listing.askedCount++;
                }
            }
            return true;
        }

        /** Whether an element below D:set or D:remove is set. */
        private boolean isSet(int e) {
            int prop = xml.elements[e][Xml.PARENT];
            int update = prop > 0 ? xml.elements[prop][Xml.PARENT] : NONE;
            return update > 0 && xml.is(update, Xml.D, "set");
        }

        private boolean mayPatch(int e, int code) {
            boolean text = code == Listing.DISPLAYNAME || code == Listing.DESCRIPTION;
            if (!isSet(e)) {
                return text || code == Listing.READERS;
            }
            if (text) {
                return xml.elements[e][Xml.TEXT_TO] - xml.elements[e][Xml.TEXT] <= 60;
            }
            return code == Listing.READERS && takeReaders(e, null);
        }

        private void patch(int e, int code) {
            Book book = house.bookAt(house.book);
            if (code == Listing.READERS) {
                book.readerCount = 0;
                if (isSet(e)) {
                    takeReaders(e, book);
                }
                return;
            }
            Row text = code == Listing.DISPLAYNAME ? book.title : book.note;
            text.clear();
            if (isSet(e)) {
                text.copy(xml.texts, xml.elements[e][Xml.TEXT], xml.elements[e][Xml.TEXT_TO]);
            }
            if (code == Listing.DISPLAYNAME) {
                book.hasTitle = isSet(e);
            } else {
                book.hasNote = isSet(e);
            }
        }

        /** Whether an element tells readers that may be; they come to a book, if there is one. */
        private boolean takeReaders(int e, Book book) {
            int to = xml.elements[e][Xml.TEXT_TO];
            if (xml.trimmedFrom(e) >= to) {
                return true;
            }
            int start = xml.elements[e][Xml.TEXT];
            for (int i = start; i <= to; i++) {
                if (i == to || xml.texts.at(i) == ',') {
                    int first = start;
                    int last = i;
                    while (first < last && xml.texts.at(first) == 32) {
                        first++;
                    }
                    while (last > first && xml.texts.at(last - 1) == 32) {
                        last--;
                    }
                    int reader = house.userNamed(xml.texts, first, last);
                    if (reader == NONE || reader == house.owner) {
                        return false;
                    }
                    if (book != null) {
                        book.addReader(reader);
                    }
                    start = i + 1;
                }
            }
            return true;
        }

        private void report() {
            if (!xmlRight) {
                status = 400;
                return;
            }
            boolean query = xml.is(0, Xml.C, "addressbook-query");
            boolean sync = xml.is(0, Xml.D, "sync-collection");
            if (!query && !sync && !xml.is(0, Xml.C, "addressbook-multiget")) {
                error("D:supported-report");
                return;
            }
            if (depth() == OTHER_DEPTH || !listing.ask(true)) {
                status = 400;
                return;
            }
            version = dataVersion(listing.dataElement);
            if (version == NONE) {
                error("C:supported-address-data");
                return;
            }
            status = 207;
            querying = query;
            if (sync) {
                sync();
            } else if (!query) {
                multiget();
            }
        }

        /** The version in which C:address-data wants cards, 0 for any, NONE when there is none such. */
        private int dataVersion(int data) {
            if (data == NONE) {
                return 0;
            }
            boolean typed = xml.attribute(data, "content-type") != NONE;
            if (typed && !xml.attributeLike(data, "content-type", "text/vcard")) {
                return NONE;
            }
            int wanted = xml.attribute(data, "version");
            if (wanted == NONE) {
                return 0;
            }
            int said = xml.values.wordOf("3.0 4.0", xml.valueFrom(wanted), xml.valueTo(wanted), false);
            return said == NONE ? NONE : said + 3;
        }

        private void multiget() {
            int hrefs = 0;
            for (int e = 1; e < xml.size; e++) {
                if (xml.elements[e][Xml.PARENT] == 0 && xml.is(e, Xml.D, "href")) {
                    hrefs++;
                    int from = pathFrom(e);
                    boolean leads = house.follow(xml.texts, from, xml.trimmedTo(e)) == 0 && house.kind == House.CARD;
                    if (leads && house.book == listing.book) {
                        listing.add(House.CARD, house.item, 0);
                    } else {
                        listing.add(Listing.HREF, e, 404);
                    }
                }
            }
            if (hrefs < 1 || hrefs > 20) {
                status = 400;
            }
        }

        /** Where the path of an href begins, behind 'http://' and what is up to the next / . */
        private int pathFrom(int e) {
            int from = xml.trimmedFrom(e);
            int to = xml.trimmedTo(e);
            boolean whole = from + 7 <= to && xml.texts.is(from, from + 7, "http://");
            return whole ? xml.texts.indexOf('/', from + 7, to) : from;
        }

        /** Looks through the BOOK when that is what the report wants. */
        void query() {
            if (!querying) {
                return;
            }
            int child = xml.child(0, Xml.C, "filter");
            int wrong = child == NONE ? 400 : filter.read(child);
            int most = limit(Xml.C);
            if (wrong == 403) {
                error("C:supported-collation");
                return;
            }
            if (wrong != 0 || most == NONE) {
                status = 400;
                return;
            }
            int depth = depth();
            int n = depth == 1 || depth == INFINITY ? house.orderItems(listing.book) : 0;
            for (int i = 0; i < n; i++) {
                int item = house.order[i];
                if (card.read(house.itemAt(item).text) && filter.fits()) {
                    listing.add(House.CARD, item, 0);
                }
            }
            cutTo(most);
        }

        /** What C:limit or D:limit says, NO_LIMIT without it, NONE when it is wrong. */
        private int limit(int space) {
            int child = xml.child(0, space, "limit");
            if (child == NONE) {
                return NO_LIMIT;
            }
            int results = xml.child(child, space, "nresults");
            if (results == NONE) {
                return NONE;
            }
            int from = xml.trimmedFrom(results);
            int to = xml.trimmedTo(results);
            return to - from > 3 ? NONE : numberAt(from, to);
        }

        /** The number that stands in the texts, 1 to 9 digits, or NONE. */
        private int numberAt(int from, int to) {
            int sum = 0;
            for (int i = from; i < to; i++) {
                if (!Row.isDigit(xml.texts.at(i)) || i >= from + 9) {
                    return NONE;
                }
                sum = sum * 10 + xml.texts.at(i) - '0';
            }
            return to > from ? sum : NONE;
        }

        /** Leaves so many entries, with word of it when there were more: whether there were. */
        private boolean cutTo(int most) {
            if (listing.entryCount <= most) {
                return false;
            }
            listing.entryCount = most;
            listing.add(House.BOOK, listing.book, 507);
            return true;
        }

        private void sync() {
            int token = xml.child(0, Xml.D, "sync-token");
            int level = xml.child(0, Xml.D, "sync-level");
            int most = limit(Xml.D);
            boolean one = level != NONE && xml.texts.is(xml.trimmedFrom(level), xml.trimmedTo(level), "1");
            if (token == NONE || !one || most == NONE) {
                status = 400;
                return;
            }
            Book book = house.bookAt(listing.book);
            boolean anew = xml.trimmedFrom(token) >= xml.trimmedTo(token);
            int since = anew ? 0 : changeOf(book, xml.trimmedFrom(token), xml.trimmedTo(token));
            if (since == NONE) {
                error("D:valid-sync-token");
                return;
            }
            addChanged(book, since, anew);
            tail = house.changes;
            if (cutTo(most)) {
                tail = most > 0 ? entryChange(book, most - 1) : anew ? book.made : since;
            }
        }

        /** The change that a TOKEN of a BOOK tells, or NONE when it is none, or too old. */
        private int changeOf(Book book, int from, int to) {
            int start = from + 11;
            if (start > to || !xml.texts.is(from, start, "urn:x-sync:")) {
                return NONE;
            }
            int dash = xml.texts.indexOf('-', start, to);
            int made = xml.texts.at(start) == '0' ? NONE : numberAt(start, dash);
            int change = xml.texts.at(dash + 1) == '0' ? NONE : numberAt(dash + 1, to);
            boolean right = made == book.made && change >= made && change <= house.changes;
            return right && change >= book.forgotten ? change : NONE;
        }

        /** Lists what was changed behind a change, by its latest one; what is deleted only when it is not told anew. */
        private void addChanged(Book book, int since, boolean anew) {
            int last = since;
            for (int n = 0; n < House.ITEMS + Book.KEPT; n++) {
                int next = NONE;
                int kind = NONE;
                int index = NONE;
                for (int i = 0; i < House.ITEMS; i++) {
                    int change = house.items[i].book == listing.book ? house.items[i].change : 0;
                    if (change > last && (next == NONE || change < next)) {
                        next = change;
                        kind = House.CARD;
                        index = i;
                    }
                }
                for (int i = 0; i < book.goneCount && !anew; i++) {
                    int change = book.goneChanges[i];
                    if (change > last && (next == NONE || change < next)) {
                        next = change;
                        kind = Listing.GONE;
                        index = i;
                    }
                }
                if (next == NONE) {
                    return;
                }
                listing.add(kind, index, kind == Listing.GONE ? 404 : 0);
                last = next;
            }
        }

        private int entryChange(Book book, int k) {
            int index = listing.indexes[k];
            return listing.kinds[k] == Listing.GONE ? book.goneChange(index) : house.itemAt(index).change;
        }

        /** Whether the card that entry k shows has been read to be written; what can be shown as it is kept is there already. */
        boolean bringsCard(int k) {
            int item = listing.dataItem(k);
            if (item == NONE) {
                return false;
            }
            Row text = house.itemAt(item).text;
            listing.data.clear();
            if (version == 0 && xml.child(listing.dataElement, Xml.C, "prop") == NONE) {
                listing.data.copy(text, 0, text.size);
                return false;
            }
            return card.read(text);
        }

        /** Brings the answer behind a row, if it goes in: 1 when it does; then the connection is ready or shut. */
        int give(Row out) {
            Row body = listing.body;
            if (status == 207) {
                endList();
            }
            Row top = plain;
            top.clear();
            top.text("HTTP/1.1 ");
            top.number(status);
            top.text(" ");
            top.text(Listing.reason(status));
            top.text("\r\n");
            top.copy(told, 0, told.size);
            if (type != NO_TYPE) {
                top.text("Content-Type: ");
                top.text(type == XML ? "application/xml" : "text/vcard");
                top.text("; charset=utf-8\r\n");
            }
            if (status != 204 && status != 304) {
                top.text("Content-Length: ");
                top.number(body.size);
                top.text("\r\n");
            }
            top.text(closing ? "Connection: close\r\n\r\n" : "\r\n");
            int shown = method == HEAD ? 0 : body.size;
            boolean fits = out.size + top.size + shown <= OUT_ROOM;
            if (fits) {
                out.copy(top, 0, top.size);
                out.copy(body, 0, shown);
            }
            wire.alive = fits && !closing;
            wire.next();
            return fits ? 1 : 0;
        }

        private void endList() {
            Row body = listing.body;
            if (tail != NONE) {
                body.text("<D:sync-token>");
                listing.token(house.bookAt(listing.book).made, tail);
                body.text("</D:sync-token>");
            }
            body.text("</D:multistatus>");
            type = XML;
            if (body.over || body.size > BODY_LIMIT) {
                body.clear();
                status = 507;
                type = NO_TYPE;
            }
        }
    }
}
