import java.util.NoSuchElementException;

/** The edges of the face: a test for each sentence of promises 1 to 12 that names one; the remark is the sentence. */
public final class EdgeFaceTest {
    public static void main(String[] args) throws ReflectiveOperationException {
        Talk.all(EdgeFaceTest.class);
    }

    private static boolean outThrows(Run house, int i) {
        try {
            house.outAt(i);
            return false;
        } catch (NoSuchElementException e) {
            return true;
        }
    }

    private static boolean comeThrows(Run house, int c) {
        try {
            house.come(c);
            return false;
        } catch (IllegalStateException e) {
            return true;
        }
    }

    /** Feeds so many times twenty bytes of one value. */
    private static void feed(Run house, int times, int four) {
        for (int i = 0; i < times; i++) {
            house.feed(four, four, four, four, four);
        }
    }

    /** What it is: "An object is used for at most 512 calls after it has been made; what later calls answer is free." */
    static void theLastCall() {
        AddressHouse house = new AddressHouse();
        for (int call = 1; call <= 509; call++) {
            house.count(0);
        }
        house.feed(0x616E6E3A, 0x70770000, 0, 0, 0);
        house.end(6);
        Talk.due("call 512", house.user(), 0);
    }

    /** Promise 1: "No users, no connections, nothing in the house" (no users). */
    static void noUsersAtFirst() {
        Talk talk = new Talk();
        talk.house.open();
        Talk.due("nobody is known", talk.status("ann", "OPTIONS /", "", ""), 401);
        Talk.due("the first one's number", talk.user("ann:pw"), 0);
        Talk.due("then she is known", talk.status("ann", "OPTIONS /", "", ""), 200);
    }

    /** Promise 1: "No users, no connections, nothing in the house" (no connections). */
    static void noConnectionsAtFirst() {
        Run house = new Run();
        for (int c = 0; c < 4; c++) {
            Talk.due("isOpen " + c, house.isOpen(c), false);
            Talk.due("shut " + c, house.shut(c), false);
            Talk.due("come " + c + " throws", comeThrows(house, c), true);
        }
        Talk.due("the first one's number", house.open(), 0);
    }

    /** Promise 1: "No users, no connections, nothing in the house" (nothing in the house). */
    static void nothingAtFirst() {
        Run house = new Run();
        Talk.due("BOOKS", house.count(0), 0);
        Talk.due("CARDS", house.count(1), 0);
        Talk.due("CHANGES", house.count(2), 0);
    }

    /** Promise 1: "the tape and the OUT are empty" (the tape). */
    static void anEmptyTapeAtFirst() {
        Run house = new Run();
        Talk.due("it has 0 bytes", house.end(0), true);
        Talk.due("it has not 1", house.end(1), false);
        Talk.due("no user", house.user(), -1);
        Talk.due("no CARD", house.turn(0), -1);
        house.open();
        Talk.due("no request", house.come(0), 0);
    }

    /** Promise 1: "the tape and the OUT are empty" (the OUT). */
    static void anEmptyOutAtFirst() {
        Run house = new Run();
        Talk.due("out", house.out(), 0);
        Talk.due("outAt 0 throws", outThrows(house, 0), true);
    }

    /** The public face: "public final class AddressHouse" (its members, and no others). */
    static void thePublicFace() {
        StringBuilder face = new StringBuilder();
        for (java.lang.reflect.Field field : AddressHouse.class.getFields()) {
            face.append(field.getName()).append(' ');
        }
        java.util.TreeSet<String> methods = new java.util.TreeSet<>();
        for (java.lang.reflect.Method method : AddressHouse.class.getDeclaredMethods()) {
            if (!java.lang.reflect.Modifier.isPrivate(method.getModifiers())) {
                methods.add(method.getReturnType() + " " + method.getName() + "/" + method.getParameterCount());
            }
        }
        Talk.due("constants", face.toString(), "NONE ");
        Talk.due("methods", methods.toString(), "[boolean end/1, boolean feed/5, boolean isOpen/1, boolean shut/1, int come/1, int count/1, "
            + "int open/0, int out/0, int outAt/1, int turn/1, int user/0]");
        Talk.due("constructors", AddressHouse.class.getConstructors().length, 1);
        Talk.due("final", java.lang.reflect.Modifier.isFinal(AddressHouse.class.getModifiers()), true);
    }

    /** The constants: "There is none." */
    static void theConstant() {
        Talk.due("NONE", AddressHouse.NONE, -1);
    }

    /** Promise 2: "Twenty bytes come behind the tape, of each number the highest first" (all bits of a number). */
    static void bytesOfNumbers() {
        Talk talk = new Talk();
        talk.house.feed(0x7A3A2131, 0x7E323334, 0x35363738, 0x39306162, 0x63646566);
        Talk.due("20 bytes", talk.house.end(20) && !talk.house.end(21), true);
        Talk.due("a user of them", talk.house.user(), 0);
        talk.house.open();
        String basic = java.util.Base64.getEncoder().encodeToString("z:!1~234567890abcdef".getBytes());
        Talk.due("who has these bytes", Talk.statusOf(
            talk.come("OPTIONS / HTTP/1.1\r\nHost: x\r\nAuthorization: Basic " + basic + "\r\n\r\n")), 200);
        talk.house.feed(-1, Integer.MIN_VALUE, Integer.MAX_VALUE, 0, 1);
        Talk.due("any numbers", talk.house.end(20) && !talk.house.end(21), true);
    }

    /** Promise 2: "false, changing nothing, when it would have more than 6000" (just full). */
    static void theTapeFull() {
        Run house = new Run();
        for (int i = 1; i <= 300; i++) {
            Talk.due("feed " + i, house.feed(0, 0, 0, 0, 0), true);
        }
        Talk.due("it has 6000", house.end(6000), true);
        Talk.due("one more", house.feed(0, 0, 0, 0, 0), false);
        Talk.due("it has no more than 6000", house.end(6001), false);
        Talk.due("and no less", house.end(6000), true);
    }

    /** Promise 2: "false, changing nothing, when it would have more than 6000" (just below). */
    static void theTapeNearlyFull() {
        for (int left = 5979; left <= 5982; left++) {
            Run house = new Run();
            feed(house, 300, 0);
            house.end(left);
            Talk.due("feed behind " + left, house.feed(0, 0, 0, 0, 0), left <= 5980);
            int now = left <= 5980 ? left + 20 : left;
            Talk.due("bytes then", house.end(now) && !house.end(now + 1), true);
        }
    }

    /** Promise 2: "false, changing nothing" (the bytes that are there stay as they were). */
    static void aRefusedFeedChangesNothing() {
        Talk talk = new Talk();
        talk.house.feed(0x616E6E3A, 0x70770000, 0, 0, 0);
        feed(talk.house, 299, 0x20202020);
        Talk.due("refused", talk.house.feed(0x78787878, 0x78787878, 0, 0, 0), false);
        talk.house.end(6);
        Talk.due("ann:pw", talk.house.user(), 0);
    }

    /** Promise 3: "Of the tape only the first n bytes count (what is fed then comes behind them)". */
    static void fedBehindTheEnd() {
        Talk talk = new Talk();
        talk.house.feed(0x616E6E3A, 0x70770000, 0, 0, 0);
        talk.house.end(5);
        talk.house.feed(0x71000000, 0, 0, 0, 0);
        talk.house.end(6);
        Talk.due("ann:pq", talk.house.user(), 0);
        talk.house.open();
        Talk.due("her password", Talk.statusOf(
            talk.come("OPTIONS / HTTP/1.1\r\nHost: x\r\nAuthorization: Basic YW5uOnBx\r\n\r\n")), 200);
    }

    /** Promise 3: "false, changing nothing, when it has not so many" (as many as there are, one more). */
    static void endAtAndBehind() {
        Run house = new Run();
        house.feed(0, 0, 0, 0, 0);
        Talk.due("one more", house.end(21), false);
        Talk.due("far more", house.end(Integer.MAX_VALUE), false);
        Talk.due("as many", house.end(20), true);
        Talk.due("one less", house.end(19), true);
        Talk.due("as many as there were", house.end(20), false);
        Talk.due("none", house.end(0), true);
        Talk.due("none again", house.end(0), true);
        Talk.due("one of none", house.end(1), false);
    }

    /** Promise 3: "false, changing nothing, when it has not so many, or n is below 0". */
    static void endBelowNone() {
        Run house = new Run();
        house.feed(0, 0, 0, 0, 0);
        Talk.due("-1", house.end(-1), false);
        Talk.due("the least", house.end(Integer.MIN_VALUE), false);
        Talk.due("nothing was changed", house.end(20), true);
    }

    /** Promise 4: "The tape (empty then)". */
    static void userEmptiesTheTape() {
        Talk talk = new Talk();
        talk.user("ann:pw");
        Talk.due("behind a user", talk.house.end(1), false);
        talk.user("ann pw");
        Talk.due("behind none", talk.house.end(1), false);
    }

    /** Promise 4: "a name, ':' and a password" with Part II: "a name (1 to 12 letters a .. z)". */
    static void userNames() {
        Talk talk = new Talk();
        Talk.due("no letter", talk.user(":x"), -1);
        Talk.due("13 letters", talk.user("abcdefghijklm:x"), -1);
        for (String name : new String[] {"`", "{", "A", "Z", "1", "-", " ", "a b", "a1", "\u00e9", "a\r\n"}) {
            Talk.due("name " + name, talk.user(name + ":x"), -1);
        }
        Talk.due("1 letter, the first one", talk.user("a:x"), 0);
        Talk.due("1 letter, the last one", talk.user("z:x"), 1);
        Talk.due("12 letters", talk.user("abcdefghijkl:x"), 2);
    }

    /** Promise 4: "a name, ':' and a password of 1 to 20 bytes 33 .. 126" (how many). */
    static void passwordLengths() {
        Talk talk = new Talk();
        Talk.due("no :", talk.user("a"), -1);
        Talk.due("no byte", talk.user("a:"), -1);
        Talk.due("21 bytes", talk.user("a:123456789012345678901"), -1);
        Talk.due("1 byte", talk.user("a:1"), 0);
        Talk.due("20 bytes", talk.user("b:12345678901234567890"), 1);
    }

    /** Promise 4: "a password of 1 to 20 bytes 33 .. 126" (which bytes). */
    static void passwordBytes() {
        Talk talk = new Talk();
        for (byte b : new byte[] {0, 9, 10, 13, 31, 32, 127, -128, -1}) {
            talk.tape(new byte[] {'a', ':', 'x', b});
            Talk.due("byte " + b + " last", talk.house.user(), -1);
            talk.tape(new byte[] {'a', ':', b, 'x'});
            Talk.due("byte " + b + " first", talk.house.user(), -1);
        }
        Talk.due("33 and 126", talk.user("a:!~"), 0);
        Talk.due(": is one of them", talk.user("b::"), 1);
    }

    /** Promise 4: "NONE when it is not so, the name is there, or there are 4" (the name is there). */
    static void aNameThatIsThere() {
        Talk talk = new Talk();
        Talk.due("the first", talk.user("ann:x"), 0);
        Talk.due("again", talk.user("ann:x"), -1);
        Talk.due("again with another password", talk.user("ann:y"), -1);
        Talk.due("the beginning of it", talk.user("an:x"), 1);
        Talk.due("more than it", talk.user("anna:x"), 2);
    }

    /** Promise 4: "NONE when it is not so, the name is there, or there are 4" (there are 4). */
    static void theFifthUser() {
        Talk talk = new Talk();
        for (int i = 0; i < 4; i++) {
            Talk.due("user " + i, talk.user((char) ('a' + i) + ":x"), i);
        }
        Talk.due("the fifth", talk.user("e:x"), -1);
        Talk.due("the tape is empty then", talk.house.end(1), false);
    }

    /** Promise 5: "its number, the least of 0 .. 3 that is free". */
    static void theLeastFree() {
        Run house = new Run();
        for (int c = 0; c < 4; c++) {
            Talk.due("open", house.open(), c);
        }
        house.shut(3);
        house.shut(0);
        house.shut(2);
        Talk.due("of 0, 2, 3", house.open(), 0);
        Talk.due("of 2, 3", house.open(), 2);
        Talk.due("of 3", house.open(), 3);
    }

    /** Promise 5: "NONE when none is". */
    static void allTaken() {
        Run house = new Run();
        for (int c = 0; c < 4; c++) {
            house.open();
        }
        Talk.due("a fifth", house.open(), -1);
        for (int c = 0; c < 4; c++) {
            Talk.due("isOpen " + c, house.isOpen(c), true);
        }
    }

    /** Promise 5: "A new connection" (nothing of an older one is on it). */
    static void aNewConnectionIsNew() {
        Talk talk = Talk.begun();
        talk.come("OPTIONS / HTTP/1.1\r\nHost: x\r\n");
        talk.house.shut(0);
        Talk.due("the same number", talk.house.open(), 0);
        Talk.due("the rest alone", Talk.statusOf(talk.come("\r\n\r\n")), 400);
        Talk body = Talk.begun();
        body.come("OPTIONS / HTTP/1.1\r\nHost: x\r\nContent-Length: 9\r\n\r\nabc");
        body.house.shut(0);
        body.house.open();
        Talk.due("no body is waited for", Talk.statusOf(body.ann("OPTIONS /")), 200);
    }

    /** Promise 6: "The tape (empty then) comes on a connection". */
    static void comeEmptiesTheTape() {
        Talk talk = Talk.begun();
        talk.come("OPTIONS");
        Talk.due("behind a part", talk.house.end(1), false);
        talk.come("\r\n\r\nwhat is left");
        Talk.due("behind an answer that CLOSES", talk.house.end(1), false);
    }

    /** Promise 6: "the OUT becomes its answers, one behind the other: how many" (none, one, several). */
    static void howManyAnswers() {
        Talk talk = Talk.begun();
        String one = Talk.request("ann", "OPTIONS /", "", "");
        String answer = talk.come(one);
        talk.tape("");
        Talk.due("of nothing", talk.house.come(0), 0);
        Talk.due("the OUT then", talk.house.out(), 0);
        talk.tape(one + one + one.substring(0, 9));
        Talk.due("of two and a part", talk.house.come(0), 2);
        Talk.due("the OUT then", talk.out(), answer + answer);
        talk.tape(one.substring(9));
        Talk.due("of the rest", talk.house.come(0), 1);
        Talk.due("only its answer", talk.out(), answer);
    }

    /** Promise 6: "IllegalStateException: it is not open (the tape stays)". */
    static void comeOnWhatIsNotOpen() {
        Talk talk = Talk.begun();
        talk.ann("OPTIONS /");
        int out = talk.house.out();
        talk.tape("dan:x");
        for (int c : new int[] {-1, 1, 3, 4, Integer.MIN_VALUE, Integer.MAX_VALUE}) {
            Talk.due("come " + c + " throws", comeThrows(talk.house, c), true);
        }
        talk.house.shut(0);
        Talk.due("come on one that was shut throws", comeThrows(talk.house, 0), true);
        Talk.due("the OUT stays", talk.house.out(), out);
        Talk.due("the tape stays", talk.house.user(), 3);
    }

    /** A PROPFIND whose answer has n bytes more than that of 0. */
    private static String filler(int n) {
        return Talk.request("ann", "PROPFIND /", "Depth: 0\r\n", "<propfind xmlns='DAV:' xmlns:x='n"
            + "\"".repeat(n / 6) + "n".repeat(n % 6) + "'><prop><x:a/></prop></propfind>");
    }

    /** A PROPFIND with a large answer. */
    private static String large() {
        StringBuilder properties = new StringBuilder();
        for (int i = 0; i < 20; i++) {
            properties.append("<x:p").append((char) ('a' + i)).append("/>");
        }
        return Talk.request("ann", "PROPFIND /", "Depth: 0\r\n", "<propfind xmlns='DAV:' xmlns:x='" + "n".repeat(2700)
            + "'><prop>" + properties + "</prop></propfind>");
    }

    /** The n for which the answers to large() and filler(n) have 65536 bytes together. */
    private static int brim(Talk talk) {
        int rest = 65536 - talk.come(large()).length();
        return 10000 + rest - talk.come(filler(10000)).length();
    }

    /** Promise 6: "An answer that would bring the OUT above 65536 is not given" (just 65536). */
    static void theOutJustFull() {
        Talk talk = Talk.begun();
        int n = brim(talk);
        talk.tape(large() + filler(n));
        Talk.due("answers", talk.house.come(0), 2);
        Talk.due("bytes", talk.house.out(), 65536);
        Talk.due("the last byte", talk.house.outAt(65535), (int) '>');
        Talk.due("behind it", outThrows(talk.house, 65536), true);
        Talk.due("it is open", talk.house.isOpen(0), true);
    }

    /** Promise 6: "An answer that would bring the OUT above 65536 is not given, the connection is shut." (one byte more) */
    static void theOutTooFull() {
        Talk talk = Talk.begun();
        int n = brim(talk);
        String first = talk.come(large());
        talk.tape(large() + filler(n + 1) + filler(0));
        Talk.due("answers", talk.house.come(0), 1);
        Talk.due("only the first", talk.out(), first);
        Talk.due("it is shut", talk.house.isOpen(0), false);
        talk.house.open();
        Talk.due("a new one answers", Talk.statusOf(talk.ann("OPTIONS /")), 200);
    }

    /** Promise 7: "Whether a connection is open." (numbers that are none's) */
    static void isOpenOfAnyNumber() {
        Run house = new Run();
        house.open();
        Talk.due("0", house.isOpen(0), true);
        for (int c : new int[] {-1, 1, 4, Integer.MIN_VALUE, Integer.MAX_VALUE}) {
            Talk.due("" + c, house.isOpen(c), false);
        }
        house.shut(0);
        Talk.due("0 when it is shut", house.isOpen(0), false);
    }

    /** Promise 8: "A connection that is open is shut: true; false for others." */
    static void shutOnce() {
        Run house = new Run();
        house.open();
        house.open();
        for (int c : new int[] {-1, 2, 4, Integer.MIN_VALUE, Integer.MAX_VALUE}) {
            Talk.due("shut " + c, house.shut(c), false);
        }
        Talk.due("shut 1", house.shut(1), true);
        Talk.due("shut 1 again", house.shut(1), false);
        Talk.due("0 stays open", house.isOpen(0), true);
    }

    /** Promise 8: "false for others" (one that an answer has shut). */
    static void shutByAnAnswer() {
        Talk talk = Talk.begun();
        talk.come("\r\n\r\n");
        Talk.due("shut", talk.house.shut(0), false);
    }

    /** Promise 9: "How many bytes the OUT has." (behind each call that makes it) */
    static void outBehindCalls() {
        Talk talk = Talk.begun();
        talk.ann("OPTIONS /");
        Talk.due("behind come", talk.house.out() > 0, true);
        talk.turn(0, "x");
        Talk.due("behind what is no CARD", talk.house.out(), 0);
        talk.turn(0, Talk.plain("u", "A"));
        Talk.due("behind a CARD", talk.house.out(), Talk.plain("u", "A").length());
        talk.user("dan:x");
        talk.house.feed(0, 0, 0, 0, 0);
        talk.house.end(0);
        talk.house.open();
        talk.house.shut(1);
        Talk.due("other calls leave it", talk.house.out(), Talk.plain("u", "A").length());
    }

    /** Promise 10: "Byte i of the OUT, 0 .. 255." */
    static void outAtBytes() {
        Talk talk = new Talk();
        talk.turn(0, Talk.plain("u", "\udbff\udfff\uffff"));
        int at = "BEGIN:VCARD\r\nVERSION:4.0\r\nFN:".length();
        int[] bytes = {0xF4, 0x8F, 0xBF, 0xBF, 0xEF, 0xBF, 0xBF, 13};
        for (int i = 0; i < bytes.length; i++) {
            Talk.due("byte " + i, talk.house.outAt(at + i), bytes[i]);
        }
    }

    /** Promise 10: "NoSuchElementException: there is none." (below 0, the last byte, behind it) */
    static void outAtEnds() {
        Talk talk = new Talk();
        int size = talk.turn(0, Talk.plain("u", "A")).length();
        Talk.due("the first", talk.house.outAt(0), (int) 'B');
        Talk.due("the last", talk.house.outAt(size - 1), 10);
        for (int i : new int[] {-1, size, size + 1, Integer.MIN_VALUE, Integer.MAX_VALUE}) {
            Talk.due("outAt " + i + " throws", outThrows(talk.house, i), true);
        }
    }

    /** Promise 10: "there is none" (what an earlier OUT had is not there). */
    static void outAtOfAnEarlierOut() {
        Talk talk = new Talk();
        talk.turn(0, Talk.plain("u", "A long name"));
        int size = talk.turn(0, Talk.plain("u", "A")).length();
        Talk.due("behind the shorter one", outThrows(talk.house, size), true);
        talk.turn(0, "");
        Talk.due("of none", outThrows(talk.house, 0), true);
    }

    /** Promise 11: "The tape (empty then) as a CARD comes to the OUT in a version, 3, 4, or 0 as it is: how many bytes". */
    static void turnVersions() {
        Talk talk = new Talk();
        String three = Talk.card3("FN:A\r\nN:A;;;;\r\nUID:u\r\n");
        String four = Talk.card4("FN:A\r\nN:A;;;;\r\nUID:u\r\n");
        String[] cards = {three, four};
        for (int i = 0; i < 2; i++) {
            talk.tape(cards[i]);
            Talk.due("how many bytes", talk.house.turn(0), cards[i].length());
            Talk.due("the tape is empty then", talk.house.end(1), false);
            Talk.due("as it is", talk.out(), cards[i]);
            Talk.due("in 3.0", talk.turn(3, cards[i]), three);
            Talk.due("in 4.0", talk.turn(4, cards[i]), four);
        }
    }

    /** Promise 11: "NONE, and the OUT is empty, when it is none". */
    static void turnNoCard() {
        Talk talk = new Talk();
        for (int version : new int[] {0, 3, 4}) {
            talk.turn(0, Talk.plain("u", "A"));
            Talk.due("no CARD", talk.turn(version, "BEGIN:VCARD\r\nEND:VCARD\r\n"), "NONE");
            Talk.due("the OUT", talk.house.out(), 0);
            Talk.due("the tape", talk.house.end(1), false);
        }
    }

    /** Promise 11: "NONE, and the OUT is empty, when it is none, or there is no such version." */
    static void turnNoVersion() {
        Talk talk = new Talk();
        for (int version : new int[] {-1, 1, 2, 5, 30, Integer.MIN_VALUE, Integer.MAX_VALUE}) {
            talk.turn(0, Talk.plain("u", "A"));
            Talk.due("version " + version, talk.turn(version, Talk.plain("u", "A")), "NONE");
            Talk.due("the OUT", talk.house.out(), 0);
            Talk.due("the tape", talk.house.end(1), false);
        }
    }

    /** Promise 12: "0 how many BOOKS, 1 CARDS, 2 CHANGES there are" (with Part III: 6 BOOKS, 16 CARDS). */
    static void countsOfAFullHouse() {
        Talk talk = Talk.begun();
        for (int i = 0; i < 7; i++) {
            talk.ann("MKCOL /a/ann/b" + i);
        }
        for (int i = 0; i < 17; i++) {
            talk.put("/a/ann/b" + i % 6 + "/c" + i, Talk.plain("u" + i, "A"));
        }
        Talk.due("BOOKS", talk.house.count(0), 6);
        Talk.due("CARDS", talk.house.count(1), 16);
        Talk.due("CHANGES", talk.house.count(2), 22);
        talk.ann("DELETE /a/ann/b0");
        Talk.due("BOOKS without one", talk.house.count(0), 5);
        Talk.due("CARDS without its three", talk.house.count(1), 13);
        Talk.due("CHANGES with that", talk.house.count(2), 23);
    }

    /** Promise 12: "NONE for others." */
    static void countsOfOthers() {
        Run house = new Run();
        for (int what : new int[] {-1, 3, Integer.MIN_VALUE, Integer.MAX_VALUE}) {
            Talk.due("count " + what, house.count(what), -1);
        }
    }
}
