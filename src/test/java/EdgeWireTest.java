/** The edges of Part I, connections and requests: a test for each sentence that names one; the remark is the sentence. */
public final class EdgeWireTest {
    private static final String OK = "HTTP/1.1 200 OK\r\nAllow: OPTIONS, PROPFIND\r\n"
        + "DAV: 1, 3, access-control, addressbook\r\nContent-Length: 0\r\n\r\n";
    private static final String BAD = "400 Bad Request";
    private static final String LARGE = "413 Content Too Large";
    private static final String CHUNKED = "Transfer-Encoding: chunked\r\n";

    public static void main(String[] args) throws ReflectiveOperationException {
        Talk.all(EdgeWireTest.class);
    }

    private static String closing(String status) {
        return "HTTP/1.1 " + status + "\r\nContent-Length: 0\r\nConnection: close\r\n\r\n";
    }

    /** On a new connection, the bytes are answered so, and that CLOSES. */
    private static void closes(String what, String bytes, String status) {
        Talk talk = Talk.begun();
        Talk.due(what, talk.come(bytes), closing(status));
        Talk.due(what + ": open", talk.house.isOpen(0), false);
    }

    /** On a new connection, the bytes are an OPTIONS at the ROOT that is as it should be. */
    private static void goes(String what, String bytes) {
        Talk talk = Talk.begun();
        Talk.due(what, talk.come(bytes), OK);
        Talk.due(what + ": open", talk.house.isOpen(0), true);
    }

    private static void waits(String what, String bytes) {
        Talk talk = Talk.begun();
        Talk.due(what, talk.come(bytes), "");
        Talk.due(what + ": open", talk.house.isOpen(0), true);
    }

    private static String request(String line, String headers) {
        return line + "\r\nHost: x\r\nAuthorization: Basic YW5uOnB3\r\n" + headers + "\r\n";
    }

    private static String options(String headers) {
        return request("OPTIONS / HTTP/1.1", headers);
    }

    /** Part I: "Bytes that come on a connection are kept until they are read." */
    static void bytesAreKept() {
        Talk talk = Talk.begun();
        String all = options("Content-Length: 2\r\n") + "ab";
        for (int i = 0; i + 1 < all.length(); i++) {
            Talk.due("byte " + i, talk.come(all.substring(i, i + 1)), "");
        }
        Talk.due("the last byte", talk.come("b"), OK);
    }

    /** Part I: "A request is read when enough bytes are there: a HEAD, up to and with the first CRLF CRLF, and a BODY." */
    static void upToTheFirstEnd() {
        waits("without its last byte", options("").substring(0, options("").length() - 1));
        goes("with it", options(""));
        Talk talk = Talk.begun();
        Talk.due("CRLF CRLF in the BODY", talk.come(options("Content-Length: 4\r\n") + "\r\n\r\n" + options("")), OK + OK);
    }

    /** Part I: "or can't be right (a HEAD when its end is there". */
    static void aWrongHeadWaitsForItsEnd() {
        Talk talk = Talk.begun();
        Talk.due("no HEAD without an end", talk.come("nothing\r\nof the kind\r\n\r"), "");
        Talk.due("its last byte", talk.come("\n"), closing(BAD));
    }

    /** Part I: "a chunk's number when its CRLF is". */
    static void aChunksNumberWaitsForItsEnd() {
        Talk talk = Talk.begun();
        Talk.due("a number above 3000", talk.come(options(CHUNKED) + "FFFF"), "");
        Talk.due("13", talk.come("\r"), "");
        Talk.due("10", talk.come("\n"), closing(LARGE));
    }

    /** Part I: "but a fifth digit, or what is no digit there, at once" (a fifth digit). */
    static void aFifthDigitAtOnce() {
        waits("four digits", options(CHUNKED) + "0000");
        closes("five digits", options(CHUNKED) + "00000", BAD);
    }

    /** Part I: "but a fifth digit, or what is no digit there, at once" (no digit). */
    static void noDigitAtOnce() {
        for (String sign : new String[] {"g", "G", "/", ":", "@", "`", " ", "-", ";", "\n", "\t"}) {
            closes("no digit at first", options(CHUNKED) + sign, BAD);
            closes("no digit behind one", options(CHUNKED) + "1" + sign, BAD);
        }
        closes("13 without a digit", options(CHUNKED) + "\r", BAD);
    }

    /** Part I: "then the next one is read from what is left, as long as the connection is open". */
    static void theNextFromWhatIsLeft() {
        Talk talk = Talk.begun();
        Talk.due("three at once", talk.come(options("") + options("Content-Length: 1\r\n") + "x" + options("")), OK + OK + OK);
        Talk.due("one behind an answer that CLOSES", talk.come("\r\n\r\n" + options("")), closing(BAD));
    }

    /** Part I: "An answer that CLOSES: the connection is shut, what is left on it is forgotten." */
    static void whatIsLeftIsForgotten() {
        Talk talk = Talk.begun();
        talk.come("\r\n\r\n" + options("").substring(0, 30));
        Talk.due("shut", talk.house.isOpen(0), false);
        talk.house.open();
        Talk.due("the rest is alone", talk.come(options("").substring(30)), closing(BAD));
    }

    /** Part I, HEAD: "a METHOD (1 to 20 letters A .. Z)". */
    static void methods() {
        for (String method : new String[] {"A", "Z", "A".repeat(20)}) {
            Talk talk = Talk.begun();
            Talk.due("METHOD " + method, Talk.statusOf(talk.come(request(method + " / HTTP/1.1", ""))), 501);
            Talk.due("it is open", talk.house.isOpen(0), true);
        }
        for (String method : new String[] {"", "A".repeat(21), "@", "[", "a", "GeT", "GET1", "G-T", "\u00c4"}) {
            closes("METHOD " + method, request(method + " / HTTP/1.1", ""), BAD);
        }
    }

    /** Part I, HEAD: "S, a TARGET (1 to 200 bytes 33 .. 126), S" (how many). */
    static void targetLengths() {
        goes("1 byte", request("OPTIONS / HTTP/1.1", ""));
        goes("200 bytes", request("OPTIONS /?" + "x".repeat(198) + " HTTP/1.1", ""));
        closes("201 bytes", request("OPTIONS /?" + "x".repeat(199) + " HTTP/1.1", ""), BAD);
        closes("none", request("OPTIONS  HTTP/1.1", ""), BAD);
        closes("none and one S", request("OPTIONS HTTP/1.1", ""), BAD);
    }

    /** Part I, HEAD: "S, a TARGET (1 to 200 bytes 33 .. 126), S" (which bytes). */
    static void targetBytes() {
        goes("33 and 126", request("OPTIONS /?!~ HTTP/1.1", ""));
        for (String sign : new String[] {" ", "\t", "\u001f", "\u007f", "\u0080", "\u0000", "\n", "\r"}) {
            closes("another byte", request("OPTIONS /?a" + sign + "b HTTP/1.1", ""), BAD);
        }
        closes("two S ahead", request("OPTIONS  / HTTP/1.1", ""), BAD);
        closes("two S behind", request("OPTIONS /  HTTP/1.1", ""), BAD);
        closes("9 for S", request("OPTIONS\t/ HTTP/1.1", ""), BAD);
    }

    /** Part I, HEAD: "'HTTP/' digit '.' digit". */
    static void versionDigits() {
        for (String version : new String[] {"HTTP/1.0", "HTTP/0.0", "HTTP/9.9", "HTTP/2.1", "HTTP/0.1"}) {
            closes(version, request("OPTIONS / " + version, ""), "505 HTTP Version Not Supported");
        }
        for (String version : new String[] {"http/1.1", "HTTP/1", "HTTP/1.", "HTTP/.1", "HTTP/11", "HTTP/1.1 ", "HTTP/1.10",
            "HTTP/11.1", "HTTP/a.1", "HTTP/1.a", "HTTP//.1", "HTTP/1.:", "HTTP/1,1", "HTTP1.1", "HTT/1.1", "X"}) {
            closes(version, request("OPTIONS / " + version, ""), BAD);
        }
    }

    /** Part I, HEAD: "A header line: a NAME (1 to 40 letters, digits, -), ':'". */
    static void headerNames() {
        for (String name : new String[] {"a", "Z", "0", "9", "-", "x".repeat(40)}) {
            goes("NAME " + name, options(name + ": v\r\n"));
        }
        for (String name : new String[] {"", "x".repeat(41), "_", ".", "a b", " a", "a ", "\ta", "\u00e4", "@", "[", "/"}) {
            closes("NAME " + name, options(name + ": v\r\n"), BAD);
        }
        closes("no :", options("X\r\n"), BAD);
    }

    /** Part I, HEAD: "then any S and bytes 9, a VALUE (bytes 32 .. 126 and 9; without S and 9 at both ends, which do not count)". */
    static void headerValues() {
        for (String value : new String[] {"", " ", "\t", "a", " a b\tc ", "!", "~"}) {
            goes("VALUE " + value, options("X:" + value + "\r\n"));
        }
        for (String value : new String[] {"\u0000", "\u0008", "\n", "\r", "\u001f", "\u007f", "\u0080", "a\u00e4"}) {
            closes("another byte", options("X:" + value + "\r\n"), BAD);
        }
        goes("S and 9 at both ends do not count", "OPTIONS / HTTP/1.1\r\nHost: x\r\n"
            + "Authorization:\t \tBasic YW5uOnB3 \t \r\nContent-Length:  0\t\r\nConnection: keep\r\n\r\n");
        Talk talk = Talk.begun();
        talk.come(options("Connection:\t close \r\n"));
        Talk.due("close with S and 9 around it", talk.house.isOpen(0), false);
    }

    /** Part I, HEAD: "at most 20 of them". */
    static void headerLines() {
        goes("20 header lines", options("X: y\r\n".repeat(18)));
        closes("21 header lines", options("X: y\r\n".repeat(19)), BAD);
    }

    /** Part I: "more than 2000 bytes, the first 2000 without the HEAD's end: 431". */
    static void longHeads() {
        int free = 2000 - options("X: \r\n").length();
        goes("2000 bytes", options("X: " + "y".repeat(free) + "\r\n"));
        waits("2000 bytes without the end", options("X: " + "y".repeat(free + 9) + "\r\n").substring(0, 2000));
        for (int over = 1; over <= 4; over++) {
            closes("an end at byte " + (2000 + over), options("X: " + "y".repeat(free + over) + "\r\n"),
                "431 Request Header Fields Too Large");
        }
        closes("2001 bytes without the end", "x".repeat(2001), "431 Request Header Fields Too Large");
        Talk talk = Talk.begun();
        Talk.due("the bytes of an earlier request do not count", talk.come(options("X: " + "y".repeat(free) + "\r\n")
            + options("X: " + "y".repeat(free) + "\r\n")), OK + OK);
    }

    /** Part I: "Looked at in this order, the first that is so is answered and CLOSES" (each beside the next one). */
    static void theFirstThatIsSo() {
        closes("431 ahead of 400", "X" + " ".repeat(2000) + "\r\n\r\n", "431 Request Header Fields Too Large");
        closes("400 ahead of 505", "OPTIONS / HTTP/1.0\r\nHost\r\n\r\n", BAD);
        closes("505 ahead of no Host", "OPTIONS / HTTP/1.0\r\n\r\n", "505 HTTP Version Not Supported");
        closes("no Host ahead of 501", "OPTIONS / HTTP/1.1\r\nTransfer-Encoding: gzip\r\n\r\n", BAD);
        closes("twice ahead of 501", options("Depth: 0\r\nDepth: 0\r\nTransfer-Encoding: gzip\r\n"), BAD);
        closes("both ahead of 501", options("Content-Length: 1\r\nTransfer-Encoding: gzip\r\n"), BAD);
        closes("no number ahead of 413", options("Content-Length: 9999999999\r\n"), BAD);
        closes("413 ahead of 501 for the METHOD", request("XX / HTTP/1.1", "Content-Length: 3001\r\n"), LARGE);
    }

    /** Part I: "a HEAD that is not as said: 400" (lines that are none). */
    static void headsThatAreNone() {
        closes("no line", "\r\n\r\n", BAD);
        closes("an empty line first", "\r\n" + options(""), BAD);
        closes("10 alone between lines", options("").replace("Host: x\r\n", "Host: x\n"), BAD);
        closes("13 alone between lines", options("").replace("Host: x\r\n", "Host: x\r"), BAD);
        closes("a line that begins with S", options("X: y\r\n z\r\n"), BAD);
        closes("S alone", " \r\n\r\n", BAD);
    }

    /** Part I: "not 'HTTP/1.1': 505". */
    static void otherVersions() {
        closes("HTTP/1.2", request("OPTIONS / HTTP/1.2", ""), "505 HTTP Version Not Supported");
        closes("HTTP/1.0", request("OPTIONS / HTTP/1.0", ""), "505 HTTP Version Not Supported");
    }

    /** Part I: "no Host, or a header that is told here twice" (no Host). */
    static void noHost() {
        closes("no header", "OPTIONS / HTTP/1.1\r\n\r\n", BAD);
        closes("others", "OPTIONS / HTTP/1.1\r\nHosts: x\r\nX-Host: x\r\n\r\n", BAD);
        goes("one without a value", options("").replace("Host: x", "Host:"));
        goes("LIKE", options("").replace("Host: x", "hOST: x"));
    }

    /** Part I: "a header that is told here twice (names LIKE: Host, Authorization, Content-Length, Transfer-Encoding, Connection, Content-Type, Accept, Depth, If-Match, If-None-Match): 400". */
    static void headersTwice() {
        String[] names = {"Host", "Authorization", "Content-Length", "Transfer-Encoding", "Connection", "Content-Type", "Accept",
            "Depth", "If-Match", "If-None-Match"};
        for (String name : names) {
            String once = options("").replace("Authorization: Basic YW5uOnB3\r\n", "").replace("Host: x\r\n",
                name.equals("Host") ? "" : "Host: x\r\n");
            String end = once.substring(0, once.length() - 2);
            closes(name + " twice", end + name + ": 0\r\n" + name + ": 0\r\n\r\n", BAD);
            closes(name + " twice LIKE", end + name.toUpperCase() + ":\r\nX: y\r\n" + name.toLowerCase() + ":\r\n\r\n", BAD);
        }
        Talk talk = Talk.begun();
        talk.come(options("Depth: 0\r\nDepth: 0\r\n"));
        talk.house.open();
        Talk.due("that is over with the connection", talk.come(options("Depth: 0\r\n")), OK);
        goes("other headers twice", options("Date: 1\r\nDate: 1\r\nX: 1\r\nX: 1\r\n"));
    }

    /** Part I: "Transfer-Encoding with Content-Length: 400". */
    static void bothLengths() {
        closes("chunked and 0", options(CHUNKED + "Content-Length: 0\r\n"), BAD);
        closes("0 and chunked", options("Content-Length: 0\r\n" + CHUNKED), BAD);
        closes("empty both", options("Content-Length:\r\nTransfer-Encoding:\r\n"), BAD);
    }

    /** Part I: "a Transfer-Encoding not LIKE 'chunked': 501". */
    static void otherEncodings() {
        for (String value : new String[] {"", "gzip", "chunke", "chunkedx", "xhunked", "chunked, gzip", "gzip, chunked", "chunked;"}) {
            closes("Transfer-Encoding: " + value, options("Transfer-Encoding: " + value + "\r\n"), "501 Not Implemented");
        }
        goes("LIKE", options("Transfer-Encoding: cHUNKED\r\n") + "0\r\n\r\n");
    }

    /** Part I: "a Content-Length that is not 1 to 9 digits: 400". */
    static void lengthDigits() {
        for (String value : new String[] {"", "0000000000", "1234567890", "a", "1a", "-1", "+1", "1 1", "0x1", "1.", "/", ":",
            "123456789a", "00000000a", "a00000000"}) {
            closes("Content-Length: " + value, options("Content-Length: " + value + "\r\n"), BAD);
        }
        goes("1 digit", options("Content-Length: 0\r\n"));
        Talk talk = Talk.begun();
        Talk.due("9 digits", talk.come(options("Content-Length: 000000012\r\n") + "x".repeat(12) + options("")), OK + OK);
    }

    /** Part I: "one above 3000: 413". */
    static void lengthsAbove() {
        goes("3000", options("Content-Length: 3000\r\n") + "x".repeat(3000));
        closes("3001", options("Content-Length: 3001\r\n"), LARGE);
        closes("999999999", options("Content-Length: 999999999\r\n"), LARGE);
    }

    /** Part I, BODY: "as many bytes as Content-Length says (0 without it)". */
    static void bodyLengths() {
        Talk talk = Talk.begun();
        Talk.due("0 without it", talk.come(options("") + options("")), OK + OK);
        Talk.due("0", talk.come(options("Content-Length: 0\r\n") + options("")), OK + OK);
        Talk.due("1", talk.come(options("Content-Length: 1\r\n") + "O" + options("")), OK + OK);
        waits("one byte less", options("Content-Length: 3000\r\n") + "x".repeat(2999));
    }

    /** Part I, CHUNKS: "a number in hexadecimal digits (1 to 4, either case), CRLF, so many bytes, CRLF". */
    static void chunkNumbers() {
        goes("1 digit", options(CHUNKED) + "1\r\nx\r\n0\r\n\r\n");
        goes("4 digits", options(CHUNKED) + "0001\r\nx\r\n0\r\n\r\n");
        goes("either case", options(CHUNKED) + "a\r\n0123456789\r\nF\r\n0123456789abcde\r\nAb\r\n" + "x".repeat(0xAB)
            + "\r\n0\r\n\r\n");
        Talk talk = Talk.begun();
        String two = options(CHUNKED) + "0001\r\nx\r\n0000\r\n\r\n";
        Talk.due("the next ones are counted anew", talk.come(options("Content-Length: 7\r\n") + "x".repeat(7) + two + two), OK + OK + OK);
        goes("CRLF in a chunk", options(CHUNKED) + "4\r\n\r\n\r\n\r\n0\r\n\r\n");
        waits("one byte less", options(CHUNKED) + "3\r\nab");
    }

    /** Part I, CHUNKS: "the last one has the number 0 (also 00 ..) and is followed by CRLF". */
    static void theLastChunk() {
        for (String last : new String[] {"0", "00", "000", "0000"}) {
            goes("no chunk but " + last, options(CHUNKED) + last + "\r\n\r\n");
            goes("one and " + last, options(CHUNKED) + "2\r\nxy\r\n" + last + "\r\n\r\n");
            waits(last + " without CRLF behind", options(CHUNKED) + last + "\r\n\r");
        }
        Talk talk = Talk.begun();
        Talk.due("the next request is right behind", talk.come(options(CHUNKED) + "0\r\n\r\n" + options("")), OK + OK);
    }

    /** Part I, CHUNKS: "As soon as something else stands there: 400" and "both CLOSE". */
    static void somethingElseInChunks() {
        closes("behind 13 of the number", options(CHUNKED) + "1\rx", BAD);
        closes("13 again", options(CHUNKED) + "1\r\r", BAD);
        closes("behind the bytes", options(CHUNKED) + "1\r\nxy", BAD);
        closes("10 behind the bytes", options(CHUNKED) + "1\r\nx\n", BAD);
        closes("behind 13 of the bytes", options(CHUNKED) + "1\r\nx\rx", BAD);
        closes("no number behind a chunk", options(CHUNKED) + "1\r\nx\r\n\r", BAD);
        closes("behind the last number", options(CHUNKED) + "0\r\nX", BAD);
        closes("10 behind the last number", options(CHUNKED) + "0\r\n\n", BAD);
        closes("behind 13 of the last", options(CHUNKED) + "0\r\n\rX", BAD);
    }

    /** Part I, CHUNKS: "as soon as a chunk's number brings the sum above 3000: 413; both CLOSE". */
    static void chunksAbove() {
        goes("3000 in one", options(CHUNKED) + "BB8\r\n" + "x".repeat(3000) + "\r\n0\r\n\r\n");
        closes("3001 in one", options(CHUNKED) + "BB9\r\n", LARGE);
        goes("3000 in two", options(CHUNKED) + "BB7\r\n" + "x".repeat(2999) + "\r\n1\r\nx\r\n0\r\n\r\n");
        closes("3001 in two", options(CHUNKED) + "BB7\r\n" + "x".repeat(2999) + "\r\n2\r\n", LARGE);
        closes("3001 in three", options(CHUNKED) + "BB7\r\n" + "x".repeat(2999) + "\r\n1\r\nx\r\n1\r\n", LARGE);
    }

    /** Part I, CHUNKS: "(More than 4 digits is something else.)" */
    static void moreThanFourDigits() {
        closes("00003", options(CHUNKED) + "00003\r\nabc\r\n0\r\n\r\n", BAD);
        closes("00000", options(CHUNKED) + "00000\r\n\r\n", BAD);
        closes("FFFFF is no number above 3000", options(CHUNKED) + "FFFFF", BAD);
    }

    /** A house with a BOOK b1 and a CARD c1 in it. */
    private static Talk filled() {
        Talk talk = Talk.begun();
        talk.ann("MKCOL /a/ann/b1");
        talk.put("/a/ann/b1/c1", Talk.plain("u1", "A"));
        return talk;
    }

    /** Requests with the statuses that they get behind Part I. */
    private static final String[][] OTHERS = {{"OPTIONS /", "", "200 OK"}, {"MKCOL /a/ann/b2", "", "201 Created"},
        {"DELETE /a/ann/b1", "", "204 No Content"}, {"PROPFIND /", "Depth: 0\r\n", "207 Multi-Status"},
        {"GET /a/ann/b1/c1", "If-None-Match: *\r\n", "304 Not Modified"}, {"OPTIONS /%", "", "400 Bad Request"},
        {"OPTIONS /a/bob", "", "403 Forbidden"}, {"OPTIONS /x", "", "404 Not Found"}, {"GET /", "", "405 Method Not Allowed"},
        {"GET /a/ann/b1/c1", "Accept: x/y\r\n", "406 Not Acceptable"},
        {"GET /a/ann/b1/c1", "If-Match: \"9\"\r\n", "412 Precondition Failed"},
        {"PUT /a/ann/b1/c1", "", "415 Unsupported Media Type"}, {"POST /", "", "501 Not Implemented"}};

    /** Part I: "All other answers do not CLOSE". */
    static void otherAnswersDoNotClose() {
        for (String[] row : OTHERS) {
            Talk talk = filled();
            String answer = talk.ask("ann", row[0], row[1], "");
            Talk.due(row[0], answer.startsWith("HTTP/1.1 " + row[2] + "\r\n"), true);
            Talk.due(row[0] + " says close", answer.contains("Connection: close"), false);
            Talk.due(row[0] + ": open", talk.house.isOpen(0), true);
        }
        Talk talk = filled();
        Talk.due("401", talk.come("OPTIONS / HTTP/1.1\r\nHost: x\r\n\r\n"),
            Talk.bare("401 Unauthorized", "WWW-Authenticate: Basic realm=\"cards\"\r\n"));
        Talk.due("401: open", talk.house.isOpen(0), true);
    }

    /** Part I: "but when the request has a Connection LIKE 'close'". */
    static void closeWhenAsked() {
        for (String[] row : OTHERS) {
            Talk talk = filled();
            String answer = talk.ask("ann", row[0], row[1] + "Connection: cLOSE\r\n", "");
            Talk.due(row[0], answer.startsWith("HTTP/1.1 " + row[2] + "\r\n"), true);
            Talk.due(row[0] + " says close", answer.contains("\r\nConnection: close\r\n\r\n"), true);
            Talk.due(row[0] + ": open", talk.house.isOpen(0), false);
        }
        for (String value : new String[] {"", "closed", "clos", "xlose", "close, x", "keep-alive"}) {
            goes("Connection: " + value, options("Connection: " + value + "\r\n"));
        }
    }

    /** Part I, ANSWERS: "REASONS: 200 OK, 201 Created, 204 No Content, 207 Multi-Status, 304 Not Modified, 400 Bad Request, 401 Unauthorized, 403 Forbidden, 404 Not Found, 405 Method Not Allowed, 406 Not Acceptable, 412 Precondition Failed, 413 Content Too Large, 415 Unsupported Media Type, 424 Failed Dependency, 431 Request Header Fields Too Large, 501 Not Implemented, 505 HTTP Version Not Supported, 507 Insufficient Storage" (those that no other test here tells: 424, 507). */
    static void reasons() {
        Talk talk = filled();
        for (int i = 2; i <= 6; i++) {
            talk.ann("MKCOL /a/ann/b" + i);
        }
        Talk.due("507", talk.ann("MKCOL /a/ann/b7"), Talk.bare("507 Insufficient Storage", ""));
        Talk.due("424", talk.ask("ann", "PROPPATCH /a/ann/b1", "", Talk.root("D:propertyupdate",
            "<D:set><D:prop><D:displayname/><D:owner/></D:prop></D:set>")).contains("HTTP/1.1 424 Failed Dependency<"), true);
    }

    /** Part I, ANSWERS: "Headers that are told for an answer come first, then Content-Type (with a body), Content-Length (always but of 204 and 304: how many bytes the body has), and 'Connection: close' when it CLOSES." */
    static void headersOfAnswers() {
        Talk talk = filled();
        String close = "Connection: close\r\n";
        String card = Talk.plain("u1", "A");
        Talk.due("204", talk.ask("ann", "PUT /a/ann/b1/c1", "Content-Type: text/vcard\r\n", card),
            "HTTP/1.1 204 No Content\r\nETag: \"3\"\r\n\r\n");
        Talk.due("304", talk.ask("ann", "GET /a/ann/b1/c1", "If-None-Match: \"3\"\r\n", ""),
            "HTTP/1.1 304 Not Modified\r\nETag: \"3\"\r\n\r\n");
        Talk.due("201, a body of no bytes", talk.ann("MKCOL /a/ann/b2"), "HTTP/1.1 201 Created\r\nContent-Length: 0\r\n\r\n");
        Talk.due("all of them", talk.ask("ann", "GET /a/ann/b1/c1", close, ""), "HTTP/1.1 200 OK\r\nETag: \"3\"\r\n"
            + "Content-Type: text/vcard; charset=utf-8\r\nContent-Length: " + card.length() + "\r\n" + close + "\r\n" + card);
        talk.house.open();
        Talk.due("204 that CLOSES", talk.ask("ann", "DELETE /a/ann/b1/c1", close, ""),
            "HTTP/1.1 204 No Content\r\n" + close + "\r\n");
    }

    /** Part I, ANSWERS: "HEAD is answered as GET without the body's bytes." */
    static void headsAnswers() {
        Talk talk = filled();
        for (String headers : new String[] {"", "Accept: */*;version=3.0\r\n", "Accept: x/y\r\n", "If-Match: \"1\"\r\n",
            "If-None-Match: \"2\"\r\n", "If-Match: x\r\n"}) {
            String get = talk.ask("ann", "GET /a/ann/b1/c1", headers, "");
            Talk.due("HEAD with " + headers, talk.ask("ann", "HEAD /a/ann/b1/c1", headers, ""),
                get.substring(0, get.indexOf("\r\n\r\n") + 4));
        }
    }
}
