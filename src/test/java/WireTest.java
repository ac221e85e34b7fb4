/** Promise 6, Part I: connections and requests. */
public final class WireTest {
    private static final String OK = "HTTP/1.1 200 OK\r\nAllow: OPTIONS, PROPFIND\r\n"
        + "DAV: 1, 3, access-control, addressbook\r\nContent-Length: 0\r\n";

    public static void main(String[] args) {
        heads();
        lengths();
        bodies();
        chunks();
        closing();
        flow();
        Talk.finish();
    }

    private static String shut(String status) {
        return "HTTP/1.1 " + status + "\r\nContent-Length: 0\r\nConnection: close\r\n\r\n";
    }

    private static void closes(String what, String text, String status) {
        Talk talk = Talk.begun();
        Talk.due(what, talk.come(text), shut(status));
        Talk.due(what + ": shut", talk.house.isOpen(0), false);
    }

    private static String head(String headers) {
        return "OPTIONS / HTTP/1.1\r\nHost: x\r\nAuthorization: Basic YW5uOnB3\r\n" + headers + "\r\n";
    }

    private static void goes(String what, String text) {
        Talk talk = Talk.begun();
        Talk.due(what, talk.come(text), OK + "\r\n");
        Talk.due(what + ": open", talk.house.isOpen(0), true);
    }

    private static void heads() {
        goes("a request", head(""));
        goes("names LIKE", "OPTIONS / HTTP/1.1\r\nhOST:\r\nAUTHORIZATION:\t Basic YW5uOnB3 \t\r\n\r\n");
        goes("a header of 40 letters", head("x".repeat(40) + ": a\tb~\r\n"));
        goes("a header without value", head("X-1:\r\n"));
        goes("20 headers", head("X: y\r\n".repeat(18)));
        goes("a TARGET of 200 bytes", head("").replace(" / ", " /?" + "x".repeat(198) + " "));
        String bad = "400 Bad Request";
        closes("21 headers", head("X: y\r\n".repeat(19)), bad);
        closes("a header of 41 letters", head("x".repeat(41) + ": a\r\n"), bad);
        closes("a header without :", head("X\r\n"), bad);
        closes("a header without name", head(": x\r\n"), bad);
        closes("a header with S ahead of :", head("X : y\r\n"), bad);
        closes("a header with _", head("X_Y: y\r\n"), bad);
        closes("a value with 127", head("X: \u007f\r\n"), bad);
        closes("a value with bytes above 126", head("X: \u00e9\r\n"), bad);
        closes("a value with 13", head("X: a\rb\r\n"), bad);
        closes("a value with 10", head("X: a\nb\r\n"), bad);
        closes("10 between headers", head("X: a\nY: b\r\n"), bad);
        closes("13 between headers", head("X: a\rzY: b\r\n"), bad);
        closes("a folded header", head("X: a\r\n b\r\n"), bad);
        closes("an empty HEAD", "\r\n\r\n", bad);
        closes("an empty line ahead", "\r\n" + head(""), bad);
        closes("a TARGET of 201 bytes", head("").replace(" / ", " /" + "x".repeat(200) + " "), bad);
        closes("a TARGET with 127", head("").replace(" / ", " /\u007f "), bad);
        closes("no TARGET", head("").replace(" / ", "  "), bad);
        closes("two S", head("").replace(" / ", "  / "), bad);
        closes("a small METHOD", head("").replace("OPTIONS", "Options"), bad);
        closes("a METHOD of 21 letters", head("").replace("OPTIONS", "A".repeat(21)), bad);
        closes("no METHOD", head("").replace("OPTIONS", ""), bad);
        closes("no version", head("").replace(" HTTP/1.1", ""), bad);
        closes("HTTP/1.1x", head("").replace("HTTP/1.1", "HTTP/1.1x"), bad);
        for (String version : new String[] {"HTTP/x.1", "HTTP/1x1", "HTTP/1.x", "HTTP/11", "HTTP/:.1", "HTTP/1./", "XTTP/1.1"}) {
            closes(version, head("").replace("HTTP/1.1", version), bad);
        }
        closes("http/1.1", head("").replace("HTTP", "http"), bad);
        closes("HTTP/1.0", head("").replace("HTTP/1.1", "HTTP/1.0"), "505 HTTP Version Not Supported");
        closes("505 ahead of no Host", "GET / HTTP/2.0\r\n\r\n", "505 HTTP Version Not Supported");
        closes("400 ahead of 505", "GET / HTTP/2.0\r\nX\r\n\r\n", bad);
        closes("no Host", "GET / HTTP/1.1\r\n\r\n", bad);
        for (String name : new String[] {"Host", "Authorization", "Content-Length", "Transfer-Encoding", "Connection",
            "Content-Type", "Accept", "Depth", "If-Match", "If-None-Match"}) {
            closes("twice " + name, head("X: y\r\n" + name + ": 0\r\n" + name.toLowerCase() + ": 0\r\n"), bad);
        }
        goes("twice another one", head("X: y\r\nX: y\r\n"));
        for (String method : new String[] {"A", "Z".repeat(20), "OPTIONSS", "OPTION"}) {
            Talk.due("METHOD " + method, Talk.begun().come(head("").replace("OPTIONS", method)),
                "HTTP/1.1 501 Not Implemented\r\nContent-Length: 0\r\n\r\n");
        }
        goes("no S behind :", head("Content-Length:3\r\n") + "abc");
        Talk.due("no S behind Depth:", Talk.begun().ask("ann", "PROPFIND /", "Depth:0\r\n", "").substring(9, 12), "207");
        String long1 = head("X: " + "y".repeat(1920) + "\r\n");
        String whole = head("X: " + "y".repeat(1920 + 2000 - long1.length()) + "\r\n");
        Talk.due("2000 bytes", whole.length(), 2000);
        goes("a HEAD of 2000 bytes", whole);
        closes("a HEAD of 2001 bytes", head("X: " + "y".repeat(1920 + 2001 - long1.length()) + "\r\n"),
            "431 Request Header Fields Too Large");
        Talk talk = Talk.begun();
        Talk.due("2000 bytes without an end", talk.come("x".repeat(2000)), "");
        Talk.due("and one more", talk.come("x"), shut("431 Request Header Fields Too Large"));
    }

    private static void lengths() {
        String bad = "400 Bad Request";
        closes("Content-Length with Transfer-Encoding",
            head("Content-Length: 0\r\nTransfer-Encoding: gzip\r\n"), bad);
        closes("gzip", head("Transfer-Encoding: gzip\r\n"), "501 Not Implemented");
        closes("no Transfer-Encoding", head("Transfer-Encoding:\r\n"), "501 Not Implemented");
        for (String n : new String[] {"", "x", "-1", "1 2", "0x1", "1234567890", "+1"}) {
            closes("Content-Length " + n, head("Content-Length: " + n + "\r\n"), bad);
        }
        closes("3001", head("Content-Length: 3001\r\n"), "413 Content Too Large");
        closes("999999999", head("Content-Length: 999999999\r\n"), "413 Content Too Large");
        goes("000000000", head("Content-Length: 000000000\r\n"));
        goes("3000", head("Content-Length: 3000\r\n") + "x".repeat(3000));
    }

    private static void bodies() {
        Talk talk = Talk.begun();
        Talk.due("a body that is not there yet", talk.come(head("Content-Length: 3\r\n") + "ab"), "");
        Talk.due("its last byte, and the next request", talk.come("c" + head("")), OK + "\r\n" + OK + "\r\n");
        talk.tape(head("") + head("").substring(0, 40));
        Talk.due("one and a half", talk.house.come(0), 1);
        talk.tape(head("").substring(40) + head("") + head(""));
        Talk.due("and a half and two more", talk.house.come(0), 3);
    }

    private static void chunks() {
        String chunked = head("Transfer-Encoding: Chunked\r\n");
        goes("no chunk", chunked + "0\r\n\r\n");
        goes("no chunk by four digits", chunked + "0000\r\n\r\n");
        goes("chunks", chunked + "3\r\nabc\r\n00a\r\n0123456789\r\nA\r\n0123456789\r\n00\r\n\r\n");
        goes("four digits each", chunked + "0001\r\na\r\n0002\r\nbc\r\n0000\r\n\r\n");
        goes("3000 bytes", chunked + "BB7\r\n" + "x".repeat(2999) + "\r\n1\r\ny\r\n0\r\n\r\n");
        String bad = "400 Bad Request";
        closes("a fifth digit, at once", chunked + "00001", bad);
        closes("no digit, at once", chunked + "x", bad);
        closes("no number", chunked + "\r", bad);
        closes("what is no digit behind one, at once", chunked + "1;", bad);
        closes("no 10 behind 13", chunked + "1\rx", bad);
        closes("a chunk that is longer", chunked + "1\r\nxy", bad);
        closes("no 10 behind a chunk", chunked + "1\r\nx\ry", bad);
        closes("something behind the last one", chunked + "0\r\nX", bad);
        closes("no 10 at the end", chunked + "0\r\n\rX", bad);
        closes("above 3000", chunked + "BB9\r\n", "413 Content Too Large");
        closes("above 3000 in all", chunked + "BB8\r\n" + "x".repeat(3000) + "\r\n1\r\n", "413 Content Too Large");
        Talk talk = Talk.begun();
        Talk.due("FFFF without its CRLF", talk.come(chunked + "FFFF\r"), "");
        Talk.due("FFFF with it", talk.come("\n"), shut("413 Content Too Large"));
        Talk slow = Talk.begun();
        String all = chunked + "3\r\nabc\r\n0\r\n\r\n";
        for (int i = 0; i < all.length(); i++) {
            String out = slow.come(all.substring(i, i + 1));
            Talk.due("byte " + i, out, i + 1 < all.length() ? "" : OK + "\r\n");
        }
    }

    private static void closing() {
        Talk talk = Talk.begun();
        Talk.due("close", talk.come(head("Connection: Close\r\n") + head("")), OK + "Connection: close\r\n\r\n");
        Talk.due("shut by close", talk.house.isOpen(0), false);
        goes("keep-alive", head("Connection: keep-alive\r\n"));
        goes("close and more", head("Connection: close, x\r\n"));
        Talk rest = Talk.begun();
        rest.come("BAD\r\n\r\n" + head(""));
        rest.house.open();
        Talk.due("what is left is forgotten", rest.come("\r\n\r\n"), shut("400 Bad Request"));
        Talk.due("another METHOD does not close", Talk.begun().come(head("").replace("OPTIONS", "POST")),
            "HTTP/1.1 501 Not Implemented\r\nContent-Length: 0\r\n\r\n");
    }

    /** An answer that does not go into the OUT any more. */
    private static void flow() {
        Talk talk = Talk.begun();
        talk.ann("MKCOL /a/ann/b");
        String properties = "";
        for (int i = 0; i < 20; i++) {
            properties += "<x:p" + (char) ('a' + i) + "/>";
        }
        int length = 1900;
        String ask = "<propfind xmlns='DAV:' xmlns:x='" + "n".repeat(length) + "'><prop>" + properties
            + "</prop></propfind>";
        String one = Talk.request("ann", "PROPFIND /a/ann/b", "Depth: 0\r\n", ask);
        String answer = talk.come(one);
        Talk.due("a large answer", answer.length() > 32768 && answer.length() < 60000, true);
        talk.tape(one + one);
        Talk.due("only one of two goes in", talk.house.come(0), 1);
        Talk.due("it is whole", talk.out(), answer);
        Talk.due("then it is shut", talk.house.isOpen(0), false);
        // A body of just 60000 bytes, and one of a byte more.
        Talk edge = Talk.begun();
        String wide = ask.replace("nnn'", "n".repeat(3) + "\"".repeat(150) + "'");
        int more = 60000 - Talk.bodyOf(edge.ask("ann", "PROPFIND /a/ann", "Depth: 0\r\n", wide)).length();
        String filled = wide.replace("='nnn", "='nnn" + "n".repeat(more / 20));
        String last = filled.replace("<x:pa/>", "<x:pa" + "y".repeat(more % 20) + "/>");
        String over = filled.replace("<x:pa/>", "<x:pa" + "y".repeat(more % 20 + 1) + "/>");
        Talk.due("60000 bytes", Talk.bodyOf(edge.ask("ann", "PROPFIND /a/ann", "Depth: 0\r\n", last)).length(), 60000);
        Talk.due("60001 bytes", edge.ask("ann", "PROPFIND /a/ann", "Depth: 0\r\n", over),
            "HTTP/1.1 507 Insufficient Storage\r\nContent-Length: 0\r\n\r\n");
        brim(last);
    }

    /** A PROPFIND whose answer has n bytes more than that of 0. */
    private static String filler(int n) {
        return Talk.request("ann", "PROPFIND /", "Depth: 0\r\n", "<propfind xmlns='DAV:' xmlns:x='n" + "\"".repeat(n / 6)
            + "n".repeat(n % 6) + "'><prop><x:a/></prop></propfind>");
    }

    /** An OUT of just 65536 bytes, and one of a byte more. */
    private static void brim(String largest) {
        Talk talk = Talk.begun();
        String large = Talk.request("ann", "PROPFIND /a/ann", "Depth: 0\r\n", largest);
        int rest = 65536 - talk.come(large).length();
        int n = 4900 + rest - talk.come(filler(4900)).length();
        talk.tape(large + filler(n));
        Talk.due("both go in", talk.house.come(0), 2);
        Talk.due("65536 bytes", talk.house.out(), 65536);
        Talk.due("it is open", talk.house.isOpen(0), true);
        talk.tape(large + filler(n + 1) + filler(1));
        Talk.due("a byte more", talk.house.come(0), 1);
        Talk.due("the second answer is not given", talk.house.out(), 65536 - rest);
        Talk.due("it is shut", talk.house.isOpen(0), false);
    }
}
