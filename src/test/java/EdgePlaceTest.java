import java.nio.charset.StandardCharsets;
import java.util.Base64;

/** The edges of Part II, who and where: a test for each sentence that names one; the remark is the sentence. */
public final class EdgePlaceTest {
    private static final String[] METHODS = "OPTIONS GET HEAD PUT DELETE MKCOL PROPFIND PROPPATCH REPORT".split(" ");
    private static final String REFUSED = Talk.bare("401 Unauthorized", "WWW-Authenticate: Basic realm=\"cards\"\r\n");

    public static void main(String[] args) throws ReflectiveOperationException {
        Talk.all(EdgePlaceTest.class);
    }

    /** A house with a BOOK b1 of ann's, read by bob, and a CARD c1 in it. */
    private static Talk filled() {
        Talk talk = Talk.begun();
        talk.ann("MKCOL /a/ann/b1");
        talk.put("/a/ann/b1/c1", Talk.plain("u1", "A"));
        talk.ask("ann", "PROPPATCH /a/ann/b1", "", Talk.root("D:propertyupdate",
            "<D:set><D:prop><R:readers>bob</R:readers></D:prop></D:set>"));
        return talk;
    }

    private static String base64(String text) {
        return Base64.getEncoder().encodeToString(text.getBytes(StandardCharsets.UTF_8));
    }

    private static String with(Talk talk, String authorization) {
        return talk.come("OPTIONS / HTTP/1.1\r\nHost: x\r\n" + authorization + "\r\n");
    }

    private static void knows(Talk talk, String value) {
        Talk.due(value, Talk.statusOf(with(talk, "Authorization: " + value + "\r\n")), 200);
    }

    private static void refuses(Talk talk, String value) {
        Talk.due(value, with(talk, "Authorization: " + value + "\r\n"), REFUSED);
    }

    /** Part II: "METHOD none of OPTIONS GET HEAD PUT DELETE MKCOL PROPFIND PROPPATCH REPORT: 501." */
    static void otherMethods() {
        Talk talk = filled();
        for (String method : new String[] {"POST", "PATCH", "TRACE", "COPY", "MOVE", "LOCK", "GE", "GETT", "A", "PROP", "REPORTS",
            "MKCALENDAR"}) {
            Talk.due(method, talk.ann(method + " /a/ann/b1/c1"), Talk.bare("501 Not Implemented", ""));
        }
        for (String method : METHODS) {
            Talk.due(method, talk.status(method + " /x"), 404);
        }
    }

    /** Part II: "is looked at in this order, the first that is so answers" (each beside the next one). */
    static void theFirstThatIsSo() {
        Talk talk = filled();
        Talk.due("501 ahead of 401", Talk.statusOf(talk.come("POST /% HTTP/1.1\r\nHost: x\r\n\r\n")), 501);
        Talk.due("401 ahead of 400", Talk.statusOf(talk.come("GET /% HTTP/1.1\r\nHost: x\r\n\r\n")), 401);
        Talk.due("400 ahead of 404", talk.status("GET /x%"), 400);
        Talk.due("404 ahead of 403", talk.status("bob", "GET /a/ann/b1/c1/", "", ""), 404);
        Talk.due("403 ahead of 405", talk.status("bob", "GET /a/ann/", "", ""), 403);
        Talk.due("405 ahead of If-Match", talk.status("ann", "REPORT /a/ann/b1/c1", "If-Match: x\r\n", ""), 405);
        Talk.due("404 ahead of If-Match", talk.status("ann", "GET /a/ann/b1/c2", "If-Match: x\r\n", ""), 404);
        Talk.due("If-Match ahead of 415", talk.status("ann", "PUT /a/ann/b1/c1", "If-Match: x\r\n", ""), 400);
        Talk.due("If-Match ahead of 406", talk.status("ann", "GET /a/ann/b1/c1", "If-Match: \"1\"\r\nAccept: x\r\n", ""), 412);
    }

    /** Part II: "Authorization not 'Basic' (LIKE), one or more S, and base64" (none, and other words). */
    static void authorizationWords() {
        Talk talk = Talk.begun();
        String ann = base64("ann:pw");
        Talk.due("none", with(talk, ""), REFUSED);
        for (String value : new String[] {"", "Basic", ann, "Basi " + ann, "Xasic " + ann, "Basics " + ann, "Digest " + ann, "Basic: " + ann,
            "Basic " + ann + " x", "Basic " + ann + ","}) {
            refuses(talk, value);
        }
        for (String value : new String[] {"Basic ", "bASIC ", "BASIC ", "basic "}) {
            knows(talk, value + ann);
        }
    }

    /** Part II: "'Basic' (LIKE), one or more S" (no S, one, many, 9). */
    static void authorizationSpaces() {
        Talk talk = Talk.begun();
        String ann = base64("ann:pw");
        refuses(talk, "Basic" + ann);
        refuses(talk, "Basic\t" + ann);
        refuses(talk, "Basic \t" + ann);
        knows(talk, "Basic " + ann);
        knows(talk, "Basic" + " ".repeat(20) + ann);
    }

    /** Part II: "base64 (letters, digits, + / and = or == at the end" (all signs, none, one and two =). */
    static void base64Signs() {
        Talk talk = new Talk();
        talk.house.open();
        // The passwords bring + and / into the base64, and each number of = to its end.
        String[] users = {"a:>>>?~?", "b:>>>>~~?", "c:~~~???>>"};
        boolean plus = false;
        boolean slash = false;
        for (String user : users) {
            talk.user(user);
            knows(talk, "Basic " + base64(user));
            plus = plus || base64(user).indexOf('+') >= 0;
            slash = slash || base64(user).indexOf('/') >= 0;
            refuses(talk, "Basic " + base64(user).replace('+', '-').replace('/', '_').replace("=", "") + "-");
        }
        Talk.due("+ and / were there", plus && slash, true);
        Talk.due("=, none and == were there", base64(users[0]).endsWith("=") && !base64(users[1]).endsWith("=")
            && base64(users[2]).endsWith("=="), true);
    }

    /** Part II: "a whole number of fours". */
    static void base64Fours() {
        Talk talk = Talk.begun();
        knows(talk, "Basic " + base64("cat:~"));
        for (String value : new String[] {"Y2F0On4", "Y2F0On4==", "Y2F0On4=A", "Y2F0On4=AAAA", "YW5uOnB3=", "YW5uOnB3==", "YW5uOnB3====",
            "YW5uOnB3A", "=", "==", "====", "Y2F=On4="}) {
            refuses(talk, "Basic " + value);
        }
    }

    /** Part II: "the unused bits 0". */
    static void base64UnusedBits() {
        Talk talk = Talk.begun();
        knows(talk, "Basic Y2F0On4=");
        for (char c : "567".toCharArray()) {
            refuses(talk, "Basic Y2F0On" + c + "=");
        }
        knows(talk, "Basic Ym9iOmI6eA==");
        for (char c : "BCDEFGHIJKLMNOP".toCharArray()) {
            refuses(talk, "Basic Ym9iOmI6e" + c + "==");
        }
    }

    /** Part II: "of a user's name, ':' and password". */
    static void otherUsers() {
        Talk talk = Talk.begun();
        for (String who : new String[] {"", ":", "ann", "ann:", ":pw", "ann:p", "ann:pww", "an:pw", "annn:pw", "Ann:pw", "ann:PW",
            "bob:pw", "ann:~", "dan:x", "ann:pw\n", "ann:pwann:pw", "ann:" + "p".repeat(60)}) {
            refuses(talk, "Basic " + base64(who));
        }
        knows(talk, "Basic " + base64("bob:b:x"));
        Talk edge = new Talk();
        edge.house.open();
        edge.user("abcdefghijkl:12345678901234567890");
        knows(edge, "Basic " + base64("abcdefghijkl:12345678901234567890"));
    }

    /** Part II, TARGET: "what stands from a ? on does not count". */
    static void questionMarks() {
        Talk talk = filled();
        for (String target : new String[] {"?", "/?", "/a/ann?", "/a/ann/b1?/c1", "/a/ann/b1/c1?%", "/a/ann/b1/c1??", "/?a?%zz"}) {
            Talk.due(target, talk.status("OPTIONS " + target), 200);
        }
        Talk.due("a ? told by %3F counts", talk.status("OPTIONS /a/ann/b1/c1%3F"), 404);
    }

    /** Part II, TARGET: "%hh (two hexadecimal digits, either case) is the byte". */
    static void percents() {
        Talk talk = filled();
        for (String target : new String[] {"/a/ann/%621", "/a/ann/b%31", "/%61/%61%6e%6E/b1/c1", "/a/ann/b1%2f", "/a/ann/b1%2Fc1"}) {
            Talk.due(target, talk.status("OPTIONS " + target), 200);
        }
        Talk.due("a % told by %25", talk.status("OPTIONS /a/ann/b1/%2563"), 404);
        Talk.due("a name is kept as its bytes", talk.status("ann", "MKCOL /a/ann/%41%2d%5F%2E9", "", ""), 201);
        Talk.due("where it is found", talk.status("OPTIONS /a/ann/A-_.9"), 200);
    }

    /** Part II, TARGET: "a % without them: 400". */
    static void percentsAlone() {
        Talk talk = Talk.begun();
        for (String target : new String[] {"%", "/%", "/%6", "/%6?", "/%?61", "/%g1", "/%1g", "/%6G", "/%/1", "/%:0", "/%@0", "/%`0", "/%%61",
            "/a/nobody/%", "/%6-"}) {
            Talk.due(target, talk.ann("OPTIONS " + target), Talk.bare("400 Bad Request", ""));
        }
    }

    /** Part II, PATHS: "b and c are 1 to 20 letters, digits, - _ . , the first one a letter or digit" (of BOOKS). */
    static void bookNames() {
        for (String name : new String[] {"a", "z", "A", "Z", "0", "9", "a-_.", "b".repeat(20), "9" + "-".repeat(19)}) {
            Talk talk = Talk.begun();
            Talk.due("BOOK " + name, talk.status("MKCOL /a/ann/" + name), 201);
            Talk.due("BOOK " + name + " is there", talk.status("OPTIONS /a/ann/" + name), 200);
        }
        for (String name : new String[] {"b".repeat(21), "-", "_", ".", "-a", "_a", ".a", "a~", "a+", "a@", "a[", "a`", "a%7b", "a/%20/",
            "a%00", "a,", "a:", "%c3%a4"}) {
            Talk.due("no BOOK " + name, Talk.begun().status("MKCOL /a/ann/" + name), 404);
        }
        Talk.due("no name", Talk.begun().status("MKCOL /a/ann//"), 404);
    }

    /** Part II, PATHS: "b and c are 1 to 20 letters, digits, - _ . , the first one a letter or digit" (of CARDS). */
    static void cardNames() {
        Talk talk = filled();
        for (String name : new String[] {"a", "z", "A", "Z", "0", "9", "a-_.", "c".repeat(20), "9" + ".".repeat(19)}) {
            Talk.due("CARD " + name, talk.put("/a/ann/b1/" + name, Talk.plain("u" + name, "A")), 201);
            Talk.due("CARD " + name + " is there", Talk.bodyOf(talk.ann("GET /a/ann/b1/" + name)), Talk.plain("u" + name, "A"));
        }
        for (String name : new String[] {"c".repeat(21), "-", "_", ".", "-a", "_a", ".a", "a~", "a+", "a@", "a[", "a`", "a%7b", "a%20", "a%00",
            "a,", "a:", "%c3%a4", "c1/", "c1%2f", "c1/c2"}) {
            Talk.due("no CARD " + name, talk.put("/a/ann/b1/" + name, Talk.plain("v", "A")), 404);
        }
    }

    /** Part II, PATHS: "All but the last may be without the / at their end (the ROOT, too)". */
    static void slashesAtTheEnd() {
        Talk talk = filled();
        for (String path : new String[] {"/", "?", "/p/ann/", "/p/ann", "/a/ann/", "/a/ann", "/a/ann/b1/", "/a/ann/b1", "/a/ann/b1/c1"}) {
            Talk.due(path, talk.status("OPTIONS " + path), 200);
        }
        for (String path : new String[] {"//", "/p/ann//", "/a/ann//", "/a/ann/b1//", "/a/ann/b1/c1/"}) {
            Talk.due(path, talk.status("OPTIONS " + path), 404);
        }
    }

    /** Part II, PATHS: "%2F is a / " . */
    static void slashesToldByPercent() {
        Talk talk = filled();
        Talk.due("all", talk.status("OPTIONS %2Fa%2fann%2Fb1%2fc1"), 200);
        Talk.due("the ROOT", talk.status("OPTIONS %2f"), 200);
    }

    /** Part II, PATHS: "Anything else, and users that there are not: 404." */
    static void anythingElse() {
        Talk talk = filled();
        for (String path : new String[] {"x", "a/ann/", "*", "/x", "/p", "/p/", "/a", "/a/", "/P/ann/", "/A/ann/", "/p/ann/x", "/p/ann/b1/c1",
            "/b/ann/", "/pann", "/a/ann/b1/c1/x", "http://x/", "/p/dan/", "/a/dan/", "/a/an/", "/a/annn/", "/a/Ann/", "/a//b1", "/./",
            "/a/ann/../ann/"}) {
            for (String method : new String[] {"OPTIONS", "MKCOL", "PUT"}) {
                Talk.due(method + " " + path, talk.ann(method + " " + path), Talk.bare("404 Not Found", ""));
            }
        }
    }

    /** Part II, RIGHTS: "each user may do all in the own HOME and what is in it, at the ROOT and at all PRINCIPALS". */
    static void ownRights() {
        Talk talk = filled();
        for (String path : new String[] {"/", "/p/ann", "/p/bob", "/p/cat/", "/a/cat"}) {
            Talk.due(path, talk.status("cat", "OPTIONS " + path, "", ""), 200);
        }
        Talk.due("MKCOL in the own HOME", talk.status("cat", "MKCOL /a/cat/b1", "", ""), 201);
        Talk.due("DELETE in the own HOME", talk.status("cat", "DELETE /a/cat/b1", "", ""), 204);
    }

    /** Part II, RIGHTS: "A BOOK has READERS, users; these may use OPTIONS GET HEAD PROPFIND REPORT at it and its CARDS' places." */
    static void readersRights() {
        for (String method : METHODS) {
            boolean reads = "OPTIONS GET HEAD PROPFIND REPORT".contains(method);
            for (String path : new String[] {"/a/ann/b1", "/a/ann/b1/c1", "/a/ann/b1/c2"}) {
                int status = filled().status("bob", method + " " + path, "Depth: 9\r\n", "");
                int own = filled().status("ann", method + " " + path, "Depth: 9\r\n", "");
                Talk.due("a reader's " + method + " " + path, status, reads ? own : 403);
                Talk.due("another one's " + method + " " + path, filled().status("cat", method + " " + path, "", ""), 403);
            }
            Talk.due("a reader's " + method + " of the HOME", filled().status("bob", method + " /a/ann", "", ""), 403);
            Talk.due("a reader's " + method + " of another BOOK", filled().status("bob", method + " /a/ann/b2", "", ""), 403);
            Talk.due("a reader's " + method + " in another BOOK", filled().status("bob", method + " /a/ann/b2/c1", "", ""), 403);
        }
    }

    /** Part II, RIGHTS: "What is not allowed (others' HOMES and what is in them, also places where nothing is): 403." */
    static void othersRights() {
        Talk talk = filled();
        for (String path : new String[] {"/a/ann", "/a/ann/", "/a/ann/b1", "/a/ann/b1/c1", "/a/ann/b9", "/a/ann/b9/c1", "/a/ann/b1/c9"}) {
            for (String method : METHODS) {
                Talk.due(method + " " + path, talk.ask("cat", method + " " + path, "", ""), Talk.bare("403 Forbidden", ""));
            }
        }
    }

    /** The answers to methods that do not go at a place, and the Allow of the others. */
    private static void goes(String path, String allow, String missing) {
        for (String method : METHODS) {
            Talk talk = filled();
            boolean going = (", " + allow + ", ").contains(", " + method + ", ");
            String answer = talk.ann(method + " " + path);
            if (method.equals("OPTIONS")) {
                Talk.due(method + " " + path, answer, Talk.bare("200 OK",
                    "Allow: " + allow + "\r\nDAV: 1, 3, access-control, addressbook\r\n"));
            } else if ((" " + missing + " ").contains(" " + method + " ")) {
                Talk.due(method + " " + path, answer, Talk.bare("404 Not Found", ""));
            } else if (going) {
                int status = Talk.statusOf(answer);
                Talk.due(method + " " + path + " goes", status != 404 && status != 405, true);
            } else {
                Talk.due(method + " " + path, answer, Talk.bare("405 Method Not Allowed", "Allow: " + allow + "\r\n"));
            }
        }
    }

    /** Part II: "METHODS that do not go: 405 with 'Allow: ' and those that do, with ', ' between: ROOT, PRINCIPAL, HOME: OPTIONS, PROPFIND". */
    static void goingAtRootPrincipalHome() {
        for (String path : new String[] {"/", "/p/ann/", "/p/bob", "/a/ann/"}) {
            goes(path, "OPTIONS, PROPFIND", "");
        }
    }

    /** Part II: "a BOOK: OPTIONS, DELETE, PROPFIND, PROPPATCH, REPORT". */
    static void goingAtABook() {
        goes("/a/ann/b1", "OPTIONS, DELETE, PROPFIND, PROPPATCH, REPORT", "");
    }

    /** Part II: "a CARD: OPTIONS, GET, HEAD, PUT, DELETE, PROPFIND". */
    static void goingAtACard() {
        goes("/a/ann/b1/c1", "OPTIONS, GET, HEAD, PUT, DELETE, PROPFIND", "");
    }

    /** Part II: "a CARD's place in a BOOK without a card: OPTIONS, PUT, but GET, HEAD, DELETE, PROPFIND: 404". */
    static void goingWithoutACard() {
        goes("/a/ann/b1/c2", "OPTIONS, PUT", "GET HEAD DELETE PROPFIND");
    }

    /** Part II: "A BOOK's place without a book: MKCOL makes one, all others 404; a CARD's place in no BOOK: 404." */
    static void goingWithoutABook() {
        for (String method : METHODS) {
            Talk.due(method + " of no BOOK", filled().ann(method + " /a/ann/b2"), method.equals("MKCOL")
                ? Talk.bare("201 Created", "") : Talk.bare("404 Not Found", ""));
            Talk.due(method + " in no BOOK", filled().ann(method + " /a/ann/b2/c1"), Talk.bare("404 Not Found", ""));
        }
    }

    /** Part II, ETAGS: "the house counts CHANGES (1, 2, ..: each PUT that is taken, each DELETE, each MKCOL is one; PROPPATCH none)". */
    static void changes() {
        Talk talk = Talk.begun();
        talk.ann("MKCOL /a/ann/b1");
        Talk.due("MKCOL", talk.house.count(2), 1);
        talk.put("/a/ann/b1/c1", Talk.plain("u1", "A"));
        Talk.due("PUT", talk.house.count(2), 2);
        talk.put("/a/ann/b1/c1", Talk.plain("u1", "A"));
        Talk.due("PUT of the same", talk.house.count(2), 3);
        talk.put("/a/ann/b1/c1", Talk.plain("u2", "A"));
        talk.put("/a/ann/b1/c1", "x");
        talk.ann("MKCOL /a/ann/b1");
        talk.ann("DELETE /a/ann/b1/c2");
        talk.ask("ann", "DELETE /a/ann/b1/c1", "If-Match: \"2\"\r\n", "");
        talk.ask("ann", "PROPPATCH /a/ann/b1", "", Talk.root("D:propertyupdate",
            "<D:set><D:prop><D:displayname>x</D:displayname></D:prop></D:set>"));
        Talk.due("what is refused, and PROPPATCH", talk.house.count(2), 3);
        talk.ann("DELETE /a/ann/b1/c1");
        Talk.due("DELETE", talk.house.count(2), 4);
        talk.ann("DELETE /a/ann/b1");
        Talk.due("DELETE of a BOOK", talk.house.count(2), 5);
    }

    /** Part II, ETAGS: "a CARD's ETAG is '"' its latest change's number '"'". */
    static void etagsOfCards() {
        Talk talk = Talk.begun();
        talk.ann("MKCOL /a/ann/b1");
        for (int change = 2; change <= 12; change++) {
            talk.put("/a/ann/b1/c1", Talk.plain("u1", "A"));
            Talk.due("ETAG", talk.ann("HEAD /a/ann/b1/c1").contains("\r\nETag: \"" + change + "\"\r\n"), true);
        }
    }

    private static void match(Talk talk, String value, int ifMatch, int ifNoneMatch) {
        Talk.due("If-Match: " + value, talk.status("ann", "GET /a/ann/b1/c1", "If-Match: " + value + "\r\n", ""), ifMatch);
        Talk.due("If-None-Match: " + value, talk.status("ann", "GET /a/ann/b1/c1", "If-None-Match: " + value + "\r\n", ""),
            ifNoneMatch);
    }

    /** Part II: "If-Match: '*' or ETAGS ('"', digits, one at least, '"', compared by their bytes)". */
    static void etagsTold() {
        Talk talk = filled();
        match(talk, "*", 200, 304);
        match(talk, "\"2\"", 200, 304);
        match(talk, "\"1\"", 412, 200);
        match(talk, "\"02\"", 412, 200);
        match(talk, "\"22\"", 412, 200);
        match(talk, "\"0\"", 412, 200);
        match(talk, "\"" + "2".repeat(60) + "\"", 412, 200);
    }

    /** Part II: "with ',' and any S between". */
    static void etagsBetween() {
        Talk talk = filled();
        match(talk, "\"1\",\"2\"", 200, 304);
        match(talk, "\"2\",\"1\"", 200, 304);
        match(talk, "\"1\", \"3\",    \"2\"", 200, 304);
        match(talk, "\"1\", \"3\"", 412, 200);
    }

    /** Part II: "(something else: 400)". */
    static void etagsElse() {
        Talk talk = filled();
        for (String value : new String[] {"", "**", "*,*", "*, \"2\"", "\"2\", *", "\"\"", "\"2", "2\"", "2", "\"a\"", "\"2a\"", "\"-2\"", "\" 2\"",
            "\"2\",", ",\"2\"", "\"2\",,\"3\"", "\"2\" \"3\"", "\"2\"\"3\"", "\"2\";\"3\"", "W/\"2\"", "'2'", "\"2\",\t\"3\"", "\"2\", x"}) {
            match(talk, value, 400, 400);
        }
    }

    /** Part II: "412 if the place has no CARD or it has none of these ETAGS". */
    static void ifMatchWithoutACard() {
        Talk talk = filled();
        for (String value : new String[] {"*", "\"0\"", "\"2\"", "\"3\""}) {
            Talk.due("no CARD, " + value, talk.ask("ann", "PUT /a/ann/b1/c2", "Content-Type: text/vcard\r\nIf-Match: " + value + "\r\n",
                Talk.plain("u2", "A")), Talk.bare("412 Precondition Failed", ""));
        }
        Talk.due("another ETAG", talk.status("ann", "DELETE /a/ann/b1/c1", "If-Match: \"3\"\r\n", ""), 412);
        Talk.due("this ETAG", talk.status("ann", "DELETE /a/ann/b1/c1", "If-Match: \"2\"\r\n", ""), 204);
    }

    /** Part II: "Then If-None-Match, likewise" (behind If-Match). */
    static void bothHeaders() {
        Talk talk = filled();
        Talk.due("412 ahead of 304", talk.status("ann", "GET /a/ann/b1/c1", "If-None-Match: *\r\nIf-Match: \"1\"\r\n", ""), 412);
        Talk.due("412 ahead of 400", talk.status("ann", "GET /a/ann/b1/c1", "If-None-Match: x\r\nIf-Match: \"1\"\r\n", ""), 412);
        Talk.due("400 behind", talk.status("ann", "GET /a/ann/b1/c1", "If-None-Match: x\r\nIf-Match: *\r\n", ""), 400);
        Talk.due("304 behind", talk.status("ann", "GET /a/ann/b1/c1", "If-None-Match: *\r\nIf-Match: *\r\n", ""), 304);
        Talk.due("neither", talk.status("ann", "GET /a/ann/b1/c1", "If-None-Match: \"1\"\r\nIf-Match: *\r\n", ""), 200);
    }

    /** Part II: "if it has a CARD ('*') or one of these ETAGS: 304 with 'ETag: ' for GET and HEAD, 412 for others". */
    static void ifNoneMatch() {
        Talk talk = filled();
        for (String value : new String[] {"*", "\"2\"", "\"1\",\"2\""}) {
            String header = "If-None-Match: " + value + "\r\nContent-Type: text/vcard\r\n";
            for (String method : new String[] {"GET", "HEAD"}) {
                Talk.due(method, talk.ask("ann", method + " /a/ann/b1/c1", header, ""), "HTTP/1.1 304 Not Modified\r\nETag: \"2\"\r\n\r\n");
            }
            Talk.due("PUT", talk.ask("ann", "PUT /a/ann/b1/c1", header, Talk.plain("u1", "B")), Talk.bare("412 Precondition Failed", ""));
            Talk.due("DELETE", talk.ask("ann", "DELETE /a/ann/b1/c1", header, ""), Talk.bare("412 Precondition Failed", ""));
        }
        Talk.due("no CARD", talk.status("ann", "PUT /a/ann/b1/c2", "If-None-Match: *\r\nContent-Type: text/vcard\r\n",
            Talk.plain("u2", "A")), 201);
        Talk.due("another ETAG", talk.status("ann", "PUT /a/ann/b1/c1", "If-None-Match: \"3\"\r\nContent-Type: text/vcard\r\n",
            Talk.plain("u1", "A")), 204);
    }

    /** Part II: "(Both only for CARDS: GET HEAD PUT DELETE; elsewhere they are not looked at.)" */
    static void headersElsewhere() {
        String wrong = "If-Match: x\r\nIf-None-Match: *\r\nDepth: 0\r\n";
        for (String line : new String[] {"OPTIONS / 200", "PROPFIND / 207", "OPTIONS /a/ann/b1/c1 200", "PROPFIND /a/ann/b1/c1 207",
            "OPTIONS /a/ann/b1/c2 200", "PROPFIND /a/ann/b1 207", "MKCOL /a/ann/b2 201", "DELETE /a/ann/b1 204"}) {
            int i = line.lastIndexOf(' ');
            Talk.due(line, filled().status("ann", line.substring(0, i), wrong, "") + "", line.substring(i + 1));
        }
        Talk.due("REPORT", filled().status("ann", "REPORT /a/ann/b1", wrong, Talk.root("C:addressbook-query", "<C:filter/>")), 207);
    }
}
