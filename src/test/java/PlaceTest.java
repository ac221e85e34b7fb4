/** Promise 6, Part II: who asks, where, what is allowed, and ETAGS. */
public final class PlaceTest {
    private static final String EMPTY = "Content-Length: 0\r\n\r\n";

    public static void main(String[] args) {
        who();
        where();
        rights();
        methods();
        etags();
        Talk.finish();
    }

    private static void who() {
        Talk talk = Talk.begun();
        String refused = "HTTP/1.1 401 Unauthorized\r\nWWW-Authenticate: Basic realm=\"cards\"\r\n" + EMPTY;
        String[] wrong = {"", "Authorization:\r\n", "Authorization: Basic\r\n", "Authorization: YW5uOnB3\r\n",
            "Authorization: Digest YW5uOnB3\r\n", "Authorization: BasicYW5uOnB3\r\n",
            "Authorization: Basic\tYW5uOnB3\r\n", "Authorization: Basic YW5uOnB4\r\n",
            "Authorization: Basic YW5uOnB3YQ==\r\n", "Authorization: Basic YW5uOnB\r\n",
            "Authorization: Basic YW5uOnB3====\r\n", "Authorization: Basic YW5u OnB3\r\n",
            "Authorization: Basic Y2F0On5=\r\n", "Authorization: Basic Y2F0On4\r\n",
            "Authorization: Basic QW5uOnB3\r\n", "Authorization: Basic " + "YW5u".repeat(50) + "\r\n"};
        for (String header : wrong) {
            Talk.due("401 " + header, talk.come("OPTIONS / HTTP/1.1\r\nHost: x\r\n" + header + "\r\n"), refused);
        }
        String[] right = {"Basic YW5uOnB3", "bASIC    YW5uOnB3", "Basic Y2F0On4=", "Basic Ym9iOmI6eA=="};
        for (String value : right) {
            Talk.due(value, talk.come("OPTIONS / HTTP/1.1\r\nHost: x\r\nAuthorization: " + value + "\r\n\r\n")
                .substring(9, 12), "200");
        }
        Talk.due("501 ahead of 401", talk.come("POST / HTTP/1.1\r\nHost: x\r\n\r\n"),
            "HTTP/1.1 501 Not Implemented\r\n" + EMPTY);
        Talk.due("401 ahead of 404", talk.come("GET /x HTTP/1.1\r\nHost: x\r\n\r\n"), refused);
    }

    private static void where() {
        Talk talk = Talk.begun();
        talk.ann("MKCOL /a/ann/b1/");
        talk.put("/a/ann/b1/c.1_-", Talk.plain("u1", "A"));
        String[] there = {"/", "?x", "?%", "/?a/%", "/p/ann/", "/p/ann", "/p/bob/", "/a/ann/", "/a/ann", "/a/ann/b1/",
            "/a/ann/b1", "/a/ann/b1/c.1_-", "/a/ann/%62%31", "/a%2Fann%2fb1%2F", "%2f", "/%61/ann/b1?/c"};
        for (String path : there) {
            Talk.due("there is " + path, talk.status("ann", "OPTIONS " + path, "", ""), 200);
        }
        String[] missing = {"x", "*", "!", "~", "//", "/x", "/p", "/p/", "/a", "/a/", "/p/ann/x", "/p/nobody/", "/a/nobody",
            "/a/Ann/", "/a/ann//", "/a/ann/b1//", "/a/ann/b1/c.1_-/", "/a/ann/.b", "/a/ann/-b", "/a/ann/_b",
            "/a/ann/b%20", "/a/ann/b%3Fx", "/a/ann/b1/.c", "/a/ann/" + "b".repeat(21), "/a/ann/b1/" + "c".repeat(21),
            "/a/ann/b1/c%00", "/a/ann/b1/c%ff", "/a/annn/", "/a/an/", "http://x/"};
        for (String path : missing) {
            Talk.due("there is no " + path, talk.status("ann", "OPTIONS " + path, "", ""), 404);
        }
        for (String path : new String[] {"/%", "/%4", "/%4g", "/a/ann/%zz?", "/x%", "/a%2"}) {
            Talk.due("400 for " + path, talk.ann("OPTIONS " + path), "HTTP/1.1 400 Bad Request\r\n" + EMPTY);
        }
        Talk.due("an empty name", talk.status("ann", "MKCOL /a/ann//", "", ""), 404);
        Talk.due("nothing is below a PRINCIPAL", talk.status("ann", "MKCOL /p/ann/x", "", ""), 404);
        Talk.due("20 letters", talk.status("ann", "MKCOL /a/ann/" + "9".repeat(20), "", ""), 201);
        Talk.due("20 letters", talk.put("/a/ann/b1/" + "Z".repeat(20), Talk.plain("u2", "A")), 201);
    }

    private static void rights() {
        Talk talk = Talk.begun();
        talk.ann("MKCOL /a/ann/b1/");
        talk.put("/a/ann/b1/c1", Talk.plain("u1", "A"));
        String[] others = {"OPTIONS /a/ann/", "PROPFIND /a/ann", "OPTIONS /a/ann/b1", "GET /a/ann/b1/c1",
            "MKCOL /a/ann/b2", "GET /a/ann/b2/c1", "GET /a/ann/b1/c2", "DELETE /a/ann/b1"};
        for (String line : others) {
            Talk.due("bob may not " + line, talk.ask("bob", line, "", ""), "HTTP/1.1 403 Forbidden\r\n" + EMPTY);
        }
        for (String line : new String[] {"OPTIONS /", "OPTIONS /p/ann", "OPTIONS /a/bob/"}) {
            Talk.due("bob may " + line, talk.status("bob", line, "", ""), 200);
        }
        talk.ask("ann", "PROPPATCH /a/ann/b1", "",
            Talk.root("D:propertyupdate", "<D:set><D:prop><R:readers>bob</R:readers></D:prop></D:set>"));
        String[] reading = {"OPTIONS /a/ann/b1 200", "GET /a/ann/b1/c1 200", "HEAD /a/ann/b1/c1 200",
            "GET /a/ann/b1/c2 404", "PROPFIND /a/ann/b1/c2 404", "GET /a/ann/b1 405", "REPORT /a/ann/b1/c1 405",
            "REPORT /a/ann/b1 400", "PUT /a/ann/b1/c1 403", "DELETE /a/ann/b1/c1 403", "DELETE /a/ann/b1 403",
            "MKCOL /a/ann/b1 403", "PROPPATCH /a/ann/b1 403", "OPTIONS /a/ann/ 403", "OPTIONS /a/ann/b2/c1 403",
            "POST /a/ann/b1 501"};
        for (String line : reading) {
            int i = line.lastIndexOf(' ');
            Talk.due("a reader's " + line, talk.status("bob", line.substring(0, i), "", "") + "", line.substring(i + 1));
        }
        Talk.due("cat is no reader", talk.status("cat", "GET /a/ann/b1/c1", "", ""), 403);
    }

    private static void methods() {
        Talk talk = Talk.begun();
        talk.ann("MKCOL /a/ann/b1/");
        talk.put("/a/ann/b1/c1", Talk.plain("u1", "A"));
        String[] places = {"/", "/p/bob/", "/a/ann/", "/a/ann/b1/", "/a/ann/b1/c1", "/a/ann/b1/c2"};
        String[] going = {"OPTIONS, PROPFIND", "OPTIONS, PROPFIND", "OPTIONS, PROPFIND",
            "OPTIONS, DELETE, PROPFIND, PROPPATCH, REPORT", "OPTIONS, GET, HEAD, PUT, DELETE, PROPFIND", "OPTIONS, PUT"};
        String[] all = "OPTIONS GET HEAD PUT DELETE MKCOL PROPFIND PROPPATCH REPORT".split(" ");
        for (int i = 0; i < places.length; i++) {
            Talk.due("OPTIONS " + places[i], talk.ann("OPTIONS " + places[i]), "HTTP/1.1 200 OK\r\nAllow: " + going[i]
                + "\r\nDAV: 1, 3, access-control, addressbook\r\n" + EMPTY);
            for (String method : all) {
                boolean goes = (", " + going[i] + ",").contains(", " + method + ",");
                boolean missing = i == 5 && "GET HEAD DELETE PROPFIND".contains(method);
                if (!goes) {
                    Talk.due(method + " " + places[i], talk.ann(method + " " + places[i]), missing
                        ? "HTTP/1.1 404 Not Found\r\n" + EMPTY
                        : "HTTP/1.1 405 Method Not Allowed\r\nAllow: " + going[i] + "\r\n" + EMPTY);
                }
            }
        }
        for (String method : all) {
            if (!method.equals("MKCOL")) {
                Talk.due(method + " where no BOOK is", talk.status("ann", method + " /a/ann/b2", "", ""), 404);
            }
            Talk.due(method + " in no BOOK", talk.status("ann", method + " /a/ann/b2/c1", "", ""), 404);
        }
    }

    private static void etags() {
        Talk talk = Talk.begun();
        talk.ann("MKCOL /a/ann/b1/");
        talk.put("/a/ann/b1/c1", Talk.plain("u1", "A"));
        String c1 = "/a/ann/b1/c1";
        String[] match = {"* 200", "\"2\" 200", "\"1\" 412", "\"1\",\"2\" 200", "\"1\" ,  \"2\" 200", "\"02\" 412",
            "\"2\", 400", ",\"2\" 400", "\"2\" \"3\" 400", "W/\"2\" 400", "2 400", "\"\" 400", "\"2 400", " 400",
            "\"a\" 400", "*,\"2\" 400", "\"2\",\t\"3\" 400", "\"12345678901234567890\" 412", "\"2\",,\"3\" 400"};
        for (String row : match) {
            int i = row.lastIndexOf(' ');
            Talk.due("If-Match: " + row, talk.status("ann", "GET " + c1, "If-Match: " + row.substring(0, i) + "\r\n", "")
                + "", row.substring(i + 1));
            String none = row.substring(i + 1);
            none = none.equals("200") ? "304" : none.equals("412") ? "200" : none;
            Talk.due("If-None-Match: " + row, talk.status("ann", "HEAD " + c1,
                "If-None-Match: " + row.substring(0, i) + "\r\n", "") + "", none);
        }
        Talk.due("304", talk.ask("ann", "GET " + c1, "If-None-Match: \"2\"\r\n", ""),
            "HTTP/1.1 304 Not Modified\r\nETag: \"2\"\r\n\r\n");
        Talk.due("If-Match is first", talk.status("ann", "GET " + c1, "If-None-Match: x\r\nIf-Match: \"1\"\r\n", ""), 412);
        Talk.due("both", talk.status("ann", "GET " + c1, "If-None-Match: x\r\nIf-Match: \"2\"\r\n", ""), 400);
        Talk.due("If-None-Match for DELETE", talk.status("ann", "DELETE " + c1, "If-None-Match: *\r\n", ""), 412);
        Talk.due("If-Match for PUT where nothing is", talk.status("ann", "PUT /a/ann/b1/c2", "If-Match: *\r\n", ""), 412);
        Talk.due("an ETAG where nothing is", talk.status("ann", "PUT /a/ann/b1/c2", "If-Match: \"0\"\r\n", ""), 412);
        Talk.due("If-None-Match: * goes where nothing is", talk.status("ann", "PUT /a/ann/b1/c2",
            "If-None-Match: *\r\nContent-Type: text/vcard\r\n", Talk.plain("u2", "A")), 201);
        Talk.due("and does not again", talk.status("ann", "PUT /a/ann/b1/c2",
            "If-None-Match: *\r\nContent-Type: text/plain\r\n", ""), 412);
        Talk.due("404 ahead of If-Match", talk.status("ann", "GET /a/ann/b1/c3", "If-Match: x\r\n", ""), 404);
        Talk.due("elsewhere not looked at", talk.status("ann", "OPTIONS " + c1, "If-Match: x\r\n", ""), 200);
        Talk.due("at a BOOK not looked at", talk.status("ann", "DELETE /a/ann/b1", "If-Match: x\r\n", ""), 204);
    }
}
