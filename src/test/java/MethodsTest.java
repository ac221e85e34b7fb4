/** Promise 6, Part III: MKCOL, DELETE, GET, HEAD and PUT. */
public final class MethodsTest {
    private static final String EMPTY = "Content-Length: 0\r\n\r\n";

    public static void main(String[] args) {
        makes();
        fetches();
        accepts();
        puts();
        conflicts();
        limits();
        Talk.finish();
    }

    private static void makes() {
        Talk talk = Talk.begun();
        Talk.due("MKCOL with a body", talk.ask("ann", "MKCOL /a/ann/b1", "", "x"),
            "HTTP/1.1 415 Unsupported Media Type\r\n" + EMPTY);
        Talk.due("MKCOL", talk.ann("MKCOL /a/ann/b1"), "HTTP/1.1 201 Created\r\n" + EMPTY);
        Talk.due("DELETE", talk.ann("DELETE /a/ann/b1"), "HTTP/1.1 204 No Content\r\n\r\n");
        for (int i = 0; i < 6; i++) {
            Talk.due("BOOK " + i, talk.status(i < 3 ? "ann" : "bob", "MKCOL /a/" + (i < 3 ? "ann" : "bob") + "/b" + i, "",
                ""), 201);
        }
        Talk.due("415 ahead of 507", talk.status("cat", "MKCOL /a/cat/b", "", "x"), 415);
        Talk.due("a seventh BOOK", talk.ask("cat", "MKCOL /a/cat/b", "", ""),
            "HTTP/1.1 507 Insufficient Storage\r\n" + EMPTY);
        Talk.due("CHANGES", talk.house.count(2), 8);
        Talk.due("names are of their users", talk.status("ann", "MKCOL /a/ann/b0", "", ""), 405);
    }

    private static void fetches() {
        Talk talk = Talk.begun();
        talk.ann("MKCOL /a/ann/b1");
        String put = talk.ask("ann", "PUT /a/ann/b1/c1", "Content-Type: text/vcard\r\n",
            "begin:vcard\r\nversion:4.0\r\nfn:A,\u00e9\r\nuid:u\r\n 1\r\nend:vcard\r\n");
        Talk.due("PUT", put, "HTTP/1.1 201 Created\r\nETag: \"2\"\r\n" + EMPTY);
        String text = Talk.card4("FN:A\\,\u00e9\r\nUID:u1\r\n");
        String head = "HTTP/1.1 200 OK\r\nETag: \"2\"\r\nContent-Type: text/vcard; charset=utf-8\r\nContent-Length: "
            + (text.length() + 1) + "\r\n\r\n";
        Talk.due("GET", talk.ann("GET /a/ann/b1/c1"), head + text);
        Talk.due("HEAD", talk.ann("HEAD /a/ann/b1/c1"), head);
        Talk.due("PUT again", talk.ask("ann", "PUT /a/ann/b1/c1", "Content-Type: text/vcard\r\n", text),
            "HTTP/1.1 204 No Content\r\nETag: \"3\"\r\n\r\n");
        Talk.due("DELETE", talk.ann("DELETE /a/ann/b1/c1"), "HTTP/1.1 204 No Content\r\n\r\n");
        Talk.due("it is gone", talk.status("ann", "GET /a/ann/b1/c1", "", ""), 404);
        Talk.due("DELETE again", talk.status("ann", "DELETE /a/ann/b1/c1", "", ""), 404);
    }

    private static void accepts() {
        Talk talk = Talk.begun();
        talk.ann("MKCOL /a/ann/b1");
        talk.put("/a/ann/b1/c1", Talk.plain("u1", "A"));
        String[] rows = {"text/vcard 4", "Text/VCard 4", "text/* 4", "*/* 4", "text/vcard;version=3.0 3",
            "text/vcard ; VERSION=3.0 3", " te xt / vcard;ver sion=4. 0 4", "text/vcard;q=0;version=3.0;version=4.0 3",
            "text/html, text/vcard;version=3.0, */* 3", "text/vcard;version=5.0,*/*;version=3.0 3",
            "text/vcard;version=5.0;version=3.0 0", "text/vcard;version=\"3.0\" 0", "text/vcard;version= 0",
            "text/html 0", "*/vcard 0", " 0", ", 0", "text 0", "text/vcard/x 0", "text/*;version=3.0,text/vcard 3",
            ",,*/*; 4", "text/\tvcard 0", "text/vcard;xversion=3.0 4"};
        for (String row : rows) {
            int i = row.lastIndexOf(' ');
            String answer = talk.ask("ann", "GET /a/ann/b1/c1", "Accept: " + row.substring(0, i) + "\r\n", "");
            String version = answer.contains("VERSION:3.0\r\n") ? "3" : answer.contains("VERSION:4.0\r\n") ? "4" : "0";
            Talk.due("Accept: " + row, version, row.substring(i + 1));
        }
        String as4 = talk.ask("ann", "GET /a/ann/b1/c1", "Accept: text/vcard;version=4.0\r\n", "");
        Talk.due("in its own version", Talk.bodyOf(as4), Talk.plain("u1", "A"));
        String any = talk.ask("ann", "GET /a/ann/b1/c1", "Accept: text/*;q=1\r\n", "");
        Talk.due("in any version", Talk.bodyOf(any), Talk.plain("u1", "A"));
        talk.put("/a/ann/b1/c3", Talk.card3("FN:A\r\nN:B\r\nUID:u3\r\nREV:20000101\r\n"));
        Talk.due("in 4.0", talk.ask("ann", "GET /a/ann/b1/c3", "Accept: text/vcard;version=4.0\r\n", ""),
            "HTTP/1.1 200 OK\r\nETag: \"3\"\r\nContent-Type: text/vcard; charset=utf-8\r\nContent-Length: 78\r\n\r\n"
            + Talk.card4("FN:A\r\nN:B\r\nUID:u3\r\nREV:20000101T000000Z\r\n"));
        Talk.due("406", talk.ask("ann", "HEAD /a/ann/b1/c1", "Accept: x/y\r\n", ""),
            "HTTP/1.1 406 Not Acceptable\r\n" + EMPTY);
        Talk.due("HEAD of the other version", talk.ask("ann", "HEAD /a/ann/b1/c1", "Accept: */*;version=3.0\r\n", ""),
            "HTTP/1.1 200 OK\r\nETag: \"2\"\r\nContent-Type: text/vcard; charset=utf-8\r\nContent-Length: "
            + Talk.card3("FN:A\r\nN:A;;;;\r\nUID:u1\r\n").length() + "\r\n\r\n");
    }

    private static void puts() {
        Talk talk = Talk.begun();
        talk.ann("MKCOL /a/ann/b1");
        String card = Talk.plain("u1", "A");
        String refused = "HTTP/1.1 415 Unsupported Media Type\r\n" + EMPTY;
        Talk.due("no Content-Type", talk.ask("ann", "PUT /a/ann/b1/c1", "", card), refused);
        for (String type : new String[] {"text/plain", "", "text/vcards", "text /vcard", "; text/vcard"}) {
            Talk.due("Content-Type " + type, talk.ask("ann", "PUT /a/ann/b1/c1", "Content-Type: " + type + "\r\n", "x"),
                refused);
        }
        for (String type : new String[] {"text/vcard", "TEXT/vCard  ; charset=x", "text/vcard;"}) {
            int status = talk.status("ann", "PUT /a/ann/b1/c1", "Content-Type: " + type + "\r\n", card);
            Talk.due("Content-Type " + type, status == 201 || status == 204, true);
        }
        String note = "FN:A\r\nUID:u1\r\nNOTE:";
        int free = 800 - Talk.card4(note + "\r\n").length();
        String longest = Talk.card4(note + ",".repeat(free) + "\r\n");
        Talk.due("800 bytes", talk.put("/a/ann/b1/c1", longest), 204);
        String kept = Talk.bodyOf(talk.ann("GET /a/ann/b1/c1"));
        Talk.due("kept as it is written", kept.replace("\r\n ", "").contains("NOTE:" + "\\,".repeat(free) + "\r\n"), true);
        Talk.due("801 bytes", talk.ask("ann", "PUT /a/ann/b1/c1", "Content-Type: text/vcard\r\n", longest + "x"),
            Talk.error("<C:max-resource-size/>"));
        Talk.due("no CARD", talk.ask("ann", "PUT /a/ann/b1/c1", "Content-Type: text/vcard\r\n", "x"),
            Talk.error("<C:valid-address-data/>"));
        Talk.due("no body", talk.ask("ann", "PUT /a/ann/b1/c1", "Content-Type: text/vcard\r\n", ""),
            Talk.error("<C:valid-address-data/>"));
        Talk.due("what is refused is no change", talk.house.count(2), 5);
    }

    private static void conflicts() {
        Talk talk = Talk.begun();
        talk.ann("MKCOL /a/ann/b1");
        talk.ann("MKCOL /a/ann/b2");
        talk.put("/a/ann/b1/c1", Talk.plain("u\\,1", "A"));
        talk.put("/a/ann/b1/c2", Talk.plain("u2", "A"));
        String vcard = "Content-Type: text/vcard\r\n";
        String one = "<C:no-uid-conflict><D:href>/a/ann/b1/c1</D:href></C:no-uid-conflict>";
        String two = "<C:no-uid-conflict><D:href>/a/ann/b1/c2</D:href></C:no-uid-conflict>";
        Talk.due("the UID of another CARD", talk.ask("ann", "PUT /a/ann/b1/c3", vcard, Talk.plain("u,1", "B")),
            Talk.error(one));
        Talk.due("another UID", talk.ask("ann", "PUT /a/ann/b1/c2", vcard, Talk.plain("u3", "B")), Talk.error(two));
        Talk.due("both", talk.ask("ann", "PUT /a/ann/b1/c2", vcard, Talk.plain("u,1", "B")), Talk.error(two));
        Talk.due("UIDs are not LIKE", talk.put("/a/ann/b1/c3", Talk.plain("U2", "B")), 201);
        Talk.due("another BOOK", talk.put("/a/ann/b2/c3", Talk.plain("u2", "B")), 201);
        talk.ann("DELETE /a/ann/b1/c1");
        Talk.due("a UID is free again", talk.put("/a/ann/b1/c4", Talk.plain("u,1", "B")), 201);
    }

    private static void limits() {
        Talk talk = Talk.begun();
        talk.ann("MKCOL /a/ann/b1");
        talk.ann("MKCOL /a/ann/b2");
        for (int i = 0; i < 16; i++) {
            Talk.due("CARD " + i, talk.put("/a/ann/b" + (i % 2 + 1) + "/c" + i, Talk.plain("u" + i, "A")), 201);
        }
        Talk.due("a seventeenth CARD", talk.ask("ann", "PUT /a/ann/b1/x", "Content-Type: text/vcard\r\n",
            Talk.plain("x", "A")), "HTTP/1.1 507 Insufficient Storage\r\n" + EMPTY);
        Talk.due("a conflict ahead of 507", talk.put("/a/ann/b1/x", Talk.plain("u0", "A")), 403);
        Talk.due("an old one goes", talk.put("/a/ann/b1/c0", Talk.plain("u0", "B")), 204);
        talk.ann("DELETE /a/ann/b2");
        Talk.due("half of them are gone", talk.house.count(1), 8);
        Talk.due("then there is room", talk.put("/a/ann/b1/x", Talk.plain("x", "A")), 201);
    }
}
