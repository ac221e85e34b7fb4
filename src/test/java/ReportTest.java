/** Promise 6, Part III: REPORT. */
public final class ReportTest {
    private static final String ETAG = "<D:prop><D:getetag/></D:prop>";

    public static void main(String[] args) {
        what();
        data();
        multiget();
        filters();
        matches();
        limits();
        sync();
        forgotten();
        Talk.finish();
    }

    private static Talk filled() {
        Talk talk = Talk.begun();
        talk.ann("MKCOL /a/ann/b1");
        talk.put("/a/ann/b1/c1", Talk.card4("FN:Ann\r\nUID:u1\r\nhome.TEL;TYPE=cell,\"a,B\":1\r\nTEL;PREF=1:22\r\n"));
        talk.put("/a/ann/b1/c2", Talk.card3("FN:Bob \u00c4\u03a9\u0416\u0401\r\nN:B;x,y\r\nUID:u2\r\nNOTE:a\\nb\\,c\r\n"));
        return talk;
    }

    private static String report(Talk talk, String root, String inner) {
        return talk.ask("ann", "REPORT /a/ann/b1/", "Depth: 1\r\n", Talk.root(root, inner));
    }

    private static String query(Talk talk, String filter) {
        return report(talk, "C:addressbook-query", "<C:filter>" + filter + "</C:filter>");
    }

    /** The CARDS that a filter finds, or the status. */
    private static String hits(Talk talk, String filter) {
        String out = report(talk, "C:addressbook-query", filter.startsWith("<C:filter") ? filter
            : "<C:filter>" + filter + "</C:filter>");
        String hits = out.startsWith("HTTP/1.1 207") ? "" : out.substring(9, 12);
        for (String name : new String[] {"c1", "c2"}) {
            hits += out.contains(Talk.told("/a/ann/b1/" + name, "200 OK")) ? name : "";
        }
        return hits;
    }

    private static String etag(String name, int change) {
        return Talk.found("/a/ann/b1/" + name, "<D:getetag>\"" + change + "\"</D:getetag>");
    }

    private static void what() {
        Talk talk = filled();
        Talk.due("no body", talk.status("ann", "REPORT /a/ann/b1", "", ""), 400);
        Talk.due("no XML", talk.status("ann", "REPORT /a/ann/b1", "", "<a>"), 400);
        Talk.due("another root", report(talk, "D:addressbook-query", ""), Talk.error("<D:supported-report/>"));
        Talk.due("another root and Depth", talk.ask("ann", "REPORT /a/ann/b1", "Depth: 2\r\n", "<a/>"),
            Talk.error("<D:supported-report/>"));
        String all = Talk.root("C:addressbook-query", ETAG + "<C:filter/>");
        Talk.due("Depth 2", talk.status("ann", "REPORT /a/ann/b1", "Depth: 2\r\n", all), 400);
        Talk.due("no Depth", talk.ask("ann", "REPORT /a/ann/b1", "", all), Talk.multi(""));
        Talk.due("Depth 0", talk.ask("ann", "REPORT /a/ann/b1", "Depth: 0\r\n", all), Talk.multi(""));
        Talk.due("infinity", talk.ask("ann", "REPORT /a/ann/b1", "Depth: INFINITY\r\n", all),
            Talk.multi(etag("c1", 2) + etag("c2", 3)));
        Talk.due("nothing asked", query(talk, ""),
            Talk.multi(Talk.told("/a/ann/b1/c1", "200 OK") + Talk.told("/a/ann/b1/c2", "200 OK")));
        Talk.due("allprop", report(talk, "C:addressbook-query", "<C:filter/><D:allprop/>" + ETAG)
            .contains("<D:getcontenttype>text/vcard; charset=utf-8</D:getcontenttype>"), true);
        Talk.due("propname", report(talk, "C:addressbook-query", "<C:filter/><D:propname/>").contains("<D:getetag/>"), true);
        Talk.due("21 children", report(talk, "C:addressbook-query", "<D:prop>" + "<D:a/>".repeat(20)
            + "<C:address-data version='5.0'/></D:prop>"), Talk.answer("400 Bad Request", "", ""));
    }

    private static String data(Talk talk, String element) {
        String out = report(talk, "C:addressbook-multiget",
            "<D:prop>" + element + "</D:prop><D:href>/a/ann/b1/c1</D:href>");
        int from = out.indexOf("<C:address-data>");
        return from < 0 ? out : out.substring(from + 16, out.indexOf("</C:address-data>"));
    }

    private static void data() {
        Talk talk = filled();
        String unsupported = Talk.error("<C:supported-address-data/>");
        Talk.due("as it is", data(talk, "<C:address-data/>"),
            Talk.card4("FN:Ann\r\nUID:u1\r\nhome.TEL;TYPE=cell,\"a,B\":1\r\nTEL;PREF=1:22\r\n"));
        Talk.due("in 3.0", data(talk, "<C:address-data version='3.0' content-type='TEXT/vcard'/>"),
            Talk.card3("FN:Ann\r\nN:Ann;;;;\r\nUID:u1\r\nhome.TEL;TYPE=CELL,\"A,B\":1\r\nTEL;TYPE=PREF:22\r\n"));
        for (String wrong : new String[] {"version='5.0'", "version=''", "version='3'", "content-type='text/x'",
            "content-type='' version='3.0'"}) {
            Talk.due(wrong, data(talk, "<C:address-data " + wrong + "/>"), unsupported);
        }
        Talk.due("it is ahead of other children", report(talk, "C:addressbook-query",
            "<D:prop><C:address-data version='x'/></D:prop>"), unsupported);
        Talk.due("only the first one counts", data(talk, "<C:address-data/><C:address-data version='x'/>")
            .startsWith("BEGIN"), true);
        Talk.due("picked", data(talk, "<C:address-data><C:prop name='fn'/><C:prop name='Home.tel'/></C:address-data>"),
            Talk.card4("FN:Ann\r\nhome.TEL;TYPE=cell,\"a,B\":1\r\n"));
        Talk.due("without values", data(talk, "<C:address-data><C:prop name='home.TEL'/><C:prop name='TEL' novalue='YES'/>"
            + "<C:prop name='TEL'/><C:prop name='UID' novalue='no'/></C:address-data>"),
            Talk.card4("UID:u1\r\nhome.TEL;TYPE=cell,\"a,B\":1\r\nTEL;PREF=1:\r\n"));
        Talk.due("other children pick nothing", data(talk, "<C:address-data><C:x name='TEL'/><D:prop name='TEL'/>"
            + "<C:prop name='FN'><C:prop name='TEL'/></C:prop><C:prop/></C:address-data><C:prop name='UID'/>"),
            Talk.card4("FN:Ann\r\n"));
        Talk.due("an empty group", data(talk, "<C:address-data><C:prop name='.TEL'/></C:address-data>"), Talk.card4(""));
        Talk.due("picked from the turned card", data(talk,
            "<C:address-data version='3.0'><C:prop name='N'/></C:address-data>"), Talk.card3("N:Ann;;;;\r\n"));
        Talk.due("C:allprop", data(talk, "<C:address-data><C:prop name='FN' novalue='yes'/><C:allprop/></C:address-data>"),
            data(talk, "<C:address-data/>"));
        talk.put("/a/ann/b1/c1", Talk.plain("u1", "a<b>&\"c"));
        Talk.due("in XML", data(talk, "<C:address-data/>"), Talk.plain("u1", "a&lt;b&gt;&amp;\"c"));
    }

    private static void multiget() {
        Talk talk = filled();
        talk.ann("MKCOL /a/ann/b2");
        talk.put("/a/ann/b2/c1", Talk.plain("v1", "A"));
        String hrefs = "";
        String due = "";
        String c2 = etag("c2", 3);
        String[][] rows = {{"/a/ann/b1/c2", c2}, {" \n/a/ann/b1/%632?x=%\t", c2}, {"http://x.org/a/ann/b1/c2", c2},
            {"http:///a/ann/b1/c2", c2}, {"/a/ann/b1/c2", c2}, {"/a/ann/b1/c3", ""}, {"/a/ann/b2/c1", ""},
            {"/a/ann/b1/", ""}, {"", ""}, {"x/a/ann/b1/c2", ""}, {"https://x/a/ann/b1/c2", ""}, {"http://x", ""},
            {"/a/ann/b1/c2/", ""}, {"/a/ann/b1/%zz", ""}, {"/a&amp;b", ""}, {"/\"'", ""},
            {"/a/ann/b1/" + "%63%32", c2}, {"http://" + "y".repeat(300) + "/a/ann/b1/c2", c2}};
        for (String[] row : rows) {
            hrefs += "<D:href>" + row[0] + "</D:href>";
            due += row[1].isEmpty() ? Talk.told(row[0].trim(), "404 Not Found") : row[1];
        }
        Talk.due("hrefs", report(talk, "C:addressbook-multiget", ETAG + hrefs), Talk.multi(due));
        Talk.due("an href ends where it ends", report(talk, "C:addressbook-multiget",
            "<D:href>/a/ann/b1/c%3</D:href><D:href>2</D:href><D:href>http:/</D:href><D:href>/a/ann/b1/c2</D:href>"), Talk.multi(
            Talk.told("/a/ann/b1/c%3", "404 Not Found") + Talk.told("2", "404 Not Found")
            + Talk.told("http:/", "404 Not Found") + Talk.told("/a/ann/b1/c2", "200 OK")));
        Talk.due("no href", talk.status("ann", "REPORT /a/ann/b1", "", Talk.root("C:addressbook-multiget", ETAG)), 400);
        String one = "<D:href>/a/ann/b1/c2</D:href>";
        Talk.due("20 hrefs", talk.status("ann", "REPORT /a/ann/b1", "",
            Talk.root("C:addressbook-multiget", one.repeat(20))), 207);
        Talk.due("21 hrefs", talk.status("ann", "REPORT /a/ann/b1", "",
            Talk.root("C:addressbook-multiget", one.repeat(21))), 400);
    }

    private static String prop(String name, String inner) {
        return "<C:prop-filter name=\"" + name + "\">" + inner + "</C:prop-filter>";
    }

    private static void filters() {
        Talk talk = filled();
        Talk.due("no filter", talk.status("ann", "REPORT /a/ann/b1", "", Talk.root("C:addressbook-query", ETAG)), 400);
        String[][] rows = {{"", "c1c2"}, {prop("fn", ""), "c1c2"}, {prop("TEL", ""), "c1"}, {prop("home.tel", ""), "c1"},
            {prop("work.TEL", ""), ""}, {prop(".TEL", ""), ""}, {prop("NOTE", "<C:is-not-defined/>"), "c1"},
            {prop("TEL", "<C:is-not-defined/><C:text-match>1</C:text-match>"), "c2"}, {prop("VERSION", ""), ""},
            {prop("", ""), ""}, {prop("TEL", "") + prop("NOTE", ""), "c1c2"},
            {"<C:filter test='allof'>" + prop("TEL", "") + prop("NOTE", "") + "</C:filter>", ""},
            {"<C:filter test='anyof'>" + prop("TEL", "") + prop("X", "") + "</C:filter>", "c1"},
            {"<C:filter test='allof'/>", "c1c2"}, {"<C:filter test='x'/>", "400"}, {"<C:filter test=''/>", "400"},
            {"<C:filter test='ALLOF'/>", "400"}, {"<C:prop-filter/>", "400"},
            {"<C:prop-filter name='FN' test='y'/>", "400"},
            {prop("TEL", "<C:text-match>1</C:text-match><C:param-filter name='PREF'/>"), "c1"},
            {prop("TEL", "<C:text-match>1</C:text-match><C:param-filter name='PREF'/>").replace("name=\"TEL\"",
                "name='TEL' test='allof'"), ""},
            {prop("TEL", "<C:text-match>2</C:text-match><C:param-filter name='pref'/>").replace("name=\"TEL\"",
                "name='TEL' test='allof'"), "c1"},
            {prop("TEL", "<C:param-filter name='TYPE'><C:is-not-defined/></C:param-filter>"), "c1"},
            {prop("home.TEL", "<C:param-filter name='TYPE'><C:is-not-defined/></C:param-filter>"), ""},
            {prop("home.TEL", "<C:param-filter name='TYPE'><C:is-not-defined/><C:text-match>c</C:text-match></C:param-filter>"), ""},
            {prop("FN", "<C:text-match>zz</C:text-match><C:text-match>nn</C:text-match>"), "c1"},
            {prop("FN", "<C:text-match>o</C:text-match><C:text-match match-type='starts-with'>b</C:text-match>").replace(
                "name=\"FN\"", "name='FN' test='allof'"), "c2"},
            {prop("FN", "<C:text-match>o</C:text-match>") + prop("UID", "<C:text-match match-type='ends-with'>U1</C:text-match>"),
                "c1c2"},
            {prop("FN", "<C:param-filter name='TYPE'/>"), ""}, {prop("FN", "<C:param-filter/>"), "400"},
            {prop("TEL", "<C:param-filter name='type'><C:text-match match-type='equals'>A,b</C:text-match>"
                + "<C:text-match collation='x'/></C:param-filter>"), "c1"},
            {prop("TEL", "<C:param-filter name='type'><C:text-match match-type='equals'>a</C:text-match>"
                + "</C:param-filter>"), ""},
            {prop("X", "<C:param-filter name='y'><C:text-match match-type='z'/></C:param-filter>"), "400"},
            {prop("X", "<C:is-not-defined/><C:text-match collation='z'/>"), "403"},
            {prop("FN", "<D:z><C:text-match collation='z'/></D:z>"), "c1c2"}};
        for (String[] row : rows) {
            Talk.due("filter " + row[0], hits(talk, row[0]), row[1]);
        }
        Talk.due("attributes are of no namespace", talk.ask("ann", "REPORT /a/ann/b1", "Depth:1\r\n",
            "<addressbook-query xmlns='urn:ietf:params:xml:ns:carddav' xmlns:q='q'><filter test='allof' q:test='x'><prop-filter name='TEL' "
            + "q:name='NOTE'/></filter></addressbook-query>"), Talk.multi(Talk.told("/a/ann/b1/c1", "200 OK")));
        Talk.due("an attribute of another namespace", talk.status("ann", "REPORT /a/ann/b1", "Depth:1\r\n",
            Talk.root("C:addressbook-query", "<C:filter><C:prop-filter C:name='TEL'/></C:filter>")), 400);
        Talk.due("a collation", query(talk, prop("X", "<C:text-match collation='z' match-type='z'/>")),
            Talk.error("<C:supported-collation/>"));
        Talk.due("the first that is wrong", hits(talk, prop("X", "<C:text-match match-type='z'/>"
            + "<C:text-match collation='z'/>")), "400");
    }

    private static String match(String attributes, String text) {
        return "<C:text-match " + attributes + ">" + text + "</C:text-match>";
    }

    private static void matches() {
        Talk talk = filled();
        String[][] rows = {{"FN", "", "NN", "c1"}, {"FN", "match-type='contains'", "n", "c1"},
            {"FN", "match-type='equals'", "ann", "c1"}, {"FN", "match-type='equals'", "an", ""},
            {"FN", "match-type='starts-with'", "B", "c2"}, {"FN", "match-type='starts-with'", "nn", ""},
            {"FN", "match-type='ends-with'", "nn", "c1"}, {"FN", "match-type='ends-with'", "An", ""},
            {"FN", "match-type='ends-with'", "xxxxxxxxxxxxxxxxx", ""}, {"FN", "", "", "c1c2"},
            {"FN", "match-type='equals'", "", ""}, {"FN", "negate-condition='yes'", "ann", "c2"},
            {"FN", "negate-condition='no'", "ann", "c1"}, {"FN", "negate-condition='Yes'", "ann", "400"},
            {"FN", "match-type='is'", "ann", "400"}, {"FN", "collation='i;octet'", "ann", ""},
            {"FN", "collation='i;octet'", "Ann", "c1"}, {"FN", "collation='i;ascii-casemap'", "ANN", "c1"},
            {"FN", "collation='i;ascii-casemap'", "\u00e4", ""}, {"FN", "collation='i;unicode-casemap'", "\u00e4\u03c9", "c2"},
            {"FN", "collation='default'", "\u0436\u0451", "c2"}, {"FN", "", "\u03a9\u0436", "c2"},
            {"NOTE", "", "a\nb,c", "c2"}, {"NOTE", "", "a\\nb", ""}, {"NOTE", "", "&#97;&#xA;B", "c2"},
            {"N", "match-type='equals'", "b;X,y", "c2"}, {"TEL", "match-type='equals'", "22", "c1"},
            {"TEL", "negate-condition='yes'", "1", "c1"}, {"UID", "", " u1", ""}};
        for (String[] row : rows) {
            Talk.due(row[0] + " " + row[1] + " " + row[2], hits(talk, prop(row[0], match(row[1], row[2]))), row[3]);
        }
        talk.put("/a/ann/b1/c1", Talk.card4("FN:A\r\nUID:u1\r\nNICKNAME:a\\,b,c\\nd\r\nORG:x\\;y;z\\\\\r\nURL:a\\,b\r\nX-Y:a\\nb\r\n"));
        String[][] meanings = {{"NICKNAME", "a,b,c\nd"}, {"ORG", "x;y;z\\"}, {"URL", "a\\,b"}, {"X-Y", "a\\nb"}};
        for (String[] row : meanings) {
            Talk.due("MEANING of " + row[0], hits(talk, prop(row[0], match("match-type='equals'", row[1]))), "c1");
        }
        talk.put("/a/ann/b1/c1", Talk.card4("FN:A\r\nUID:u1\r\nTZ;az=Z:aZ\r\nADR:\r\nX-Y:@[`{\r\n"));
        Talk.due("tz", hits(talk, prop("tz", match("", "Az"))), "c1");
        Talk.due("Adr", hits(talk, prop("Adr", "")), "c1");
        Talk.due("a parameter", hits(talk, prop("Tz", "<C:param-filter name='aZ'>" + match("", "z") + "</C:param-filter>")), "c1");
        Talk.due("signs beside letters", hits(talk, prop("X-Y", match("", "`{@["))), "");
        Talk.due("the signs themselves", hits(talk, prop("x-y", match("", "@[`{"))), "c1");
        Talk.due("- is not LIKE 13", hits(talk, prop("X&#13;Y", "")), "");
        talk.put("/a/ann/b1/c1", Talk.plain("u1", "\u00d7\u00de\u00df\u0391\u03a9\u0410\u042f\u0400\u040f\u00c0"));
        Talk.due("edges of the letters", hits(talk, prop("FN", match("match-type='equals'",
            "\u00d7\u00fe\u00df\u03b1\u03c9\u0430\u044f\u0450\u045f\u00e0"))), "c1");
        Talk.due("what is no letter", hits(talk, prop("FN", match("", "\u00f7"))), "");
    }

    private static void limits() {
        Talk talk = filled();
        String over = Talk.told("/a/ann/b1/", "507 Insufficient Storage");
        String[][] rows = {{"0", over}, {"1", etag("c1", 2) + over}, {" 2 ", etag("c1", 2) + etag("c2", 3)},
            {"002", etag("c1", 2) + etag("c2", 3)}, {"999", etag("c1", 2) + etag("c2", 3)}};
        for (String[] row : rows) {
            Talk.due("limit " + row[0], report(talk, "C:addressbook-query", ETAG + "<C:filter/><C:limit><C:nresults>"
                + row[0] + "</C:nresults></C:limit>"), Talk.multi(row[1]));
        }
        for (String wrong : new String[] {"<C:limit/>", "<C:limit><D:nresults>1</D:nresults></C:limit>",
            "<C:limit><C:nresults/></C:limit>", "<C:limit><C:nresults>1000</C:nresults></C:limit>",
            "<C:limit><C:nresults>-1</C:nresults></C:limit>", "<C:limit><C:nresults>1 2</C:nresults></C:limit>"}) {
            Talk.due(wrong, report(talk, "C:addressbook-query", ETAG + "<C:filter/>" + wrong),
                Talk.answer("400 Bad Request", "", ""));
        }
        Talk.due("D:limit does not count", report(talk, "C:addressbook-query", ETAG + "<C:filter/><D:limit/>"),
            Talk.multi(etag("c1", 2) + etag("c2", 3)));
        Talk.due("none fits", report(talk, "C:addressbook-query", ETAG + "<C:filter>" + prop("X", "")
            + "</C:filter><C:limit><C:nresults>0</C:nresults></C:limit>"), Talk.multi(""));
    }

    private static String sync(Talk talk, String token, String more) {
        return report(talk, "D:sync-collection", "<D:sync-token>" + token + "</D:sync-token><D:sync-level>1</D:sync-level>"
            + ETAG + more);
    }

    private static String token(String token) {
        return "<D:sync-token>" + token + "</D:sync-token>";
    }

    private static void sync() {
        Talk talk = filled();
        talk.put("/a/ann/b1/c3", Talk.plain("u3", "C"));
        talk.put("/a/ann/b1/c1", Talk.plain("u1", "D"));
        talk.ann("DELETE /a/ann/b1/c3");
        String gone = Talk.told("/a/ann/b1/c3", "404 Not Found");
        String over = Talk.told("/a/ann/b1/", "507 Insufficient Storage");
        Talk.due("all", sync(talk, "", ""), Talk.multi(etag("c2", 3) + etag("c1", 5) + token("urn:x-sync:1-6")));
        Talk.due("all from the first", sync(talk, "urn:x-sync:1-1", ""),
            Talk.multi(etag("c2", 3) + etag("c1", 5) + gone + token("urn:x-sync:1-6")));
        Talk.due("since 3", sync(talk, " urn:x-sync:1-3\n", ""),
            Talk.multi(etag("c1", 5) + gone + token("urn:x-sync:1-6")));
        Talk.due("since now", sync(talk, "urn:x-sync:1-6", ""), Talk.multi(token("urn:x-sync:1-6")));
        String limit = "<D:limit><D:nresults>%</D:nresults></D:limit>";
        Talk.due("two of three", sync(talk, "urn:x-sync:1-2", limit.replace("%", "2")),
            Talk.multi(etag("c2", 3) + etag("c1", 5) + over + token("urn:x-sync:1-5")));
        Talk.due("one of three", sync(talk, "urn:x-sync:1-2", limit.replace("%", "1")),
            Talk.multi(etag("c2", 3) + over + token("urn:x-sync:1-3")));
        Talk.due("one of two", sync(talk, "urn:x-sync:1-3", limit.replace("%", "1")),
            Talk.multi(etag("c1", 5) + over + token("urn:x-sync:1-5")));
        Talk.due("one of all", sync(talk, "", limit.replace("%", "1")),
            Talk.multi(etag("c2", 3) + over + token("urn:x-sync:1-3")));
        Talk.due("three of three", sync(talk, "urn:x-sync:1-2", limit.replace("%", "3")),
            Talk.multi(etag("c2", 3) + etag("c1", 5) + gone + token("urn:x-sync:1-6")));
        Talk.due("none of three", sync(talk, "urn:x-sync:1-2", limit.replace("%", "0")),
            Talk.multi(over + token("urn:x-sync:1-2")));
        Talk.due("none of all", sync(talk, "", limit.replace("%", "0")), Talk.multi(over + token("urn:x-sync:1-1")));
        Talk.due("none of none", sync(talk, "urn:x-sync:1-6", limit.replace("%", "0")),
            Talk.multi(token("urn:x-sync:1-6")));
        for (String wrong : new String[] {"urn:x-sync:1-7", "urn:x-sync:1-0", "urn:x-sync:2-3", "urn:x-sync:1-03",
            "urn:x-sync:01-3", "urn:x-sync:1", "urn:x-sync:1-", "urn:x-sync:-3", "URN:x-sync:1-3", "x", "urn:x-sync:1-3x",
            "urn:x-sync:1-99999999999", "urn:x-sync:1-3-3", "urn:x"}) {
            Talk.due("token " + wrong, sync(talk, wrong, ""), Talk.error("<D:valid-sync-token/>"));
        }
        String level = "<D:sync-level>1</D:sync-level>";
        for (String wrong : new String[] {level, token("x"), token("x") + "<D:sync-level>2</D:sync-level>",
            token("x") + "<D:sync-level/>", token("x") + level + "<D:limit/>", token("x") + level
            + limit.replace("%", "x")}) {
            Talk.due(wrong, report(talk, "D:sync-collection", wrong), Talk.answer("400 Bad Request", "", ""));
        }
        talk.put("/a/ann/b1/c3", Talk.plain("u3", "C"));
        Talk.due("it is there again", sync(talk, "urn:x-sync:1-5", ""),
            Talk.multi(etag("c3", 7) + token("urn:x-sync:1-7")));
        talk.ann("DELETE /a/ann/b1/c3");
        talk.ann("DELETE /a/ann/b1");
        talk.ann("MKCOL /a/ann/b1");
        Talk.due("a BOOK made anew", sync(talk, "urn:x-sync:1-5", ""), Talk.error("<D:valid-sync-token/>"));
        Talk.due("has a token of its own", sync(talk, "urn:x-sync:10-10", ""), Talk.multi(token("urn:x-sync:10-10")));
        Talk.due("that is not older", sync(talk, "urn:x-sync:10-9", ""), Talk.error("<D:valid-sync-token/>"));
        Talk.due("and nothing in mind", sync(talk, "", ""), Talk.multi(token("urn:x-sync:10-10")));
    }

    private static void forgotten() {
        Talk talk = Talk.begun();
        talk.ann("MKCOL /a/ann/b1");
        for (int i = 0; i < 21; i++) {
            talk.put("/a/ann/b1/d" + i, Talk.plain("u", "A"));
            Talk.due("all are kept in mind", talk.status("ann", "REPORT /a/ann/b1", "", Talk.root("D:sync-collection",
                token("urn:x-sync:1-1") + "<D:sync-level>1</D:sync-level>")), 207);
            talk.ann("DELETE /a/ann/b1/d" + i);
        }
        Talk.due("a deletion is forgotten", sync(talk, "urn:x-sync:1-2", ""), Talk.error("<D:valid-sync-token/>"));
        String due = "";
        for (int i = 1; i < 21; i++) {
            due += Talk.told("/a/ann/b1/d" + i, "404 Not Found");
        }
        Talk.due("20 are kept", sync(talk, "urn:x-sync:1-3", ""), Talk.multi(due + token("urn:x-sync:1-43")));
        Talk.due("a token of none may be too old", sync(talk, "", "").contains("urn:x-sync:1-43"), true);
        talk.put("/a/ann/b1/d1", Talk.plain("u", "A"));
        talk.ann("DELETE /a/ann/b1/d1");
        Talk.due("a name is kept once", sync(talk, "urn:x-sync:1-3", ""), Talk.multi(
            due.substring(Talk.told("/a/ann/b1/d1", "404 Not Found").length()) + Talk.told("/a/ann/b1/d1", "404 Not Found")
            + token("urn:x-sync:1-45")));
    }
}
