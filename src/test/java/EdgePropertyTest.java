/** The edges of Part III's multi-status answers, PROPERTIES, PROPFIND and PROPPATCH: a test for each sentence that names one. */
public final class EdgePropertyTest {
    private static final String BOOK = "/a/ann/b1/";
    private static final String READERS = "<x:readers xmlns:x=\"urn:x-readers\"/>";
    private static final String NOTE = "<C:addressbook-description/>";
    private static final String NAME = "<D:displayname/>";
    private static final String LONG_NAME = "<D:displayname>" + "y".repeat(61) + "</D:displayname>";
    private static final String[] NAMES = ("D:resourcetype D:displayname D:getetag D:getcontenttype D:getcontentlength "
        + "D:current-user-principal C:addressbook-home-set D:owner D:current-user-privilege-set D:supported-report-set "
        + "C:supported-address-data C:addressbook-description C:max-resource-size D:sync-token R:readers").split(" ");

    public static void main(String[] args) throws ReflectiveOperationException {
        Talk.all(EdgePropertyTest.class);
    }

    /** A house with a BOOK b1 of ann's and a CARD c1 in it. */
    private static Talk filled() {
        Talk talk = Talk.begun();
        talk.ann("MKCOL /a/ann/b1");
        talk.put("/a/ann/b1/c1", Talk.plain("u1", "A"));
        return talk;
    }

    private static String find(Talk talk, String who, String path, String depth, String body) {
        return talk.ask(who, "PROPFIND " + path, "Depth: " + depth + "\r\n", body);
    }

    private static String prop(String inner) {
        return Talk.root("D:propfind", "<D:prop>" + inner + "</D:prop>");
    }

    private static String asked(Talk talk, String path, String inner) {
        return find(talk, "ann", path, "0", prop(inner));
    }

    private static String both(String path, String found, String missing) {
        return Talk.multi("<D:response><D:href>" + path + "</D:href>" + (found.isEmpty() ? "" : Talk.propstat("200 OK", found))
            + (missing.isEmpty() ? "" : Talk.propstat("404 Not Found", missing)) + "</D:response>");
    }

    private static String patch(Talk talk, String inner) {
        return talk.ask("ann", "PROPPATCH /a/ann/b1", "", Talk.root("D:propertyupdate", inner));
    }

    private static String set(String inner) {
        return "<D:set><D:prop>" + inner + "</D:prop></D:set>";
    }

    private static String remove(String inner) {
        return "<D:remove><D:prop>" + inner + "</D:prop></D:remove>";
    }

    private static String done(String properties) {
        return Talk.multi(Talk.found(BOOK, properties));
    }

    private static String refused(String forbidden, String others) {
        return Talk.multi("<D:response><D:href>" + BOOK + "</D:href>" + Talk.propstat("403 Forbidden", forbidden)
            + (others.isEmpty() ? "" : Talk.propstat("424 Failed Dependency", others)) + "</D:response>");
    }

    private static final String WRONG = Talk.bare("400 Bad Request", "");

    /** Part III: "PROPFIND, PROPPATCH and REPORT have bodies in XML: one that is none, or not as told below: 400." */
    static void bodiesThatAreNone() {
        Talk talk = filled();
        for (String body : new String[] {"x", " ", "<a", "<a></b>", "<D:propfind><D:allprop/></D:propfind>", Talk.plain("u", "A")}) {
            Talk.due("PROPFIND " + body, find(talk, "ann", BOOK, "0", body), WRONG);
            Talk.due("PROPPATCH " + body, talk.ask("ann", "PROPPATCH " + BOOK, "", body), WRONG);
            Talk.due("REPORT " + body, talk.ask("ann", "REPORT " + BOOK, "", body), WRONG);
        }
        Talk.due("PROPPATCH without one", talk.ann("PROPPATCH " + BOOK), WRONG);
        Talk.due("REPORT without one", talk.ann("REPORT " + BOOK), WRONG);
    }

    /** A PROPFIND of 20 properties of one namespace, the first one's name with some letters more. */
    private static String wide(int space, int more) {
        StringBuilder all = new StringBuilder("<propfind xmlns='DAV:' xmlns:x='" + "\"".repeat(150) + "n".repeat(space) + "'><prop>");
        for (int i = 0; i < 20; i++) {
            all.append("<x:p").append((char) ('a' + i)).append(i == 0 ? "y".repeat(more) : "").append("/>");
        }
        return all.append("</prop></propfind>").toString();
    }

    /** Part III: "A body that would be above 60000 bytes: 507 without one." */
    static void largeBodies() {
        Talk talk = filled();
        int rest = 60000 - Talk.bodyOf(find(talk, "ann", "/", "0", wide(1000, 0))).length();
        int space = 1000 + rest / 20;
        Talk.due("60000 bytes", Talk.bodyOf(find(talk, "ann", "/", "0", wide(space, rest % 20))).length(), 60000);
        for (int more : new int[] {1, 2, 50, 99, 100, 101, 200}) {
            Talk.due("and " + more, find(talk, "ann", "/", "0", wide(space, rest % 20 + more)), Talk.bare("507 Insufficient Storage", ""));
        }
        Talk.due("it is open", talk.house.isOpen(0), true);
        Talk.due("the next one is answered", Talk.statusOf(find(talk, "ann", "/", "0", "")), 207);
    }

    /** Part III, RESPONSE: "then one PROPSTAT of 200 if there are any such properties, then one of 404 (403, 424)". */
    static void propstats() {
        Talk talk = filled();
        String type = "<D:resourcetype><D:collection/></D:resourcetype>";
        Talk.due("only 200", asked(talk, "/", "<D:resourcetype/>"), both("/", type, ""));
        Talk.due("only 404", asked(talk, "/", "<D:owner/>"), both("/", "", "<D:owner/>"));
        Talk.due("both", asked(talk, "/", "<D:owner/><D:resourcetype/><D:getetag/>"), both("/", type, "<D:owner/><D:getetag/>"));
        Talk.due("only 403", patch(talk, set("<D:owner/>")), refused("<D:owner/>", ""));
        Talk.due("403 and 424", patch(talk, set(NAME + "<D:owner/>")), refused("<D:owner/>", NAME));
    }

    /** Part III, RESPONSE: "Or, without properties: '<D:status>HTTP/1.1 ' status S REASON '</D:status>' in place of them." */
    static void withoutProperties() {
        Talk talk = filled();
        Talk.due("nothing is asked", find(talk, "ann", BOOK, "1", prop("")),
            Talk.multi(Talk.told(BOOK, "200 OK") + Talk.told("/a/ann/b1/c1", "200 OK")));
    }

    /** Part III, RESPONSE: "Paths are written with / at the end of all but CARDS." */
    static void pathsWritten() {
        Talk talk = filled();
        String[][] paths = {{"?", "/"}, {"/p/ann", "/p/ann/"}, {"/p/bob/", "/p/bob/"}, {"/a/ann", "/a/ann/"}, {"/a/ann/b1", BOOK},
            {"/a/ann/%62%31/", BOOK}, {"/a/ann/b1/c1?x", "/a/ann/b1/c1"}};
        for (String[] row : paths) {
            Talk.due(row[0], asked(talk, row[0], ""), Talk.multi(Talk.told(row[1], "200 OK")));
        }
    }

    /** Part III, RESPONSE: "A property without contents is '<D:name/>'; those of other namespaces '<x:name xmlns:x="' namespace '"/>', of none '<name/>' (with contents accordingly)." */
    static void propertiesOfSpaces() {
        Talk talk = filled();
        patch(talk, set("<R:readers>bob</R:readers><D:displayname/>"));
        Talk.due("without contents", asked(talk, BOOK, "<D:displayname/>"), both(BOOK, NAME, ""));
        Talk.due("with contents", asked(talk, BOOK, "<R:readers/><C:max-resource-size/>"), both(BOOK,
            "<x:readers xmlns:x=\"urn:x-readers\">bob</x:readers><C:max-resource-size>800</C:max-resource-size>", ""));
        Talk.due("of others and none", asked(talk, BOOK, "<D:z/><C:z/><R:z/><z/><z xmlns='u'/><xml:z/><q:z xmlns:q='DAV'/>"), both(BOOK,
            "", "<D:z/><C:z/><x:z xmlns:x=\"urn:x-readers\"/><z/><x:z xmlns:x=\"u\"/>"
            + "<x:z xmlns:x=\"http://www.w3.org/XML/1998/namespace\"/><x:z xmlns:x=\"DAV\"/>"));
        Talk.due("known names elsewhere", asked(talk, BOOK, "<C:owner/><D:max-resource-size/><readers/><C:displayname/>"),
            both(BOOK, "", "<C:owner/><D:max-resource-size/><readers/><C:displayname/>"));
        Talk.due("names are not LIKE", asked(talk, BOOK, "<D:Owner/><D:OWNER/>"), both(BOOK, "", "<D:Owner/><D:OWNER/>"));
        Talk.due("C:address-data is only for REPORT", asked(talk, "/a/ann/b1/c1", "<C:address-data/>"),
            both("/a/ann/b1/c1", "", "<C:address-data/>"));
    }

    /** Part III, RESPONSE: "In texts & < > are written &amp; &lt; &gt; , in values of attributes " as &quot; , too." */
    static void signsWritten() {
        Talk talk = filled();
        patch(talk, set("<D:displayname>&amp;&lt;&gt;\"'&amp;amp;</D:displayname>"));
        Talk.due("in texts", asked(talk, BOOK, NAME), both(BOOK, "<D:displayname>&amp;&lt;&gt;\"'&amp;amp;</D:displayname>", ""));
        Talk.due("in attributes", asked(talk, BOOK, "<q:z xmlns:q='&amp;&lt;&gt;&quot;&apos;'/>"),
            both(BOOK, "", "<x:z xmlns:x=\"&amp;&lt;&gt;&quot;'\"/>"));
    }

    /** Part III, PROPERTIES: "on ROOT (o), PRINCIPAL (p), HOME (h), BOOK (b), CARD (c)" (each property at each place, there or 404). */
    static void placesOfProperties() {
        Talk talk = filled();
        patch(talk, set("<D:displayname>n</D:displayname><C:addressbook-description>d</C:addressbook-description>"));
        String[] places = {"/", "/p/ann/", "/a/ann/", BOOK, "/a/ann/b1/c1"};
        String[] there = {"ophbc", "pb", "c", "c", "c", "ophbc", "p", "hbc", "ophbc", "b", "b", "b", "b", "b", "b"};
        for (int i = 0; i < NAMES.length; i++) {
            for (int k = 0; k < places.length; k++) {
                String answer = asked(talk, places[k], "<" + NAMES[i] + "/>");
                boolean found = answer.contains("HTTP/1.1 200 OK") && !answer.contains("404 Not Found");
                Talk.due(NAMES[i] + " at " + places[k], found, there[i].indexOf("ophbc".charAt(k)) >= 0);
            }
        }
    }

    /** Part III, PROPERTIES: "'<D:collection/>' (o h b; p '<D:principal/>'; b with '<C:addressbook/>' behind; c none)". */
    static void resourcetypes() {
        Talk talk = filled();
        String[][] rows = {{"/", "<D:collection/>"}, {"/p/ann/", "<D:principal/>"}, {"/a/ann/", "<D:collection/>"},
            {BOOK, "<D:collection/><C:addressbook/>"}};
        for (String[] row : rows) {
            Talk.due(row[0], asked(talk, row[0], "<D:resourcetype/>"), both(row[0], "<D:resourcetype>" + row[1] + "</D:resourcetype>", ""));
        }
        Talk.due("a CARD", asked(talk, "/a/ann/b1/c1", "<D:resourcetype/>"), both("/a/ann/b1/c1", "<D:resourcetype/>", ""));
    }

    /** Part III, PROPERTIES: "D:displayname pb: the user's name; of a book that is told, none else (without it 404)." */
    static void displaynames() {
        Talk talk = filled();
        Talk.due("a user's", asked(talk, "/p/bob", NAME), both("/p/bob/", "<D:displayname>bob</D:displayname>", ""));
        Talk.due("a BOOK's, not told", asked(talk, BOOK, NAME), both(BOOK, "", NAME));
        patch(talk, set("<D:displayname>x</D:displayname>"));
        Talk.due("told", asked(talk, BOOK, NAME), both(BOOK, "<D:displayname>x</D:displayname>", ""));
        patch(talk, set(NAME));
        Talk.due("told without text", asked(talk, BOOK, NAME), both(BOOK, NAME, ""));
        patch(talk, remove(NAME));
        Talk.due("removed", asked(talk, BOOK, NAME), both(BOOK, "", NAME));
    }

    /** Part III, PROPERTIES: "D:getetag c. D:getcontenttype c: 'text/vcard; charset=utf-8'. D:getcontentlength c." */
    static void cardProperties() {
        Talk talk = filled();
        Talk.due("a CARD", asked(talk, "/a/ann/b1/c1", "<D:getetag/><D:getcontenttype/><D:getcontentlength/>"), both("/a/ann/b1/c1",
            "<D:getetag>\"2\"</D:getetag><D:getcontenttype>text/vcard; charset=utf-8</D:getcontenttype><D:getcontentlength>"
            + Talk.plain("u1", "A").length() + "</D:getcontentlength>", ""));
    }

    /** Part III, PROPERTIES: "'<D:href>/p/' the user of the request '/</D:href>'", "'<D:href>/a/' u '/</D:href>'", "D:owner hbc: '<D:href>/p/' u '/</D:href>'" (asked by another user). */
    static void usersOfProperties() {
        Talk talk = filled();
        patch(talk, set("<R:readers>bob</R:readers>"));
        String me = "<D:current-user-principal><D:href>/p/bob/</D:href></D:current-user-principal>";
        String owner = "<D:owner><D:href>/p/ann/</D:href></D:owner>";
        for (String path : new String[] {BOOK, "/a/ann/b1/c1"}) {
            Talk.due(path, find(talk, "bob", path, "0", prop("<D:current-user-principal/><D:owner/>")), both(path, me + owner, ""));
        }
        Talk.due("another PRINCIPAL", find(talk, "bob", "/p/ann", "0", prop("<C:addressbook-home-set/><D:current-user-principal/>")),
            both("/p/ann/", "<C:addressbook-home-set><D:href>/a/ann/</D:href></C:addressbook-home-set>" + me, ""));
        talk.put("/a/ann/b1/c2", Talk.plain("u2", "A"));
        Talk.due("a second CARD", find(talk, "bob", "/a/ann/b1/c2", "0", prop("<D:owner/>")), both("/a/ann/b1/c2", owner, ""));
    }

    /** Part III, PROPERTIES: "and behind it, if all is allowed and it is no o, p: '<D:privilege><D:write/></D:privilege>'". */
    static void privileges() {
        Talk talk = filled();
        patch(talk, set("<R:readers>bob</R:readers>"));
        String read = "<D:privilege><D:read/></D:privilege>";
        String write = "<D:privilege><D:write/></D:privilege>";
        String[][] rows = {{"ann", "/", ""}, {"ann", "/p/ann/", ""}, {"ann", "/p/bob/", ""}, {"ann", "/a/ann/", write}, {"ann", BOOK, write},
            {"ann", "/a/ann/b1/c1", write}, {"ann", "/a/ann/b1/c2", write}, {"bob", BOOK, ""}, {"bob", "/a/ann/b1/c1", ""},
            {"bob", "/a/ann/b1/c2", ""}, {"bob", "/a/bob/", write}};
        talk.put("/a/ann/b1/c2", Talk.plain("u2", "A"));
        for (String[] row : rows) {
            Talk.due(row[0] + " at " + row[1], find(talk, row[0], row[1], "0", prop("<D:current-user-privilege-set/>")), both(row[1],
                "<D:current-user-privilege-set>" + read + row[2] + "</D:current-user-privilege-set>", ""));
        }
    }

    /** Part III, PROPERTIES: "D:supported-report-set b: for C:addressbook-multiget, C:addressbook-query, D:sync-collection" and "C:supported-address-data b: '<C:address-data-type content-type="text/vcard" version="3.0"/>' and with 4.0." */
    static void supported() {
        String reports = "";
        for (String name : new String[] {"C:addressbook-multiget", "C:addressbook-query", "D:sync-collection"}) {
            reports += "<D:supported-report><D:report><" + name + "/></D:report></D:supported-report>";
        }
        String data = "<C:address-data-type content-type=\"text/vcard\" version=\"%\"/>";
        Talk.due("a BOOK", asked(filled(), BOOK, "<D:supported-report-set/><C:supported-address-data/>"), both(BOOK, "<D:supported-report-set>"
            + reports + "</D:supported-report-set><C:supported-address-data>" + data.replace("%", "3.0") + data.replace("%", "4.0")
            + "</C:supported-address-data>", ""));
    }

    /** Part III, PROPERTIES: "with contents" (each its own, also where others have some). */
    static void contentsBesideOthers() {
        Talk talk = filled();
        patch(talk, set("<D:displayname>n</D:displayname><C:addressbook-description>d</C:addressbook-description><R:readers>bob,cat</R:readers>"));
        String data = "<C:address-data-type content-type=\"text/vcard\" version=\"%\"/>";
        Talk.due("a BOOK", asked(talk, BOOK, "<C:supported-address-data/><D:sync-token/><C:max-resource-size/><D:displayname/><R:readers/>"
            + "<C:addressbook-description/>"), both(BOOK, "<C:supported-address-data>" + data.replace("%", "3.0") + data.replace("%", "4.0")
            + "</C:supported-address-data><D:sync-token>urn:x-sync:1-2</D:sync-token><C:max-resource-size>800</C:max-resource-size>"
            + "<D:displayname>n</D:displayname><x:readers xmlns:x=\"urn:x-readers\">bob,cat</x:readers>"
            + "<C:addressbook-description>d</C:addressbook-description>", ""));
    }

    /** Part III, PROPERTIES: "C:addressbook-description b: as told; without it 404." */
    static void descriptions() {
        Talk talk = filled();
        Talk.due("not told", asked(talk, BOOK, NOTE), both(BOOK, "", NOTE));
        patch(talk, set("<C:addressbook-description> a\n\"&lt; </C:addressbook-description>"));
        Talk.due("as told", asked(talk, BOOK, NOTE), both(BOOK, "<C:addressbook-description> a\n\"&lt; </C:addressbook-description>", ""));
        patch(talk, remove(NOTE));
        Talk.due("removed", asked(talk, BOOK, NOTE), both(BOOK, "", NOTE));
    }

    /** Part III, PROPERTIES: "C:max-resource-size b: 800. D:sync-token b: the TOKEN of now." */
    static void sizesAndTokens() {
        Talk talk = filled();
        String now = "<D:sync-token>urn:x-sync:1-%</D:sync-token>";
        String size = "<C:max-resource-size>800</C:max-resource-size>";
        Talk.due("now", asked(talk, BOOK, "<D:sync-token/><C:max-resource-size/>"), both(BOOK, now.replace("%", "2") + size, ""));
        talk.ask("bob", "MKCOL /a/bob/b1", "", "");
        Talk.due("the latest change of the house", asked(talk, BOOK, "<D:sync-token/>"), both(BOOK, now.replace("%", "3"), ""));
    }

    /** Part III, PROPERTIES: "R:readers b: names with , between (none: no contents; only for the owner, else 404)". */
    static void readersShown() {
        Talk talk = filled();
        Talk.due("none", asked(talk, BOOK, "<R:readers/>"), both(BOOK, READERS, ""));
        patch(talk, set("<R:readers>bob</R:readers>"));
        Talk.due("one", asked(talk, BOOK, "<R:readers/>"), both(BOOK, READERS.replace("/>", ">bob</x:readers>"), ""));
        patch(talk, set("<R:readers>bob,cat</R:readers>"));
        Talk.due("two", asked(talk, BOOK, "<R:readers/>"), both(BOOK, READERS.replace("/>", ">bob,cat</x:readers>"), ""));
        Talk.due("for a reader", find(talk, "bob", BOOK, "0", prop("<R:readers/>")), both(BOOK, "", READERS));
        Talk.due("its name, too", find(talk, "bob", BOOK, "0", Talk.root("D:propfind", "<D:propname/>")).contains("readers"), false);
    }

    /** The names of an answer's properties, in their order. */
    private static String names(String answer) {
        StringBuilder names = new StringBuilder();
        int depth = 0;
        String body = Talk.bodyOf(answer);
        int from = body.indexOf("<D:prop>") + 8;
        for (String tag : body.substring(from, body.indexOf("</D:prop>")).split("<")) {
            if (tag.isEmpty()) {
                continue;
            }
            boolean ends = tag.startsWith("/");
            if (!ends && depth == 0) {
                names.append(tag.split("[ />]")[0]).append(' ');
            }
            depth += ends ? -1 : tag.substring(0, tag.indexOf('>')).endsWith("/") ? 0 : 1;
        }
        return names.toString().trim().replace("x:readers", "R:readers");
    }

    private static String allNames(String letters, String without) {
        String[] there = {"ophbc", "pb", "c", "c", "c", "ophbc", "p", "hbc", "ophbc", "b", "b", "b", "b", "b", "b"};
        StringBuilder names = new StringBuilder();
        for (int i = 0; i < NAMES.length; i++) {
            if (there[i].contains(letters) && !without.contains(NAMES[i])) {
                names.append(NAMES[i]).append(' ');
            }
        }
        return names.toString().trim();
    }

    /** Part III, PROPERTIES: "allprop leaves out those from C:supported-address-data on but C:addressbook-description, and what would be 404." */
    static void allprop() {
        Talk talk = filled();
        String left = "C:supported-address-data C:max-resource-size D:sync-token R:readers";
        String untold = left + " D:displayname C:addressbook-description";
        String[][] rows = {{"/", "o", left}, {"/p/ann", "p", left}, {"/a/ann", "h", left}, {BOOK, "b", untold}, {"/a/ann/b1/c1", "c", left}};
        for (String[] row : rows) {
            for (String body : new String[] {"", Talk.root("D:propfind", "<D:allprop/>")}) {
                String answer = find(talk, "ann", row[0], "0", body);
                Talk.due(row[0], names(answer), allNames(row[1], row[2]));
                Talk.due(row[0] + ": a PROPSTAT of 404", answer.contains("404"), false);
            }
        }
        patch(talk, set("<D:displayname>n</D:displayname><C:addressbook-description>d</C:addressbook-description>"));
        Talk.due("told ones", names(find(talk, "ann", BOOK, "0", "")), allNames("b", left));
    }

    /** Part III, PROPFIND: "Depth '0' or '1' (others, and none: 403 with ERROR propfind-finite-depth of D". */
    static void finiteDepths() {
        Talk talk = filled();
        String refused = Talk.error("<D:propfind-finite-depth/>");
        Talk.due("none", talk.ann("PROPFIND /"), refused);
        for (String depth : new String[] {"infinity", "INFINITY", "Infinity"}) {
            Talk.due(depth, find(talk, "ann", "/", depth, ""), refused);
        }
        Talk.due("0", Talk.statusOf(find(talk, "ann", "/", "0", "")), 207);
        Talk.due("1", Talk.statusOf(find(talk, "ann", "/", "1", "")), 207);
    }

    /** Part III, PROPFIND: "an other text than '0', '1', LIKE 'infinity': 400". */
    static void otherDepths() {
        Talk talk = filled();
        for (String depth : new String[] {"", "2", "-1", "00", "01", "10", "0,1", "1, noroot", "infinit", "infinityy", "xnfinity", "x"}) {
            Talk.due("Depth: " + depth, find(talk, "ann", "/", depth, ""), WRONG);
        }
    }

    /** Part III, PROPFIND: "Body none: allprop." */
    static void noBody() {
        Talk talk = filled();
        String all = Talk.root("D:propfind", "<D:allprop/>");
        for (String path : new String[] {"/", "/p/ann", "/a/ann", BOOK, "/a/ann/b1/c1"}) {
            Talk.due(path, find(talk, "ann", path, "1", ""), find(talk, "ann", path, "1", all));
        }
        Talk.due("CHUNKS of none", talk.come("PROPFIND / HTTP/1.1\r\nHost: x\r\nDepth: 0\r\nAuthorization: Basic YW5uOnB3\r\n"
            + "Transfer-Encoding: chunked\r\n\r\n0\r\n\r\n"), find(talk, "ann", "/", "0", all));
    }

    /** Part III, PROPFIND: "Otherwise the root is D:propfind". */
    static void rootsOfPropfind() {
        Talk talk = filled();
        for (String root : new String[] {"D:propertyupdate", "D:prop", "C:propfind", "R:propfind", "D:Propfind", "D:propfind1"}) {
            Talk.due(root, find(talk, "ann", "/", "0", Talk.root(root, "<D:allprop/>")), WRONG);
        }
        Talk.due("of no namespace", find(talk, "ann", "/", "0", "<propfind><allprop xmlns='DAV:'/></propfind>"), WRONG);
        Talk.due("by another prefix", Talk.statusOf(find(talk, "ann", "/", "0", "<propfind xmlns='DAV:'><allprop/></propfind>")), 207);
    }

    /** Part III, PROPFIND: "its first child that is D:allprop, D:propname or D:prop says what (without one: 400)". */
    static void theFirstChildSays() {
        Talk talk = filled();
        for (String inner : new String[] {"", "text", "<C:allprop/>", "<D:x><D:allprop/></D:x>", "<D:include/>", "<D:propnames/>"}) {
            Talk.due("without one: " + inner, find(talk, "ann", "/", "0", Talk.root("D:propfind", inner)), WRONG);
        }
        String all = find(talk, "ann", BOOK, "0", "");
        String names = find(talk, "ann", BOOK, "0", Talk.root("D:propfind", "<D:propname/>"));
        String asked = asked(talk, BOOK, "<D:owner/>");
        String[][] rows = {{"<D:allprop/><D:propname/><D:prop><D:owner/></D:prop>", all}, {"<D:x/><D:propname/><D:allprop/>", names},
            {"<C:prop/><D:prop><D:owner/></D:prop><D:allprop/><D:prop/>", asked}, {"<D:x><D:allprop/></D:x><D:propname/>", names}};
        for (String[] row : rows) {
            Talk.due(row[0], find(talk, "ann", BOOK, "0", Talk.root("D:propfind", row[0])), row[1]);
        }
    }

    /** Different properties, so many. */
    private static String properties(int n) {
        StringBuilder all = new StringBuilder();
        for (int i = 0; i < n; i++) {
            all.append("<D:p").append(i).append("/>");
        }
        return all.toString();
    }

    /** Part III, PROPFIND: "of D:prop its children, at most 20 (400)". */
    static void atMostTwentyAsked() {
        Talk talk = filled();
        Talk.due("20", asked(talk, "/", properties(20)), both("/", "", properties(20)));
        Talk.due("21", asked(talk, "/", properties(21)), WRONG);
        Talk.due("20 with children of their own", asked(talk, "/", properties(20).replace("<D:p3/>", "<D:p3><D:q/><D:q/></D:p3>")),
            both("/", "", properties(20)));
    }

    /** Part III, PROPFIND: "a name told twice counts once". */
    static void askedTwice() {
        Talk talk = filled();
        String own = "<D:owner><D:href>/p/ann/</D:href></D:owner>";
        Talk.due("there", asked(talk, BOOK, "<D:owner/><D:x/><q:owner xmlns:q='DAV:'>t</q:owner><C:owner/><D:owner/>"),
            both(BOOK, own, "<D:x/><C:owner/>"));
        Talk.due("not there", asked(talk, BOOK, "<D:x/><z/><D:x/><z xmlns='u'/><z/><z xmlns='u'/>"),
            both(BOOK, "", "<D:x/><z/><x:z xmlns:x=\"u\"/>"));
    }

    private static String shown(String... paths) {
        StringBuilder all = new StringBuilder();
        for (String path : paths) {
            all.append(Talk.told(path, "200 OK"));
        }
        return Talk.multi(all.toString());
    }

    /** Part III, PROPFIND: "RESPONSES: the place itself; with '1' then: ROOT: the PRINCIPAL and the HOME of the user of the request; HOME: its BOOKS; BOOK: its CARDS". */
    static void responsesByDepth() {
        Talk talk = filled();
        talk.ask("bob", "MKCOL /a/bob/b2", "", "");
        String[][] rows = {{"/", "/p/ann/", "/a/ann/"}, {"/p/ann/"}, {"/a/ann/", BOOK}, {BOOK, "/a/ann/b1/c1"}, {"/a/ann/b1/c1"}};
        for (String[] row : rows) {
            Talk.due(row[0] + " with 0", find(talk, "ann", row[0], "0", prop("")), shown(row[0]));
            Talk.due(row[0] + " with 1", find(talk, "ann", row[0], "1", prop("")), shown(row));
        }
        Talk.due("another user's ROOT", find(talk, "bob", "/", "1", prop("")), shown("/", "/p/bob/", "/a/bob/"));
        Talk.due("an empty HOME", find(talk, "cat", "/a/cat", "1", prop("")), shown("/a/cat/"));
        Talk.due("an empty BOOK", find(talk, "bob", "/a/bob/b2", "1", prop("")), shown("/a/bob/b2/"));
    }

    /** Part III, PROPFIND: "by the order of their names (bytes, shorter first of those that begin alike)". */
    static void orderOfNames() {
        Talk talk = Talk.begun();
        for (String name : new String[] {"b", "a.", "B", "a", "ab", "1"}) {
            talk.ann("MKCOL /a/ann/" + name);
        }
        Talk.due("BOOKS", find(talk, "ann", "/a/ann/", "1", prop("")), shown("/a/ann/", "/a/ann/1/", "/a/ann/B/", "/a/ann/a/", "/a/ann/a./",
            "/a/ann/ab/", "/a/ann/b/"));
        for (String name : new String[] {"z", "a_", "Z", "a-", "a", "10", "9", "1", "aa", "a.b"}) {
            talk.put("/a/ann/b/" + name, Talk.plain(name, "A"));
        }
        String b = "/a/ann/b/";
        Talk.due("CARDS", find(talk, "ann", b, "1", prop("")), shown(b, b + "1", b + "10", b + "9", b + "Z", b + "a", b + "a-", b + "a.b",
            b + "a_", b + "aa", b + "z"));
    }

    /** Part III, PROPFIND: "propname: the properties that are there, without contents." */
    static void propname() {
        Talk talk = filled();
        String names = Talk.root("D:propfind", "<D:propname/>");
        String[][] rows = {{"/", "o", ""}, {"/p/bob/", "p", ""}, {"/a/ann/", "h", ""}, {BOOK, "b", "D:displayname C:addressbook-description"},
            {"/a/ann/b1/c1", "c", ""}};
        for (String[] row : rows) {
            StringBuilder all = new StringBuilder();
            for (String name : allNames(row[1], row[2]).split(" ")) {
                all.append(name.equals("R:readers") ? READERS : "<" + name + "/>");
            }
            Talk.due(row[0], find(talk, "ann", row[0], "0", names), both(row[0], all.toString(), ""));
        }
        patch(talk, set(NAME + "<C:addressbook-description>d</C:addressbook-description>"));
        Talk.due("told ones", names(find(talk, "ann", BOOK, "0", names)), allNames("b", ""));
    }

    /** Part III, PROPPATCH: "(only by the owner)". */
    static void patchByTheOwner() {
        Talk talk = filled();
        patch(talk, set("<R:readers>bob</R:readers>"));
        String body = Talk.root("D:propertyupdate", set(NAME));
        Talk.due("a reader", talk.ask("bob", "PROPPATCH " + BOOK, "", body), Talk.bare("403 Forbidden", ""));
        Talk.due("another one", talk.ask("cat", "PROPPATCH " + BOOK, "", body), Talk.bare("403 Forbidden", ""));
    }

    /** Part III, PROPPATCH: "root D:propertyupdate, children D:set and D:remove (others don't count)". */
    static void patchRoots() {
        Talk talk = filled();
        for (String root : new String[] {"D:propfind", "C:propertyupdate", "D:propertyupdates"}) {
            Talk.due(root, talk.ask("ann", "PROPPATCH " + BOOK, "", Talk.root(root, set(NAME))), WRONG);
        }
        Talk.due("others", patch(talk, "text<D:x/><C:set/>" + set(NAME) + "<D:prop><D:owner/></D:prop><D:x>" + set("<D:owner/>") + "</D:x>"),
            done(NAME));
        Talk.due("others alone", patch(talk, "<C:set><D:prop><D:displayname/></D:prop></C:set>"), WRONG);
    }

    /** Part III, PROPPATCH: "each with just one child D:prop (400)". */
    static void patchProps() {
        Talk talk = filled();
        String one = "<D:prop><D:displayname/></D:prop>";
        for (String inner : new String[] {"<D:set/>", "<D:remove/>", "<D:set>" + one + one + "</D:set>", "<D:remove>" + one + "<D:prop/></D:remove>",
            set(NAME) + "<D:set/>", "<D:remove/>" + set(NAME), "<D:set><C:prop><D:displayname/></C:prop></D:set>",
            "<D:set><D:x>" + one + "</D:x></D:set>"}) {
            Talk.due(inner, patch(talk, inner), WRONG);
        }
        Talk.due("other children don't count", patch(talk, "<D:set><D:x/>" + one + "<C:prop/></D:set>"), done(NAME));
    }

    /** Part III, PROPPATCH: "whose children are properties (at most 20 in all; without any: 400)". */
    static void patchNumbers() {
        Talk talk = filled();
        Talk.due("without any", patch(talk, set("")), WRONG);
        Talk.due("without any in several", patch(talk, set("") + remove("text")), WRONG);
        Talk.due("without any in one of two", patch(talk, set("") + remove(NAME)), done(NAME));
        Talk.due("20 in one", patch(talk, set(properties(20))), refused(properties(20), ""));
        Talk.due("21 in one", patch(talk, set(properties(21))), WRONG);
        Talk.due("20 in two", patch(talk, set(NAME.repeat(10)) + remove(NAME.repeat(10))), done(NAME));
        Talk.due("21 in two", patch(talk, set(NAME.repeat(10)) + remove(NAME.repeat(11))), WRONG);
    }

    /** Part III, PROPPATCH: "D:displayname, C:addressbook-description (texts up to 60 bytes". */
    static void patchTexts() {
        for (String name : new String[] {"D:displayname", "C:addressbook-description"}) {
            Talk talk = filled();
            String[] right = {"", "x".repeat(60), "\u00e9".repeat(30), "\u20ac".repeat(20), "&amp;".repeat(60), "&#xe9;".repeat(30)};
            String[] wrong = {"x".repeat(61), "\u00e9".repeat(30) + "x", "\u20ac".repeat(20) + "x", "&amp;".repeat(61), " ".repeat(61)};
            for (String text : right) {
                Talk.due(text, patch(talk, set("<" + name + ">" + text + "</" + name + ">")), done("<" + name + "/>"));
            }
            for (String text : wrong) {
                Talk.due(text, patch(talk, set("<" + name + ">" + text + "</" + name + ">")), refused("<" + name + "/>", ""));
            }
            Talk.due("the last that was allowed", asked(talk, BOOK, "<" + name + "/>"),
                both(BOOK, "<" + name + ">" + "\u00e9".repeat(30) + "</" + name + ">", ""));
        }
    }

    /** Part III, PROPPATCH: "of the element's own texts". */
    static void patchOwnTexts() {
        Talk talk = filled();
        patch(talk, set("<D:displayname> a<D:b>" + "c".repeat(61) + "</D:b><!-- d --><![CDATA[<e>]]>\n</D:displayname>"));
        Talk.due("own texts", asked(talk, BOOK, NAME), both(BOOK, "<D:displayname> a&lt;e&gt;\n</D:displayname>", ""));
    }

    private static void readers(Talk talk, String text, String due) {
        String answer = patch(talk, set("<R:readers>" + text + "</R:readers>"));
        Talk.due("readers " + text, answer, due == null ? refused(READERS, "") : done(READERS));
        if (due != null) {
            Talk.due("readers " + text, asked(talk, BOOK, "<R:readers/>"),
                both(BOOK, due.isEmpty() ? READERS : READERS.replace("/>", ">" + due + "</x:readers>"), ""));
        }
    }

    /** Part III, PROPPATCH: "R:readers (names of users with , between, S around them don't count". */
    static void patchReaders() {
        Talk talk = filled();
        readers(talk, "bob", "bob");
        readers(talk, "bob,cat", "bob,cat");
        readers(talk, "  bob  ,  cat  ", "bob,cat");
        readers(talk, "b<!-- -->o<D:x>y</D:x><![CDATA[b]]>", "bob");
    }

    /** Part III, PROPPATCH: "one told twice counts once". */
    static void patchReadersTwice() {
        Talk talk = filled();
        readers(talk, "bob,bob", "bob");
        readers(talk, "bob,cat,bob, cat", "bob,cat");
    }

    /** Part III, PROPPATCH: "without any text, or of BLANKS alone: none". */
    static void patchNoReaders() {
        Talk talk = filled();
        for (String text : new String[] {"", " ", "\t", "\r\n", " \t\r\n ", "<D:x>bob</D:x>", "<!-- bob -->"}) {
            readers(talk, "bob", "bob");
            readers(talk, text, "");
            Talk.due("bob reads no more", talk.status("bob", "OPTIONS " + BOOK, "", ""), 403);
        }
    }

    /** Part III, PROPPATCH: "something else, or the owner: not allowed". */
    static void patchOtherReaders() {
        Talk talk = filled();
        readers(talk, "cat", "cat");
        for (String text : new String[] {"ann", "bob,ann", "dan", "bo", "bobb", "Bob", "bob,", ",bob", ",", " , ", "bob,,cat", "bob cat", "bob;cat",
            "bob\t", "\nbob", "bob,\tcat", "bob\r\n,cat", "/p/bob/"}) {
            readers(talk, text, null);
        }
        Talk.due("they stay", asked(talk, BOOK, "<R:readers/>"), both(BOOK, READERS.replace("/>", ">cat</x:readers>"), ""));
    }

    /** Part III, PROPPATCH: "may be set and removed" (these three, and no others). */
    static void patchAllowed() {
        for (String name : NAMES) {
            Talk talk = filled();
            boolean may = name.equals("D:displayname") || name.equals("C:addressbook-description") || name.equals("R:readers");
            String told = name.equals("R:readers") ? READERS : "<" + name + "/>";
            Talk.due("set " + name, patch(talk, set("<" + name + "/>")), may ? done(told) : refused(told, ""));
            Talk.due("remove " + name, patch(talk, remove("<" + name + "/>")), may ? done(told) : refused(told, ""));
            Talk.due("remove " + name + " again", patch(talk, remove("<" + name + "/>")), may ? done(told) : refused(told, ""));
        }
        Talk talk = filled();
        Talk.due("removed whatever stands in it", patch(talk, remove(LONG_NAME + "<R:readers>ann</R:readers>")), done(NAME + READERS));
        readers(talk, "cat", "cat");
        patch(talk, remove("<R:readers>bob</R:readers>"));
        Talk.due("readers removed whatever stands there", asked(talk, BOOK, "<R:readers/>"), both(BOOK, READERS, ""));
        Talk.due("of other namespaces", patch(talk, set("<C:displayname/><D:addressbook-description/><readers/>")),
            refused("<C:displayname/><D:addressbook-description/><readers/>", ""));
    }

    /** Part III, PROPPATCH: "If one of all is not allowed: 207 with those in a PROPSTAT of 403 and the others in one of 424". */
    static void patchRefused() {
        Talk talk = filled();
        patch(talk, set("<D:displayname>old</D:displayname>"));
        Talk.due("the last one", patch(talk, set("<D:displayname>new</D:displayname><R:readers>bob</R:readers>") + remove(NOTE + "<D:owner/>")),
            refused("<D:owner/>", NAME + READERS + NOTE));
        Talk.due("the first one", patch(talk, remove("<D:owner/>") + set("<D:displayname>new</D:displayname>")), refused("<D:owner/>", NAME));
        Talk.due("several", patch(talk, set("<D:x/>" + NAME + "<C:x/>" + NOTE + "<x/>")), refused("<D:x/><C:x/><x/>", NAME + NOTE));
        Talk.due("nothing is done", asked(talk, BOOK, NAME), both(BOOK, "<D:displayname>old</D:displayname>", ""));
        Talk.due("bob does not read", talk.status("bob", "OPTIONS " + BOOK, "", ""), 403);
    }

    /** Part III, PROPPATCH: "otherwise all is done, in their order, and 207 with all of them in one of 200". */
    static void patchDone() {
        Talk talk = filled();
        String a = "<D:displayname>a</D:displayname>";
        Talk.due("set, removed", patch(talk, set(a) + remove(NAME)), done(NAME));
        Talk.due("it is not there", asked(talk, BOOK, NAME), both(BOOK, "", NAME));
        Talk.due("removed, set", patch(talk, remove(NAME) + set(a)), done(NAME));
        Talk.due("it is there", asked(talk, BOOK, NAME), both(BOOK, a, ""));
        Talk.due("set twice", patch(talk, set(a + a.replace(">a<", ">b<"))), done(NAME));
        Talk.due("the second", asked(talk, BOOK, NAME), both(BOOK, a.replace(">a<", ">b<"), ""));
        Talk.due("several", patch(talk, set("<R:readers>bob</R:readers>" + NOTE) + remove(NAME)), done(READERS + NOTE + NAME));
    }

    /** Part III, PROPPATCH: "(Each name once in an answer, where it came first.)" */
    static void patchNamesOnce() {
        Talk talk = filled();
        String a = "<D:displayname>a</D:displayname>";
        Talk.due("200", patch(talk, set(NOTE + a + NOTE) + remove(NAME + "<R:readers/>" + NOTE)), done(NOTE + NAME + READERS));
        Talk.due("424", patch(talk, set(NOTE + a + NOTE + "<D:owner/>" + a)), refused("<D:owner/>", NOTE + NAME));
        Talk.due("403", patch(talk, set("<D:owner/><D:x/><D:owner/>") + remove("<D:x/>")), refused("<D:owner/><D:x/>", ""));
        Talk.due("allowed, then not", patch(talk, set(a + NOTE + LONG_NAME)), refused(NAME, NOTE));
        Talk.due("not allowed, then allowed", patch(talk, set(LONG_NAME + NOTE + a)), refused(NAME, NOTE));
        Talk.due("ahead of another one of 403, where it came first", patch(talk, set(a + "<D:owner/>" + LONG_NAME)),
            refused(NAME + "<D:owner/>", ""));
        Talk.due("behind another one of 403", patch(talk, set("<D:owner/>" + a + LONG_NAME)), refused("<D:owner/>" + NAME, ""));
    }
}
