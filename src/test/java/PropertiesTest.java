/** Promise 6, Part III: PROPFIND and PROPPATCH. */
public final class PropertiesTest {
    private static final String ME = "<D:current-user-principal><D:href>/p/ann/</D:href></D:current-user-principal>";
    private static final String OWNER = "<D:owner><D:href>/p/ann/</D:href></D:owner>";
    private static final String READ = "<D:privilege><D:read/></D:privilege>";
    private static final String WRITE = "<D:privilege><D:write/></D:privilege>";
    private static final String REPORTS = "<D:supported-report-set>"
        + "<D:supported-report><D:report><C:addressbook-multiget/></D:report></D:supported-report>"
        + "<D:supported-report><D:report><C:addressbook-query/></D:report></D:supported-report>"
        + "<D:supported-report><D:report><D:sync-collection/></D:report></D:supported-report>"
        + "</D:supported-report-set>";

    public static void main(String[] args) {
        depths();
        all();
        names();
        asked();
        order();
        patches();
        namesTwice();
        readers();
        refusals();
        Talk.finish();
    }

    private static String find(Talk talk, String path, String depth, String body) {
        return talk.ask("ann", "PROPFIND " + path, "Depth: " + depth + "\r\n", body);
    }

    private static String prop(String inner) {
        return Talk.root("D:propfind", "<D:prop>" + inner + "</D:prop>");
    }

    private static String privileges(String inner) {
        return "<D:current-user-privilege-set>" + inner + "</D:current-user-privilege-set>";
    }

    private static void depths() {
        Talk talk = Talk.begun();
        String finite = Talk.error("<D:propfind-finite-depth/>");
        Talk.due("no Depth", talk.ann("PROPFIND /"), finite);
        Talk.due("infinity", find(talk, "/", "Infinity", ""), finite);
        for (String depth : new String[] {"2", "", "00", "0 1", "x"}) {
            Talk.due("Depth " + depth, find(talk, "/", depth, ""), Talk.answer("400 Bad Request", "", ""));
        }
        Talk.due("Depth ahead of the body", find(talk, "/", "infinity", "x"), finite);
        String[] wrong = {"x", "<D:propfind/>", Talk.root("D:prop", "<D:allprop/>"), Talk.root("D:propfind", ""),
            Talk.root("D:propfind", "<C:allprop/>"), Talk.root("C:propfind", "<D:allprop/>"),
            Talk.root("D:propfind", "<D:x><D:allprop/></D:x>"), prop("<D:owner/>".repeat(21))};
        for (String body : wrong) {
            Talk.due("400 for " + body, talk.status("ann", "PROPFIND /", "Depth: 0\r\n", body), 400);
        }
        Talk.due("20 children", talk.status("ann", "PROPFIND /", "Depth: 0\r\n", prop("<D:owner/>".repeat(20))), 207);
    }

    private static void all() {
        Talk talk = Talk.begun();
        String collection = "<D:resourcetype><D:collection/></D:resourcetype>";
        String root = Talk.found("/", collection + ME + privileges(READ));
        Talk.due("allprop of the ROOT", find(talk, "/", "0", ""), Talk.multi(root));
        String principal = "<D:resourcetype><D:principal/></D:resourcetype><D:displayname>%</D:displayname>" + ME
            + "<C:addressbook-home-set><D:href>/a/%/</D:href></C:addressbook-home-set>" + privileges(READ);
        String home = Talk.found("/a/ann/", collection + ME + OWNER + privileges(READ + WRITE));
        Talk.due("the ROOT and what is below", find(talk, "?", "1", Talk.root("D:propfind", "<D:allprop/>")),
            Talk.multi(root + Talk.found("/p/ann/", principal.replace("%", "ann")) + home));
        Talk.due("another PRINCIPAL", find(talk, "/p/bob", "1", ""),
            Talk.multi(Talk.found("/p/bob/", principal.replace("%", "bob"))));
        talk.ann("MKCOL /a/ann/b1");
        talk.put("/a/ann/b1/c1", Talk.plain("u1", "A"));
        String book = "<D:resourcetype><D:collection/><C:addressbook/></D:resourcetype>" + ME + OWNER
            + privileges(READ + WRITE) + REPORTS;
        String card = "<D:resourcetype/><D:getetag>\"2\"</D:getetag>"
            + "<D:getcontenttype>text/vcard; charset=utf-8</D:getcontenttype><D:getcontentlength>"
            + Talk.plain("u1", "A").length() + "</D:getcontentlength>" + ME + OWNER + privileges(READ + WRITE);
        Talk.due("a HOME and its BOOKS", find(talk, "/a/ann", "1", ""),
            Talk.multi(home + Talk.found("/a/ann/b1/", book)));
        Talk.due("a BOOK and its CARDS", find(talk, "/a/ann/b1", "1", ""),
            Talk.multi(Talk.found("/a/ann/b1/", book) + Talk.found("/a/ann/b1/c1", card)));
        Talk.due("a CARD", find(talk, "/a/ann/b1/c1", "1", ""), Talk.multi(Talk.found("/a/ann/b1/c1", card)));
    }

    private static void names() {
        Talk talk = Talk.begun();
        talk.ann("MKCOL /a/ann/b1");
        talk.put("/a/ann/b1/c1", Talk.plain("u1", "A"));
        String body = Talk.root("D:propfind", "text<R:x/><D:propname/><D:prop/>");
        String own = "<D:current-user-principal/><D:owner/><D:current-user-privilege-set/>";
        String book = "<D:resourcetype/>" + own + "<D:supported-report-set/><C:supported-address-data/>"
            + "<C:max-resource-size/><D:sync-token/><x:readers xmlns:x=\"urn:x-readers\"/>";
        Talk.due("propname of a BOOK and a CARD", find(talk, "/a/ann/b1/", "1", body),
            Talk.multi(Talk.found("/a/ann/b1/", book) + Talk.found("/a/ann/b1/c1",
                "<D:resourcetype/><D:getetag/><D:getcontenttype/><D:getcontentlength/>" + own)));
        Talk.due("propname of a PRINCIPAL", find(talk, "/p/cat", "0", body), Talk.multi(Talk.found("/p/cat/",
            "<D:resourcetype/><D:displayname/><D:current-user-principal/><C:addressbook-home-set/>"
            + "<D:current-user-privilege-set/>")));
    }

    private static void asked() {
        Talk talk = Talk.begun();
        talk.ann("MKCOL /a/ann/b1");
        talk.put("/a/ann/b1/c1", Talk.plain("u1", "A"));
        String own = "<C:supported-address-data/><C:max-resource-size/><D:sync-token/><R:readers/><D:displayname/>";
        String found = "<C:supported-address-data><C:address-data-type content-type=\"text/vcard\" version=\"3.0\"/>"
            + "<C:address-data-type content-type=\"text/vcard\" version=\"4.0\"/></C:supported-address-data>"
            + "<C:max-resource-size>800</C:max-resource-size><D:sync-token>urn:x-sync:1-2</D:sync-token>"
            + "<x:readers xmlns:x=\"urn:x-readers\"/>";
        Talk.due("properties of a BOOK", find(talk, "/a/ann/b1", "0", prop(own)),
            Talk.multi("<D:response><D:href>/a/ann/b1/</D:href>" + Talk.propstat("200 OK", found)
                + Talk.propstat("404 Not Found", "<D:displayname/>") + "</D:response>"));
        String names = "D:resourcetype D:displayname D:getetag D:getcontenttype D:getcontentlength D:current-user-principal "
            + "C:addressbook-home-set D:owner D:current-user-privilege-set D:supported-report-set C:supported-address-data "
            + "C:addressbook-description C:max-resource-size D:sync-token R:readers";
        String[] places = {"/", "/p/ann/", "/a/ann/", "/a/ann/b1/", "/a/ann/b1/c1"};
        String[] missing = {"o: 1 2 3 4 6 7 9 10 11 12 13 14", "p: 2 3 4 7 9 10 11 12 13 14", "h: 1 2 3 4 6 9 10 11 12 13 14",
            "b: 1 2 3 4 6 11", "c: 1 6 9 10 11 12 13 14"};
        String all = "";
        for (String name : names.split(" ")) {
            all += "<" + name + "/>";
        }
        for (int i = 0; i < places.length; i++) {
            String none = "";
            String[] known = names.split(" ");
            for (int k = 0; k < known.length; k++) {
                if ((missing[i] + " ").contains(" " + k + " ")) {
                    none += k == 14 ? "<x:readers xmlns:x=\"urn:x-readers\"/>" : "<" + known[k] + "/>";
                }
            }
            String out = find(talk, places[i], "0", prop(all));
            Talk.due("what is not at " + places[i], out.endsWith("</D:propstat>" + Talk.propstat("404 Not Found", none)
                + "</D:response></D:multistatus>"), true);
        }
        String strange = "<D:getetag/><C:getetag/><getetag xmlns=''/><y:z xmlns:y='a&amp;b&lt;&gt;&quot;&apos;'>t<y:q/></y:z>"
            + "<D:getetag/><xml:lang/><C:address-data/><D:displayname/>";
        Talk.due("strange properties of a CARD", find(talk, "/a/ann/b1/c1", "0", prop(strange)),
            Talk.multi("<D:response><D:href>/a/ann/b1/c1</D:href>"
                + Talk.propstat("200 OK", "<D:getetag>\"2\"</D:getetag>")
                + Talk.propstat("404 Not Found", "<C:getetag/><getetag/>"
                    + "<x:z xmlns:x=\"a&amp;b&lt;&gt;&quot;'\"/>"
                    + "<x:lang xmlns:x=\"http://www.w3.org/XML/1998/namespace\"/><C:address-data/><D:displayname/>")
                + "</D:response>"));
        Talk.due("nothing", find(talk, "/", "0", prop("")), Talk.multi(Talk.told("/", "200 OK")));
        Talk.due("only 404", find(talk, "/", "0", prop("<D:owner/>")), Talk.multi("<D:response><D:href>/</D:href>"
            + Talk.propstat("404 Not Found", "<D:owner/>") + "</D:response>"));
    }

    private static void order() {
        Talk talk = Talk.begun();
        for (String name : new String[] {"b", "B", "ab", "a", "b.1", "a_"}) {
            talk.ann("MKCOL /a/ann/" + name);
        }
        String type = prop("<D:owner/>");
        String all = Talk.found("/a/ann/", OWNER);
        for (String name : new String[] {"B", "a", "a_", "ab", "b", "b.1"}) {
            all += Talk.found("/a/ann/" + name + "/", OWNER);
        }
        Talk.due("BOOKS by their names", find(talk, "/a/ann", "1", type), Talk.multi(all));
        all = Talk.found("/a/ann/b/", OWNER);
        for (String name : new String[] {"z", "10", "1", "1-", "Z"}) {
            talk.put("/a/ann/b/" + name, Talk.plain(name, "A"));
        }
        for (String name : new String[] {"1", "1-", "10", "Z", "z"}) {
            all += Talk.found("/a/ann/b/" + name, OWNER);
        }
        Talk.due("CARDS by their names", find(talk, "/a/ann/b", "1", type), Talk.multi(all));
    }

    private static String patch(Talk talk, String inner) {
        return talk.ask("ann", "PROPPATCH /a/ann/b1", "", Talk.root("D:propertyupdate", inner));
    }

    private static String set(String inner) {
        return "<D:set><D:prop>" + inner + "</D:prop></D:set>";
    }

    private static String remove(String inner) {
        return "<D:remove><D:prop>" + inner + "</D:prop></D:remove>";
    }

    private static String done(String properties) {
        return Talk.multi(Talk.found("/a/ann/b1/", properties));
    }

    private static String shown(Talk talk, String name) {
        String out = Talk.bodyOf(find(talk, "/a/ann/b1", "0", prop("<" + name + "/>")));
        return out.contains("404 Not Found") ? "404"
            : out.substring(out.indexOf("<D:prop>") + 8, out.indexOf("</D:prop>"));
    }

    private static void patches() {
        Talk talk = Talk.begun();
        talk.ann("MKCOL /a/ann/b1");
        Talk.due("two texts", patch(talk, set("<D:displayname>A&lt;&amp;<!-- c -->\"<D:x>no</D:x><![CDATA[>]]></D:displayname>"
            + "<C:addressbook-description> b </C:addressbook-description>")),
            done("<D:displayname/><C:addressbook-description/>"));
        Talk.due("the displayname", shown(talk, "D:displayname"), "<D:displayname>A&lt;&amp;\"&gt;</D:displayname>");
        Talk.due("the description", shown(talk, "C:addressbook-description"),
            "<C:addressbook-description> b </C:addressbook-description>");
        Talk.due("allprop has them", find(talk, "/a/ann/b1", "0", "").contains("</C:addressbook-description></D:prop>"), true);
        patch(talk, set("<C:addressbook-description>\"&gt;&#38;</C:addressbook-description>"));
        Talk.due("signs in a description", shown(talk, "C:addressbook-description"),
            "<C:addressbook-description>\"&gt;&amp;</C:addressbook-description>");
        Talk.due("in their order", patch(talk, set("<D:displayname>1</D:displayname>") + "<D:other/>"
            + remove("<D:displayname/><C:addressbook-description>x</C:addressbook-description>")
            + set("<D:displayname>2</D:displayname>")), done("<D:displayname/><C:addressbook-description/>"));
        Talk.due("the last one", shown(talk, "D:displayname"), "<D:displayname>2</D:displayname>");
        Talk.due("the removed one", shown(talk, "C:addressbook-description"), "404");
        patch(talk, set("<D:displayname>&#x7f;&#233;&#x7FF;&#x800;&#x20AC;&#65533;&#x10000;&#x10FFFF;</D:displayname>"));
        Talk.due("characters by their numbers", shown(talk, "D:displayname"), "<D:displayname>\u007f\u00e9\u07ff\u0800\u20ac"
            + "\ufffd\ud800\udc00\udbff\udfff</D:displayname>");
        patch(talk, set("<D:displayname/>"));
        Talk.due("an empty one", shown(talk, "D:displayname"), "<D:displayname/>");
        patch(talk, remove("<D:displayname/>"));
        Talk.due("none", shown(talk, "D:displayname"), "404");
        Talk.due("60 bytes", patch(talk, set("<D:displayname>" + "\u00e9".repeat(30) + "</D:displayname>")),
            done("<D:displayname/>"));
        Talk.due("not all are allowed", patch(talk, set("<D:displayname>" + "y".repeat(61)
            + "</D:displayname><C:addressbook-description>n</C:addressbook-description><D:getetag/>")
            + remove("<R:readers/><y xmlns=''/><D:getetag/>")), refused("<D:displayname/><D:getetag/><y/>",
            "<C:addressbook-description/><x:readers xmlns:x=\"urn:x-readers\"/>"));
        Talk.due("then nothing is done", shown(talk, "C:addressbook-description"), "404");
    }

    /** The answer to a PROPPATCH of which not all is allowed; without others no PROPSTAT of 424. */
    private static String refused(String forbidden, String others) {
        return Talk.multi("<D:response><D:href>/a/ann/b1/</D:href>" + Talk.propstat("403 Forbidden", forbidden)
            + (others.isEmpty() ? "" : Talk.propstat("424 Failed Dependency", others)) + "</D:response>");
    }

    private static void namesTwice() {
        Talk talk = Talk.begun();
        talk.ann("MKCOL /a/ann/b1");
        String right = "<D:displayname>a</D:displayname>";
        String wrong = "<D:displayname>" + "y".repeat(61) + "</D:displayname>";
        String name = "<D:displayname/>";
        String note = "<C:addressbook-description/>";
        Talk.due("the second is not allowed", patch(talk, set(right + wrong)), refused(name, ""));
        Talk.due("the first is not allowed", patch(talk, set(wrong + right)), refused(name, ""));
        Talk.due("the one between is not allowed", patch(talk, set(right + wrong + right)), refused(name, ""));
        Talk.due("neither is allowed", patch(talk, set(wrong + wrong)), refused(name, ""));
        Talk.due("removed, then not allowed", patch(talk, remove(name) + set(wrong)), refused(name, ""));
        Talk.due("not allowed, then removed", patch(talk, set(wrong) + remove(name)), refused(name, ""));
        Talk.due("another one twice beside it", patch(talk, set(note + right + wrong + note)), refused(name, note));
        Talk.due("the other one is not allowed", patch(talk, set(right + right + "<D:owner/>")),
            refused("<D:owner/>", name));
        Talk.due("where the name came first", patch(talk, set(right + "<D:owner/>" + note + wrong)),
            refused(name + "<D:owner/>", note));
        Talk.due("the same letters in another namespace", patch(talk, set(right + "<C:displayname/>")),
            refused("<C:displayname/>", name));
        String readers = "<x:readers xmlns:x=\"urn:x-readers\"/>";
        Talk.due("readers twice", patch(talk, set("<R:readers>bob</R:readers><R:readers>ann</R:readers>" + right)),
            refused(readers, name));
        Talk.due("no readers came", shown(talk, "R:readers"), readers);
        Talk.due("no name came", shown(talk, "D:displayname"), "404");
    }

    private static void readers() {
        Talk talk = Talk.begun();
        talk.ann("MKCOL /a/ann/b1");
        String readers = "<x:readers xmlns:x=\"urn:x-readers\"/>";
        Talk.due("readers", patch(talk, set("<R:readers> cat , bob,cat</R:readers>")), done(readers));
        Talk.due("as they were told", shown(talk, "R:readers"), readers.replace("/>", ">cat,bob</x:readers>"));
        patch(talk, set("<R:readers>bob  ,cat</R:readers>"));
        Talk.due("S behind a name", shown(talk, "R:readers"), readers.replace("/>", ">bob,cat</x:readers>"));
        patch(talk, set("<R:readers>cat,bob  </R:readers>"));
        Talk.due("bob reads", talk.status("bob", "OPTIONS /a/ann/b1", "", ""), 200);
        String seen = talk.ask("bob", "PROPFIND /a/ann/b1", "Depth: 0\r\n",
            prop("<R:readers/><D:current-user-privilege-set/><D:current-user-principal/><D:owner/>"));
        Talk.due("what a reader sees", seen, Talk.multi("<D:response><D:href>/a/ann/b1/</D:href>"
            + Talk.propstat("200 OK", privileges(READ) + ME.replace("ann", "bob") + OWNER)
            + Talk.propstat("404 Not Found", readers) + "</D:response>"));
        for (String text : new String[] {"ann", "nobody", "bob,", ",bob", "bob;cat", "bob,,cat", "Bob", "bob,\ncat", ",",
            "bob\t", "bob cat"}) {
            Talk.due("no readers " + text, patch(talk, set("<R:readers>" + text + "</R:readers>")),
                Talk.multi("<D:response><D:href>/a/ann/b1/</D:href>" + Talk.propstat("403 Forbidden", readers)
                    + "</D:response>"));
        }
        Talk.due("they stay", shown(talk, "R:readers"), readers.replace("/>", ">cat,bob</x:readers>"));
        Talk.due("BLANKS", patch(talk, set("<R:readers> \r\n\t</R:readers>")), done(readers));
        Talk.due("none", shown(talk, "R:readers"), readers);
        Talk.due("bob reads no more", talk.status("bob", "OPTIONS /a/ann/b1", "", ""), 403);
        patch(talk, set("<R:readers>bob</R:readers>"));
        patch(talk, remove("<R:readers>nobody</R:readers>"));
        Talk.due("removed", shown(talk, "R:readers"), readers);
        patch(talk, set("<R:readers>bob</R:readers>"));
        talk.ann("DELETE /a/ann/b1");
        talk.ann("MKCOL /a/ann/b1");
        Talk.due("a BOOK made anew has none", talk.status("bob", "OPTIONS /a/ann/b1", "", ""), 403);
    }

    private static void refusals() {
        Talk talk = Talk.begun();
        talk.ann("MKCOL /a/ann/b1");
        String[] wrong = {"", "<D:set/>", set(""), "<D:set><D:prop/><D:prop/></D:set>", "<D:prop><D:displayname/></D:prop>",
            "<D:set><D:displayname/></D:set>", set("<D:displayname/>".repeat(21)),
            set("<D:displayname/>".repeat(11)) + remove("<D:displayname/>".repeat(10)),
            set("<D:displayname/>") + "<D:remove/>"};
        for (String inner : wrong) {
            Talk.due("400 for " + inner, patch(talk, inner), Talk.answer("400 Bad Request", "", ""));
        }
        Talk.due("no body", talk.status("ann", "PROPPATCH /a/ann/b1", "", ""), 400);
        Talk.due("another root", talk.status("ann", "PROPPATCH /a/ann/b1", "",
            Talk.root("C:propertyupdate", set("<D:displayname/>"))), 400);
        Talk.due("20 of them", patch(talk, set("<D:displayname/>".repeat(10)) + remove("<D:displayname/>".repeat(10))),
            done("<D:displayname/>"));
        Talk.due("another child beside D:prop", patch(talk,
            "<D:set><C:z/><D:prop><D:displayname/></D:prop></D:set>"), done("<D:displayname/>"));
    }
}
