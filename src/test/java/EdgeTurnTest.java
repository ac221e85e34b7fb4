/** The edges of Part IV, how a CARD is WRITTEN and TURNED: a test for each sentence that names one; the remark is the sentence. */
public final class EdgeTurnTest {
    private static final Talk TALK = new Talk();

    public static void main(String[] args) throws ReflectiveOperationException {
        Talk.all(EdgeTurnTest.class);
    }

    private static void written(String line, String due) {
        Talk.due("written " + line, TALK.turn(0, Talk.card4("FN:A\r\nUID:u\r\n" + line + "\r\n")), Talk.card4("FN:A\r\nUID:u\r\n" + due + "\r\n"));
    }

    private static String lines(String text) {
        return text.isEmpty() ? "" : text + "\r\n";
    }

    /** What becomes of lines of 3.0 in 4.0. */
    private static void up(String line, String due) {
        Talk.due("to 4.0: " + line, TALK.turn(4, Talk.card3("FN:A\r\nN:B\r\nUID:u\r\n" + lines(line))),
            Talk.card4("FN:A\r\nN:B\r\nUID:u\r\n" + lines(due)));
    }

    /** What becomes of lines of 4.0 in 3.0. */
    private static void down(String line, String due) {
        Talk.due("to 3.0: " + line, TALK.turn(3, Talk.card4("FN:A\r\nN:B\r\nUID:u\r\n" + lines(line))),
            Talk.card3("FN:A\r\nN:B\r\nUID:u\r\n" + lines(due)));
    }

    /** Part IV, WRITTEN: "parameters ';' name '=' values with , between (10 as ^n, ^ as ^^, " as ^', in " " if there is ; : or , in it)". */
    static void parametersWritten() {
        written("X;A=\"b\";C=\"\":d", "X;A=b;C=:d");
        written("X;A=\";\":", "X;A=\";\":");
        written("X;A=\":\":", "X;A=\":\":");
        written("X;A=\",\":", "X;A=\",\":");
        written("X;A=\"b c=\\'\":", "X;A=b c=\\':");
        written("X;A=\"^n^^^'^\":", "X;A=^n^^^'^^:");
        written("X;A=\"^',\":", "X;A=\"^',\":");
        written("X;A=a,\"b,\",:", "X;A=a,\"b,\",:");
    }

    /** Part IV, WRITTEN: "of TEXT what it means, with \\ \, \; \n for \ , ; and 10". */
    static void textsWritten() {
        written("NOTE:\\\\\\,\\;\\n\\N,;:\"", "NOTE:\\\\\\,\\;\\n\\n\\,\\;:\"");
        written("NOTE:", "NOTE:");
    }

    /** Part IV, WRITTEN: "LIST with , and PARTS with ; between, as many as there were; others as they are". */
    static void listsWritten() {
        written("NICKNAME:a,,b\\,;", "NICKNAME:a,,b\\,\\;");
        written("NICKNAME:", "NICKNAME:");
        written("ADR:;a,b;;\\;", "ADR:;a,b;;\\;");
        written("ADR:", "ADR:");
        written("ADR:;;;;;;", "ADR:;;;;;;");
        written("X:a,\\N;\\", "X:a,\\N;\\");
        written("URL:a,\\N;\\", "URL:a,\\N;\\");
    }

    /** Part IV, WRITTEN: "one of more than 75 bytes without it is cut: as many whole characters as go into 75 bytes". */
    static void cutAt75() {
        String start = "NOTE:" + "x".repeat(64);
        for (int more = 0; more <= 6; more++) {
            written(start + "y".repeat(more), start + "y".repeat(more));
        }
        written(start + "y".repeat(7), start + "y".repeat(6) + "\r\n y");
        // Characters of 2, 3 and 4 bytes that just go into 75 bytes, and such that don't.
        String[] characters = {"\u00e9", "\u20ac", "\ud83d\ude00"};
        for (int i = 0; i < 3; i++) {
            String room = start + "y".repeat(4 - i);
            written(room + characters[i], room + characters[i]);
            written(room + characters[i] + "z", room + characters[i] + "\r\n z");
            for (int over = 1; over <= i + 2; over++) {
                written(room + "y".repeat(over) + characters[i], room + "y".repeat(over) + "\r\n " + characters[i]);
            }
        }
        // The first and the last characters of 1, 2, 3 and 4 bytes.
        String[][] edges = {{"~"}, {"\u0080", "\u07ff"}, {"\u0800", "\uffff"}, {"\ud800\udc00", "\udbff\udfff"}};
        for (int i = 0; i < 4; i++) {
            for (String edge : edges[i]) {
                String room = start + "y".repeat(5 - i);
                written(room + edge + edge, room + edge + "\r\n " + edge);
                written(room + "y" + edge, room + "y\r\n " + edge);
            }
        }
        written(start + "y".repeat(5) + ",", start + "y".repeat(5) + "\\\r\n ,");
    }

    /** Part IV, WRITTEN: "then CRLF S and as many as go into 74 bytes, and so on". */
    static void cutAt74() {
        String first = "NOTE:" + "x".repeat(70) + "\r\n ";
        String start = "NOTE:" + "x".repeat(70);
        written(start + "y".repeat(74), first + "y".repeat(74));
        written(start + "y".repeat(75), first + "y".repeat(74) + "\r\n y");
        written(start + "y".repeat(148), first + "y".repeat(74) + "\r\n " + "y".repeat(74));
        written(start + "y".repeat(149), first + "y".repeat(74) + "\r\n " + "y".repeat(74) + "\r\n y");
        written(start + "\u00e9".repeat(38), first + "\u00e9".repeat(37) + "\r\n \u00e9");
        written(start + "\u20ac".repeat(25), first + "\u20ac".repeat(24) + "\r\n \u20ac");
        written(start + "\ud83d\ude00".repeat(19), first + "\ud83d\ude00".repeat(18) + "\r\n \ud83d\ude00");
        written(start + " ".repeat(3), first + " ".repeat(3));
    }

    /** Part IV, WRITTEN: "Each LINE ends with CRLF; one of more than 75 bytes without it is cut" (names and parameters, too). */
    static void cutAnywhere() {
        String name = "g".repeat(30) + "." + "N".repeat(30);
        written(name + ";" + "P".repeat(11) + "=:v", name + ";" + "P".repeat(11) + "=:\r\n v");
        written(name + ";" + "P".repeat(30) + "=:v", name + ";" + "P".repeat(13) + "\r\n " + "P".repeat(17) + "=:v");
    }

    /** Part IV, to 4.0: "CHARSET goes." */
    static void upCharset() {
        up("NOTE;CHARSET=x,y;A=b:c", "NOTE;A=b:c");
        up("X;CHARSET=:c", "X:c");
        up("PHOTO;CHARSET=x;ENCODING=b:AAAA", "PHOTO:data:application/octet-stream;base64,AAAA");
    }

    /** Part IV, to 4.0: "TYPE: its values in small letters, those that are 'pref' go; a TYPE without values goes". */
    static void upTypes() {
        up("TEL;TYPE=HOME,Work:1", "TEL;TYPE=home,work:1");
        up("TEL;TYPE=AZ@[`{\u00c4:1", "TEL;TYPE=az@[`{\u00c4:1");
        up("TEL;TYPE=PREF:1", "TEL;PREF=1:1");
        up("TEL;TYPE=pref,Pref,\"pREF\":1", "TEL;PREF=1:1");
        up("TEL;TYPE=:1", "TEL;TYPE=:1");
        up("TEL;TYPE=pref,:1", "TEL;TYPE=;PREF=1:1");
        up("TEL;TYPE=prefs,pre:1", "TEL;TYPE=prefs,pre:1");
        up("X;TYPE=\"A,B\",^N:1", "X;TYPE=\"a,b\",^^n:1");
    }

    /** Part IV, to 4.0: "if there was 'pref', PREF with 1 comes as the last parameter (if there is no PREF)". */
    static void upPref() {
        up("TEL;TYPE=HOME,pref;A=b:1", "TEL;TYPE=home;A=b;PREF=1:1");
        up("TEL;PREF=7;TYPE=HOME,pref:1", "TEL;PREF=7;TYPE=home:1");
        up("TEL;TYPE=pref;PREF=:1", "TEL;PREF=:1");
        up("TEL;PREF=7:1", "TEL;PREF=7:1");
        up("TEL;TYPE=a;X=pref:1", "TEL;TYPE=a;X=pref:1");
    }

    /** Part IV, to 4.0: "M: without TYPE (as it came, before pref goes) 'application/octet-stream', else 'image/' (SOUND 'audio/', KEY 'application/') and its first value in small letters". */
    static void upMedia() {
        String[][] rows = {{"PHOTO", "image/"}, {"LOGO", "image/"}, {"SOUND", "audio/"}, {"KEY", "application/"}};
        for (String[] row : rows) {
            up(row[0] + ";ENCODING=b:AAAA", row[0] + ":data:application/octet-stream;base64,AAAA");
            up(row[0] + ";ENCODING=b;TYPE=PnG,GIF:AAAA", row[0] + ":data:" + row[1] + "png;base64,AAAA");
            up(row[0] + ";TYPE=PREF,GIF;ENCODING=b:AAAA", row[0] + ":data:" + row[1] + "pref;base64,AAAA");
            up(row[0] + ";TYPE=;ENCODING=b:AAAA", row[0] + ":data:" + row[1] + ";base64,AAAA");
        }
    }

    /** Part IV, to 4.0: "ENCODING, TYPE, VALUE go, no PREF comes". */
    static void upBinaries() {
        up("g.PHOTO;A=b;VALUE=binary;TYPE=pref;ENCODING=B;C=d:AA==", "g.PHOTO;A=b;C=d:data:image/pref;base64,AA==");
        up("KEY;PREF=3;TYPE=x,pref;ENCODING=b;VALUE=uri:AAA=", "KEY;PREF=3:data:application/x;base64,AAA=");
    }

    /** Part IV, to 4.0: "Those and URL, URI: VALUE LIKE 'uri' or 'url' goes." */
    static void upUris() {
        for (String name : "PHOTO LOGO SOUND KEY URL".split(" ")) {
            up(name + ";VALUE=uri;A=b:x", name + ";A=b:x");
            up(name + ";A=b;VALUE=URL:x", name + ";A=b:x");
            up(name + ";VALUE=uris:x", name + ";VALUE=uris:x");
            up(name + ";VALUE=ur:x", name + ";VALUE=ur:x");
            up(name + ";VALUE=:x", name + ";VALUE=:x");
            up(name + ";VALUE=text:x", name + ";VALUE=text:x");
        }
        up("NOTE;VALUE=uri:x", "NOTE;VALUE=uri:x");
        up("X;VALUE=url:x", "X;VALUE=url:x");
    }

    /** Part IV, to 4.0: "BDAY and REV that are no TEXT: their - and : fall away (not a - that is the sign of a time's zone". */
    static void upDates() {
        for (String name : new String[] {"BDAY", "REV"}) {
            up(name + ":2000-01-02T03:04:05-06:07", name + ":20000102T030405-0607");
            up(name + ":2000-01-02T03:04:05+06:07", name + ":20000102T030405+0607");
            up(name + ":20000102T030405-0607", name + ":20000102T030405-0607");
            up(name + ":2000-01-02T03:04:05Z", name + ":20000102T030405Z");
            up(name + ":2000-01-02T03:04:05", name + ":20000102T030405");
            up(name + ";VALUE=text:1-2:3", name + ";VALUE=text:1-2:3");
        }
        up("X-BDAY:2000-01-02", "X-BDAY:2000-01-02");
    }

    /** Part IV, to 4.0: "REV without a time: 'T000000Z' comes behind)". */
    static void upRevWithoutATime() {
        up("REV:2000-01-02", "REV:20000102T000000Z");
        up("REV:20000102", "REV:20000102T000000Z");
        up("BDAY:2000-01-02", "BDAY:20000102");
        up("REV;VALUE=text:20000102", "REV;VALUE=text:20000102");
    }

    /** Part IV, to 4.0: "GEO (no TEXT): ; becomes , and 'geo:' comes ahead." */
    static void upGeo() {
        up("GEO:+1.5;-2", "GEO:geo:+1.5,-2");
        up("GEO;VALUE=text:1;2", "GEO;VALUE=text:1\\;2");
    }

    /** Part IV, to 4.0: "LABEL: ADR with a parameter LABEL behind the others (its text; not if it has one), and the value ;;;;;; ." */
    static void upLabel() {
        up("LABEL:", "ADR;LABEL=:;;;;;;");
        up("LABEL:a\\Nb\\n", "ADR;LABEL=a^nb^n:;;;;;;");
        up("g.LABEL;A=b;TYPE=HOME:a\\,b\\n\"^", "g.ADR;A=b;TYPE=home;LABEL=\"a,b^n^'^^\":;;;;;;");
        up("LABEL;LABEL=x;A=b:y", "ADR;LABEL=x;A=b:;;;;;;");
        up("LABEL:a\r\nADR;LABEL=q:r\r\nLABEL:b", "ADR;LABEL=a:;;;;;;\r\nADR;LABEL=q:r\r\nADR;LABEL=b:;;;;;;");
    }

    /** Part IV, to 4.0: "MAILER, CLASS: X-MAILER, X-CLASS, RAW, the value as written." */
    static void upMailer() {
        up("MAILER:a,b\\N", "X-MAILER:a\\,b\\n");
        up("g.CLASS;TYPE=A,pref:c;d", "g.X-CLASS;TYPE=a;PREF=1:c\\;d");
    }

    /** Part IV, to 4.0: "SORT-STRING: goes; N (if it has no SORT-AS) gets a parameter SORT-AS with its text." */
    static void upSortString() {
        String[][] rows = {{"N:B\r\nSORT-STRING:c\r\n", "N;SORT-AS=c:B\r\n"}, {"SORT-STRING:c\\,d\\n\r\nN;A=b:B\r\n", "N;A=b;SORT-AS=\"c,d^n\":B\r\n"},
            {"N;SORT-AS=q;A=b:B\r\nSORT-STRING:c\r\n", "N;SORT-AS=q;A=b:B\r\n"}, {"g.SORT-STRING;A=b:\r\ng.N:B\r\n", "g.N;SORT-AS=:B\r\n"},
            {"N:B\r\n", "N:B\r\n"}};
        for (String[] row : rows) {
            Talk.due(row[0], TALK.turn(4, Talk.card3("FN:A\r\n" + row[0] + "UID:u\r\n")), Talk.card4("FN:A\r\n" + row[1] + "UID:u\r\n"));
        }
    }

    /** Part IV, to 3.0: "TYPE: its values in capitals; PREF goes, and then 'PREF' comes as the last value of TYPE (which comes as the last parameter, if there was none)". */
    static void downTypes() {
        down("TEL;TYPE=home,Work:1", "TEL;TYPE=HOME,WORK:1");
        down("TEL;TYPE=az@[`{\u00e4:1", "TEL;TYPE=AZ@[`{\u00e4:1");
        down("TEL;PREF=1;TYPE=a;B=c:1", "TEL;TYPE=A,PREF;B=c:1");
        down("TEL;TYPE=a;B=c;PREF=100:1", "TEL;TYPE=A,PREF;B=c:1");
        down("TEL;PREF=1;B=c:1", "TEL;B=c;TYPE=PREF:1");
        down("TEL;PREF=:1", "TEL;TYPE=PREF:1");
        down("TEL;TYPE=;PREF=1:1", "TEL;TYPE=,PREF:1");
        down("TEL;TYPE=pref;PREF=1:1", "TEL;TYPE=PREF,PREF:1");
        down("TEL;TYPE=1,2,3,4,5,6,7,8;PREF=1:1", "TEL;TYPE=1,2,3,4,5,6,7,8,PREF:1");
        down("X;TYPE=\"a,b\";PREF=1:1", "X;TYPE=\"A,B\",PREF:1");
    }

    /** Part IV, to 3.0: "The second and further FN, TZ, GEO: X-FN, X-TZ, X-GEO". */
    static void downSecondOnes() {
        down("FN:B", "X-FN:B");
        down("g.FN;TYPE=a:B,\r\nFN;PREF=1:C", "g.X-FN;TYPE=A:B\\,\r\nX-FN;TYPE=PREF:C");
        down("TZ:a\r\nTZ:b\r\nTZ:c,", "TZ:a\r\nX-TZ:b\r\nX-TZ:c\\,");
        down("GEO:geo:1,2\r\nGEO:geo:3,4\r\ng.GEO:geo:5,6", "GEO:1;2\r\nX-GEO:geo:3,4\r\ng.X-GEO:geo:5,6");
        down("GEO;VALUE=text:a\r\nGEO:geo:3,4", "GEO;VALUE=text:a\r\nX-GEO:geo:3,4");
    }

    /** Part IV, to 3.0: "KIND ANNIVERSARY GENDER LANG IMPP MEMBER RELATED SOURCE: X- ahead of the NAME". */
    static void downOthers() {
        String[][] rows = {{"KIND", "a,", "a\\,"}, {"ANNIVERSARY", "20000102", "20000102"}, {"GENDER", "M;a", "M;a"}, {"LANG", "de", "de"},
            {"IMPP", "a:b", "a:b"}, {"MEMBER", "a", "a"}, {"RELATED", "a", "a"}, {"SOURCE", "data:a;base64,AAAA", "data:a;base64,AAAA"}};
        for (String[] row : rows) {
            down(row[0] + ":" + row[1], "X-" + row[0] + ":" + row[2]);
            down("g." + row[0] + ";VALUE=x;TYPE=a;PREF=1;ENCODING=b:" + row[1], "g.X-" + row[0] + ";VALUE=x;TYPE=A,PREF;ENCODING=b:" + row[2]);
        }
    }

    /** Part IV, to 3.0: "BDAY and REV (no TEXT) whose date is not YYYYMMDD, or whose time (if there is one) not hhmmss with nothing, Z or a sign and hhmm: X-BDAY, X-REV". */
    static void downOtherDates() {
        for (String date : new String[] {"2000", "2000-01", "--0102", "--01", "---02", "T030405", "T030405Z", "2000T030405", "--0102T030405", "20000102T03",
            "20000102T0304", "20000102T03Z", "20000102T0304Z", "20000102T03+06", "20000102T0304-0607", "20000102T03-0607", "20000102T030405+06",
            "20000102T0304+06"}) {
            down("BDAY:" + date, "X-BDAY:" + date);
        }
        down("REV:20000102T030405-06", "X-REV:20000102T030405-06");
        down("g.REV;TYPE=a;PREF=1:20000102T030405+06", "g.X-REV;TYPE=A,PREF:20000102T030405+06");
        down("BDAY;VALUE=text:2000", "BDAY;VALUE=text:2000");
        down("REV;VALUE=text:2000", "REV;VALUE=text:2000");
    }

    /** Part IV, to 3.0: "BDAY, REV else: - and : come in (YYYY-MM-DD, hh:mm:ss, zone hh:mm)." */
    static void downDates() {
        down("BDAY:20000102", "BDAY:2000-01-02");
        for (String name : new String[] {"BDAY", "REV"}) {
            down(name + ":20000102T030405", name + ":2000-01-02T03:04:05");
            down(name + ":20000102T030405Z", name + ":2000-01-02T03:04:05Z");
            down(name + ":20000102T030405+0607", name + ":2000-01-02T03:04:05+06:07");
            down(name + ":20000102T030405-0607", name + ":2000-01-02T03:04:05-06:07");
        }
    }

    /** Part IV, to 3.0: "GEO (the first, no TEXT): 'geo:' goes, , becomes ; ." */
    static void downGeo() {
        down("g.GEO;TYPE=a:geo:+1.5,-2", "g.GEO;TYPE=A:+1.5;-2");
        down("GEO;VALUE=text:geo:1,2", "GEO;VALUE=text:geo:1\\,2");
    }

    /** Part IV, to 3.0: "'data:' M ';base64,' base64 (M letters, digits, / . + -, at least one): ENCODING with b and TYPE with what is behind M's last / in capitals come in place of its TYPE and ENCODING (behind all others), PREF and VALUE go". */
    static void downData() {
        for (String name : "PHOTO LOGO SOUND KEY".split(" ")) {
            down(name + ":data:image/png;base64,AAAA", name + ";ENCODING=b;TYPE=PNG:AAAA");
            down("g." + name + ";TYPE=a;ENCODING=q;PREF=1;VALUE=uri;A=b:data:x;base64,AA==", "g." + name + ";A=b;ENCODING=b;TYPE=X:AA==");
        }
        down("PHOTO:data:a/b/c.d+e-9;base64,AAAA", "PHOTO;ENCODING=b;TYPE=C.D+E-9:AAAA");
        down("PHOTO:data:a/;base64,AAAA", "PHOTO;ENCODING=b;TYPE=:AAAA");
    }

    /** Part IV, to 3.0: "others of them that are URI: ENCODING goes, and VALUE with uri comes behind all (in place of another VALUE)". */
    static void downOtherUris() {
        for (String name : "PHOTO LOGO SOUND KEY".split(" ")) {
            for (String uri : new String[] {"x", "data:;base64,AAAA", "data:image/png,AAAA", "data:image/png;base64", "data:image/png;base64,A",
                "data:image/png;base64,AB==", "data:image/png;base64,A-_A", "data:im_age/png;base64,AAAA", "data:_;base64,AAAA", "data:a_;base64,AAAA", "data:a;b=c;base64,AAAA",
                "DATA:image/png;base64,AAAA", "data:image/png;BASE64,AAAA", "xdata:image/png;base64,AAAA"}) {
                down(name + ":" + uri, name + ";VALUE=uri:" + uri);
            }
            down(name + ";VALUE=x;TYPE=a;ENCODING=b;PREF=1;A=b:x", name + ";TYPE=A,PREF;A=b;VALUE=uri:x");
            down(name + ";PREF=1:x", name + ";TYPE=PREF;VALUE=uri:x");
            down(name + ";VALUE=text;ENCODING=b:x", name + ";VALUE=text;ENCODING=b:x");
        }
        down("URL;VALUE=uri;ENCODING=b:x", "URL;VALUE=uri;ENCODING=b:x");
        down("URL:data:a;base64,AAAA", "URL:data:a;base64,AAAA");
        down("X:data:a;base64,AAAA", "X:data:a;base64,AAAA");
    }

    /** Part IV, to 3.0: "ADR with LABEL: it goes; behind ADR LABEL comes with its first value as TEXT, GROUP and TYPE (as turned) of the ADR." */
    static void downLabel() {
        down("ADR;LABEL=a:b", "ADR:b\r\nLABEL:a");
        down("ADR;LABEL=:b", "ADR:b\r\nLABEL:");
        down("ADR;LABEL=\"a,b;^n\\\",c:d", "ADR:d\r\nLABEL:a\\,b\\;\\n\\\\");
        down("g.ADR;A=b;LABEL=a;TYPE=home;PREF=1:c", "g.ADR;A=b;TYPE=HOME,PREF:c\r\ng.LABEL;TYPE=HOME,PREF:a");
        down("ADR;PREF=1;LABEL=a:c", "ADR;TYPE=PREF:c\r\nLABEL;TYPE=PREF:a");
        down("ADR:c", "ADR:c");
        down("X;LABEL=a:c", "X;LABEL=a:c");
        down("LABEL:a,\\q", "LABEL:a,\\q");
    }

    /** Part IV, to 3.0: "N's SORT-AS: it goes; SORT-STRING with its first value as TEXT comes behind N." */
    static void downSortAs() {
        String[][] rows = {{"g.N;SORT-AS=a;B=c:B\r\n", "g.N;B=c:B\r\nSORT-STRING:a\r\n"}, {"N;SORT-AS=\"a,b\",c:B\r\n", "N:B\r\nSORT-STRING:a\\,b\r\n"},
            {"N;SORT-AS=:B\r\n", "N:B\r\nSORT-STRING:\r\n"}, {"N:B\r\nORG;SORT-AS=a:b\r\n", "N:B\r\nORG;SORT-AS=a:b\r\n"}};
        for (String[] row : rows) {
            Talk.due(row[0], TALK.turn(3, Talk.card4("FN:A\r\n" + row[0] + "UID:u\r\n")), Talk.card3("FN:A\r\n" + row[1] + "UID:u\r\n"));
        }
    }

    /** Part IV, to 3.0: "Without N: one comes behind the first FN, FN's text and four empty parts." */
    static void downWithoutN() {
        String[][] rows = {{"FN:A\r\nUID:u\r\n", "FN:A\r\nN:A;;;;\r\nUID:u\r\n"}, {"FN:\r\nUID:u\r\n", "FN:\r\nN:;;;;\r\nUID:u\r\n"},
            {"FN:a\\Nb\r\nUID:u\r\n", "FN:a\\nb\r\nN:a\\nb;;;;\r\nUID:u\r\n"},
            {"UID:u\r\ng.FN;TYPE=a:A,\\;\\n\\\\\r\nFN:B\r\n", "UID:u\r\ng.FN;TYPE=A:A\\,\\;\\n\\\\\r\nN:A\\,\\;\\n\\\\;;;;\r\nX-FN:B\r\n"}};
        for (String[] row : rows) {
            Talk.due(row[0], TALK.turn(3, Talk.card4(row[0])), Talk.card3(row[1]));
        }
    }

    /** Part IV, to 3.0: "Without them all stays." */
    static void theRestStays() {
        String rest = "g.X-Y;A=b;VALUE=uri;ENCODING=x;CHARSET=y:\\q,\r\nNOTE;CHARSET=x:a\\,b\r\nMAILER:a,b\r\nCLASS:\\q\r\nSORT-STRING:z\r\nURL:x\r\nORG:a;b";
        down(rest, rest);
        String other = "g.X-Y;A=b;VALUE=uri;ENCODING=x:\\q,\r\nNOTE;A=b:a\\,b\r\nKIND:\\q\r\nGENDER:;;;\r\nRELATED:a b\r\nORG:a;b\r\nURL:x";
        up(other, other);
    }

    /** Part IV, to 3.0: "(Texts of parameters that become values are TEXT with what they mean.)" */
    static void textsOfParameters() {
        down("ADR;LABEL=^n^^^'^x\\:", "ADR:\r\nLABEL:\\n^\"^x\\\\");
    }

    /** Promise 11 with promise 2: a tape of 6000 bytes, turned, is written whole. */
    static void theLongestTape() {
        String before = "UID:u\r\nFN:";
        int commas = 6000 - Talk.card4(before + "\r\n").length();
        String longest = Talk.card4(before + ",".repeat(commas) + "\r\n");
        Talk.due("6000 bytes", longest.length(), 6000);
        Talk.due("turned", TALK.turn(3, longest).replace("\r\n ", ""),
            Talk.card3("UID:u\r\nFN:" + "\\,".repeat(commas) + "\r\nN:" + "\\,".repeat(commas) + ";;;;\r\n"));
        String sort = "FN:A\r\nUID:u\r\nN:\r\nSORT-STRING:";
        int carets = 6000 - Talk.card3(sort + "\r\n").length();
        Talk.due("a text as a parameter", TALK.turn(4, Talk.card3(sort + "^".repeat(carets) + "\r\n")).replace("\r\n ", ""),
            Talk.card4("FN:A\r\nUID:u\r\nN;SORT-AS=" + "^^".repeat(carets) + ":\r\n"));
    }
}
