import java.util.NoSuchElementException;

/** Promises 1 to 5, 7 to 10 and 12, and where 6 throws. */
public final class FaceTest {
    public static void main(String[] args) {
        anew();
        tape();
        users();
        connections();
        out();
        counts();
        Talk.finish();
    }

    private static boolean outThrows(Run house, int i) {
        try {
            house.outAt(i);
            return false;
        } catch (NoSuchElementException e) {
            return true;
        }
    }

    private static boolean comeThrows(Run house, int c) {
        try {
            house.come(c);
            return false;
        } catch (IllegalStateException e) {
            return true;
        }
    }

    private static void anew() {
        Run house = new Run();
        Talk.due("NONE", AddressHouse.NONE, -1);
        Talk.due("a new OUT", house.out(), 0);
        Talk.due("a new OUT's first byte", outThrows(house, 0), true);
        for (int what = 0; what < 3; what++) {
            Talk.due("a new count " + what, house.count(what), 0);
        }
        for (int c = -1; c < 5; c++) {
            Talk.due("a new connection " + c, house.isOpen(c), false);
            Talk.due("shutting a new connection " + c, house.shut(c), false);
            Talk.due("coming on a new connection " + c, comeThrows(house, c), true);
        }
        Talk.due("a new tape", house.end(0) && !house.end(1), true);
        Talk.due("an empty tape is no user", house.user(), -1);
    }

    private static void tape() {
        Run house = new Run();
        for (int i = 0; i < 300; i++) {
            Talk.due("feed " + i, house.feed(i, -1, Integer.MIN_VALUE, Integer.MAX_VALUE, 0), true);
        }
        Talk.due("feed past 6000", house.feed(0, 0, 0, 0, 0), false);
        Talk.due("end at 6001", house.end(6001), false);
        Talk.due("end below 0", house.end(-1), false);
        Talk.due("end at the least int", house.end(Integer.MIN_VALUE), false);
        Talk.due("end at the greatest int", house.end(Integer.MAX_VALUE), false);
        Talk.due("end at 6000", house.end(6000), true);
        Talk.due("end at 5981", house.end(5981), true);
        Talk.due("feed past 6000 by one byte", house.feed(0, 0, 0, 0, 0), false);
        Talk.due("end at 5980", house.end(5980), true);
        Talk.due("end behind the new end", house.end(5981), false);
        Talk.due("feed up to 6000", house.feed(0, 0, 0, 0, 0), true);
        Talk talk = new Talk();
        talk.house.feed(0x616E6E3A, 0x70770000, 0, 0, 0);
        talk.house.end(5);
        talk.house.feed(0x71000000, 0, 0, 0, 0);
        talk.house.end(6);
        Talk.due("what is fed comes behind the end, the highest byte first", talk.house.user(), 0);
        talk.house.open();
        String basic = "Basic YW5uOnBx";
        Talk.due("the user of that tape",
            talk.come("OPTIONS / HTTP/1.1\r\nHost:\r\nAuthorization: " + basic + "\r\n\r\n").substring(9, 12), "200");
    }

    private static void users() {
        Talk talk = new Talk();
        String[] none = {"", ":", "a:", ":b", "ann", "Ann:x", "a1:x", "abcdefghijklm:x", "a: ", "a:x y", "a:\u00e9",
            "a:123456789012345678901", "a:x\r\n", "a :x", "a:\u007f", "`:x", "{:x"};
        for (String text : none) {
            Talk.due("no user " + text, talk.user(text), -1);
            Talk.due("the tape is empty behind " + text, talk.house.end(1), false);
        }
        Talk.due("user 0", talk.user("abcdefghijkl:12345678901234567890"), 0);
        Talk.due("the tape is empty behind a user", talk.house.end(1), false);
        Talk.due("a name that is there", talk.user("abcdefghijkl:x"), -1);
        Talk.due("user 1", talk.user("a::"), 1);
        Talk.due("user 2", talk.user("zb:~!"), 2);
        Talk.due("user 3", talk.user("c:x"), 3);
        Talk.due("a fifth user", talk.user("d:x"), -1);
        talk.house.open();
        Talk.due("a password with :", talk.come("OPTIONS / HTTP/1.1\r\nHost: x\r\nAuthorization: Basic YTo6\r\n\r\n")
            .substring(9, 12), "200");
    }

    private static void connections() {
        Run house = new Run();
        for (int i = 0; i < 4; i++) {
            Talk.due("open " + i, house.open(), i);
        }
        Talk.due("a fifth connection", house.open(), -1);
        Talk.due("shut 2", house.shut(2), true);
        Talk.due("shut 2 again", house.shut(2), false);
        Talk.due("shut 1", house.shut(1), true);
        Talk.due("1 is not open", house.isOpen(1), false);
        Talk.due("3 is open", house.isOpen(3), true);
        Talk.due("the least free one", house.open(), 1);
        Talk.due("the next free one", house.open(), 2);
        Talk.due("no free one", house.open(), -1);
        Talk talk = Talk.begun();
        Talk.due("half a HEAD", talk.come("OPTIONS / HTTP/1.1\r\nHo"), "");
        talk.house.shut(0);
        talk.house.open();
        Talk.due("what had come is forgotten", talk.come("st: x\r\n\r\n").substring(9, 12), "400");
        Talk.due("400 shut it", talk.house.isOpen(0), false);
        talk.tape("dan:x");
        Talk.due("coming on a shut one throws", comeThrows(talk.house, 0), true);
        Talk.due("then the tape stays", talk.house.user(), 3);
        Talk.due("then the OUT stays", talk.house.out() > 0, true);
        Talk two = Talk.begun();
        two.house.open();
        two.tape("OPTIONS / HTTP/1.1\r\nHost: x\r\n");
        Talk.due("half on 0", two.house.come(0), 0);
        two.tape("OPTIONS / HTTP/1.1\r\nHost: y\r\n");
        Talk.due("half on 1", two.house.come(1), 0);
        two.tape("\r\n");
        Talk.due("whole on 1", two.house.come(1), 1);
        two.tape("\r\n");
        Talk.due("whole on 0", two.house.come(0), 1);
    }

    private static void out() {
        Talk talk = Talk.begun();
        talk.ann("OPTIONS /");
        int size = talk.house.out();
        Talk.due("how many bytes", size, talk.out().length());
        Talk.due("byte 0", talk.house.outAt(0), (int) 'H');
        Talk.due("the last byte", talk.house.outAt(size - 1), 10);
        Talk.due("behind the last byte", outThrows(talk.house, size), true);
        Talk.due("ahead of the first byte", outThrows(talk.house, -1), true);
        Talk.due("far ahead", outThrows(talk.house, Integer.MIN_VALUE), true);
        Talk.due("far behind", outThrows(talk.house, Integer.MAX_VALUE), true);
        Talk.due("nothing comes", talk.house.come(0), 0);
        Talk.due("then the OUT is empty", talk.house.out(), 0);
        talk.turn(0, Talk.plain("u", "\u00e9"));
        boolean high = false;
        for (int i = 0; i < talk.house.out(); i++) {
            high = high || talk.house.outAt(i) == 0xC3;
        }
        Talk.due("bytes above 127", high, true);
    }

    private static void counts() {
        Talk talk = Talk.begun();
        Talk.due("MKCOL", talk.status("ann", "MKCOL /a/ann/b1", "", ""), 201);
        Talk.due("PUT", talk.put("/a/ann/b1/c1", Talk.plain("u1", "A")), 201);
        Talk.due("PUT", talk.put("/a/ann/b1/c2", Talk.plain("u2", "A")), 201);
        Talk.due("PUT again", talk.put("/a/ann/b1/c2", Talk.plain("u2", "B")), 204);
        Talk.due("PUT refused", talk.put("/a/ann/b1/c3", Talk.plain("u2", "B")), 403);
        Talk.due("BOOKS", talk.house.count(0), 1);
        Talk.due("CARDS", talk.house.count(1), 2);
        Talk.due("CHANGES", talk.house.count(2), 4);
        Talk.due("count 3", talk.house.count(3), -1);
        Talk.due("count -1", talk.house.count(-1), -1);
        Talk.due("count of the least int", talk.house.count(Integer.MIN_VALUE), -1);
        Talk.due("DELETE", talk.status("ann", "DELETE /a/ann/b1/c1", "", ""), 204);
        Talk.due("CARDS", talk.house.count(1), 1);
        Talk.due("PROPPATCH", talk.status("ann", "PROPPATCH /a/ann/b1", "",
            Talk.root("D:propertyupdate", "<D:set><D:prop><D:displayname>x</D:displayname></D:prop></D:set>")), 207);
        Talk.due("PROPPATCH is no change", talk.house.count(2), 5);
        Talk.due("DELETE of the BOOK", talk.status("ann", "DELETE /a/ann/b1", "", ""), 204);
        Talk.due("BOOKS", talk.house.count(0), 0);
        Talk.due("CARDS of no BOOK", talk.house.count(1), 0);
        Talk.due("CHANGES", talk.house.count(2), 6);
    }
}
