/** Promises 6, 7 and 14: messages, message and sent. */
public final class MessageTest {
    private static final String[] PARTS = {"kind", "sender", "receiver", "block", "word", "number", "requester"};

    public static void main(String[] args) {
        requests();
        puts();
        forwards();
        dataAndAcks();
        nothingIsLeftOfAnother();
        noSuchMessage();
        noSuchPart();
        numbers();
        twelveAtOnce();
        sentCountsWhatIsGoneToo();
        Script.finish();
    }

    /** The seven parts of message k, in the order of what. */
    private static String has(int k, String parts) {
        StringBuilder calls = new StringBuilder();
        String[] due = parts.trim().split("\\s+");
        for (int what = 0; what < 7; what++) {
            calls.append("message ").append(k).append(' ').append(PARTS[what]).append(" = ").append(due[what]).append(';');
        }
        return calls.toString();
    }

    private static void requests() {
        Script.run("GETS and GETM", 4, 1,
                "code 1 SET 9; code 1 STORE 2; code 3 LOAD 3; step 1; step 1; step 3",
                has(0, "GETM 1 HOME 2 0 0 NONE"), has(1, "GETS 3 HOME 3 0 0 NONE"));
        Script.run("GETM for a line with a word", 3, 1, Edges.pathTo(6), has(0, "GETM 0 HOME 0 0 0 NONE"));
    }

    private static void puts() {
        Script.run("PUTM and its PUTACK", 3, 1, Edges.pathTo(8),
                has(0, "PUTM 0 HOME 0 5 0 NONE"), "deliver 0", has(0, "PUTACK HOME 0 0 0 0 NONE"));
        Script.run("PUTS and its PUTACK", 3, 1, Edges.pathTo(9),
                has(0, "PUTS 0 HOME 0 0 0 NONE"), "deliver 0", has(0, "PUTACK HOME 0 0 0 0 NONE"));
    }

    private static void forwards() {
        Script.run("FWDS, then DATA to the requester and to the home", 4, 1,
                "code 2 SET 6; code 2 STORE 3; step 2; step 2; settle; code 0 LOAD 3; step 0; deliver 0 = 1",
                has(0, "FWDS HOME 2 3 0 0 0"), "deliver 0 = 2", has(0, "DATA 2 0 3 6 0 NONE"), has(1, "DATA 2 HOME 3 6 0 NONE"));
        Script.run("FWDM, then DATA to the requester", 4, 1,
                "code 0 SET 6; code 0 STORE 3; step 0; step 0; settle; code 3 SWAP 3; step 3; deliver 0 = 1",
                has(0, "FWDM HOME 0 3 0 0 3"), "deliver 0 = 1", has(0, "DATA 0 3 3 6 0 NONE"));
    }

    private static void dataAndAcks() {
        Script.run("DATA with a number, INV and ACK", 3, 1, Edges.pathTo(1),
                "code 2 STORE 0; step 2; deliver 0 = 3", has(0, "DATA HOME 2 0 7 2 NONE"), has(1, "INV HOME 0 0 0 0 2"),
                has(2, "INV HOME 1 0 0 0 2"), "deliver 2 = 3; deliver 1 = 3", has(1, "ACK 1 2 0 0 0 NONE"),
                has(2, "ACK 0 2 0 0 0 NONE"));
        Script.run("DATA for a GETS has the number 0", 3, 1, Edges.pathTo(1),
                "code 2 LOAD 0; step 2; deliver 0 = 1", has(0, "DATA HOME 2 0 7 0 NONE"));
    }

    /** A message has its own parts alone, whatever those were that went before it. */
    private static void nothingIsLeftOfAnother() {
        Script.run("behind a DATA with a word and a number", 3, 2, Edges.pathTo(1),
                "code 2 STORE 0; code 2 LOAD 1; code 2 LOAD 3; step 2; deliver 0; deliver 1; deliver 1", has(0, "DATA HOME 2 0 7 2 NONE"),
                "deliver 0 = 2; deliver 0; deliver 0 = 0; step 2 = 2", has(0, "GETS 2 HOME 1 0 0 NONE"),
                "deliver 0 = 1", has(0, "DATA HOME 2 1 0 0 NONE"), "deliver 0 = 0; step 2 = 3",
                has(0, "PUTM 2 HOME 0 0 0 NONE"), "deliver 0 = 1", has(0, "PUTACK HOME 2 0 0 0 NONE"));
        for (String op : new String[] {"LOAD", "STORE", "SWAP"}) {
            Script.run("a request for " + op + " behind a DATA that came in last", 3, 2, Edges.pathTo(1),
                    "code 2 STORE 0; code 2 " + op + " 1; step 2; deliver 0; deliver 1; deliver 1; deliver 1; deliver 1 = 1",
                    has(0, "DATA HOME 2 0 7 2 NONE"), "deliver 0 = 0; line 2 0 = M; step 2 = 2",
                    has(0, (op.equals("LOAD") ? "GETS" : "GETM") + " 2 HOME 1 0 0 NONE"));
        }
        Script.run("PUTS behind a PUTM", 3, 1, Edges.pathTo(8), has(0, "PUTM 0 HOME 0 5 0 NONE"),
                "code 0 LOAD 2; settle; step 0 = 2; settle; step 0 = 3", has(0, "PUTS 0 HOME 1 0 0 NONE"));
        Script.run("DATA and ACK behind forwards with a requester", 3, 1, Edges.pathTo(2),
                "code 2 LOAD 0; step 2; deliver 0", has(0, "FWDS HOME 0 0 0 0 2"), "deliver 0 = 2",
                has(0, "DATA 0 2 0 5 0 NONE"), has(1, "DATA 0 HOME 0 5 0 NONE"), "settle; code 1 STORE 0; step 1; deliver 0 = 3",
                has(0, "DATA HOME 1 0 5 2 NONE"), has(1, "INV HOME 0 0 0 0 1"), has(2, "INV HOME 2 0 0 0 1"),
                "deliver 1 = 3; deliver 1 = 3", has(1, "ACK 0 1 0 0 0 NONE"), has(2, "ACK 2 1 0 0 0 NONE"));
    }

    private static void noSuchMessage() {
        for (String no : new String[] {"LOWEST", "-1", "0", "1", "31", "32", "HIGHEST"}) {
            for (String part : PARTS) {
                Script.run("no message in an empty network", 2, 1, "message " + no + " " + part + " = NONE");
            }
        }
        for (String no : new String[] {"LOWEST", "-1", "2", "3", "31", "32", "HIGHEST"}) {
            Script.run("no such message beside two", 2, 1, "code 0 LOAD 3; code 1 LOAD 2; step 0; step 1",
                    has(0, "GETS 0 HOME 3 0 0 NONE"), has(1, "GETS 1 HOME 2 0 0 NONE"),
                    "message " + no + " kind = NONE; message " + no + " word = NONE; message " + no + " number = NONE",
                    "message " + no + " -1 = NONE; message " + no + " 7 = NONE");
        }
        Script.run("no message any more", 2, 1,
                "code 0 LOAD 3; step 0; message 0 kind = GETS; deliver 0; message 0 kind = DATA; deliver 0; message 0 kind = NONE",
                "message 0 word = NONE; message 0 block = NONE");
    }

    private static void noSuchPart() {
        for (String no : new String[] {"LOWEST", "-1", "7", "8", "HIGHEST"}) {
            Script.run("no such part", 3, 1, Edges.pathTo(1), "code 2 STORE 0; step 2; deliver 0",
                    "message 0 " + no + " = NONE; message 2 " + no + " = NONE; message 2 0 = INV; message 2 6 = 2");
        }
    }

    private static void numbers() {
        Script.run("numbers follow the order of sending, without those that are gone", 4, 1,
                "code 0 LOAD 0; code 1 LOAD 1; code 2 LOAD 2; code 3 LOAD 3; messages = 0; sent = 0",
                "step 2; step 0; step 3; step 1; messages = 4; sent = 4",
                "message 0 sender = 2; message 1 sender = 0; message 2 sender = 3; message 3 sender = 1",
                "deliver 1 = 4; sent = 5; message 0 sender = 2; message 1 sender = 3; message 2 sender = 1",
                "message 3 kind = DATA; message 3 receiver = 0; deliver 3 = 3; messages = 3; sent = 5",
                "deliver 2 = 3; message 2 receiver = 1; deliver 0 = 3; message 0 sender = 3",
                "message 1 receiver = 1; message 2 receiver = 2; deliver 1 = 2; deliver 1 = 1; deliver 1 = NONE",
                "deliver 0 = 1; deliver 0 = 0; deliver 0 = NONE; messages = 0; sent = 8");
    }

    /** Each core shares three blocks and writes one: four DATA and eight INV. */
    private static void twelveAtOnce() {
        StringBuilder reads = new StringBuilder();
        StringBuilder writes = new StringBuilder();
        for (int c = 0; c < 4; c++) {
            for (int k = 0; k < 3; k++) {
                reads.append("code " + c + " LOAD " + (c + k) % 4 + "; step " + c + " = 2; deliver 0; deliver 0;");
            }
            writes.append("code " + c + " STORE " + c + "; step " + c + " = 2;");
        }
        Script.run("twelve messages at once", 4, 3, reads.toString(), writes.toString(), "messages = 4",
                "deliver 0 = 6; deliver 0 = 8; deliver 0 = 10; deliver 0 = 12; messages = 12; sent = 40",
                has(0, "DATA HOME 0 0 0 2 NONE"), has(1, "INV HOME 2 0 0 0 0"), has(2, "INV HOME 3 0 0 0 0"),
                has(9, "DATA HOME 3 3 0 2 NONE"), has(11, "INV HOME 2 3 0 0 3"), "message 12 kind = NONE; deliver 12 = NONE",
                "deliver 11 = 12; message 11 kind = ACK; message 11 sender = 2; message 11 receiver = 3; settle; messages = 0",
                "line 0 0 = M; line 1 1 = M; line 2 2 = M; line 3 3 = M; sent = 48; performed = 16");
    }

    private static void sentCountsWhatIsGoneToo() {
        Script.run("sent", 2, 1,
                "code 0 LOAD 0; code 0 LOAD 1; code 0 SET 3; sent = 0; step 0; sent = 1; step 0 = 0; sent = 1; deliver 0; sent = 2",
                "deliver 0; sent = 2; deliver 0 = NONE; sent = 2; step 0 = 3; sent = 3; settle; sent = 4; go 0 2; step 0; sent = 4");
    }
}
