/** Promise 4 where a line is replaced: which one it is, and what is sent for it. */
public final class ReplacementTest {
    private static final String THREE_READ = "code 0 LOAD 2; code 0 LOAD 0; code 0 LOAD 1; step 0; settle; step 0; settle;"
            + "step 0; settle; line 0 0 = S; line 0 1 = S; line 0 2 = S";

    public static void main(String[] args) {
        leastLatelyUsed();
        useAgain();
        noStateGoesFirst();
        useByOthersDoesNotCount();
        refusalsAndQuestionsAreNoUse();
        freedLine();
        placeStays();
        noReplacementForAnUpgrade();
        whenLLinesAreInUse();
        everyOrderOfUse();
        Script.finish();
    }

    private static void leastLatelyUsed() {
        Script.run("the first one used goes first", 2, 3, THREE_READ,
                "code 0 LOAD 3; step 0 = 3; line 0 2 = SI; line 0 0 = S; line 0 1 = S; line 0 3 = I; settle; step 0 = 2",
                "line 0 3 = IS; settle; code 0 STORE 2; step 0 = 3; line 0 0 = SI; settle; step 0 = 2; line 0 2 = IM");
    }

    private static void useAgain() {
        for (String op : new String[] {"LOAD", "STORE", "SWAP"}) {
            Script.run("a line used again by " + op, 2, 3, THREE_READ,
                    "code 0 " + op + " 2; code 0 LOAD 3; step 0; settle; step 0 = 3; line 0 0 = SI; message 0 block = 0");
            Script.run("a line in M used again by " + op, 2, 2,
                    "code 0 SET 8; code 0 STORE 3; code 0 STORE 0; code 0 " + op + " 3; code 0 LOAD 1",
                    "step 0; step 0; settle; step 0; settle; step 0 = 1; step 0 = 3; line 0 0 = MI; line 0 3 = M",
                    "message 0 kind = PUTM; message 0 block = 0; message 0 word = 8; place 0 = 68");
        }
    }

    private static void noStateGoesFirst() {
        for (int first = 0; first <= 1; first++) {
            int second = 1 - first;
            Script.run("an M used before an S", 2, 2,
                    "code 0 SET 8; code 0 STORE " + first + "; code 0 LOAD " + second + "; code 0 LOAD 3; step 0; step 0; settle; step 0; settle",
                    "step 0 = 3; line 0 " + first + " = MI; line 0 " + second + " = S; message 0 kind = PUTM; message 0 block = " + first);
            Script.run("an S used before an M", 2, 2,
                    "code 0 LOAD " + first + "; code 0 STORE " + second + "; code 0 LOAD 3; step 0; settle; step 0; settle",
                    "step 0 = 3; line 0 " + first + " = SI; line 0 " + second + " = M; message 0 kind = PUTS; message 0 block = " + first);
        }
    }

    private static void useByOthersDoesNotCount() {
        for (int first = 0; first <= 1; first++) {
            int second = 1 - first;
            Script.run("a word given away is no use", 2, 2,
                    "code 0 STORE " + first + "; code 0 STORE " + second + "; code 0 LOAD 2; code 1 LOAD " + first,
                    "step 0; settle; step 0; settle; step 1; settle; line 0 " + first + " = S; line 0 " + second + " = M",
                    "step 0 = 3; line 0 " + first + " = SI; message 0 kind = PUTS; message 0 block = " + first);
        }
    }

    /** Whichever of the three lines is asked about or stepped at in vain, the first one used is replaced. */
    private static void refusalsAndQuestionsAreNoUse() {
        for (int first = 0; first <= 2; first++) {
            int second = (first + 1) % 3;
            int third = (first + 2) % 3;
            String asked = "line 0 " + first + " = S; word 0 " + first + " = 0; home " + first + " = 33; memory " + first + " = 0;";
            Script.run("refusals and questions are no use", 2, 3,
                    "code 0 LOAD " + first + "; code 0 LOAD " + second + "; code 0 LOAD " + third + "; code 0 LOAD 3; code 1 STORE 3",
                    "step 0; settle; step 0; settle", asked, "step 0 = 2; step 0 = 0; go 0 0 = false", asked, "deliver 1 = NONE",
                    "settle", asked, "go 0 17 = false; code 0 LOAD 4 = false; go 0 16; step 0 = 4; go 0 3; step 0 = 3",
                    "message 0 block = " + first + "; line 0 " + first + " = SI");
        }
    }

    private static void freedLine() {
        Script.run("a line that was taken away makes room", 2, 1,
                "code 0 LOAD 0; code 0 LOAD 1; code 1 STORE 0; step 0; settle; step 1; settle; line 0 0 = I",
                "step 0 = 2; line 0 1 = IS; messages = 1");
    }

    private static void placeStays() {
        Script.run("the place stays during a replacement", 2, 1,
                "code 0 LOAD 0; code 0 SWAP 1; step 0; settle; step 0 = 3; place 0 = 65; line 0 1 = I; performed = 1",
                "deliver 0 = 1; step 0 = 0; deliver 0 = 0; place 0 = 1; line 0 1 = I; step 0 = 2; line 0 1 = IM");
    }

    private static void noReplacementForAnUpgrade() {
        Script.run("a line in S is not replaced to be written", 2, 1,
                "code 0 LOAD 0; code 0 STORE 0; step 0; settle; step 0 = 2; line 0 0 = SM; message 0 kind = GETM");
    }

    private static void whenLLinesAreInUse() {
        for (int lines = 1; lines <= 3; lines++) {
            for (int inUse = 0; inUse <= lines; inUse++) {
                for (String op : new String[] {"LOAD", "STORE", "SWAP"}) {
                    lineThree(lines, inUse, op);
                }
            }
        }
    }

    /** Core 1 wants block 3 when it has used the first blocks by op. */
    private static void lineThree(int lines, int inUse, String op) {
        StringBuilder used = new StringBuilder();
        for (int b = 0; b < inUse; b++) {
            used.append("code 1 " + op + " " + b + "; step 1 = 2; settle;");
        }
        boolean read = op.equals("LOAD");
        String full = "step 1 = 3; line 1 3 = I; line 1 0 = " + (read ? "SI" : "MI") + "; messages = 1; message 0 kind = "
                + (read ? "PUTS" : "PUTM") + "; place 1 = " + (64 + lines) + "; deliver 0 = 1; step 1 = 0; deliver 0 = 0; line 1 0 = I;";
        String room = "step 1 = 2; line 1 3 = IS; messages = 1; message 0 kind = GETS; settle; line 1 3 = S";
        Script.run(inUse + " of " + lines + " lines in use by " + op, 2, lines, used.toString(), "code 1 LOAD 3",
                inUse == lines ? full : "", room);
    }

    /** Three lines are filled, then used once more in every order: the first of that order is replaced, then the second. */
    private static void everyOrderOfUse() {
        for (int order = 0; order < 27; order++) {
            int[] b = {order / 9, order / 3 % 3, order % 3};
            if (b[0] == b[1] || b[1] == b[2] || b[0] == b[2]) {
                continue;
            }
            Script.run("lines used in the order " + b[0] + b[1] + b[2], 2, 3, THREE_READ,
                    "code 0 LOAD " + b[0] + "; code 0 LOAD " + b[1] + "; code 0 LOAD " + b[2] + "; step 0 = 1; step 0 = 1; step 0 = 1",
                    "code 0 LOAD 3; step 0 = 3; message 0 block = " + b[0] + "; line 0 " + b[0] + " = SI; settle; step 0 = 2; settle",
                    "code 0 LOAD " + b[0] + "; step 0 = 3; message 0 block = " + b[1] + "; settle; step 0 = 2; settle",
                    "code 0 LOAD " + b[1] + "; step 0 = 3; message 0 block = " + b[2] + "; settle; step 0 = 2; settle",
                    "code 0 LOAD " + b[2] + "; step 0 = 3; message 0 block = 3");
        }
    }
}
