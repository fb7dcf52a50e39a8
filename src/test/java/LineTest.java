/** Promises 8, 9 and 15: line, word and performed. */
public final class LineTest {
    public static void main(String[] args) {
        everyState();
        aWordThatWasThere();
        noSuchCoreOrBlock();
        firstAndLast();
        performed();
        Script.finish();
    }

    private static void everyState() {
        for (int state = 0; state <= 10; state++) {
            Script.run("state and word", 3, 1, Edges.pathTo(state),
                    "line 0 0 = " + state + "; word 0 0 = " + Edges.wordIn(state) + "; line 0 2 = I; word 0 2 = 0");
        }
    }

    private static void aWordThatWasThere() {
        Script.run("I behind an S", 3, 1, Edges.pathTo(1), "word 0 0 = 7; code 2 STORE 0; step 2; settle; line 0 0 = I; word 0 0 = 0",
                "code 0 LOAD 0; step 0; line 0 0 = IS; word 0 0 = 0; deliver 0; line 0 0 = IS; word 0 0 = 0");
        Script.run("I behind an M", 3, 1, Edges.pathTo(2), "word 0 0 = 5; code 2 STORE 0; step 2; settle; line 0 0 = I; word 0 0 = 0",
                "code 0 STORE 0; step 0; line 0 0 = IM; word 0 0 = 0");
        Script.run("II behind an MI", 3, 1, Edges.pathTo(8), "word 0 0 = 5; code 2 STORE 0; step 2; deliver 1; deliver 1",
                "line 0 0 = II; word 0 0 = 0");
        Script.run("IM and IMA behind an SM", 3, 1, Edges.pathTo(1),
                "code 1 STORE 0; code 2 LOAD 0; code 0 STORE 0; step 1 = 2; step 0 = 2; step 2 = 2; line 0 0 = SM; word 0 0 = 7",
                "deliver 0 = 4; deliver 3 = 4; line 0 0 = IM; word 0 0 = 0; deliver 3 = 3; deliver 2 = 2; line 1 0 = M",
                "deliver 1 = 2; message 1 kind = FWDS; deliver 1 = 3; deliver 2 = 2; home 0 = 193; deliver 0 = 4",
                "message 1 kind = DATA; message 1 number = 2; deliver 1 = 3; line 0 0 = IMA; word 0 0 = 0; settle; line 0 0 = M");
    }

    private static void noSuchCoreOrBlock() {
        for (int n = 2; n <= 4; n++) {
            for (int no : Edges.noCores(n)) {
                Script.run("line of no core", n, 1, allWrite(n),
                        "line " + no + " 0 = NONE; word " + no + " 0 = 0; line " + no + " 3 = NONE; word " + no + " 3 = 0",
                        "line " + no + " 4 = NONE; word " + no + " -1 = 0");
            }
            for (int no : Edges.noBlocks()) {
                for (int core = 0; core < n; core++) {
                    Script.run("line of no block", n, 1, allWrite(n),
                            "line " + core + " " + no + " = NONE; word " + core + " " + no + " = 0");
                }
            }
        }
    }

    /** Every core has a block of its own in M with the word 6. */
    private static String allWrite(int n) {
        StringBuilder calls = new StringBuilder();
        for (int c = 0; c < n; c++) {
            calls.append("code " + c + " SET 6; code " + c + " STORE " + (3 - c) + "; step " + c + "; step " + c + "; settle;");
            calls.append("line " + c + " " + (3 - c) + " = M; word " + c + " " + (3 - c) + " = 6;");
        }
        return calls.toString();
    }

    private static void firstAndLast() {
        for (int n = 2; n <= 4; n++) {
            for (int core = 0; core < n; core += n - 1) {
                for (int block = 0; block <= 3; block += 3) {
                    String line = core + " " + block;
                    Script.run("the first and the last core and block", n, 1,
                            "code " + core + " SET 8; code " + core + " STORE " + block + "; step " + core + "; step " + core,
                            "line " + line + " = IM; word " + line + " = 0; settle; line " + line + " = M; word " + line + " = 8");
                }
            }
        }
    }

    private static void performed() {
        Script.run("performed counts accesses alone, when they are performed", 2, 1,
                "code 0 SET 2; code 0 STORE 0; code 0 SWAP 0; code 0 ADD 1; code 0 JUMP 5; code 0 LOAD 0; code 0 LOAD 1",
                "performed = 0; step 0; performed = 0; step 0 = 2; performed = 0; step 0 = 0; deliver 0; performed = 0; deliver 0",
                "performed = 1; deliver 0 = NONE; step 0 = 1; performed = 2; step 0; performed = 2; step 0; performed = 2",
                "step 0 = 1; performed = 3; step 0 = 3; performed = 3; settle; performed = 3; step 0 = 2; performed = 3; settle",
                "performed = 4; step 0 = 4; performed = 4; code 1 LOAD 0; step 1; settle; performed = 5");
    }
}
