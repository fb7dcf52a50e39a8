/** Promises 5, 10 and 11: every row of what happens at the home, with the directory and the memory. */
public final class HomeTest {
    public static void main(String[] args) {
        getS();
        getMInI();
        getMInS();
        getMInM();
        stalledInSD();
        putS();
        putMOfTheOwner();
        putMOfAnother();
        dataWithoutSharers();
        everySetOfSharers();
        lastSharerLeaves();
        noSuchBlock();
        Script.finish();
    }

    private static void getS() {
        Script.run("GETS in I and S", 4, 1,
                "code 3 LOAD 1; code 0 LOAD 1; code 2 LOAD 1; step 3; home 1 = 0; deliver 0; home 1 = 257",
                "step 0; deliver 1 = 2; home 1 = 289; step 2; deliver 2 = 3; home 1 = 417; home 0 = 0; home 2 = 0",
                "message 0 receiver = 3; message 1 receiver = 0; message 2 receiver = 2; message 2 kind = DATA",
                "message 0 sender = HOME; message 0 number = 0; message 2 number = 0; message 2 requester = NONE");
        Script.run("GETS in M", 4, 1,
                "code 2 SET 6; code 2 STORE 3; step 2; step 2; settle; home 3 = 14; code 3 LOAD 3; step 3; deliver 0 = 1",
                "home 3 = 387; message 0 kind = FWDS; message 0 sender = HOME; message 0 receiver = 2",
                "message 0 requester = 3; message 0 word = 0; message 0 number = 0; message 0 block = 3; memory 3 = 0",
                "deliver 0 = 2; home 3 = 387; deliver 1 = 1; home 3 = 385; memory 3 = 6; deliver 0 = 0; accumulator 3 = 6");
    }

    private static void getMInI() {
        for (int core = 0; core < 4; core++) {
            Script.run("GETM in I", 4, 1,
                    "code " + core + " STORE 2; step " + core + "; deliver 0 = 1; home 2 = " + (2 + 4 * (core + 1)),
                    "message 0 kind = DATA; message 0 receiver = " + core + "; message 0 number = 0; message 0 word = 0");
        }
    }

    private static void getMInS() {
        String allRead = "code 3 LOAD 0; code 1 LOAD 0; code 0 LOAD 0; code 2 LOAD 0;"
                + "step 3; step 1; step 0; step 2; settle; home 0 = 481";
        Script.run("GETM in S, of a sharer", 4, 1, allRead,
                "code 2 SWAP 0; step 2; deliver 0 = 4; home 0 = 14; message 0 kind = DATA; message 0 receiver = 2",
                "message 0 number = 3; message 1 kind = INV; message 1 receiver = 0; message 1 requester = 2",
                "message 2 kind = INV; message 2 receiver = 1; message 2 requester = 2",
                "message 3 kind = INV; message 3 receiver = 3; message 3 requester = 2; sent = 13");
        Script.run("GETM in S, of another", 3, 1,
                "code 2 LOAD 0; code 1 LOAD 0; step 2; step 1; settle; home 0 = 193; code 0 STORE 0; step 0; deliver 0 = 3",
                "home 0 = 6; message 0 number = 2; message 1 receiver = 1; message 2 receiver = 2; message 2 requester = 0");
        Script.run("GETM in S, of the only sharer", 3, 1,
                "code 1 LOAD 0; code 1 STORE 0; step 1; settle; home 0 = 65; step 1; deliver 0 = 1; home 0 = 10",
                "message 0 kind = DATA; message 0 number = 0");
    }

    private static void getMInM() {
        Script.run("GETM in M", 3, 1,
                "code 0 SET 6; code 0 STORE 3; step 0; step 0; settle; code 1 SWAP 3; code 2 SWAP 3; step 1; step 2",
                "deliver 0 = 2; home 3 = 10; message 1 kind = FWDM; message 1 receiver = 0; message 1 requester = 1",
                "deliver 0 = 2; home 3 = 14; message 1 kind = FWDM; message 1 receiver = 1; message 1 requester = 2",
                "deliver 1 = STALLED; deliver 0 = 2; line 0 3 = I; settle; accumulator 1 = 6; accumulator 2 = 0",
                "line 1 3 = I; line 2 3 = M; memory 3 = 0; home 3 = 14");
    }

    private static void stalledInSD() {
        Script.run("GETS and GETM in SD", 4, 1,
                "code 0 SET 6; code 0 STORE 3; step 0; step 0; settle; code 1 LOAD 3; code 2 LOAD 3; code 3 STORE 3",
                "step 1; step 2; step 3; deliver 0 = 3; home 3 = 99; deliver 0 = STALLED; deliver 1 = STALLED",
                "deliver 2 = 4; home 3 = 99; deliver 0 = STALLED; deliver 1 = STALLED; messages = 4; sent = 8",
                "deliver 3 = 3; home 3 = 97; deliver 0 = 3; home 3 = 225; deliver 0 = 6; home 3 = 18; memory 3 = 6");
    }

    private static void putS() {
        Script.run("PUTS in S", 2, 1,
                "code 0 LOAD 0; code 0 LOAD 1; code 1 LOAD 0; code 1 LOAD 1; step 0; settle; step 1; settle; home 0 = 97",
                "step 0 = 3; message 0 kind = PUTS; message 0 word = 0; home 0 = 97; deliver 0 = 1; home 0 = 65",
                "message 0 kind = PUTACK; message 0 sender = HOME; message 0 receiver = 0; step 1 = 3; deliver 1 = 2",
                "home 0 = 0; message 1 kind = PUTACK; message 1 receiver = 1");
        Script.run("PUTS in M", 2, 1,
                "code 0 LOAD 0; code 0 LOAD 1; code 1 STORE 0; step 0; settle; step 0 = 3; step 1; deliver 1 = 3",
                "home 0 = 10; deliver 0 = 3; home 0 = 10; message 2 kind = PUTACK; message 1 kind = INV",
                "deliver 2 = BEHIND; deliver 1 = 3; deliver 1 = 2; line 0 0 = I; settle; line 1 0 = M");
        Script.run("PUTS in SD", 3, 1,
                "code 0 STORE 0; step 0; settle; code 1 LOAD 0; code 1 LOAD 1; step 1; deliver 0; deliver 0 = 2",
                "deliver 0 = 1; line 1 0 = S; step 1 = 3; deliver 1 = 2; home 0 = 35; message 1 kind = PUTACK",
                "deliver 0 = 1; home 0 = 33");
    }

    private static void putMOfTheOwner() {
        Script.run("PUTM of the owner", 2, 1,
                "code 0 SET -6; code 0 STORE 3; code 0 LOAD 1; step 0; step 0; settle; home 3 = 6; memory 3 = 0; step 0 = 3",
                "home 3 = 6; deliver 0 = 1; home 3 = 0; memory 3 = -6; memory 2 = 0; message 0 kind = PUTACK",
                "settle; step 0 = 2; settle; code 0 LOAD 3; step 0 = 3; settle; step 0 = 2; settle; accumulator 0 = -6");
    }

    private static void putMOfAnother() {
        String putting = "code 0 SET 5; code 0 STORE 0; code 0 LOAD 1; step 0; step 0; settle; step 0 = 3;"
                + "message 0 kind = PUTM; message 0 word = 5";
        Script.run("PUTM of a sharer in S", 2, 1, putting,
                "code 1 LOAD 0; step 1; deliver 1; deliver 1 = 3; deliver 2 = 2; home 0 = 97; memory 0 = 5",
                "deliver 0 = 2; home 0 = 65; message 1 kind = PUTACK; message 1 receiver = 0; settle; accumulator 1 = 5");
        Script.run("PUTM of the last sharer in S", 2, 1, putting,
                "code 1 LOAD 0; code 1 LOAD 1; step 1; deliver 1; deliver 1 = 3; deliver 1 = 2; deliver 1 = 1; step 1 = 3",
                "deliver 1 = 2; home 0 = 33; deliver 0 = 2; home 0 = 0; memory 0 = 5");
        Script.run("PUTM in M of another owner", 2, 1, putting,
                "code 1 SET 9; code 1 STORE 0; step 1; step 1; deliver 1; deliver 1 = 2; deliver 0 = 2; home 0 = 10",
                "memory 0 = 0; message 1 kind = PUTACK; message 1 receiver = 0");
        Script.run("PUTM in I comes too late", 2, 1, putting,
                "code 1 SET 9; code 1 STORE 0; code 1 LOAD 1; step 1; step 1; deliver 1; deliver 1; deliver 1 = 1",
                "step 1 = 3; deliver 1 = 2; deliver 1 = 1; home 0 = 0; memory 0 = 9; line 0 0 = II; deliver 0 = 1",
                "home 0 = 0; memory 0 = 9; deliver 0 = 0; line 0 0 = I; place 0 = 2");
    }

    private static void dataWithoutSharers() {
        Script.run("DATA at the home without sharers", 2, 1,
                "code 0 SET 5; code 0 STORE 0; code 0 LOAD 1; step 0; step 0; settle; step 0 = 3",
                "code 1 LOAD 0; code 1 LOAD 1; step 1; deliver 1; home 0 = 99; deliver 1 = 3; deliver 0 = 3; home 0 = 67",
                "deliver 2 = 2; deliver 0 = 1; line 1 0 = S; step 1 = 3; deliver 1 = 2; home 0 = 3; memory 0 = 0",
                "message 0 kind = DATA; deliver 0 = 1; home 0 = 0; memory 0 = 5; settle; line 1 0 = I; messages = 0");
    }

    private static void everySetOfSharers() {
        for (int set = 1; set < 16; set++) {
            StringBuilder reads = new StringBuilder();
            for (int c = 0; c < 4; c++) {
                if ((set >> c & 1) != 0) {
                    reads.append("code " + c + " LOAD 3; step " + c + "; settle;");
                }
            }
            Script.run("the sharers " + set, 4, 1, reads.toString(), "home 3 = " + (1 + 32 * set) + "; home 0 = 0; home 2 = 0");
        }
    }

    private static void lastSharerLeaves() {
        for (int last = 0; last < 4; last++) {
            StringBuilder rows = new StringBuilder();
            for (int c = 0; c < 4; c++) {
                rows.append("code " + c + " LOAD 0; code " + c + " LOAD 1; step " + c + "; settle;");
            }
            int sharers = 15;
            for (int k = 1; k <= 4; k++) {
                int c = (last + k) % 4;
                sharers -= 1 << c;
                rows.append("step " + c + " = 3; deliver 0 = 1; deliver 0 = 0;");
                rows.append("home 0 = " + (sharers == 0 ? 0 : 1 + 32 * sharers) + ";");
            }
            Script.run("a directory is I when the last sharer has left", 4, 1, rows.toString(),
                    "step 0 = 2; deliver 0 = 1; home 1 = 33; code 1 STORE 0; go 1 2; step 1 = 2; deliver 1 = 2; home 0 = 10",
                    "message 1 kind = DATA; message 1 number = 0");
        }
    }

    private static void noSuchBlock() {
        StringBuilder rows = new StringBuilder();
        for (int b = 0; b < 4; b++) {
            rows.append("code 0 STORE " + b + ";" + (b == 0 ? "" : "step 0 = 3; settle;") + "step 0 = 2; settle;");
        }
        for (int no : Edges.noBlocks()) {
            Script.run("no such block", 2, 1, "code 0 SET 6; step 0", rows.toString(),
                    "memory " + no + " = 0; home " + no + " = NONE; memory 0 = 6; memory 2 = 6; memory 3 = 0; home 3 = 6; home 0 = 0");
        }
        Script.run("the first and the last block", 4, 1,
                "code 0 SET LOWEST; code 0 STORE 0; code 3 SET HIGHEST; code 3 STORE 3; step 0; step 0; step 3; step 3; settle",
                "home 0 = 6; home 3 = 18; code 1 LOAD 0; code 2 LOAD 3; step 1; step 2; settle; home 0 = 97; home 3 = 385",
                "memory 0 = LOWEST; memory 3 = HIGHEST; memory 1 = 0; memory 2 = 0; home 1 = 0; home 2 = 0");
    }
}
