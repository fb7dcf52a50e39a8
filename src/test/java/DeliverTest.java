/**
 * Promise 5 where a message is refused: no such message, BEHIND and STALLED. What a message does
 * when it is delivered is in CoreTest and HomeTest.
 */
public final class DeliverTest {
    /** Core 0, with one line, puts back block 0 with the word 5. */
    private static final String PUTTING_BACK = "code 0 SET 5; code 0 STORE 0; code 0 LOAD 1; step 0; step 0; settle; step 0 = 3;";

    public static void main(String[] args) {
        noSuchMessage();
        howManyAreLeft();
        behindAForward();
        notBehindForAnotherBlockOrReceiver();
        notBehindWhatIsNoForward();
        noForwardsComeInAnyOrder();
        stalledInIS();
        stalledInSD();
        notStalledInSD();
        behindBeforeStalled();
        Script.finish();
    }

    private static void noSuchMessage() {
        for (String no : new String[] {"LOWEST", "-3", "-1", "0", "1", "31", "32", "HIGHEST"}) {
            Script.run("no message in an empty network", 2, 1, "deliver " + no + " = NONE");
        }
        for (String no : new String[] {"LOWEST", "-1", "1", "2", "32", "HIGHEST"}) {
            Script.run("no such message beside one", 2, 1,
                    "code 0 LOAD 3; step 0; deliver " + no + " = NONE; messages = 1; deliver 0 = 1; deliver 0 = 0; deliver 0 = NONE");
        }
        Script.run("the first message and the last one", 4, 1,
                "code 0 LOAD 0; code 1 LOAD 1; code 2 LOAD 2; step 0; step 1; step 2; deliver 3 = NONE; deliver -1 = NONE",
                "deliver 2 = 3; line 2 2 = IS; deliver 0 = 3; deliver 3 = NONE; deliver 2 = 2; line 0 0 = S; deliver 2 = NONE");
    }

    private static void howManyAreLeft() {
        Script.run("how many are left", 4, 1,
                "code 0 LOAD 0; code 1 LOAD 0; code 2 LOAD 0; code 3 STORE 0; step 0; step 1; step 2; settle; step 3",
                "deliver 0 = 4; deliver 1 = 4; deliver 0 = 3; deliver 2 = 2; deliver 0 = 2; deliver 0 = 2; deliver 0 = 1; deliver 0 = 0");
    }

    private static void behindAForward() {
        Script.run("PUTACK behind FWDM", 2, 1, PUTTING_BACK, "code 1 SWAP 0; step 1; deliver 1; deliver 0 = 2",
                "message 0 kind = FWDM; message 1 kind = PUTACK; message 0 receiver = 0; message 1 receiver = 0",
                "deliver 1 = BEHIND; deliver 1 = BEHIND; messages = 2; place 0 = 66; line 0 0 = MI; sent = 6",
                "deliver 0 = 2; line 0 0 = II; deliver 0 = 1; line 0 0 = I; place 0 = 2");
        Script.run("PUTACK behind FWDS", 2, 1, PUTTING_BACK, "code 1 LOAD 0; step 1; deliver 1; deliver 0 = 2",
                "message 0 kind = FWDS; message 1 kind = PUTACK; deliver 1 = BEHIND; messages = 2; line 0 0 = MI; sent = 6",
                "deliver 0 = 3; line 0 0 = SI; deliver 0 = 2; line 0 0 = I");
        Script.run("PUTACK behind INV", 2, 1,
                "code 0 LOAD 0; code 0 LOAD 1; step 0; settle; step 0 = 3; code 1 STORE 0; step 1; deliver 1 = 3; deliver 0 = 3",
                "message 1 kind = INV; message 2 kind = PUTACK; deliver 2 = BEHIND; line 0 0 = SI; place 0 = 65",
                "deliver 1 = 3; line 0 0 = II; message 1 kind = PUTACK; deliver 1 = 2; line 0 0 = I; place 0 = 1");
        Script.run("a forward that is behind keeps its number", 3, 1, PUTTING_BACK, "code 1 SWAP 0; step 1; deliver 1; deliver 0 = 2",
                "code 2 LOAD 3; step 2; messages = 3; message 1 kind = PUTACK; deliver 1 = BEHIND; message 1 kind = PUTACK",
                "message 2 kind = GETS; deliver 2 = 3; deliver 1 = BEHIND; deliver 0 = 3; message 0 kind = PUTACK; deliver 0 = 2");
        for (String op : new String[] {"LOAD", "SWAP"}) {
            Script.run("a forward for " + op + " behind INV", 3, 1,
                    "code 0 LOAD 0; code 0 STORE 0; code 1 STORE 0; code 2 " + op + " 0; step 0; settle; step 1; step 0; step 2",
                    "deliver 0; deliver 0; deliver 0 = 4; message 1 kind = INV; message 1 receiver = 0; message 3 receiver = 0",
                    "message 3 kind = " + (op.equals("LOAD") ? "FWDS" : "FWDM"),
                    "deliver 3 = BEHIND; line 0 0 = SM; deliver 1 = 4; line 0 0 = IM; deliver 2 = STALLED; settle; messages = 0");
        }
    }

    private static void notBehindForAnotherBlockOrReceiver() {
        Script.run("forwards to other receivers", 4, 1,
                "code 0 LOAD 0; code 1 LOAD 0; code 2 LOAD 0; code 3 STORE 0; step 0; step 1; step 2; settle",
                "step 3; deliver 0 = 4; message 3 kind = INV; deliver 3 = 4; deliver 2 = 4; line 1 0 = I; line 2 0 = I; line 0 0 = S");
        Script.run("a forward for another block", 2, 2,
                "code 0 STORE 0; code 0 LOAD 1; code 0 LOAD 0; code 0 LOAD 2; step 0; settle; step 0; settle; step 0 = 1",
                "code 1 LOAD 0; step 1; deliver 0 = 1; message 0 kind = FWDS; message 0 receiver = 0; step 0 = 3",
                "deliver 1 = 2; message 1 kind = PUTACK; message 1 receiver = 0; message 1 block = 1; deliver 1 = 1",
                "line 0 1 = I; line 0 0 = M; place 0 = 3");
    }

    private static void notBehindWhatIsNoForward() {
        Script.run("a forward behind a DATA is stalled, not behind", 3, 1,
                "code 0 STORE 0; code 1 STORE 0; step 0; step 1; deliver 0; deliver 0; message 0 kind = DATA",
                "message 0 receiver = 0; message 1 kind = FWDM; message 1 receiver = 0; deliver 1 = STALLED",
                "deliver 0 = 1; deliver 0 = 1; line 0 0 = I");
        Script.run("a forward behind an ACK is stalled, not behind", 3, 1,
                "code 2 LOAD 0; step 2; settle; code 0 STORE 0; step 0; deliver 0; deliver 0; deliver 0 = 1; message 0 kind = ACK",
                "message 0 receiver = 0; code 1 LOAD 0; step 1; deliver 1 = 2; message 1 kind = FWDS; message 1 receiver = 0",
                "deliver 1 = STALLED; deliver 0 = 1; line 0 0 = M; deliver 0 = 2; line 0 0 = S");
    }

    private static void noForwardsComeInAnyOrder() {
        Script.run("GETS and GETM in any order", 3, 1,
                "code 0 LOAD 0; code 1 STORE 0; code 2 LOAD 0; step 0; step 1; step 2; deliver 2 = 3; home 0 = 129",
                "deliver 1 = 4; home 0 = 10; deliver 0 = 4; home 0 = 99");
        Script.run("PUTS and PUTM in any order", 2, 1,
                "code 0 SET 5; code 0 STORE 0; code 0 LOAD 1; code 1 LOAD 0; code 1 LOAD 1; step 0; step 0; settle; step 0 = 3",
                "step 1; deliver 1; deliver 1; deliver 1; deliver 1 = 1; step 1 = 3; message 0 kind = PUTM; message 1 kind = PUTS",
                "deliver 1 = 2; deliver 0 = 2; home 0 = 0; memory 0 = 5");
        Script.run("ACKs and DATA in any order", 3, 1,
                "code 1 LOAD 0; code 2 LOAD 0; step 1; step 2; settle; code 0 STORE 0; step 0; deliver 0; deliver 1; deliver 1 = 3",
                "message 1 kind = ACK; message 2 kind = ACK; message 2 sender = 2; deliver 2 = 2; line 0 0 = IM; deliver 0 = 1",
                "line 0 0 = IMA; deliver 0 = 0; line 0 0 = M");
    }

    private static void stalledInIS() {
        Script.run("INV as long as the line is IS", 2, 1,
                "code 0 LOAD 0; code 1 STORE 0; step 0; deliver 0; step 1; deliver 1 = 3; message 2 kind = INV; message 2 receiver = 0",
                "deliver 2 = STALLED; deliver 2 = STALLED; deliver 1 = 2; deliver 1 = STALLED; messages = 2; sent = 5",
                "line 0 0 = IS; deliver 0 = 1; line 0 0 = S; deliver 0 = 1; line 0 0 = I; deliver 0 = 0; line 1 0 = M");
    }

    private static void stalledInSD() {
        for (String op : new String[] {"LOAD", "STORE", "SWAP"}) {
            Script.run(op + " as long as the block is SD", 3, 1,
                    "code 2 STORE 1; step 2; settle; code 0 LOAD 1; step 0; code 1 " + op + " 1; step 1",
                    "deliver 0 = 2; home 1 = 163; deliver 0 = STALLED; deliver 1 = 3; deliver 0 = STALLED; deliver 1 = 2",
                    "line 0 1 = S; home 1 = 163; deliver 0 = STALLED; message 1 receiver = HOME; deliver 1 = 1; home 1 = 161",
                    "deliver 0 = " + (op.equals("LOAD") ? 1 : 3));
        }
    }

    private static void notStalledInSD() {
        Script.run("GETS and GETM of another block than the one in SD", 4, 1,
                "code 0 STORE 0; step 0; settle; code 1 LOAD 0; code 2 LOAD 1; code 3 STORE 2; step 1; step 2; step 3",
                "deliver 0 = 3; home 0 = 99; deliver 0 = 3; home 1 = 129; deliver 0 = 3; home 2 = 18; home 0 = 99");
        Script.run("PUTS in SD", 2, 1,
                "code 0 STORE 0; code 1 LOAD 0; code 1 LOAD 1; step 0; settle; step 1; deliver 0; deliver 0; deliver 0 = 1",
                "step 1 = 3; home 0 = 99; deliver 1 = 2; home 0 = 35; message 1 kind = PUTACK; deliver 1 = 1; line 1 0 = I");
        Script.run("PUTM in SD", 2, 1, PUTTING_BACK,
                "code 1 LOAD 0; step 1; deliver 1 = 2; home 0 = 99; deliver 0 = 2; home 0 = 67; memory 0 = 0");
    }

    private static void behindBeforeStalled() {
        Script.run("BEHIND is named before STALLED", 3, 1,
                "code 0 LOAD 0; code 0 STORE 0; code 1 STORE 0; code 2 STORE 0; step 0; settle; step 1; step 0; step 2",
                "deliver 0 = 4; deliver 0 = 4; deliver 0 = 4; message 1 kind = INV; message 1 receiver = 0",
                "message 2 kind = FWDM; message 2 receiver = 1; message 3 kind = FWDM; message 3 receiver = 0",
                "line 0 0 = SM; deliver 3 = BEHIND; deliver 2 = STALLED; deliver 1 = 4; line 0 0 = IM; deliver 2 = STALLED",
                "deliver 3 = 3; line 1 0 = IM; deliver 0 = 2; line 1 0 = M; deliver 1 = STALLED; deliver 0 = 2",
                "deliver 0 = STALLED; deliver 1 = 1; line 0 0 = M; deliver 0 = 1; deliver 0 = 0; line 2 0 = M; home 0 = 14");
    }
}
