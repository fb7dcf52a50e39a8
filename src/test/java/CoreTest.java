/** Promises 4, 5, 8, 9 and 15: every row of what happens at a core, with its lines and their words. */
public final class CoreTest {
    /** Cores 0 and 1 share the word 7 of block 0. */
    private static final String SHARED_SEVEN = "code 1 SET 7; code 1 STORE 0; step 1; step 1; settle;"
            + "code 0 LOAD 0; step 0; settle; line 0 0 = S; line 1 0 = S; memory 0 = 7; home 0 = 97";
    /** Core 0, with one line, has begun to put back block 0 with the word 5. */
    private static final String PUTTING_BACK_FIVE = "code 0 SET 5; code 0 STORE 0; code 0 LOAD 1; step 0; step 0;"
            + "settle; step 0 = 3; line 0 0 = MI; word 0 0 = 5; place 0 = 66";

    public static void main(String[] args) {
        dataWhereRead();
        dataWhereWritten();
        acksAroundDataInIM();
        acksAroundDataInSM();
        invalidation();
        forwardsStalled();
        forwardsInMI();
        putAck();
        onlyAnAccessThatIsWaitedFor();
        Script.finish();
    }

    private static void dataWhereRead() {
        Script.run("DATA in IS", 3, 1, SHARED_SEVEN,
                "code 2 LOAD 0; step 2 = 2; line 2 0 = IS; word 2 0 = 0; place 2 = 32; deliver 0 = 1; line 2 0 = IS",
                "performed = 2; accumulator 2 = 0; deliver 0 = 0; line 2 0 = S; word 2 0 = 7; accumulator 2 = 7",
                "place 2 = 1; performed = 3; line 2 1 = I; word 2 1 = 0");
    }

    private static void dataWhereWritten() {
        Script.run("DATA in IM, for a STORE", 2, 1,
                "code 0 SET 3; code 0 STORE 2; step 0; step 0 = 2; line 0 2 = IM; word 0 2 = 0; place 0 = 33",
                "deliver 0 = 1; line 0 2 = IM; deliver 0 = 0; line 0 2 = M; word 0 2 = 3; accumulator 0 = 3",
                "place 0 = 2; performed = 1; memory 2 = 0");
        Script.run("DATA in IM, for a SWAP", 3, 1, SHARED_SEVEN,
                "code 2 SET 4; code 2 SWAP 0; step 2; step 2 = 2; line 2 0 = IM; settle; line 2 0 = M",
                "word 2 0 = 4; accumulator 2 = 7; place 2 = 2; performed = 3; line 0 0 = I; line 1 0 = I; memory 0 = 7");
        Script.run("DATA in SM, nothing missing", 2, 1,
                "code 0 LOAD 0; code 0 SET 4; code 0 STORE 0; step 0; settle; step 0; step 0 = 2; line 0 0 = SM",
                "place 0 = 34; deliver 0 = 1; message 0 number = 0; line 0 0 = SM; deliver 0 = 0; line 0 0 = M",
                "word 0 0 = 4; place 0 = 3; performed = 2");
    }

    private static void acksAroundDataInIM() {
        String threeSharers = "code 0 LOAD 0; code 1 LOAD 0; code 2 LOAD 0; step 0; step 1; step 2; settle; home 0 = 225;"
                + "code 3 SET 5; code 3 STORE 0; step 3; step 3 = 2; deliver 0 = 4; message 0 number = 3";
        Script.run("IM, an ACK before DATA and two after", 4, 1, threeSharers,
                "deliver 1 = 4; line 0 0 = I; word 0 0 = 0; message 3 kind = ACK; message 3 receiver = 3; deliver 3 = 3",
                "line 3 0 = IM; deliver 0 = 2; line 3 0 = IMA; word 3 0 = 0; place 3 = 33; performed = 3",
                "deliver 0 = 2; deliver 1 = 1; line 3 0 = IMA; deliver 0 = 1; deliver 0 = 0; line 3 0 = M",
                "word 3 0 = 5; place 3 = 2; performed = 4");
        Script.run("IM, all ACKs before DATA", 4, 1, threeSharers,
                "deliver 1; deliver 1; deliver 1 = 4; deliver 1 = 3; deliver 1 = 2; deliver 1 = 1; line 3 0 = IM",
                "place 3 = 33; deliver 0 = 0; line 3 0 = M; word 3 0 = 5; place 3 = 2; performed = 4");
        Script.run("IM, DATA before all ACKs", 4, 1, threeSharers,
                "deliver 0 = 3; line 3 0 = IMA; deliver 0 = 3; deliver 0 = 3; deliver 0 = 3; deliver 0 = 2; deliver 0 = 1",
                "line 3 0 = IMA; performed = 3; deliver 0 = 0; line 3 0 = M; performed = 4");
    }

    private static void acksAroundDataInSM() {
        String upgrade = "code 0 SET 5; code 0 STORE 0; step 0; step 0 = 2; line 0 0 = SM; word 0 0 = 7";
        Script.run("SM, DATA before the ACK", 2, 1, SHARED_SEVEN, upgrade,
                "deliver 0 = 2; deliver 0 = 1; line 0 0 = SMA; word 0 0 = 7; place 0 = 34; deliver 0 = 1; line 1 0 = I",
                "deliver 0 = 0; line 0 0 = M; word 0 0 = 5; place 0 = 3; performed = 3; memory 0 = 7; home 0 = 6");
        Script.run("SM, the ACK before DATA", 2, 1, SHARED_SEVEN, upgrade,
                "deliver 0 = 2; deliver 1 = 2; deliver 1 = 1; line 0 0 = SM; word 0 0 = 7; deliver 0 = 0; line 0 0 = M",
                "word 0 0 = 5; performed = 3");
        Script.run("SM, an ACK before DATA and one after", 3, 1, SHARED_SEVEN,
                "code 2 LOAD 0; step 2; settle", upgrade,
                "deliver 0 = 3; message 0 number = 2; deliver 1 = 3; deliver 2 = 2; line 0 0 = SM; deliver 0 = 1",
                "line 0 0 = SMA; deliver 0 = 1; line 0 0 = SMA; deliver 0 = 0; line 0 0 = M; word 0 0 = 5");
        Script.run("the count begins anew", 2, 1, SHARED_SEVEN, upgrade, "settle; line 0 0 = M",
                "code 1 LOAD 0; step 1; settle; code 0 SWAP 0; step 0 = 2; line 0 0 = SM; deliver 0; deliver 0",
                "line 0 0 = SMA; settle; line 0 0 = M");
    }

    private static void invalidation() {
        Script.run("INV in IS", 2, 1,
                "code 0 LOAD 0; code 1 STORE 0; step 0; deliver 0; step 1; deliver 1 = 3; message 2 kind = INV",
                "deliver 2 = STALLED; messages = 3; line 0 0 = IS; deliver 0 = 2; line 0 0 = S; place 0 = 1",
                "deliver 1 = 2; line 0 0 = I; message 1 kind = ACK; message 1 sender = 0; message 1 receiver = 1",
                "settle; line 1 0 = M");
        Script.run("INV in SM", 2, 1, SHARED_SEVEN,
                "code 0 SWAP 0; code 1 STORE 0; step 1 = 2; step 0 = 2; deliver 0 = 3; message 2 kind = INV",
                "message 2 receiver = 0; word 0 0 = 7; deliver 2 = 3; line 0 0 = IM; word 0 0 = 0; place 0 = 33",
                "message 2 kind = ACK; message 2 receiver = 1; settle; line 0 0 = M; line 1 0 = I; place 0 = 2");
        Script.run("INV in SI", 2, 1, SHARED_SEVEN,
                "code 0 LOAD 1; step 0 = 3; line 0 0 = SI; word 0 0 = 7; code 1 SWAP 0; step 1 = 2; deliver 1 = 3",
                "deliver 2 = 3; line 0 0 = II; word 0 0 = 0; message 2 kind = ACK; message 2 receiver = 1; place 0 = 65",
                "deliver 0 = 3; home 0 = 10; deliver 2 = 2; line 0 0 = I; place 0 = 1; settle; line 1 0 = M");
    }

    private static void forwardsStalled() {
        String shared = "line 0 0 = S; word 0 0 = 5; message 0 kind = DATA; message 0 sender = 0; message 0 receiver = 1;"
                + "message 0 word = 5; message 0 number = 0; message 1 kind = DATA; message 1 sender = 0;"
                + "message 1 receiver = HOME; message 1 word = 5; message 1 number = 0; home 0 = 99; deliver 1 = 1;"
                + "home 0 = 97; memory 0 = 5; deliver 0 = 0; line 1 0 = S; accumulator 1 = 5";
        String handedOn = "line 0 0 = I; word 0 0 = 0; message 0 kind = DATA; message 0 sender = 0; message 0 receiver = 1;"
                + "message 0 word = 5; message 0 number = 0; home 0 = 10; deliver 0 = 0; line 1 0 = M; memory 0 = 0";
        for (boolean upgrade : new boolean[] {false, true}) {
            String first = upgrade ? "code 0 LOAD 0; step 0; settle" : "";
            String waiting = upgrade ? "SM" : "IM";
            for (String op : new String[] {"LOAD", "STORE", "SWAP"}) {
                boolean read = op.equals("LOAD");
                Script.run("a forward for " + op + " in " + waiting, 3, 1,
                        "code 2 LOAD 0; step 2; settle", first,
                        "code 0 SET 5; code 0 STORE 0; step 0; step 0 = 2; code 1 " + op + " 0; step 1 = 2",
                        "deliver 0 = 3; deliver 0 = 3; message 2 kind = " + (read ? "FWDS" : "FWDM"),
                        "message 2 receiver = 0; message 2 requester = 1; line 0 0 = " + waiting,
                        "deliver 2 = STALLED; deliver 0 = 2; line 0 0 = " + waiting + "A; deliver 1 = STALLED",
                        "deliver 0 = 2; deliver 0 = STALLED; deliver 1 = 1; line 0 0 = M; word 0 0 = 5",
                        "deliver 0 = " + (read ? 2 : 1), read ? shared : handedOn);
            }
        }
    }

    private static void forwardsInMI() {
        Script.run("FWDS in MI", 2, 1, PUTTING_BACK_FIVE,
                "code 1 LOAD 0; step 1; deliver 1 = 2; message 1 kind = FWDS; deliver 1 = 3; line 0 0 = SI; word 0 0 = 5",
                "message 1 receiver = 1; message 1 word = 5; message 2 receiver = HOME; message 2 word = 5; place 0 = 66",
                "deliver 0 = 3; home 0 = 67; memory 0 = 0; deliver 2 = 2; line 0 0 = I; place 0 = 2; settle",
                "line 1 0 = S; accumulator 1 = 5; memory 0 = 5; home 0 = 65");
        Script.run("FWDM in MI", 2, 1, PUTTING_BACK_FIVE,
                "code 1 SWAP 0; step 1; deliver 1 = 2; message 1 kind = FWDM; deliver 1 = 2; line 0 0 = II; word 0 0 = 0",
                "message 1 receiver = 1; message 1 word = 5; place 0 = 66; deliver 0 = 2; memory 0 = 0; home 0 = 10",
                "deliver 1 = 1; line 0 0 = I; place 0 = 2; deliver 0 = 0; line 1 0 = M; accumulator 1 = 5; word 1 0 = 0");
        Script.run("INV after FWDS in MI", 3, 1, PUTTING_BACK_FIVE,
                "code 1 LOAD 0; step 1; deliver 1; deliver 1 = 3; deliver 2 = 2; home 0 = 97; code 2 SWAP 0; step 2",
                "deliver 2 = 5; message 2 number = 2; message 3 kind = INV; message 3 receiver = 0; deliver 3 = 5",
                "line 0 0 = II; settle; line 0 0 = I; line 1 0 = I; line 2 0 = M; accumulator 2 = 5; accumulator 1 = 5");
    }

    private static void putAck() {
        Script.run("PUTACK in MI", 2, 1, PUTTING_BACK_FIVE,
                "deliver 0 = 1; message 0 kind = PUTACK; line 0 0 = MI; word 0 0 = 5; memory 0 = 5; home 0 = 0",
                "place 0 = 66; deliver 0 = 0; line 0 0 = I; word 0 0 = 0; place 0 = 2; performed = 1; step 0 = 2");
        Script.run("PUTACK in SI", 2, 1, SHARED_SEVEN,
                "code 0 LOAD 1; step 0 = 3; message 0 kind = PUTS; line 0 0 = SI; deliver 0 = 1; home 0 = 65; place 0 = 65",
                "deliver 0 = 0; line 0 0 = I; place 0 = 1; step 0 = 2; line 0 1 = IS; place 0 = 33");
    }

    private static void onlyAnAccessThatIsWaitedFor() {
        Script.run("a core that does not wait performs nothing when a message comes in", 2, 1,
                "code 0 STORE 0; code 0 LOAD 0; code 0 LOAD 0; code 1 LOAD 0; step 0; settle; step 1; deliver 0 = 1",
                "performed = 1; deliver 0 = 2; line 0 0 = S; performed = 1; place 0 = 1; settle; performed = 2; place 0 = 1");
        Script.run("a core that waits for another block performs nothing", 2, 2,
                "code 0 SET 5; code 0 STORE 0; code 0 LOAD 1; step 0; step 0; settle; step 0 = 2; code 1 LOAD 0; step 1",
                "deliver 1 = 2; message 1 kind = FWDS; deliver 1 = 3; line 0 0 = S; line 0 1 = IS; performed = 1; place 0 = 34",
                "accumulator 0 = 5; settle; performed = 3; accumulator 0 = 0; accumulator 1 = 5");
        Script.run("a core that waits for a replacement performs nothing", 2, 1, PUTTING_BACK_FIVE,
                "performed = 1; settle; performed = 1; line 0 1 = I; place 0 = 2; accumulator 0 = 5");
    }
}
