/** Promises 5, 6, 7 and 14: deliver, messages, message and sent. */
public final class NetworkTest {
    public static void main(String[] args) {
        numbers();
        parts();
        wrongQuestions();
        behind();
        forwardsOfOtherWays();
        stalledStays();
        behindBeforeStalled();
        Script.finish();
    }

    private static void numbers() {
        Script.run("numbers follow the order of sending", 4, 1,
                "code 0 LOAD 0; code 1 LOAD 1; code 2 LOAD 2; code 3 LOAD 3; messages = 0; sent = 0",
                "step 2; step 0; step 3; step 1; messages = 4; sent = 4",
                "message 0 sender = 2; message 1 sender = 0; message 2 sender = 3; message 3 sender = 1",
                "deliver 1 = 4; sent = 5; message 0 sender = 2; message 1 sender = 3; message 2 sender = 1",
                "message 3 kind = DATA; message 3 receiver = 0; deliver 3 = 3; messages = 3; sent = 5",
                "deliver 2 = 3; message 2 receiver = 1; deliver 0 = 3; message 0 sender = 3",
                "message 1 receiver = 1; message 2 receiver = 2; deliver 1 = 2; deliver 1 = 1; deliver 1 = NONE",
                "deliver 0 = 1; deliver 0 = 0; deliver 0 = NONE; messages = 0; sent = 8");
    }

    private static void parts() {
        Script.run("the parts of a message", 3, 1,
                "code 1 SET 9; code 1 STORE 2; code 1 LOAD 3; code 0 LOAD 2; code 2 SWAP 2; step 1; step 1",
                "message 0 kind = GETM; message 0 sender = 1; message 0 receiver = HOME; message 0 block = 2",
                "message 0 word = 0; message 0 number = 0; message 0 requester = NONE; settle; step 1 = 3",
                "message 0 kind = PUTM; message 0 sender = 1; message 0 receiver = HOME; message 0 block = 2",
                "message 0 word = 9; message 0 number = 0; message 0 requester = NONE; deliver 0 = 1",
                "message 0 kind = PUTACK; message 0 sender = HOME; message 0 receiver = 1; message 0 block = 2",
                "message 0 word = 0; message 0 number = 0; message 0 requester = NONE; settle; step 0 = 2",
                "message 0 kind = GETS; message 0 sender = 0; message 0 receiver = HOME; message 0 block = 2",
                "message 0 word = 0; message 0 number = 0; message 0 requester = NONE; settle; step 2 = 2; deliver 0 = 2",
                "message 0 kind = DATA; message 0 sender = HOME; message 0 receiver = 2; message 0 block = 2",
                "message 0 word = 9; message 0 number = 1; message 0 requester = NONE",
                "message 1 kind = INV; message 1 sender = HOME; message 1 receiver = 0; message 1 block = 2",
                "message 1 word = 0; message 1 number = 0; message 1 requester = 2; deliver 1 = 2",
                "message 1 kind = ACK; message 1 sender = 0; message 1 receiver = 2; message 1 block = 2",
                "message 1 word = 0; message 1 number = 0; message 1 requester = NONE");
    }

    private static void wrongQuestions() {
        Script.run("wrong questions", 2, 1,
                "code 0 LOAD 3; step 0",
                "message 0 -1 = NONE; message 0 7 = NONE; message 0 LOWEST = NONE; message 0 HIGHEST = NONE",
                "message -1 kind = NONE; message 1 kind = NONE; message 1 word = NONE; message HIGHEST block = NONE",
                "deliver -1 = NONE; deliver 1 = NONE; deliver LOWEST = NONE; deliver HIGHEST = NONE; messages = 1");
    }

    private static void behind() {
        Script.run("a PUTACK behind a FWDM", 2, 1,
                "code 0 SET 5; code 0 STORE 0; code 0 LOAD 1; code 1 SWAP 0; step 0; step 0; settle; step 0 = 3",
                "step 1 = 2; deliver 1 = 2; deliver 0 = 2; message 0 kind = FWDM; message 1 kind = PUTACK",
                "message 0 receiver = 0; message 1 receiver = 0; deliver 1 = BEHIND; messages = 2; place 0 = 66",
                "line 0 0 = MI; sent = 6; deliver 0 = 2; deliver 0 = 1; line 0 0 = I; place 0 = 2");
        Script.run("a PUTACK behind a FWDS", 2, 1,
                "code 0 SET 5; code 0 STORE 0; code 0 LOAD 1; code 1 LOAD 0; step 0; step 0; settle; step 0 = 3",
                "step 1 = 2; deliver 1 = 2; deliver 0 = 2; message 0 kind = FWDS; message 1 kind = PUTACK",
                "deliver 1 = BEHIND; messages = 2; line 0 0 = MI; sent = 6; deliver 0 = 3; deliver 0 = 2; line 0 0 = I");
    }

    private static void forwardsOfOtherWays() {
        Script.run("forwards to other receivers", 4, 1,
                "code 0 LOAD 0; code 1 LOAD 0; code 2 LOAD 0; code 3 STORE 0; step 0; step 1; step 2; settle",
                "step 3; deliver 0 = 4; message 3 kind = INV; deliver 3 = 4; deliver 2 = 4; line 1 0 = I; line 2 0 = I");
        Script.run("a PUTACK past a forward for another block", 2, 2,
                "code 0 STORE 0; code 0 LOAD 1; code 0 LOAD 0; code 0 LOAD 2; step 0; settle; step 0; settle; step 0 = 1",
                "code 1 LOAD 0; step 1; deliver 0 = 1; message 0 kind = FWDS; message 0 receiver = 0; step 0 = 3",
                "deliver 1 = 2; message 1 kind = PUTACK; message 1 receiver = 0; message 1 block = 1; deliver 1 = 1",
                "line 0 1 = I; line 0 0 = M; place 0 = 3");
        Script.run("a DATA past a forward", 3, 1,
                "code 0 STORE 0; code 1 STORE 0; step 0; step 1; deliver 0; deliver 0; message 0 kind = DATA",
                "message 1 kind = FWDM; message 1 receiver = 0; deliver 1 = STALLED; deliver 0 = 1; deliver 0 = 1");
    }

    private static void stalledStays() {
        Script.run("a stalled message stays", 3, 1,
                "code 0 STORE 1; code 1 LOAD 1; code 2 LOAD 1; step 0; settle; step 1; step 2; deliver 0 = 2",
                "home 1 = 99; message 0 kind = GETS; message 0 sender = 2; deliver 0 = STALLED; deliver 0 = STALLED",
                "messages = 2; sent = 5; message 0 kind = GETS; message 1 kind = FWDS; home 1 = 99",
                "deliver 1 = 3; deliver 2 = 2; deliver 0 = 2; home 1 = 225");
    }

    private static void behindBeforeStalled() {
        Script.run("behind is named before stalled", 3, 1,
                "code 0 LOAD 0; code 0 STORE 0; code 1 STORE 0; code 2 STORE 0; step 0; settle; step 1; step 0; step 2",
                "deliver 0 = 4; deliver 0 = 4; deliver 0 = 4; message 1 kind = INV; message 1 receiver = 0",
                "message 2 kind = FWDM; message 2 receiver = 1; message 3 kind = FWDM; message 3 receiver = 0",
                "line 0 0 = SM; deliver 3 = BEHIND; deliver 2 = STALLED; deliver 1 = 4; line 0 0 = IM; deliver 2 = STALLED",
                "deliver 3 = 3; line 1 0 = IM; deliver 0 = 2; line 1 0 = M; deliver 1 = STALLED; deliver 0 = 2",
                "deliver 0 = STALLED; deliver 1 = 1; line 0 0 = M; deliver 0 = 1; deliver 0 = 0; line 2 0 = M; home 0 = 14");
    }
}
