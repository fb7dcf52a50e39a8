/** Promises 2, 3, 4, 12 and 13: code, go, step, accumulator and place. */
public final class InstructionsTest {
    public static void main(String[] args) {
        code();
        fullList();
        codeOfAWaitingCore();
        go();
        goOfAWaitingCore();
        arithmetic();
        jump();
        accesses();
        stepRefusals();
        Script.finish();
    }

    private static void code() {
        for (String op : new String[] {"LOAD", "STORE", "SWAP"}) {
            Script.run("code of an access", 2, 1,
                    "code 0 " + op + " -1 = false; code 0 " + op + " 4 = false",
                    "code 0 " + op + " LOWEST = false; code 0 " + op + " HIGHEST = false; step 0 = 4",
                    "code 0 " + op + " 0 = true; code 0 " + op + " 3 = true; step 0 = 2; step 1 = 4");
        }
        Script.run("code of a jump", 2, 1,
                "code 1 JUMP -1 = false; code 1 JUMP 16 = false; code 1 JUMP HIGHEST = false; step 1 = 4",
                "code 1 JUMP 0 = true; code 1 JUMP 15 = true; step 1 = 1; step 1 = 1; step 1 = 4; place 1 = 2");
        Script.run("code of a number", 2, 1,
                "code 1 SET HIGHEST = true; code 1 ADD LOWEST = true; code 1 SET -7 = true",
                "step 1 = 1; accumulator 1 = HIGHEST; step 1 = 1; accumulator 1 = -1; step 1 = 1; accumulator 1 = -7");
        Script.run("no such instruction", 2, 1,
                "code 0 -1 0 = false; code 0 6 0 = false; code 0 LOWEST 0 = false; code 0 HIGHEST 0 = false",
                "step 0 = 4");
    }

    private static void fullList() {
        String[] rows = new String[16];
        for (int k = 0; k < 16; k++) {
            rows[k] = "code 0 ADD " + (k + 1) + " = true";
        }
        Script.run("sixteen instructions", 2, 1, String.join(";", rows),
                "code 0 ADD 1 = false; code 0 LOAD 0 = false; code 1 ADD 5 = true",
                "step 0; step 0; step 0; step 0; step 0; step 0; step 0; step 0",
                "step 0; step 0; step 0; step 0; step 0; step 0; step 0; step 0 = 1",
                "place 0 = 16; accumulator 0 = 136; step 0 = 4; place 0 = 16; accumulator 1 = 0",
                "go 0 15 = true; step 0 = 1; accumulator 0 = 152; place 0 = 16");
    }

    private static void codeOfAWaitingCore() {
        Script.run("code of a waiting core", 2, 1,
                "code 0 LOAD 0; step 0 = 2; code 0 SET 3 = true; step 0 = 0; settle; step 0 = 1; accumulator 0 = 3");
    }

    private static void go() {
        Script.run("go", 2, 1,
                "code 0 SET 1; code 0 SET 2; code 0 SET 3",
                "go 0 2 = true; place 0 = 2; place 1 = 0; step 0 = 1; accumulator 0 = 3",
                "go 0 -1 = false; go 0 17 = false; go 0 LOWEST = false; go 0 HIGHEST = false; place 0 = 3",
                "go 0 16 = true; place 0 = 16; step 0 = 4; go 0 9 = true; place 0 = 9; step 0 = 4",
                "go 0 0 = true; place 0 = 0; step 0 = 1; accumulator 0 = 1");
    }

    private static void goOfAWaitingCore() {
        Script.run("go of a waiting core", 2, 1,
                "code 0 LOAD 0; code 0 LOAD 1; code 0 SET 5",
                "step 0 = 2; go 0 2 = false; place 0 = 32; settle; place 0 = 1; go 0 1 = true",
                "step 0 = 3; place 0 = 65; go 0 2 = false; place 0 = 65; go 1 4 = true",
                "settle; place 0 = 1; go 0 2 = true; step 0 = 1; accumulator 0 = 5; line 0 0 = I; line 0 1 = I");
    }

    private static void arithmetic() {
        Script.run("ADD and SET", 3, 1,
                "code 2 SET HIGHEST; code 2 ADD 1; code 2 ADD -1; code 2 ADD LOWEST; code 2 SET 0",
                "step 2 = 1; accumulator 2 = HIGHEST; place 2 = 1; step 2 = 1; accumulator 2 = LOWEST",
                "step 2 = 1; accumulator 2 = HIGHEST; step 2 = 1; accumulator 2 = -1; step 2 = 1; accumulator 2 = 0",
                "place 2 = 5; step 2 = 4; accumulator 0 = 0; accumulator 1 = 0; performed = 0; sent = 0");
    }

    private static void jump() {
        Script.run("JUMP", 2, 1,
                "code 0 JUMP 9; code 0 SET -1; code 0 JUMP 0",
                "step 0 = 1; place 0 = 1; step 0 = 1; step 0 = 1; place 0 = 0; accumulator 0 = -1",
                "step 0 = 1; place 0 = 9; step 0 = 4; place 0 = 9",
                "go 0 2; code 0 SET 0; step 0; place 0 = 0");
        Script.run("JUMP to itself", 2, 1,
                "code 0 SET 1; code 0 JUMP 1; step 0; step 0 = 1; place 0 = 1; step 0 = 1; place 0 = 1");
    }

    private static void accesses() {
        Script.run("accesses to a line in M", 2, 1,
                "code 0 SET 4; code 0 STORE 3; code 0 SET 6; code 0 SWAP 3; code 0 LOAD 3; code 0 SET 8; code 0 STORE 3",
                "step 0 = 1; step 0 = 2; settle; line 0 3 = M; word 0 3 = 4; accumulator 0 = 4; performed = 1",
                "step 0 = 1; step 0 = 1; accumulator 0 = 4; word 0 3 = 6; place 0 = 4; performed = 2",
                "step 0 = 1; accumulator 0 = 6; word 0 3 = 6; place 0 = 5; performed = 3",
                "step 0 = 1; step 0 = 1; word 0 3 = 8; accumulator 0 = 8; place 0 = 7; performed = 4",
                "sent = 2; messages = 0; memory 3 = 0; home 3 = 6");
        Script.run("a LOAD from a line in S", 2, 1,
                "code 0 LOAD 3; code 0 SET 5; code 0 LOAD 3; step 0 = 2; settle; step 0 = 1; accumulator 0 = 5",
                "step 0 = 1; accumulator 0 = 0; place 0 = 3; line 0 3 = S; performed = 2; sent = 2");
    }

    private static void stepRefusals() {
        Script.run("a waiting core does no step", 2, 1,
                "code 0 STORE 0; code 0 LOAD 1; step 0 = 2; sent = 1; step 0 = 0; sent = 1; place 0 = 32; settle",
                "step 0 = 3; sent = 3; step 0 = 0; sent = 3; place 0 = 65; messages = 1; line 0 1 = I");
    }
}
