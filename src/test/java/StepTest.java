/** Promises 4, 12 and 13: step, accumulator and place. */
public final class StepTest {
    public static void main(String[] args) {
        addAndSet();
        wrapAround();
        jump();
        jumpBehindTheInstructions();
        accesses();
        noSuchCore();
        aCoreThatWaits();
        noInstructionAtThePlace();
        placeOfACoreThatWaits();
        noAccumulatorAndNoPlaceOfNoCore();
        Script.finish();
    }

    private static void addAndSet() {
        Script.run("ADD and SET", 3, 1,
                "code 2 SET 4; code 2 ADD 3; code 2 ADD -9; code 2 SET 0",
                "step 2 = 1; accumulator 2 = 4; place 2 = 1; step 2 = 1; accumulator 2 = 7; step 2 = 1; accumulator 2 = -2",
                "step 2 = 1; accumulator 2 = 0; place 2 = 4; accumulator 0 = 0; accumulator 1 = 0; performed = 0; sent = 0");
    }

    private static void wrapAround() {
        Script.run("ADD over the upper end", 2, 1,
                "code 0 SET HIGHEST; code 0 ADD 0; code 0 ADD 1; code 0 ADD -1; step 0; step 0; accumulator 0 = HIGHEST",
                "step 0 = 1; accumulator 0 = LOWEST; step 0 = 1; accumulator 0 = HIGHEST");
        Script.run("ADD over the lower end", 2, 1,
                "code 0 SET LOWEST; code 0 ADD 0; code 0 ADD -1; code 0 ADD 1; step 0; step 0; accumulator 0 = LOWEST",
                "step 0 = 1; accumulator 0 = HIGHEST; step 0 = 1; accumulator 0 = LOWEST");
        Script.run("ADD of the ends", 2, 1,
                "code 0 SET LOWEST; code 0 ADD LOWEST; code 1 SET HIGHEST; code 1 ADD HIGHEST; code 1 ADD LOWEST",
                "step 0; step 0; accumulator 0 = 0; step 1; step 1; accumulator 1 = -2; step 1; accumulator 1 = 2147483646");
        Script.run("a word that wrapped goes through the memory", 2, 1,
                "code 0 SET HIGHEST; code 0 ADD 1; code 0 STORE 3; code 0 LOAD 2; code 1 LOAD 3; step 0; step 0; step 0",
                "settle; word 0 3 = LOWEST; step 0 = 3; message 0 word = LOWEST; settle; memory 3 = LOWEST; step 1",
                "deliver 0; message 0 word = LOWEST; settle; accumulator 1 = LOWEST; word 1 3 = LOWEST");
    }

    private static void jump() {
        for (String a : new String[] {"LOWEST", "-1", "1", "HIGHEST"}) {
            Script.run("JUMP when A is not 0", 2, 1,
                    "code 0 SET " + a + "; code 0 JUMP 0; step 0; step 0 = 1; place 0 = 0; accumulator 0 = " + a);
        }
        Script.run("JUMP when A is 0", 2, 1,
                "code 0 JUMP 9; code 0 SET LOWEST; code 0 ADD LOWEST; code 0 JUMP 0; step 0 = 1; place 0 = 1; step 0; step 0",
                "accumulator 0 = 0; step 0 = 1; place 0 = 4; accumulator 0 = 0");
        Script.run("JUMP to itself", 2, 1,
                "code 0 SET 1; code 0 JUMP 1; step 0; step 0 = 1; place 0 = 1; step 0 = 1; place 0 = 1");
    }

    private static void jumpBehindTheInstructions() {
        Script.run("JUMP behind the instructions", 2, 1,
                "code 0 SET 1; code 0 JUMP 2; code 1 SET 1; code 1 JUMP 15; step 0; step 0 = 1; place 0 = 2; step 0 = 4",
                "step 1; step 1 = 1; place 1 = 15; step 1 = 4; code 0 SET 9; step 0 = 1; accumulator 0 = 9; step 1 = 4");
        Script.run("a JUMP at the last place that is not taken", 2, 1, "code 0 SET 0;".repeat(15) + "code 0 JUMP 15",
                "go 0 15; step 0 = 1; place 0 = 16; step 0 = 4; place 0 = 16");
    }

    private static void accesses() {
        Script.run("accesses to a line in M", 2, 1,
                "code 0 SET 4; code 0 STORE 3; code 0 SET 6; code 0 SWAP 3; code 0 LOAD 3; code 0 SET 8; code 0 STORE 3",
                "step 0 = 1; step 0 = 2; settle; line 0 3 = M; word 0 3 = 4; accumulator 0 = 4; performed = 1",
                "step 0 = 1; step 0 = 1; accumulator 0 = 4; word 0 3 = 6; place 0 = 4; performed = 2",
                "step 0 = 1; accumulator 0 = 6; word 0 3 = 6; place 0 = 5; performed = 3",
                "step 0 = 1; step 0 = 1; word 0 3 = 8; accumulator 0 = 8; place 0 = 7; performed = 4",
                "sent = 2; messages = 0; memory 3 = 0; home 3 = 6");
        Script.run("a LOAD from a line in S", 2, 1,
                "code 0 LOAD 3; code 0 SET 5; code 0 LOAD 3; step 0 = 2; settle; step 0 = 1; accumulator 0 = 5",
                "step 0 = 1; accumulator 0 = 0; place 0 = 3; line 0 3 = S; performed = 2; sent = 2");
    }

    private static void noSuchCore() {
        for (int n = 2; n <= 4; n++) {
            for (int no : Edges.noCores(n)) {
                Script.run("step of no core", n, 1,
                        "step " + no + " = NONE; code 0 LOAD 0; code 1 STORE 0; step 0; step " + no + " = NONE");
            }
            Script.run("step of the first and the last core", n, 1,
                    "code 0 SET 6; code " + (n - 1) + " LOAD 3; step 0 = 1; step " + (n - 1) + " = 2");
        }
    }

    private static void aCoreThatWaits() {
        for (int state = 3; state <= 10; state++) {
            Script.run("a core that waits does no step", 3, 1, Edges.pathTo(state),
                    "step 0 = 0; step 0 = 0; place 0 = " + Edges.placeIn(state));
        }
        Script.run("an access until it is performed", 2, 1,
                "code 0 STORE 0; code 0 SET 2; step 0 = 2; step 0 = 0; deliver 0; step 0 = 0; deliver 0; step 0 = 1");
        Script.run("a replacement until it is acknowledged", 2, 1,
                "code 0 STORE 0; code 0 LOAD 1; step 0; settle; step 0 = 3; step 0 = 0; deliver 0; step 0 = 0; deliver 0",
                "step 0 = 2; step 0 = 0");
    }

    private static void noInstructionAtThePlace() {
        Script.run("no instruction at all", 2, 1, "step 0 = 4; step 0 = 4; place 0 = 0; code 1 SET 1; step 0 = 4; step 1 = 1");
        Script.run("the last instruction and the place behind it", 2, 1,
                "code 0 SET 1; code 0 SET 2; go 0 1; step 0 = 1; place 0 = 2; step 0 = 4; place 0 = 2; accumulator 0 = 2",
                "go 0 3 = true; step 0 = 4; code 0 SET 3; step 0 = 4; code 0 SET 4; step 0 = 1; accumulator 0 = 4");
        Script.run("the sixteenth instruction and the place behind it", 2, 1, "code 0 ADD 1;".repeat(16),
                "go 0 15; step 0 = 1; accumulator 0 = 1; place 0 = 16; step 0 = 4; place 0 = 16; accumulator 0 = 1");
        Script.run("behind an access that was performed", 2, 1,
                "code 0 LOAD 0; step 0 = 2; settle; place 0 = 1; step 0 = 4; messages = 0; sent = 2");
    }

    private static void placeOfACoreThatWaits() {
        for (int state = 0; state <= 10; state++) {
            Script.run("place", 3, 1, Edges.pathTo(state), "place 0 = " + Edges.placeIn(state));
        }
        Script.run("waiting at the last place", 2, 1, "code 0 STORE 0;".repeat(15) + "code 0 LOAD 1",
                "step 0; settle; go 0 15; step 0 = 3; place 0 = 79; settle; place 0 = 15; step 0 = 2; place 0 = 47",
                "settle; place 0 = 16");
    }

    private static void noAccumulatorAndNoPlaceOfNoCore() {
        for (int n = 2; n <= 4; n++) {
            for (int no : Edges.noCores(n)) {
                StringBuilder all = new StringBuilder();
                for (int c = 0; c < n; c++) {
                    all.append("code ").append(c).append(" SET 6; step ").append(c).append(";");
                }
                Script.run("no core " + no, n, 1, all.toString(), "accumulator " + no + " = 0; place " + no + " = NONE",
                        "accumulator 0 = 6; place 0 = 1; accumulator " + (n - 1) + " = 6; place " + (n - 1) + " = 1");
            }
        }
    }
}
