/** Promise 2: code. */
public final class CodeTest {
    private static final String[] OPS = {"LOAD", "STORE", "ADD", "JUMP", "SET", "SWAP"};
    private static final String[] ACCESSES = {"LOAD", "STORE", "SWAP"};

    public static void main(String[] args) {
        noSuchCore();
        opTooSmallOrTooLarge();
        blockOfAnAccess();
        placeOfAJump();
        anyNumberElse();
        sixteenInstructions();
        everyListIsItsOwn();
        aCoreThatWaits();
        severalFaultsAtOnce();
        Script.finish();
    }

    private static void noSuchCore() {
        for (int n = 2; n <= 4; n++) {
            for (int no : Edges.noCores(n)) {
                for (String op : OPS) {
                    Script.run("code of no core", n, 1, "code " + no + " " + op + " 1 = false; step 0 = 4; step 1 = 4");
                }
            }
            Script.run("code of the first and the last core", n, 1,
                    "code 0 SET 6 = true; code " + (n - 1) + " SET 8 = true; step 0 = 1; step " + (n - 1) + " = 1",
                    "accumulator 0 = 6; accumulator " + (n - 1) + " = 8");
        }
    }

    private static void opTooSmallOrTooLarge() {
        for (String no : new String[] {"LOWEST", "-1", "6", "HIGHEST"}) {
            for (String x : new String[] {"LOWEST", "-1", "0", "3", "HIGHEST"}) {
                Script.run("no such op", 2, 1, "code 0 " + no + " " + x + " = false; step 0 = 4");
            }
        }
        Script.run("the first op and the last one", 2, 1,
                "code 0 0 2 = true; code 1 5 2 = true; step 0 = 2; step 1 = 2",
                "message 0 kind = GETS; message 1 kind = GETM");
    }

    private static void blockOfAnAccess() {
        for (String op : ACCESSES) {
            for (String no : new String[] {"LOWEST", "-1", "4", "15", "HIGHEST"}) {
                Script.run("no such block for " + op, 2, 1, "code 0 " + op + " " + no + " = false; step 0 = 4");
            }
            Script.run("the first and the last block for " + op, 2, 1,
                    "code 0 " + op + " 0 = true; code 1 " + op + " 3 = true; step 0 = 2; step 1 = 2",
                    "message 0 block = 0; message 1 block = 3");
        }
    }

    private static void placeOfAJump() {
        for (String no : new String[] {"LOWEST", "-1", "16", "HIGHEST"}) {
            Script.run("no such place for JUMP", 2, 1, "code 1 JUMP " + no + " = false; step 1 = 4");
        }
        Script.run("the first and the last place for JUMP", 2, 1,
                "code 0 SET 1; code 0 JUMP 15 = true; code 1 SET 1; code 1 JUMP 0 = true",
                "step 0; step 0 = 1; place 0 = 15; step 1; step 1 = 1; place 1 = 0");
    }

    private static void anyNumberElse() {
        for (String x : new String[] {"LOWEST", "-1", "0", "3", "4", "15", "16", "HIGHEST"}) {
            Script.run("any number for SET and ADD", 2, 1,
                    "code 0 SET " + x + " = true; code 1 ADD " + x + " = true; step 0 = 1; step 1 = 1",
                    "accumulator 0 = " + x + "; accumulator 1 = " + x);
        }
    }

    private static void sixteenInstructions() {
        for (String op : OPS) {
            Script.run("the sixteenth is taken and no other", 2, 1, adds(15),
                    "code 0 " + op + " 2 = true; code 0 " + op + " 2 = false; code 0 " + op + " 2 = false");
        }
        Script.run("no instruction is taken behind the sixteenth", 2, 1, adds(16),
                "code 0 LOAD 0 = false; code 0 STORE 3 = false; code 0 ADD 1 = false; code 0 JUMP 15 = false",
                "code 0 SET 0 = false; code 0 SWAP 3 = false; code 0 6 0 = false; code 0 JUMP 16 = false",
                "go 0 15 = true; step 0 = 1; accumulator 0 = 16; place 0 = 16; step 0 = 4",
                "go 0 0 = true; step 0 = 1; accumulator 0 = 17; go 0 16; code 0 ADD 1 = false");
    }

    private static void everyListIsItsOwn() {
        Script.run("a full list leaves room in another", 2, 1, adds(16),
                "code 1 ADD 5 = true; step 1 = 1; accumulator 1 = 5; step 1 = 4; accumulator 0 = 0; code 0 ADD 5 = false");
    }

    private static void aCoreThatWaits() {
        Script.run("code of a waiting core", 2, 1,
                "code 0 LOAD 0; step 0 = 2; code 0 SET 3 = true; code 0 LOAD 4 = false; step 0 = 0; settle",
                "step 0 = 1; accumulator 0 = 3; step 0 = 4");
        Script.run("code of a waiting core with a full list", 2, 1,
                "code 0 LOAD 0; code 0 LOAD 1", adds(14), "step 0; settle; step 0 = 3; place 0 = 65",
                "code 0 ADD 1 = false; place 0 = 65");
    }

    private static void severalFaultsAtOnce() {
        Script.run("several faults at once", 2, 1,
                "code -1 -1 -1 = false; code 2 6 4 = false; code 0 -1 -1 = false; code 0 6 16 = false",
                adds(16), "code 0 6 -1 = false; code 2 SET 1 = false; code 0 LOAD -1 = false");
    }

    /** As many instructions ADD 1, ADD 2, .. for core 0. */
    private static String adds(int count) {
        StringBuilder rows = new StringBuilder();
        for (int k = 1; k <= count; k++) {
            rows.append("code 0 ADD ").append(k).append(" = true;");
        }
        return rows.toString();
    }
}
