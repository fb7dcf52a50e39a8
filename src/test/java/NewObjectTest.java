/** Promise 1, and what every question answers about a new object. */
public final class NewObjectTest {
    public static void main(String[] args) {
        cores();
        lines();
        bothBeyondTheirEnds();
        everythingAtFirst();
        Script.finish();
    }

    private static void cores() {
        for (int[] pair : new int[][] {{Integer.MIN_VALUE, 2}, {-1, 2}, {0, 2}, {1, 2}, {2, 2}, {3, 3}, {4, 4}, {5, 4},
                {6, 4}, {Integer.MAX_VALUE, 4}}) {
            int n = pair[1];
            for (int c = 0; c < n; c++) {
                Script.run("HomeDirectory(" + pair[0] + ", 2) has core " + c, pair[0], 2,
                        "place " + c + " = 0; line " + c + " 0 = I; go " + c + " 1 = true; go " + c + " 0 = true; step " + c + " = 4",
                        "code " + c + " SET 3 = true; step " + c + " = 1; accumulator " + c + " = 3");
            }
            for (int no : Edges.noCores(n)) {
                Script.run("HomeDirectory(" + pair[0] + ", 2) has no core " + no, pair[0], 2,
                        "place " + no + " = NONE; line " + no + " 0 = NONE; word " + no + " 0 = 0; accumulator " + no + " = 0",
                        "go " + no + " 0 = false; step " + no + " = NONE; code " + no + " SET 3 = false; place " + no + " = NONE");
            }
        }
    }

    private static void lines() {
        for (int[] pair : new int[][] {{Integer.MIN_VALUE, 1}, {-1, 1}, {0, 1}, {1, 1}, {2, 2}, {3, 3}, {4, 3}, {5, 3},
                {Integer.MAX_VALUE, 3}}) {
            StringBuilder reads = new StringBuilder();
            for (int b = 0; b < pair[1]; b++) {
                reads.append("code 1 LOAD " + b + "; step 1 = 2; settle; line 1 " + b + " = S;");
            }
            Script.run("lines of HomeDirectory(2, " + pair[0] + ")", 2, pair[0], reads.toString(),
                    "code 1 LOAD 3; step 1 = 3; line 1 0 = SI; line 1 3 = I");
        }
    }

    private static void bothBeyondTheirEnds() {
        Script.run("both too small", Integer.MIN_VALUE, Integer.MIN_VALUE,
                "place 1 = 0; place 2 = NONE; code 0 LOAD 0; code 0 LOAD 1; step 0; settle; step 0 = 3");
        Script.run("both too large", Integer.MAX_VALUE, Integer.MAX_VALUE,
                "place 3 = 0; place 4 = NONE; code 0 LOAD 0; code 0 LOAD 1; code 0 LOAD 2; code 0 LOAD 3",
                "step 0 = 2; settle; step 0 = 2; settle; step 0 = 2; settle; step 0 = 3");
    }

    private static void everythingAtFirst() {
        Script.run("the network at first", 4, 3, "messages = 0; sent = 0; performed = 0; deliver 0 = NONE; message 0 0 = NONE");
        for (int k = 0; k < 4; k++) {
            Script.run("core " + k + " at first", 4, 3, "place " + k + " = 0; accumulator " + k + " = 0; step " + k + " = 4");
            Script.run("block " + k + " at first", 4, 3, "home " + k + " = 0; memory " + k + " = 0");
            for (int block = 0; block < 4; block++) {
                Script.run("line at first", 4, 3, "line " + k + " " + block + " = I; word " + k + " " + block + " = 0");
            }
        }
    }
}
