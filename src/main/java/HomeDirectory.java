import java.util.Arrays;

/**
 * Processors with caches of their own that share a memory through a directory. The caller decides
 * when a core steps and which message comes in next; whatever the order, the cores see one memory.
 */
public final class HomeDirectory {
    /** There is no such core, block, message or instruction. */
    public static final int NONE = -1;
    /** The message is a forward that is not the first one for its block and receiver. */
    public static final int BEHIND = -2;
    /** The message is stalled. */
    public static final int STALLED = -3;

    private static final int BLOCKS = 4;
    private static final int MOST_INSTRUCTIONS = 16;
    /** The node number of the home, behind those of the cores. */
    private static final int HOME = 4;

    private static final int LOAD = 0;
    private static final int STORE = 1;
    private static final int ADD = 2;
    private static final int JUMP = 3;
    private static final int SET = 4;
    private static final int SWAP = 5;

    /** These three are states of a line and of a block in the directory alike. */
    private static final int I = 0;
    private static final int S = 1;
    private static final int M = 2;

    private static final int IS = 3;
    private static final int IM = 4;
    private static final int IMA = 5;
    private static final int SM = 6;
    private static final int SMA = 7;
    private static final int MI = 8;
    private static final int SI = 9;
    private static final int II = 10;

    /** The state of a block in the directory whose word is on its way to the home. */
    private static final int SD = 3;

    private static final int GETS = 0;
    private static final int GETM = 1;
    private static final int PUTS = 2;
    private static final int PUTM = 3;
    private static final int FWDS = 4;
    private static final int FWDM = 5;
    private static final int INV = 6;
    private static final int PUTACK = 7;
    private static final int DATA = 8;
    private static final int ACK = 9;

    private static final int STEP_WAITS = 0;
    private static final int STEP_DONE = 1;
    private static final int STEP_REQUESTED = 2;
    private static final int STEP_REPLACING = 3;
    private static final int STEP_ENDED = 4;

    /** What a core waits for, as the number that place() adds for it. */
    private static final int NOTHING = 0;
    private static final int AN_ACCESS = 32;
    private static final int A_REPLACEMENT = 64;

    private final Network network;
    private final Home directory;
    private final Core[] cores;

    public HomeDirectory(int cores, int lines) {
        int mostInUse = Math.max(1, Math.min(3, lines));
        network = new Network();
        directory = new Home(network);
        this.cores = new Core[Math.max(2, Math.min(4, cores))];
        for (int c = 0; c < this.cores.length; c++) {
            this.cores[c] = new Core(c, mostInUse, network);
        }
    }

    public boolean code(int core, int op, int x) {
        return isCore(core) && cores[core].append(op, x);
    }

    public boolean go(int core, int place) {
        return isCore(core) && cores[core].moveTo(place);
    }

    public int step(int core) {
        return isCore(core) ? cores[core].advance() : NONE;
    }

    public int deliver(int k) {
        if (!network.has(k)) {
            return NONE;
        }
        if (network.isBehind(k)) {
            return BEHIND;
        }
        Message coming = network.at(k);
        if (isStalled(coming)) {
            return STALLED;
        }
        // Taken out last, so that no message sent meanwhile is written over the one that is read.
        handOver(coming);
        network.takeOut(k);
        return network.count;
    }

    public int messages() {
        return network.count;
    }

    public int message(int k, int what) {
        return network.has(k) ? network.at(k).part(what) : NONE;
    }

    public int line(int core, int block) {
        return isCore(core) && isBlock(block) ? cores[core].states[block] : NONE;
    }

    public int word(int core, int block) {
        return isCore(core) && isBlock(block) ? cores[core].meaningOf(block) : 0;
    }

    public int home(int block) {
        return isBlock(block) ? directory.summary(block) : NONE;
    }

    public int memory(int block) {
        return isBlock(block) ? directory.words[block] : 0;
    }

    public int accumulator(int core) {
        return isCore(core) ? cores[core].a : 0;
    }

    public int place(int core) {
        return isCore(core) ? cores[core].next + cores[core].waitsFor : NONE;
    }

    public int sent() {
        return network.sentInAll;
    }

    public int performed() {
        int sum = 0;
        for (int c = 0; c < cores.length; c++) {
            sum += cores[c].accesses;
        }
        return sum;
    }

    private boolean isCore(int core) {
        return core >= 0 && core < cores.length;
    }

    private static boolean isBlock(int block) {
        return block >= 0 && block < BLOCKS;
    }

    private boolean isStalled(Message coming) {
        if (coming.receiver == HOME) {
            return directory.stalls(coming);
        }
        return isCore(coming.receiver) && cores[coming.receiver].stalls(coming);
    }

    private void handOver(Message coming) {
        if (coming.receiver == HOME) {
            directory.receive(coming);
        } else if (isCore(coming.receiver)) {
            cores[coming.receiver].receive(coming);
        }
    }

    private static final class Message {
        private int kind;
        private int sender;
        private int receiver;
        private int block;
        private int word;
        private int number;
        private int requester;

        boolean isForward() {
            return kind >= FWDS && kind <= PUTACK;
        }

        boolean hasWayOf(Message other) {
            return block == other.block && receiver == other.receiver;
        }

        int part(int what) {
            switch (what) {
                case 0: return kind;
                case 1: return sender;
                case 2: return receiver;
                case 3: return block;
                case 4: return word;
                case 5: return number;
                case 6: return requester;
                default: return NONE;
            }
        }
    }

    /** The messages on their way, in the order in which they were sent. */
    private static final class Network {
        /**
         * More than there can ever be: a core waits for one thing at a time, which has at most four
         * messages on their way (a DATA and three INV or ACK), and beside those each block has at
         * most one DATA to the home: twenty in all.
         */
        private static final int ROOM = 32;

        /** The first count ones are on their way; the others lie ready to be used again. */
        private final Message[] slots;
        private int count;
        private int sentInAll;

        Network() {
            slots = new Message[ROOM];
            for (int k = 0; k < ROOM; k++) {
                slots[k] = new Message();
            }
        }

        boolean has(int k) {
            return k >= 0 && k < count;
        }

        Message at(int k) {
            return slots[k];
        }

        boolean isBehind(int k) {
            Message later = slots[k];
            if (!later.isForward()) {
                return false;
            }
            for (int j = 0; j < k; j++) {
                if (slots[j].isForward() && slots[j].hasWayOf(later)) {
                    return true;
                }
            }
            return false;
        }

        void takeOut(int k) {
            Message gone = slots[k];
            count--;
            for (int j = k; j < count; j++) {
                slots[j] = slots[j + 1];
            }
            slots[count] = gone;
        }

        void sendPlain(int kind, int sender, int receiver, int block) {
            send(kind, sender, receiver, block, 0, 0, NONE);
        }

        void sendFor(int kind, int owner, int block, int requester) {
            send(kind, HOME, owner, block, 0, 0, requester);
        }

        void sendWord(int kind, int sender, int receiver, int block, int word) {
            send(kind, sender, receiver, block, word, 0, NONE);
        }

        void sendData(int sender, int receiver, int block, int word, int number) {
            send(DATA, sender, receiver, block, word, number, NONE);
        }

        private void send(int kind, int sender, int receiver, int block, int word, int number, int requester) {
            if (count >= ROOM) {
                return;
            }
            Message fresh = slots[count];
            fresh.kind = kind;
            fresh.sender = sender;
            fresh.receiver = receiver;
            fresh.block = block;
            fresh.word = word;
            fresh.number = number;
            fresh.requester = requester;
            count++;
            sentInAll++;
        }
    }

    private static final class Core {
        private final int number;
        private final int mostInUse;
        private final Network network;

        private final int[] ops;
        private final int[] xs;
        private int instructions;
        private int a;
        private int next;
        private int waitsFor;

        private final int[] states;
        private final int[] words;
        private final int[] missing;
        /** For each line, how many accesses the core had performed with the latest one to it. */
        private final int[] latestUse;
        private int accesses;

        Core(int number, int mostInUse, Network network) {
            this.number = number;
            this.mostInUse = mostInUse;
            this.network = network;
            ops = new int[MOST_INSTRUCTIONS];
            xs = new int[MOST_INSTRUCTIONS];
            states = new int[BLOCKS];
            words = new int[BLOCKS];
            missing = new int[BLOCKS];
            latestUse = new int[BLOCKS];
        }

        boolean append(int op, int x) {
            if (op < LOAD || op > SWAP || !fits(op, x) || instructions >= MOST_INSTRUCTIONS) {
                return false;
            }
            ops[instructions] = op;
            xs[instructions] = x;
            instructions++;
            return true;
        }

        private static boolean fits(int op, int x) {
            if (isAccess(op)) {
                return isBlock(x);
            }
            return op != JUMP || x >= 0 && x < MOST_INSTRUCTIONS;
        }

        private static boolean isAccess(int op) {
            return op == LOAD || op == STORE || op == SWAP;
        }

        boolean moveTo(int place) {
            if (waitsFor != NOTHING || place < 0 || place > MOST_INSTRUCTIONS) {
                return false;
            }
            next = place;
            return true;
        }

        int advance() {
            if (waitsFor != NOTHING) {
                return STEP_WAITS;
            }
            if (next >= instructions) {
                return STEP_ENDED;
            }
            if (isAccess(ops[next])) {
                return access(ops[next], xs[next]);
            }
            compute(ops[next], xs[next]);
            return STEP_DONE;
        }

        private void compute(int op, int x) {
            if (op == JUMP && a != 0) {
                next = x;
                return;
            }
            if (op == ADD) {
                a += x;
            } else if (op == SET) {
                a = x;
            }
            next++;
        }

        private int access(int op, int block) {
            if (allows(block, op)) {
                perform(op, block);
                return STEP_DONE;
            }
            if (states[block] == I && linesInUse() >= mostInUse) {
                replace(leastLatelyUsed());
                return STEP_REPLACING;
            }
            request(op, block);
            return STEP_REQUESTED;
        }

        private boolean allows(int block, int op) {
            return states[block] == M || states[block] == S && op == LOAD;
        }

        private void perform(int op, int block) {
            int held = words[block];
            if (op != LOAD) {
                words[block] = a;
            }
            if (op != STORE) {
                a = held;
            }
            accesses++;
            latestUse[block] = accesses;
            next++;
        }

        private int linesInUse() {
            int inUse = 0;
            for (int b = 0; b < BLOCKS; b++) {
                if (states[b] != I) {
                    inUse++;
                }
            }
            return inUse;
        }

        /** Asked for only when a line is in use. */
        private int leastLatelyUsed() {
            int least = 0;
            for (int b = 1; b < BLOCKS; b++) {
                if (states[b] != I && (states[least] == I || latestUse[b] < latestUse[least])) {
                    least = b;
                }
            }
            return least;
        }

        private void replace(int block) {
            if (states[block] == M) {
                network.sendWord(PUTM, number, HOME, block, words[block]);
                states[block] = MI;
            } else {
                network.sendPlain(PUTS, number, HOME, block);
                states[block] = SI;
            }
            waitsFor = A_REPLACEMENT;
        }

        private void request(int op, int block) {
            if (op == LOAD) {
                network.sendPlain(GETS, number, HOME, block);
                states[block] = IS;
            } else {
                network.sendPlain(GETM, number, HOME, block);
                states[block] = states[block] == S ? SM : IM;
                missing[block] = 0;
            }
            waitsFor = AN_ACCESS;
        }

        /** The word of a line, where it means something. */
        int meaningOf(int block) {
            switch (states[block]) {
                case S:
                case M:
                case SM:
                case SMA:
                case MI:
                case SI:
                    return words[block];
                default:
                    return 0;
            }
        }

        boolean stalls(Message coming) {
            int state = states[coming.block];
            if (coming.kind == INV) {
                return state == IS;
            }
            boolean asksForWord = coming.kind == FWDS || coming.kind == FWDM;
            return asksForWord && (state == IM || state == IMA || state == SM || state == SMA);
        }

        void receive(Message coming) {
            switch (coming.kind) {
                case DATA: takeData(coming); break;
                case ACK: takeAck(coming.block); break;
                case INV: giveUp(coming); break;
                case FWDS: share(coming); break;
                case FWDM: handOn(coming); break;
                case PUTACK: endReplacement(coming.block); break;
                default: break;
            }
            performIfAllowed(coming.block);
        }

        private void takeData(Message data) {
            int block = data.block;
            int state = states[block];
            if (state == IS) {
                words[block] = data.word;
                states[block] = S;
            } else if (state == IM || state == SM) {
                words[block] = data.word;
                missing[block] += data.number;
                if (missing[block] == 0) {
                    states[block] = M;
                } else {
                    states[block] = state == IM ? IMA : SMA;
                }
            }
        }

        private void takeAck(int block) {
            int state = states[block];
            missing[block]--;
            if ((state == IMA || state == SMA) && missing[block] == 0) {
                states[block] = M;
            }
        }

        private void giveUp(Message inv) {
            int block = inv.block;
            network.sendPlain(ACK, number, inv.requester, block);
            switch (states[block]) {
                case S: states[block] = I; break;
                case SM: states[block] = IM; break;
                case SI: states[block] = II; break;
                default: break;
            }
        }

        private void share(Message forward) {
            int block = forward.block;
            network.sendData(number, forward.requester, block, words[block], 0);
            network.sendData(number, HOME, block, words[block], 0);
            states[block] = states[block] == MI ? SI : S;
        }

        private void handOn(Message forward) {
            int block = forward.block;
            network.sendData(number, forward.requester, block, words[block], 0);
            states[block] = states[block] == MI ? II : I;
        }

        private void endReplacement(int block) {
            states[block] = I;
            waitsFor = NOTHING;
        }

        private void performIfAllowed(int block) {
            boolean awaited = waitsFor == AN_ACCESS && next < instructions && xs[next] == block;
            if (awaited && allows(block, ops[next])) {
                perform(ops[next], block);
                waitsFor = NOTHING;
            }
        }
    }

    /** The memory and the directory. */
    private static final class Home {
        private final Network network;
        private final int[] words;
        private final int[] states;
        /** A core, in M; otherwise NONE. */
        private final int[] owners;
        /** For each block the sum of 2^c for its sharers c. */
        private final int[] sharers;

        Home(Network network) {
            this.network = network;
            words = new int[BLOCKS];
            states = new int[BLOCKS];
            owners = new int[BLOCKS];
            Arrays.fill(owners, NONE);
            sharers = new int[BLOCKS];
        }

        int summary(int block) {
            int owned = states[block] == M ? 4 * (owners[block] + 1) : 0;
            return states[block] + owned + 32 * sharers[block];
        }

        boolean stalls(Message coming) {
            return (coming.kind == GETS || coming.kind == GETM) && states[coming.block] == SD;
        }

        void receive(Message coming) {
            int block = coming.block;
            switch (coming.kind) {
                case GETS: giveToRead(block, coming.sender); break;
                case GETM: giveToWrite(block, coming.sender); break;
                case PUTS: takeBack(block, coming.sender); break;
                case PUTM: takeBackWord(block, coming.sender, coming.word); break;
                case DATA: endSharing(block, coming.word); break;
                default: break;
            }
        }

        private void giveToRead(int block, int reader) {
            if (states[block] == M) {
                network.sendFor(FWDS, owners[block], block, reader);
                sharers[block] |= bit(reader) | bit(owners[block]);
                owners[block] = NONE;
                states[block] = SD;
            } else {
                network.sendData(HOME, reader, block, words[block], 0);
                sharers[block] |= bit(reader);
                states[block] = S;
            }
        }

        private void giveToWrite(int block, int writer) {
            if (states[block] == M) {
                network.sendFor(FWDM, owners[block], block, writer);
            } else {
                int others = sharers[block] & ~bit(writer);
                network.sendData(HOME, writer, block, words[block], Integer.bitCount(others));
                invalidate(others, block, writer);
                sharers[block] = 0;
                states[block] = M;
            }
            owners[block] = writer;
        }

        private void invalidate(int others, int block, int writer) {
            for (int c = 0; c < HOME; c++) {
                if ((others & bit(c)) != 0) {
                    network.sendFor(INV, c, block, writer);
                }
            }
        }

        private void takeBack(int block, int core) {
            sharers[block] &= ~bit(core);
            if (states[block] == S && sharers[block] == 0) {
                states[block] = I;
            }
            network.sendPlain(PUTACK, HOME, core, block);
        }

        private void takeBackWord(int block, int core, int word) {
            if (owners[block] != core) {
                takeBack(block, core);
                return;
            }
            words[block] = word;
            owners[block] = NONE;
            states[block] = I;
            network.sendPlain(PUTACK, HOME, core, block);
        }

        private void endSharing(int block, int word) {
            words[block] = word;
            states[block] = sharers[block] == 0 ? I : S;
        }

        private static int bit(int core) {
            return 1 << core;
        }
    }
}
