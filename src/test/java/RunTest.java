import java.util.ArrayDeque;
import java.util.Arrays;
import java.util.Deque;
import java.util.Map;
import java.util.Random;
import java.util.TreeMap;

/**
 * "An object is used for at most 512 calls": runs of so many, in whatever order and with whatever numbers, each answer
 * compared with that of a Twin of which the same calls were made.
 */
public final class RunTest {
    private static final Check CHECK = new Check("RunTest");
    private static final int RUNS = 300, CALLS = 512;
    // How often each call comes, and the bounds of its numbers: m a MAN, h an HOUR, s a SHEET, i a place, v a number.
    private static final String CALL_LIST = "count:4:0-4 watches:8:0-4095 feed:1:1-5,0-255,0-255,0-255,0-255,0-255 text:1: force:8:0-5"
        + " asks:6:0-2,m,h man:8:0-59 put:60:m,0-12,0-5 put:5:m,12-12,0-9999 told:12:m,0-16 move:9:m,m hour:12:m,h,0-2 day:10:m,0-3"
        + " all:6: live:3: better:8:m,0-1 swap:6:0-1 beds:3:0-1 guard:3:0-3,0-1 codes:5:m,0-12 code:5:m,0-9 knows:6:m,h still:5:m"
        + " unseen:6:m,0-8,0-1 judge:6:s,m kinds:10:s,m,0-3 did:7:s,m,h did:7:s,m,100-111 laws:7:s,m whose:6:s film:16:s,m,0-12"
        + " drawn:5:0-99999,0-10 odds:4:0-99999,1-40,0-10,0-9999,0-1 odds:4:0-99999,1-40,0-10,0-300,0-1 image:4: back:3:"
        + " sheet:8:s,-1-2,0-40 cell:14:s,i,v copy:8:s,i,s,i,0-12 menBy:6:s,0-2,i,0-6 taken:10:0-17,0-6";
    private static final int[] FAR = {Integer.MIN_VALUE, Integer.MIN_VALUE + 1, -65537, -1, 12, 99, 112, 256, 4096, 100000, 65535,
        Integer.MAX_VALUE - 1, Integer.MAX_VALUE};

    private record Call(String name, int[] numbers) {
        @Override public String toString() {
            String inside = Arrays.toString(numbers);
            return name + "(" + inside.substring(1, inside.length() - 1) + ")";
        }
    }

    private final Random chance;
    private final String[] calls;
    private final AloneTogether x = new AloneTogether();
    private final Twin twin = new Twin();
    private final Deque<Call> pending = new ArrayDeque<>();

    private RunTest(Random chance, String[] calls) {
        this.chance = chance;
        this.calls = calls;
    }

    public static void main(String[] args) {
        Random chance = new Random(512);
        String[] calls = weighed();
        Map<String, Integer> seen = new TreeMap<>();
        for (int run = 0; run < RUNS; run++) new RunTest(chance, calls).run(run, seen);
        for (String name : "BAD FULL STATE -5 -6 -7 -11 -12 -13 -14 NO".split(" ")) {
            CHECK.due(name + " has been seen", seen.containsKey(name) ? 1 : 0, 1);
        }
        CHECK.end();
    }

    private static String[] weighed() {
        StringBuilder many = new StringBuilder();
        for (String call : CALL_LIST.split(" ")) {
            String[] parts = call.split(":", -1);
            many.append((parts[0] + ":" + parts[2] + " ").repeat(Integer.parseInt(parts[1])));
        }
        return many.toString().trim().split(" ");
    }

    private void run(int run, Map<String, Integer> seen) {
        // Some houses are full from the start, some stay as they come.
        for (int m = chance.nextInt(8); m > 1; m--) pending.add(new Call("man", new int[] {chance.nextInt(60)}));
        if (chance.nextBoolean()) pending.add(new Call("watches", new int[] {4095}));
        for (int i = 0; i < CALLS; i++) {
            if (pending.isEmpty()) comeUpWith();
            Call call = pending.poll();
            long due = twin.answer(call.name, call.numbers);
            long got = Calls.answer(x, call.toString());
            CHECK.due("run " + run + ", call " + i + ", " + call, got, due);
            seen.merge(named(due), 1, Integer::sum);
            // What comes behind a wrong answer tells no more.
            if (got != due) return;
        }
    }

    private static String named(long answer) {
        if (answer == AloneTogether.NO) return "NO";
        return answer == -2 ? "BAD" : answer == -3 ? "STATE" : answer == -4 ? "FULL" : Long.toString(answer);
    }

    private void comeUpWith() {
        if (chance.nextInt(60) == 0) {
            feedTape();
            return;
        }
        String[] call = calls[chance.nextInt(calls.length)].split(":", -1);
        String[] bounds = call[1].isEmpty() ? new String[0] : call[1].split(",");
        int[] numbers = new int[bounds.length];
        for (int i = 0; i < bounds.length; i++) numbers[i] = chance.nextInt(25) == 0 ? strange() : number(bounds[i]);
        pending.add(new Call(call[0], numbers));
    }

    private void feedTape() {
        String tape = ReadingTest.tape(chance);
        for (int i = 0; i < tape.length();) {
            int n = Math.min(tape.length() - i, 1 + chance.nextInt(5));
            int[] numbers = {n, 0, 0, 0, 0, 0};
            for (int j = 0; j < n; j++) numbers[j + 1] = tape.charAt(i++);
            pending.add(new Call("feed", numbers));
        }
        pending.add(new Call("text", new int[0]));
        pending.add(new Call("force", new int[] {chance.nextInt(6)}));
    }

    private int strange() {
        int far = FAR[chance.nextInt(FAR.length)];
        return chance.nextBoolean() ? far : chance.nextInt(70) - 10;
    }

    private int number(String bounds) {
        switch (bounds) {
            case "m": return chance.nextInt(Math.max(1, twin.house.men));
            case "h": return chance.nextInt(12);
            case "s": return chance.nextInt(4);
            case "i": return chance.nextInt(chance.nextInt(3) == 0 ? 41 : 6);
            case "v": return chance.nextInt(4) == 0 ? chance.nextInt() : chance.nextInt(chance.nextBoolean() ? 60 : 6);
            default:
                int dash = bounds.indexOf('-', 1);
                int least = Integer.parseInt(bounds.substring(0, dash)), most = Integer.parseInt(bounds.substring(dash + 1));
                return least + chance.nextInt(most - least + 1);
        }
    }
}
