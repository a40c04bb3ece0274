/** The example of README.md, call by call. */
public final class ReadmeTest extends Checks {
    public static void main(String[] args) {
        TriggerStages x = new TriggerStages();
        int t = x.trigger(0, TriggerStages.LAY, TriggerStages.BEHIND, 5);
        due("trigger", t, 0);
        due("deed", x.deed(t, 1, 1, 1, 7), 0);
        due("tried", x.tried(TriggerStages.LAY, 0, 10, 9, 1), 2);
        due("state", x.state(TriggerStages.LAY, 0, 10, 9), 2);
        due("value", x.value(1, 11), 7);
        due("journal", x.journal(1, 5), t);
        due("state again", x.state(TriggerStages.LAY, 0, 10, 9), TriggerStages.NOT_POSSIBLE);
        due("tried again", x.tried(TriggerStages.LAY, 0, 10, 9, 0), TriggerStages.ROW);
        due("put", x.put(0x64302e3130L), 5);
        due("put's characters", ((long) 'd' << 32) + ('0' << 24) + ('.' << 16) + ('1' << 8) + '0', 0x64302e3130L);
        due("carryOut", x.carryOut(), 1);
        due("undo", x.undo(), 3);
        due("value behind undo", x.value(0, 10), 9);
        end("the example of README.md stands");
    }
}
