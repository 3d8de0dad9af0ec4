import java.util.ArrayList;
import java.util.List;

/** The KINDS as Java's own classes, so that Java itself finds the bodies of acts: for tests only. */
final class StepModel {
    private StepModel() {
    }

    static final List<Integer> trace = new ArrayList<>();

    static Step make(int kind, int n) {
        Step step = switch (kind) {
            case 0 -> new Step();
            case 1 -> new Quay();
            case 2 -> new Mayor();
            case 3 -> new Salmon();
            case 4 -> new Banns();
            case 5 -> new Child();
            case 6 -> new Mud();
            default -> new Arch();
        };
        step.n = n;
        step.kind = kind;
        return step;
    }

    static boolean is(Step step, int kind) {
        Class<?>[] kinds = {Step.class, Quay.class, Mayor.class, Salmon.class, Banns.class, Child.class, Mud.class, Arch.class};
        return kinds[kind].isInstance(step);
    }

    static int act(Step step, int act, int x) {
        return switch (act) {
            case 0 -> step.flows(x);
            case 1 -> step.says(x);
            case 2 -> step.floods(x);
            default -> step.tells(x);
        };
    }

    private static void ran(int number) {
        trace.add(number);
    }

    interface Flows {
        int n();

        default int flows(int x) {
            ran(1);
            return x + n();
        }
    }

    interface Tells {
        int says(int x);

        int floods(int x);

        default int tells(int x) {
            ran(2);
            return says(x) - floods(1);
        }
    }

    static class Step implements Flows, Tells {
        int n;
        int kind;

        @Override public int n() {
            return n;
        }

        @Override public int says(int x) {
            ran(10);
            return flows(x) * 2;
        }

        @Override public int floods(int x) {
            ran(11);
            return x ^ n;
        }
    }

    static class Quay extends Step {
        @Override public int flows(int x) {
            ran(20);
            return super.flows(x) + 3;
        }
    }

    static class Mayor extends Step {
        @Override public int says(int x) {
            ran(30);
            return -super.says(x);
        }
    }

    static class Salmon extends Mayor {
        @Override public int floods(int x) {
            ran(40);
            return super.floods(x) * 3;
        }

        @Override public int says(int x) {
            ran(41);
            return super.says(x + 1);
        }
    }

    static class Banns extends Quay {
        @Override public int floods(int x) {
            ran(50);
            return super.floods(x) - flows(2);
        }
    }

    static class Child extends Salmon {
        @Override public int tells(int x) {
            ran(60);
            return super.tells(x) ^ 5;
        }
    }

    static class Mud extends Step {
        @Override public int flows(int x) {
            ran(70);
            return super.flows(x) * 2;
        }
    }

    static class Arch extends Banns {
        @Override public int says(int x) {
            ran(80);
            return super.says(x) + floods(2);
        }

        @Override public int tells(int x) {
            ran(81);
            return super.tells(x) - 1;
        }
    }
}
