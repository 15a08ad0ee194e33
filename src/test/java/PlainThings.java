import java.util.ArrayList;
import java.util.List;

/** A second telling of ACTS: classes under classes, as Java has them, that HostCrossTest compares the program with. */
final class PlainThings {
    /** The bodies that ran, as they began. */
    static final List<Integer> trace = new ArrayList<>();

    private PlainThings() {
    }

    static class Bidder {
        final int n;
        final int a;

        Bidder(int n, int a) {
            this.n = n;
            this.a = a;
        }

        int calls(int x) {
            trace.add(10);
            return x + n;
        }

        int hears(int x) {
            trace.add(11);
            return calls(x) * 2;
        }

        int shares(int x) {
            trace.add(12);
            return x / (a - n);
        }

        int tells(int x) {
            trace.add(13);
            return hears(x) ^ a;
        }
    }

    static class Late extends Bidder {
        Late(int n, int a) {
            super(n, a);
        }

        @Override
        int hears(int x) {
            trace.add(20);
            return super.hears(x) - a;
        }
    }

    static class Leaper extends Bidder {
        Leaper(int n, int a) {
            super(n, a);
        }

        @Override
        int calls(int x) {
            trace.add(30);
            return super.calls(x) * 3;
        }

        @Override
        int tells(int x) {
            trace.add(31);
            return super.tells(x) + shares(n);
        }
    }

    static final class Broker extends Leaper {
        Broker(int n, int a) {
            super(n, a);
        }

        @Override
        int calls(int x) {
            trace.add(40);
            return 0 - super.calls(x);
        }

        @Override
        int hears(int x) {
            trace.add(41);
            return super.hears(x) + calls(n);
        }
    }

    static final class Sniper extends Late {
        Sniper(int n, int a) {
            super(n, a);
        }

        @Override
        int shares(int x) {
            trace.add(50);
            return super.shares(x + 2) ^ 1;
        }

        @Override
        int calls(int x) {
            trace.add(51);
            return super.calls(x) - n;
        }
    }

    static final class Blind extends Late {
        Blind(int n, int a) {
            super(n, a);
        }

        @Override
        int tells(int x) {
            trace.add(60);
            return super.tells(x) * 2;
        }

        @Override
        int shares(int x) {
            trace.add(61);
            return super.shares(x) + calls(a);
        }
    }

    static Bidder of(int kind, int n, int a) {
        switch (kind) {
            case 1: return new Late(n, a);
            case 2: return new Leaper(n, a);
            case 3: return new Sniper(n, a);
            case 4: return new Broker(n, a);
            case 5: return new Blind(n, a);
            default: return new Bidder(n, a);
        }
    }

    /** Whether one of a KIND can be taken for another KIND. */
    static boolean is(int kind, int as) {
        Bidder thing = of(kind, 0, 0);
        switch (as) {
            case 1: return thing instanceof Late;
            case 2: return thing instanceof Leaper;
            case 3: return thing instanceof Sniper;
            case 4: return thing instanceof Broker;
            case 5: return thing instanceof Blind;
            default: return true;
        }
    }

    static int act(Bidder thing, int act, int x) {
        trace.clear();
        try {
            switch (act) {
                case 0: return thing.calls(x);
                case 1: return thing.hears(x);
                case 2: return thing.shares(x);
                default: return thing.tells(x);
            }
        } catch (ArithmeticException parted) {
            return -15;
        }
    }
}
