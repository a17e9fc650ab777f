import java.util.ArrayList;
import java.util.List;
import java.util.Random;

/** A random RUN: its text, and what it does to a Model. */
final class Program {
    private static final class Path {
        int register;
        final List<Integer> dots = new ArrayList<>();
    }

    private static final class Taken {
        Path path;
        boolean moved;
        int by;
        int sort;
        int number;
        int newKind = -1;
    }

    private static final class Act {
        int place;
        Path left;
        Taken first;
        Taken second;
        int rounds = -1;
        List<Act> body;
    }

    private static final class Failed extends Exception {
        private static final long serialVersionUID = 1;
    }

    final StringBuilder text = new StringBuilder();
    private final Random random;
    private final String[] names;
    private final List<Act> all;
    private final int fields;
    int acts = 0;
    int failure = 0;
    int failedAt = -1;

    Program(Random random, String[] kindNames, int acts) {
        this.random = random;
        this.names = kindNames;
        this.fields = 1 + random.nextInt(6);
        this.all = acts(acts, 0);
    }

    private List<Act> acts(int most, int open) {
        List<Act> list = new ArrayList<>();
        for (int n = random.nextInt(most + 1); n > 0 && text.length() < 1300; n--) {
            list.add(act(most, open));
        }
        return list;
    }

    private Act act(int most, int open) {
        Act act = new Act();
        int how = random.nextInt(20);
        int start = text.length();
        if (how == 0) {
            word("slide");
            sign(";");
        } else if (how <= 2 && open < 4) {
            word("repeat");
            act.rounds = random.nextInt(20) == 0 ? 99 : random.nextInt(6);
            word("" + act.rounds);
            sign("[");
            act.body = acts(most / 2, open + 1);
            sign("]");
        } else if (how <= 4 && open < 4) {
            word("when");
            act.first = taken();
            sign("=");
            act.second = taken();
            sign("[");
            act.body = acts(most / 2, open + 1);
            sign("]");
        } else {
            act.left = path();
            sign("=");
            act.first = random.nextInt(3) == 0 && names.length > 0 ? made() : taken();
            sign(";");
        }
        act.place = start;
        while (Character.isWhitespace(text.charAt(act.place))) {
            act.place++;
        }
        return act;
    }

    private Path path() {
        Path path = new Path();
        path.register = random.nextInt(8);
        word("" + (char) ('a' + path.register));
        for (int n = random.nextInt(random.nextInt(10) == 0 ? 7 : 3); n > 0; n--) {
            sign(".");
            path.dots.add(random.nextInt(30) == 0 ? random.nextInt(1000) : random.nextInt(fields));
            word("" + path.dots.get(path.dots.size() - 1));
        }
        return path;
    }

    private Taken taken() {
        Taken taken = new Taken();
        int how = random.nextInt(8);
        if (how == 0) {
            taken.sort = Model.NUMBER;
            taken.number = random.nextInt(random.nextBoolean() ? 4 : 1000);
            word("" + taken.number);
        } else if (how == 1) {
            taken.sort = Model.POINTER;
            taken.number = -1;
            word("nil");
        } else {
            taken.path = path();
            taken.moved = random.nextInt(4) == 0;
            if (taken.moved) {
                int by = random.nextInt(random.nextInt(4) == 0 ? 1000 : 4);
                boolean up = random.nextBoolean();
                sign(up ? "+" : "-");
                word("" + by);
                taken.by = up ? by : -by;
            }
        }
        return taken;
    }

    private Taken made() {
        Taken taken = new Taken();
        taken.newKind = random.nextInt(names.length);
        word("new");
        word(names[taken.newKind]);
        return taken;
    }

    private void word(String word) {
        boolean glued = text.length() > 0 && Character.isLetterOrDigit(text.charAt(text.length() - 1));
        blanks(glued ? 1 : 0);
        text.append(word);
    }

    private void sign(String sign) {
        blanks(0);
        text.append(sign);
    }

    private void blanks(int least) {
        for (int n = least + (random.nextInt(8) == 0 ? 1 : 0); n > 0; n--) {
            text.append(random.nextInt(5) == 0 ? '\n' : ' ');
        }
    }

    void perform(Model m) {
        try {
            perform(m, all);
        } catch (Failed failed) {
            // what was done stays
        }
    }

    private Failed fail(int how, int place) {
        failure = how;
        failedAt = place;
        return new Failed();
    }

    private void begins(int place) throws Failed {
        if (acts == 400) {
            throw fail(6, place);
        }
    }

    private void perform(Model m, List<Act> list) throws Failed {
        for (Act act : list) {
            if (act.rounds >= 0) {
                for (int n = 0; n < act.rounds; n++) {
                    begins(act.place);
                    acts++;
                    perform(m, act.body);
                }
                continue;
            }
            begins(act.place);
            if (act.left != null) {
                int[] value = value(m, act.first, act.place);
                int target = locate(m, act.left, act.place);
                if (target >= 0) {
                    int cell = m.cellOf(target);
                    boolean num = m.field(cell, target - cell - 1) == 'n';
                    if (num != (value[0] == Model.NUMBER)) {
                        throw fail(3, act.place);
                    }
                }
                m.put(target, value[0], value[1]);
                acts++;
            } else if (act.first != null) {
                int[] one = value(m, act.first, act.place);
                int[] two = value(m, act.second, act.place);
                acts++;
                if (one[0] == two[0] && one[1] == two[1]) {
                    perform(m, act.body);
                }
            } else {
                m.collect();
                acts++;
            }
        }
    }

    private int[] value(Model m, Taken taken, int place) throws Failed {
        if (taken.newKind >= 0) {
            int cell = m.newCellOrCollect(taken.newKind);
            if (cell < 0) {
                throw fail(5, place);
            }
            return new int[] {Model.POINTER, cell};
        }
        if (taken.path == null) {
            return new int[] {taken.sort, taken.number};
        }
        int address = locate(m, taken.path, place);
        int number = m.number(address);
        if (taken.moved && m.sort(address) == Model.NUMBER) {
            number = Math.min(999, Math.max(-999, number + taken.by));
        } else if (taken.moved) {
            if (number < 0) {
                throw fail(4, place);
            }
            int to = number + taken.by;
            if (to < m.limit || to >= m.words || m.cellOf(to) != m.cellOf(number)) {
                throw fail(4, place);
            }
            number = to;
        }
        return new int[] {m.sort(address), number};
    }

    private int locate(Model m, Path path, int place) throws Failed {
        int address = path.register - 8;
        for (int f : path.dots) {
            if (!m.points(address)) {
                throw fail(1, place);
            }
            int cell = m.cellOf(m.number(address));
            if (f >= m.fields(cell)) {
                throw fail(2, place);
            }
            address = cell + 1 + f;
        }
        return address;
    }
}
