/** Makes mills alike, and tells by them what a call leaves as it was. */
final class Twins {
    /** Makes a mill, each time the same one. */
    interface Maker {
        SeaMill make();
    }

    interface Call {
        int on(SeaMill mill);
    }

    /** A row of answers that grows. */
    private static final class Answers {
        private int[] row = new int[600];
        private int length = 0;

        void add(int answer) {
            row[length] = answer;
            length++;
        }

        boolean isSame(Answers other) {
            if (length != other.length) {
                return false;
            }
            for (int i = 0; i < length; i++) {
                if (row[i] != other.row[i]) {
                    return false;
                }
            }
            return true;
        }
    }

    /** The mill as it is, after one undo and so on, and some time later. */
    private static final int VIEWS = 6;
    private static final int LATER = 5;

    private Twins() {
    }

    /** The call has this answer, and everything is as it was, the history and what is to come too. */
    static void keeps(String name, int answer, Maker maker, Call call) {
        Check.due(name, answer, call.on(maker.make()));
        for (int view = 0; view < VIEWS; view++) {
            SeaMill mill = maker.make();
            call.on(mill);
            isSame(name + " keeps everything, view " + view, look(maker.make(), view), look(mill, view));
        }
    }

    /** The call has this answer and is one change: it is recorded, and undo restores everything. */
    static void changes(String name, int answer, Maker maker, Call call) {
        SeaMill mill = maker.make();
        int states = mill.count(9);
        Check.due(name, answer, call.on(mill));
        Check.due(name + ", then count(9)", Math.min(states + 1, 4), mill.count(9));
        Check.due(name + ", then undo()", Math.min(states, 3), mill.undo());
        Answers before = new Answers();
        Answers after = new Answers();
        tellAll(maker.make(), before);
        tellAll(mill, after);
        isSame(name + ", then undo() restores everything", before, after);
        mill = maker.make();
        call.on(mill);
        mill.undo();
        SeaMill twin = maker.make();
        Check.due(name + ", undo(), then pass(99)", twin.pass(99), mill.pass(99));
        before = new Answers();
        after = new Answers();
        tellAll(twin, before);
        tellAll(mill, after);
        isSame(name + ", then undo() restores what is to come", before, after);
    }

    private static void isSame(String name, Answers before, Answers after) {
        Check.due(name, 1, before.isSame(after) ? 1 : 0);
    }

    private static Answers look(SeaMill mill, int view) {
        Answers answers = new Answers();
        for (int i = 0; i < view && view < LATER; i++) {
            answers.add(mill.undo());
        }
        if (view == LATER) {
            answers.add(mill.pass(200));
        }
        answers.add(mill.count(9));
        tellAll(mill, answers);
        return answers;
    }

    /** Everything that a mill tells but the number of states; at most 445 calls if there are no pledges. */
    private static void tellAll(SeaMill mill, Answers answers) {
        for (int what = 0; what <= 32; what++) {
            if (what <= 8 || what == 10 || what >= 20) {
                answers.add(mill.count(what));
            }
        }
        for (int what = 0; what <= 14; what++) {
            answers.add(mill.pond(what));
        }
        answers.add(mill.nextHigh());
        answers.add(mill.seaIn(1));
        answers.add(mill.fault(0));
        answers.add(mill.fault(1));
        tellGrain(mill, answers);
        int waiting = mill.count(3);
        int pledges = mill.count(6);
        for (int index = 0; index <= waiting; index++) {
            answers.add(mill.queueAt(index));
        }
        for (int index = 0; index < pledges; index++) {
            for (int what = 0; what <= 4; what++) {
                answers.add(mill.pledgeAt(index, what));
            }
        }
    }

    private static void tellGrain(SeaMill mill, Answers answers) {
        int kinds = mill.count(0);
        int farmers = mill.count(1);
        int sacks = mill.count(2);
        for (int what = 0; what <= 5; what++) {
            for (int kind = 0; kind < kinds; kind++) {
                answers.add(mill.kindOf(kind, what));
            }
            for (int farmer = 0; farmer < farmers; farmer++) {
                answers.add(mill.farmerOf(farmer, what));
            }
        }
        for (int sack = 0; sack < sacks; sack++) {
            for (int what = 0; what <= 11; what++) {
                answers.add(mill.sackOf(sack, what));
            }
        }
    }
}
