/** All that a house can be asked, a line a call, so that two states of a house can be held against each other. */
final class Answers {
    private final Slicehouse house;
    private final StringBuilder text = new StringBuilder();

    private Answers(Slicehouse house) {
        this.house = house;
    }

    /** What questions tell that change nothing: of so many jobs and tasks (and the next ones), and the first moments. */
    static String of(Slicehouse house, int jobs, int tasks, int moments) {
        Answers answers = new Answers(house);
        answers.askMoments(jobs, moments);
        answers.askJobs(jobs);
        answers.askRun();
        answers.askHeld();
        answers.askTasks(tasks);
        return answers.text.toString();
    }

    /** What later calls tell of all that was told: each rule's run, and the numbers that telling more gives. */
    static String future(Slicehouse house, int jobs) {
        Answers answers = new Answers(house);
        for (int rule = Slicehouse.RING; rule <= Slicehouse.RANKS; rule++) {
            int by = rule;
            answers.ask("run " + by, () -> house.run(by));
            answers.ask("checksum " + by, () -> house.checksum());
        }
        for (int number = 0; number < jobs; number++) {
            int job = number;
            answers.ask("lock " + job, () -> house.lock(job, 2, 0, 1));
            answers.ask("after " + job, () -> house.after(job, 0));
        }
        answers.ask("one more job", () -> house.job(0, 1, 0, 1));
        answers.ask("one more task", () -> house.task(60, 1, 60));
        answers.ask("turns", () -> house.turns(1, 0, 0, 0, false));
        answers.ask("clear", () -> house.clear());
        return answers.text.toString();
    }

    private void ask(String what, Check.Call call) {
        text.append(what).append(" -> ").append(Check.answerOf(call)).append('\n');
    }

    private void askMoments(int jobs, int moments) {
        for (int number = -1; number <= moments + 1; number++) {
            int moment = number <= moments ? number : Integer.MAX_VALUE;
            ask("running " + moment, () -> house.running(moment));
            ask("work " + moment, () -> house.work(moment));
            for (int of = 0; of < jobs; of++) {
                int job = of;
                ask("left " + job + " " + moment, () -> house.left(job, moment));
            }
        }
    }

    private void askJobs(int jobs) {
        for (int number = -1; number <= jobs; number++) {
            int job = number;
            ask("end " + job, () -> house.end(job));
            ask("waits " + job, () -> house.waits(job));
            ask("blocked " + job, () -> house.blocked(job));
            ask("late " + job, () -> house.late(job));
        }
    }

    private void askRun() {
        ask("sumOfEnds", () -> house.sumOfEnds());
        ask("slowest above", () -> house.slowest(false));
        ask("slowest below", () -> house.slowest(true));
        for (int number = -2; number <= 2; number++) {
            int index = number;
            ask("busy " + index, () -> house.busy(index, false));
            ask("busy to " + index, () -> house.busy(index, true));
        }
        ask("checksum", () -> house.checksum());
        ask("meanEnd", () -> house.meanEnd());
        ask("workShare", () -> house.workShare());
    }

    private void askHeld() {
        ask("which", () -> house.which());
        ask("best", () -> house.best());
        for (int bits = 0; bits < 4; bits++) {
            boolean isLeast = (bits & 1) != 0;
            boolean isLate = (bits & 2) != 0;
            ask("two " + isLeast + " " + isLate, () -> house.two(isLeast, isLate));
        }
        ask("isFeasible", () -> house.isFeasible());
        for (int number = 0; number < 3; number++) {
            int what = number;
            ask("full " + what, () -> house.full(what));
        }
        ask("errors", () -> house.errors());
    }

    private void askTasks(int tasks) {
        ask("load above", () -> house.load(false));
        ask("load below", () -> house.load(true));
        for (int number = -1; number <= tasks; number++) {
            int task = number;
            ask("response " + task, () -> house.response(task));
        }
    }
}
