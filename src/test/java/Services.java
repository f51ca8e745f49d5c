/** Services that several tests begin with. */
final class Services {
    /** What waits in the buffer of a busy service. */
    static final String WAITING = "rest 2 7";
    /** A program of 60 characters. */
    static final String LONGEST = "home 0;home 0;home 0;home 0;home 0;home 0;rest 2 07;rest 1 7";

    private Services() {
    }

    /** A service whose shed has 50 parts of each kind. */
    static RepairBarrows stocked() {
        RepairBarrows service = new RepairBarrows();
        for (char kind = 'a'; kind <= 'd'; kind++) {
            service.addStock(kind, 50);
        }
        return service;
    }

    /** A service whose barrow 0 has ten parts a and the tool 0. */
    static RepairBarrows equipped() {
        RepairBarrows service = stocked();
        service.load(0, 'a', 10);
        service.borrow(0, 0);
        return service;
    }

    /** Lets barrow 0 of an equipped service repair a job that is never late. */
    static RepairBarrows at(int x, int y) {
        RepairBarrows service = equipped();
        service.repair(0, service.addJob(x, y, 'a', 0, 1, 199));
        return service;
    }

    /**
     * A busy service with an empty buffer. Nothing is refused behind its latest changes: what a refused call
     * does to them is what the tests look for.
     */
    static RepairBarrows quiet() {
        RepairBarrows service = new RepairBarrows();
        service.addStock('a', 99);
        service.addStock('b', 12);
        service.addStock('c', 3);
        service.load(0, 'a', 2);
        service.load(1, 'b', 10);
        service.borrow(0, 0);
        service.borrow(0, 1);
        service.borrow(1, 2);
        service.addJob(3, 4, 'a', 0, 2, 5);
        service.addJob(9, 9, 'd', 5, 1, 1);
        service.repair(0, 0);
        service.cancelJob(1);
        service.addStock('a', 2);
        addTwelveJobs(service);
        Expect.outcome(() -> Text.run(service, "job x"));
        Expect.outcome(() -> Text.run(service, "home 0;take 99"));
        service.save();
        for (int job = 2; job <= 7; job++) {
            service.assign(job, 1);
        }
        service.assign(8, 0);
        service.assign(9, 2);
        service.rest(2, 5);
        service.writeBarrow(1);
        return service;
    }

    /**
     * A service that has reached most limits, with something in all that it remembers. Stock: 99 a, 2 b, 3 c,
     * no d. Barrow 0: at 3,4 with one a and the tools 0 and 1; barrow 1: home with ten b, the tool 2 and six
     * jobs; barrow 2: home with one job. Job 0 is repaired, job 1 cancelled, the jobs 2 to 13 are open.
     * A state is saved, eight changes can be undone, an error and a failure are recorded.
     */
    static RepairBarrows busy() {
        RepairBarrows service = quiet();
        Text.type(service, WAITING);
        return service;
    }

    /** A busy service with 60 characters in its buffer. */
    static RepairBarrows full() {
        RepairBarrows service = quiet();
        Text.type(service, LONGEST);
        return service;
    }

    // Barrow 0 could repair job 2, lacks the part of job 3, the tool of job 4, and both for job 5.
    private static void addTwelveJobs(RepairBarrows service) {
        service.addJob(1, 2, 'a', 0, 1, 9);
        service.addJob(20, 20, 'b', 0, 4, 199);
        service.addJob(0, 0, 'a', 2, 2, 1);
        service.addJob(7, 3, 'd', 5, 3, 20);
        for (int i = 0; i < 8; i++) {
            service.addJob(2 * i, 20 - i, "abcd".charAt(i % 4), i % 6, 1 + i % 4, 30 - 3 * i);
        }
    }
}
