/** Two days at a court, in the order in which README.md tells of them. */
public final class Example {
    public static void main(String[] args) {
        CourtRelays court = new CourtRelays();
        int ann = court.addInterpreter(0b110, 7, 10);       // speaks 1 and 2, certified for all kinds, rate 10
        int bob = court.addInterpreter(0b101, 7, 15);       // speaks 2 and 0, the language of the court
        int civil = court.addHearing(0, 1, 30, 60);         // in language 1, starts in 30 minutes, takes 60

        System.out.println("Ann alone: reason " + court.whyNot(civil, ann, CourtRelays.NONE, CourtRelays.NONE));
        System.out.println("Ann, then Bob: they earn " + court.assign(civil, ann, bob, CourtRelays.NONE));

        for (char c : "a2@1500+45,r9@1600+20".toCharArray()) {
            court.append(c);
        }
        System.out.println("hearings with the list: " + court.addList());
        int asylum = 1;
        System.out.println("cheapest for the asylum case: " + court.cheapest(asylum, 0)
                + ", by interpreter " + court.cheapest(asylum, 2));
        court.assign(asylum, court.cheapest(asylum, 2), court.cheapest(asylum, 3), court.cheapest(asylum, 4));

        System.out.println("done in 90 minutes: " + court.pass(90));
        System.out.println("paid for vacating it now: " + court.vacate(asylum));
        System.out.println("share paid for done hearings: " + court.doneShare());
        court.undo();
        System.out.println("undone; vacated hearings: " + court.count(7));

        try {
            court.release(civil);
        } catch (IllegalStateException e) {
            System.out.println("a done hearing keeps its chain");
        }
    }
}
