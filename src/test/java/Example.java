public final class Example {
    public static void main(String[] args) {
        Panyard yard = new Panyard();
        int pan = yard.pan(0);                  // a tenor, which costs 40
        int phrase = yard.phrase(0, 3, 0b111);  // for tenors, 3 hard, of the notes 0, 1 and 2
        int player = yard.player(0, 5, 4);      // a tenor player: speed 5, and a reach of 4 notes
        yard.give(player, pan);
        System.out.println("blows of the tuner: " + yard.tuner(pan, 60));
        System.out.println("notes in tune: " + yard.ofPan(pan, 3));
        System.out.println("memory: " + yard.teach(player, phrase, 60));

        int place = yard.put(phrase);
        System.out.println("sound of the place: " + yard.ofPlace(place, 1));
        System.out.println("total, and in 5 days: " + yard.many(10) + ", " + yard.wouldTotal(5));

        yard.rival(190);
        yard.rival(300);
        System.out.println("rank: " + yard.play());
        System.out.println("day: " + yard.pass(2, 7, 5) + ", memory: " + yard.memory(player, phrase));
        try {
            yard.blow(pan, 8, 5);
        } catch (IndexOutOfBoundsException e) {
            System.out.println("a pan has no note 8");
        }
    }
}
