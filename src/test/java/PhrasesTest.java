/** Promises 7 to 15, 23 to 25 and 30: phrases, the arrangement, players, lessons and rehearsals. */
public final class PhrasesTest {
    public static void main(String[] args) {
        phrase();
        phraseRefusals();
        change();
        changeRefusals();
        put();
        cut();
        player();
        playerRefusals();
        give();
        giveRefusals();
        absent();
        teach();
        teachHeld();
        teachMinutes();
        teachRefusals();
        rehearse();
        rehearseOddDay();
        rehearseWho();
        rehearseHeld();
        rehearseMinutes();
        sounds();
        ofPhraseRefusals();
        ofPlayerRefusals();
        memory();
        meanMemory();
        Check.finish();
    }

    private static void phrase() {
        Panyard x = new Panyard();
        Check.due("first phrase", x.phrase(2, 9, 255), 0);
        Check.due("second phrase", x.phrase(0, 1, 1), 1);
        Check.due("two phrases", x.many(2), 2);
        int[] want = {2, 9, 255, 0, 0};
        for (int what = 0; what <= 4; what++) {
            Check.due("ofPhrase " + what, x.ofPhrase(0, what), want[what]);
        }
        Check.due("section of the second", x.ofPhrase(1, 0), 0);
        Check.due("hard of the second", x.ofPhrase(1, 1), 1);
        Check.due("notes of the second", x.ofPhrase(1, 2), 1);
        Check.due("a phrase costs nothing", x.many(7), 200);
    }

    private static void phraseRefusals() {
        Panyard x = new Panyard();
        Check.refused("section -1", x, Check.INDEX, () -> x.phrase(-1, 1, 1));
        Check.refused("section 4", x, Check.INDEX, () -> x.phrase(4, 1, 1));
        Check.refused("hard 0", x, Check.ARGUMENT, () -> x.phrase(0, 0, 1));
        Check.refused("hard 10", x, Check.ARGUMENT, () -> x.phrase(0, 10, 1));
        Check.refused("notes 0", x, Check.ARGUMENT, () -> x.phrase(0, 1, 0));
        Check.refused("notes 256", x, Check.ARGUMENT, () -> x.phrase(0, 1, 256));
        Check.refused("notes -1", x, Check.ARGUMENT, () -> x.phrase(0, 1, -1));
        Check.refused("section 4, hard 0", x, Check.INDEX, () -> x.phrase(4, 0, 0));
        for (int i = 0; i < 8; i++) {
            Check.due("phrase " + i, x.phrase(3, 1, 255), i);
        }
        Check.refused("a ninth phrase", x, Check.STATE, () -> x.phrase(0, 1, 1));
        Check.refused("a ninth, section 4", x, Check.INDEX, () -> x.phrase(4, 1, 1));
        Check.refused("a ninth, hard 0", x, Check.ARGUMENT, () -> x.phrase(0, 0, 1));
    }

    private static void change() {
        Panyard x = new Panyard();
        x.phrase(1, 1, 3);
        x.phrase(1, 1, 3);
        x.player(1, 9, 2);
        x.player(1, 5, 8);
        x.player(0, 5, 8);
        x.teach(0, 0, 60);
        x.teach(1, 0, 15);
        x.teach(1, 1, 5);
        Check.due("memory 100", x.memory(0, 0), 100);
        Check.due("memory 75", x.memory(1, 0), 75);
        Check.due("changed once", x.change(0, 9, 7), 1);
        Check.due("half of 100", x.memory(0, 0), 50);
        Check.due("half of 75, rounded down", x.memory(1, 0), 37);
        Check.due("another phrase stays", x.memory(1, 1), 25);
        Check.due("section stays", x.ofPhrase(0, 0), 1);
        Check.due("hard now", x.ofPhrase(0, 1), 9);
        Check.due("notes now", x.ofPhrase(0, 2), 7);
        Check.due("told with the same words it is changed, too", x.change(0, 9, 7), 2);
        Check.due("how often", x.ofPhrase(0, 3), 2);
        Check.due("the other was not", x.ofPhrase(1, 3), 0);
        Check.due("half again", x.memory(0, 0), 25);
        changeMovesTheLimit();
    }

    private static void changeMovesTheLimit() {
        Panyard x = new Panyard();
        x.phrase(1, 1, 3);
        x.player(1, 9, 2);
        x.teach(0, 0, 30);
        x.change(0, 1, 7);
        Check.due("more notes than reach: 70 at most", x.teach(0, 0, 30), 70);
        x.pass(1, 0, 0);
        x.change(0, 1, 192);
        Check.due("half of 70", x.memory(0, 0), 35);
        Check.due("no more notes than reach: 100 at most", x.teach(0, 0, 30), 100);
    }

    private static void changeRefusals() {
        Panyard x = new Panyard();
        Check.refused("change of none", x, Check.INDEX, () -> x.change(0, 1, 1));
        x.phrase(0, 5, 5);
        Check.refused("change of 1", x, Check.INDEX, () -> x.change(1, 0, 1));
        Check.refused("change of -1", x, Check.INDEX, () -> x.change(-1, 1, 1));
        Check.refused("change to hard 0", x, Check.ARGUMENT, () -> x.change(0, 0, 1));
        Check.refused("change to hard 10", x, Check.ARGUMENT, () -> x.change(0, 10, 1));
        Check.refused("change to notes 0", x, Check.ARGUMENT, () -> x.change(0, 1, 0));
        Check.refused("change to notes 256", x, Check.ARGUMENT, () -> x.change(0, 1, 256));
    }

    private static void put() {
        Panyard x = new Panyard();
        Check.refused("put of none", x, Check.INDEX, () -> x.put(0));
        x.phrase(0, 1, 1);
        x.phrase(3, 1, 1);
        for (int i = 0; i < 10; i++) {
            Check.due("put " + i, x.put(i % 3 == 0 ? 1 : 0), i);
        }
        Check.due("ten places", x.many(3), 10);
        Check.due("places of 0", x.ofPhrase(0, 4), 6);
        Check.due("places of 1", x.ofPhrase(1, 4), 4);
        Check.due("phrase of place 9", x.ofPlace(9, 0), 1);
        Check.due("phrase of place 8", x.ofPlace(8, 0), 0);
        Check.refused("an eleventh", x, Check.STATE, () -> x.put(0));
        Check.refused("an eleventh, of none", x, Check.INDEX, () -> x.put(2));
        Check.refused("put of -1", x, Check.INDEX, () -> x.put(-1));
    }

    private static void cut() {
        Panyard x = new Panyard();
        Check.refused("cut of none", x, Check.INDEX, () -> x.cut(0));
        for (int i = 0; i < 4; i++) {
            x.phrase(0, 1, 1);
            x.put(i);
        }
        Check.due("cut of 1", x.cut(1), 1);
        Check.due("three places", x.many(3), 3);
        int[] left = {0, 2, 3};
        for (int i = 0; i < 3; i++) {
            Check.due("those behind come forward " + i, x.ofPlace(i, 0), left[i]);
        }
        Check.refused("cut of 3", x, Check.INDEX, () -> x.cut(3));
        Check.refused("cut of -1", x, Check.INDEX, () -> x.cut(-1));
        Check.due("cut of the last", x.cut(2), 3);
        Check.due("cut of the first", x.cut(0), 0);
        Check.due("left", x.ofPlace(0, 0), 2);
        Check.due("cut of the only one", x.cut(0), 2);
        Check.due("none left", x.many(3), 0);
        Check.due("not in a place any more", x.ofPhrase(2, 4), 0);
        Check.due("put again", x.put(3), 0);
    }

    private static void player() {
        Panyard x = new Panyard();
        Check.due("first player", x.player(3, 1, 8), 0);
        Check.due("second player", x.player(0, 9, 1), 1);
        Check.due("two players", x.many(4), 2);
        int[] want = {3, 1, 8, -1, 0, 0, 0};
        for (int what = 0; what <= 6; what++) {
            Check.due("ofPlayer " + what, x.ofPlayer(0, what), want[what]);
        }
        Check.due("section of the second", x.ofPlayer(1, 0), 0);
        Check.due("speed of the second", x.ofPlayer(1, 1), 9);
        Check.due("reach of the second", x.ofPlayer(1, 2), 1);
    }

    private static void playerRefusals() {
        Panyard x = new Panyard();
        Check.refused("section -1", x, Check.INDEX, () -> x.player(-1, 1, 1));
        Check.refused("section 4", x, Check.INDEX, () -> x.player(4, 0, 0));
        Check.refused("speed 0", x, Check.ARGUMENT, () -> x.player(0, 0, 1));
        Check.refused("speed 10", x, Check.ARGUMENT, () -> x.player(0, 10, 1));
        Check.refused("reach 0", x, Check.ARGUMENT, () -> x.player(0, 1, 0));
        Check.refused("reach 9", x, Check.ARGUMENT, () -> x.player(0, 1, 9));
        for (int i = 0; i < 8; i++) {
            Check.due("player " + i, x.player(0, 1, 1), i);
        }
        Check.refused("a ninth player", x, Check.STATE, () -> x.player(0, 1, 1));
        Check.refused("a ninth, section 4", x, Check.INDEX, () -> x.player(4, 1, 1));
        Check.refused("a ninth, speed 0", x, Check.ARGUMENT, () -> x.player(0, 0, 1));
        Check.refused("a ninth, reach 9", x, Check.ARGUMENT, () -> x.player(0, 1, 9));
    }

    private static void give() {
        Panyard x = new Panyard();
        x.pan(1);
        x.pan(1);
        x.player(1, 1, 1);
        x.player(1, 1, 1);
        Check.due("none before", x.give(0, 1), -1);
        Check.due("one before", x.give(0, 0), 1);
        Check.due("its pan", x.ofPlayer(0, 3), 0);
        Check.due("a pan can be that of several", x.give(1, 0), -1);
        Check.due("both sound", x.many(5), 2);
        Check.due("none from now on", x.give(0, -1), 0);
        Check.due("no pan", x.ofPlayer(0, 3), -1);
        Check.due("none and none", x.give(0, -1), -1);
        Check.due("one sounds", x.many(5), 1);
    }

    private static void giveRefusals() {
        Panyard x = new Panyard();
        Check.refused("no player", x, Check.INDEX, () -> x.give(0, -1));
        x.pan(1);
        x.pan(2);
        x.player(2, 1, 1);
        x.give(0, 1);
        Check.refused("player 1", x, Check.INDEX, () -> x.give(1, 1));
        Check.refused("player -1", x, Check.INDEX, () -> x.give(-1, 0));
        Check.refused("pan 2", x, Check.INDEX, () -> x.give(0, 2));
        Check.refused("pan -2", x, Check.INDEX, () -> x.give(0, -2));
        Check.refused("another family", x, Check.ARGUMENT, () -> x.give(0, 0));
        Check.due("the pan stays", x.ofPlayer(0, 3), 1);
    }

    private static void absent() {
        Panyard x = new Panyard();
        Check.refused("no player", x, Check.INDEX, () -> x.absent(0, true));
        x.player(0, 1, 1);
        x.player(0, 1, 1);
        Check.due("not at first", x.absent(0, true), false);
        Check.due("absent", x.ofPlayer(0, 4), 1);
        Check.due("the other is not", x.ofPlayer(1, 4), 0);
        Check.due("was absent", x.absent(0, true), true);
        Check.due("was absent still", x.absent(0, false), true);
        Check.due("is here", x.ofPlayer(0, 4), 0);
        Check.due("was here", x.absent(0, false), false);
        Check.refused("player 2", x, Check.INDEX, () -> x.absent(2, true));
        Check.refused("player -1", x, Check.INDEX, () -> x.absent(-1, true));
    }

    private static void teach() {
        Panyard x = new Panyard();
        x.phrase(1, 3, 3);
        x.phrase(1, 9, 3);
        x.player(1, 7, 2);
        x.player(1, 1, 1);
        Check.due("10 * 7 / 3", x.teach(0, 0, 10), 23);
        Check.due("5 * 7 / 3 more", x.teach(0, 0, 5), 34);
        Check.due("1 * 7 / 9 is nothing", x.teach(0, 1, 1), 0);
        Check.due("another player", x.teach(1, 0, 60), 20);
        Check.due("minutes ever", x.ofPlayer(0, 6), 16);
        Check.due("minutes of the other", x.ofPlayer(1, 6), 60);
        Check.due("the other phrase", x.memory(1, 1), 0);
        Check.due("taught without a pan", x.memory(0, 0), 34);
    }

    private static void teachHeld() {
        Panyard x = new Panyard();
        x.phrase(1, 1, 7);
        x.player(1, 9, 3);
        x.player(1, 9, 2);
        Check.due("100 at most", x.teach(0, 0, 12), 100);
        Check.due("70 at most", x.teach(1, 0, 8), 70);
        Check.due("full", x.teach(0, 0, 1), 100);
        Check.due("full at 70", x.teach(1, 0, 1), 70);
    }

    private static void teachMinutes() {
        Panyard x = new Panyard();
        x.phrase(1, 9, 1);
        x.phrase(2, 9, 1);
        x.player(1, 1, 1);
        x.player(1, 1, 1);
        x.player(2, 1, 1);
        x.teach(0, 0, 60);
        Check.refused("31 of 30 left", x, Check.STATE, () -> x.teach(1, 0, 31));
        Check.due("30 of 30 left", x.teach(1, 0, 30), 3);
        Check.refused("1 of 0 left", x, Check.STATE, () -> x.teach(0, 0, 1));
        Check.due("another section has its own", x.teach(2, 1, 60), 6);
        Check.due("and 30", x.teach(2, 1, 30), 9);
        x.pass(1, 0, 0);
        x.teach(0, 0, 60);
        Check.due("fresh the next day", x.teach(0, 0, 30) > 0, true);
        Check.due("minutes ever", x.ofPlayer(0, 6), 150);
        teachMinutesOfEachSection();
    }

    private static void teachMinutesOfEachSection() {
        Panyard x = new Panyard();
        for (int section = 0; section < 4; section++) {
            x.phrase(section, 9, 1);
            x.player(section, 1, 1);
        }
        for (int day = 0; day < 3; day++) {
            for (int section = 0; section < 4; section++) {
                int own = section;
                x.teach(own, own, 45);
                Check.due("90 of section " + own + " on day " + day, x.teach(own, own, 45) > 0, true);
                Check.refused("91 of section " + own, x, Check.STATE, () -> x.teach(own, own, 1));
            }
            x.pass(1, 0, 0);
        }
    }

    private static void teachRefusals() {
        Panyard x = new Panyard();
        Check.refused("no player", x, Check.INDEX, () -> x.teach(0, 0, 1));
        x.player(1, 9, 8);
        Check.refused("no phrase", x, Check.INDEX, () -> x.teach(0, 0, 0));
        x.phrase(1, 1, 1);
        x.phrase(2, 1, 1);
        Check.refused("player -1", x, Check.INDEX, () -> x.teach(-1, 0, 1));
        Check.refused("player 1", x, Check.INDEX, () -> x.teach(1, 0, 1));
        Check.refused("phrase -1", x, Check.INDEX, () -> x.teach(0, -1, 1));
        Check.refused("phrase 2", x, Check.INDEX, () -> x.teach(0, 2, 0));
        Check.refused("0 minutes", x, Check.ARGUMENT, () -> x.teach(0, 0, 0));
        Check.refused("61 minutes", x, Check.ARGUMENT, () -> x.teach(0, 0, 61));
        Check.refused("another section", x, Check.ARGUMENT, () -> x.teach(0, 1, 1));
        x.absent(0, true);
        Check.refused("absent", x, Check.STATE, () -> x.teach(0, 0, 1));
        Check.refused("absent, another section", x, Check.ARGUMENT, () -> x.teach(0, 1, 1));
        Check.refused("absent, 61 minutes", x, Check.ARGUMENT, () -> x.teach(0, 0, 61));
        x.absent(0, false);
        x.teach(0, 0, 60);
        Check.due("those that were refused took no minutes", x.teach(0, 0, 30), 100);
        Check.refused("no minutes left, another section", x, Check.ARGUMENT, () -> x.teach(0, 1, 1));
    }

    /** Player 0 with pan 0, both of family 1, and phrase 0 (note 1 and 2) known to 45. */
    private static Panyard ready() {
        Panyard x = new Panyard();
        x.pan(1);
        x.phrase(1, 2, 6);
        x.player(1, 9, 4);
        x.give(0, 0);
        x.teach(0, 0, 10);
        x.put(0);
        return x;
    }

    private static void rehearse() {
        Panyard x = ready();
        Check.offs("before", x, 0, -12, -7, -2, 3, 8, 13, -13, -8);
        Check.due("one sounds", x.rehearse(19), 1);
        Check.due("19 / 10 more", x.memory(0, 0), 46);
        Check.offs("1 less and 1 more", x, 0, -12, -8, -1, 3, 8, 13, -13, -8);
        Check.due("minutes of the day", x.many(12), 19);
        x.put(0);
        x.rehearse(30);
        Check.due("each place", x.memory(0, 0), 52);
        Check.offs("each place wears", x, 0, -12, -10, 1, 3, 8, 13, -13, -8);
        Check.due("no fatigue", x.ofPan(0, 1), 0);
        Check.due("no blows", x.many(13), 0);
        Check.due("minutes taught", x.ofPlayer(0, 6), 10);
    }

    private static void rehearseOddDay() {
        Panyard x = ready();
        x.pass(1, 0, 0);
        Check.due("spared", x.memory(0, 0), 45);
        x.rehearse(10);
        Check.offs("on day 1 the other way", x, 0, -12, -6, -3, 3, 8, 13, -13, -8);
        x.change(0, 1, 129);
        Check.due("half of 46", x.memory(0, 0), 23);
        x.teach(0, 0, 1);
        x.rehearse(10);
        Check.due("32 and 1", x.memory(0, 0), 33);
        Check.offs("notes 0 and 7", x, 0, -13, -6, -3, 3, 8, 13, -13, -7);
    }

    private static void rehearseWho() {
        Panyard x = ready();
        x.player(1, 6, 4);
        x.player(2, 9, 4);
        x.phrase(1, 6, 16);
        x.phrase(2, 1, 255);
        x.put(1);
        x.put(2);
        x.give(1, 0);
        x.teach(1, 1, 29);
        Check.due("no pan of family 2: two sound", x.rehearse(10), 2);
        Check.due("29 is too little", x.memory(1, 1), 29);
        Check.offs("so is 0", x, 0, -12, -8, -1, 3, 8, 13, -13, -8);
        x.teach(1, 1, 1);
        x.rehearse(10);
        Check.due("30 is enough", x.memory(1, 1), 31);
        Check.offs("one more note", x, 0, -12, -9, 0, 3, 9, 13, -13, -8);
        x.absent(1, true);
        Check.due("one absent", x.rehearse(10), 1);
        Check.due("an absent one does not rehearse", x.memory(1, 1), 31);
        x.absent(1, false);
        x.give(0, -1);
        Check.due("one without a pan", x.rehearse(10), 1);
        Check.due("that one does not rehearse", x.memory(0, 0), 48);
        Check.due("the other does", x.memory(1, 1), 32);
        x.cut(1);
        x.rehearse(10);
        Check.due("a phrase without a place is not rehearsed", x.memory(1, 1), 32);
    }

    private static void rehearseHeld() {
        Panyard x = ready();
        x.pass(1, 0, 0);
        for (int i = 1; i < 10; i++) {
            x.put(0);
        }
        x.rehearse(100);
        Check.due("100 at most", x.memory(0, 0), 100);
        x.change(0, 2, 255);
        x.rehearse(20);
        Check.due("70 at most", x.memory(0, 0), 70);
        Panyard y = ready();
        for (int i = 0; i < 5; i++) {
            y.blow(0, 2, 20);
            y.blow(0, 5, -20);
        }
        y.change(0, 2, 36);
        y.teach(0, 0, 30);
        y.burn(0);
        Check.due("note 2", y.off(0, 2), 99);
        y.rehearse(10);
        Check.due("held to 99", y.off(0, 2), 99);
        Check.due("note 5", y.off(0, 5), 13 - 100 - 3 - 1);
        for (int i = 1; i < 10; i++) {
            y.put(0);
        }
        y.rehearse(10);
        Check.due("held to -99", y.off(0, 5), -99);
    }

    private static void rehearseMinutes() {
        Panyard x = new Panyard();
        Check.refused("9 minutes", x, Check.ARGUMENT, () -> x.rehearse(9));
        Check.refused("121 minutes", x, Check.ARGUMENT, () -> x.rehearse(121));
        Check.due("without players", x.rehearse(110), 0);
        Check.refused("11 of 10 left", x, Check.STATE, () -> x.rehearse(11));
        Check.refused("121 of 10 left", x, Check.ARGUMENT, () -> x.rehearse(121));
        Check.due("10 of 10 left", x.rehearse(10), 0);
        Check.due("120", x.many(12), 120);
        Check.refused("10 of 0 left", x, Check.STATE, () -> x.rehearse(10));
        x.pass(1, 0, 0);
        Check.due("fresh", x.many(12), 0);
        Check.due("120 of a day", x.rehearse(120), 0);
    }

    private static void sounds() {
        Panyard x = ready();
        Check.due("sounds", x.ofPlayer(0, 5), 1);
        x.absent(0, true);
        Check.due("absent", x.ofPlayer(0, 5), 0);
        Check.due("its pan stays", x.ofPlayer(0, 3), 0);
        x.absent(0, false);
        Check.due("here", x.many(5), 1);
        x.pass(29, 0, 5);
        Check.due("290", x.ofPlayer(0, 5), 1);
        x.pass(1, 0, 5);
        Check.due("cracked", x.ofPlayer(0, 5), 0);
        Check.due("none sounds", x.many(5), 0);
        Check.due("none rehearses", x.rehearse(10), 0);
        Check.due("a cracked pan can be taken back", x.give(0, -1), 0);
        Check.due("a cracked pan can be given", x.give(0, 0), -1);
    }

    private static void ofPhraseRefusals() {
        Panyard x = new Panyard();
        Check.refused("no phrase", x, Check.INDEX, () -> x.ofPhrase(0, 0));
        x.phrase(0, 1, 1);
        Check.refused("phrase 1", x, Check.INDEX, () -> x.ofPhrase(1, 5));
        Check.refused("phrase -1", x, Check.INDEX, () -> x.ofPhrase(-1, 0));
        Check.refused("what 5", x, Check.ARGUMENT, () -> x.ofPhrase(0, 5));
        Check.refused("what -1", x, Check.ARGUMENT, () -> x.ofPhrase(0, -1));
    }

    private static void ofPlayerRefusals() {
        Panyard x = new Panyard();
        Check.refused("no player", x, Check.INDEX, () -> x.ofPlayer(0, 0));
        x.player(0, 1, 1);
        Check.refused("player 1", x, Check.INDEX, () -> x.ofPlayer(1, 7));
        Check.refused("player -1", x, Check.INDEX, () -> x.ofPlayer(-1, 0));
        Check.refused("what 7", x, Check.ARGUMENT, () -> x.ofPlayer(0, 7));
        Check.refused("what -1", x, Check.ARGUMENT, () -> x.ofPlayer(0, -1));
    }

    private static void memory() {
        Panyard x = ready();
        x.phrase(2, 1, 1);
        Check.due("memory", x.memory(0, 0), 45);
        Check.due("another section", x.memory(0, 1), 0);
        Check.refused("player 1", x, Check.INDEX, () -> x.memory(1, 0));
        Check.refused("player -1", x, Check.INDEX, () -> x.memory(-1, 0));
        Check.refused("phrase 2", x, Check.INDEX, () -> x.memory(0, 2));
        Check.refused("phrase -1", x, Check.INDEX, () -> x.memory(0, -1));
    }

    private static void meanMemory() {
        Panyard x = new Panyard();
        x.player(1, 9, 8);
        x.phrase(2, 1, 1);
        Check.dueExactly("none of the section", x.meanMemory(), 0.0);
        x.phrase(1, 9, 1);
        x.phrase(1, 9, 1);
        x.teach(0, 1, 3);
        Check.dueExactly("not cut", x.meanMemory(), 1.5);
        x.player(2, 1, 1);
        x.teach(0, 1, 1);
        Check.dueExactly("three pairs", x.meanMemory(), 4.0 / 3.0);
        x.absent(0, true);
        Check.dueExactly("absent ones count", x.meanMemory(), 4.0 / 3.0);
    }
}
