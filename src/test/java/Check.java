/** What the tests share: feeding texts, and telling what is not as due. */
final class Check {
    private int wrong = 0;
    private int asked = 0;
    private String promise = "";

    void promise(int number) {
        promise = "promise " + number;
    }

    void is(String what, long got, long due) {
        asked++;
        if (got != due) {
            wrong++;
            System.out.println(promise + ": " + what + " answered " + got + ", due is " + due);
        }
    }

    void is(String what, boolean got, boolean due) {
        is(what, got ? 1 : 0, due ? 1 : 0);
    }

    /** A call with STATUS 0. */
    void taken(OathTill x, String what, long got, long due) {
        is(what, got, due);
        is(what + " status", x.status(), 0);
    }

    /** A refused call: what it gave, and the STATUS. */
    void refused(OathTill x, String what, long got, int status) {
        is(what, got, OathTill.NONE);
        is(what + " status", x.status(), status);
    }

    void refused(OathTill x, String what, boolean got, int status) {
        is(what, got, false);
        is(what + " status", x.status(), status);
    }

    /** Ends the program, with 1 if something was wrong. */
    void end() {
        System.out.println(asked + " answers asked, " + wrong + " wrong");
        if (wrong != 0) {
            System.exit(1);
        }
    }

    static int feed(OathTill x, String text) {
        int fed = 0;
        for (int i = 0; i < text.length(); i += 20) {
            int[] five = new int[5];
            for (int j = 0; j < 20; j++) {
                int c = i + j < text.length() ? text.charAt(i + j) & 255 : 0;
                five[j / 4] = five[j / 4] << 8 | c;
            }
            fed = x.feed(five[0], five[1], five[2], five[3], five[4]);
        }
        return fed;
    }

    static int court(OathTill x, String text) {
        feed(x, text);
        return x.court(text.length());
    }

    static int trials(OathTill x, String text) {
        feed(x, text);
        return x.trials(text.length());
    }

    /** Six rich persons a to f, PLACES la at 0, lb at 10, lc at 20, ld at 20, le at 60; f is a BISHOP. */
    static OathTill six(String more) {
        OathTill x = new OathTill();
        court(x, "place la at 0;place lb at 10;place lc at 20;place ld at 20;place le at 60;"
            + "person a purse 999;person b purse 999;person c purse 999;person d purse 999;person e purse 999;"
            + "person f purse 0 bishop;" + more);
        if (x.status() != 0) {
            throw new IllegalArgumentException(more);
        }
        return x;
    }
}
