import java.util.LinkedHashMap;
import java.util.Map;

/**
 * All that can be asked of an object, section by section. The object is spent by it: to see what a call
 * changes, the same object is made twice, and the call made on one of them.
 */
final class Portrait {
    private static final int PLACES = 0;
    private static final int PERSONS = 1;
    private static final int OATHS = 2;

    private final OathTill x;
    private final Map<String, String> sections = new LinkedHashMap<>();
    private StringBuilder line = new StringBuilder();

    private Portrait(OathTill x) {
        this.x = x;
    }

    static Map<String, String> of(OathTill x) {
        Portrait portrait = new Portrait(x);
        portrait.draw();
        return portrait.sections;
    }

    private void say(long answer) {
        line.append(answer).append(' ');
    }

    private void end(String section) {
        sections.put(section, line.toString());
        line = new StringBuilder();
    }

    private void draw() {
        fault();
        fraction();
        memories();
        court();
        oaths();
        trays();
        trials();
        tape();
        marks();
    }

    private void fault() {
        say(x.fault(0));
        say(x.fault(1));
        end("fault");
    }

    private void fraction() {
        say(x.top());
        say(x.bottom());
        end("fraction");
    }

    private void memories() {
        say(x.alibiBy(0));
        say(x.alibiBy(1));
        end("alibi");
        for (int what = 0; what < 3; what++) {
            say(x.callBy(what));
        }
        end("call");
        lived();
        end("lived");
    }

    private void lived() {
        for (int what = 0; what < 5; what++) {
            say(x.lived(what));
        }
    }

    private void told() {
        for (int what = 0; what < 12; what++) {
            say(x.told(what));
        }
    }

    private void court() {
        told();
        for (int place = x.told(PLACES) - 1; place >= 0; place--) {
            say(x.mile(place));
        }
        int persons = x.told(PERSONS);
        for (int person = 0; person < persons; person++) {
            for (int what = 0; what < 6; what++) {
                say(x.person(person, what));
            }
            for (int hour = 0; hour < 8; hour++) {
                say(x.known(person, hour));
            }
            for (int other = person + 1; other < persons; other++) {
                say(x.knows(person, other));
                say(x.knows(other, person));
            }
        }
        end("court");
    }

    private void oaths() {
        for (int oath = x.told(OATHS) - 1; oath >= 0; oath--) {
            for (int what = 0; what < 8; what++) {
                say(x.oath(oath, what));
            }
        }
        end("oaths");
    }

    private void trays() {
        for (int tray = 0; tray < 4; tray++) {
            int many = 0;
            for (long v = x.read(tray, 0); x.status() == 0; v = x.read(tray, many)) {
                say(v);
                many++;
            }
            say(x.status());
            // how a number is cut tells the sort
            x.write(tray, 0, 0x1122334455667788L);
            say(x.read(tray, 0));
        }
        end("trays");
    }

    private void trials() {
        say(x.live(3));
        lived();
        told();
        end("trials");
    }

    /** The tape is read as a COURT. */
    private void tape() {
        int fed = x.feed(0x20202020, 0x20202020, 0x20202020, 0x20202020, 0x20202020);
        say(fed);
        say(x.court(fed < 0 ? 900 : fed - 20));
        say(x.status());
        say(x.fault(0));
        say(x.fault(1));
        told();
        end("tape");
    }

    private void marks() {
        for (int left = x.undo(); left >= 0; left = x.undo()) {
            say(left);
            told();
            for (int person = x.told(PERSONS) - 1; person >= 0; person--) {
                say(x.person(person, 0));
            }
            say(x.live(3));
        }
        end("marks");
    }
}
