import java.util.ArrayList;
import java.util.List;

/** Objects that calls are refused on, and what the same object answers if they change nothing. */
enum Stage {
    /** Without corners and panes. */
    EMPTY(0, 0),
    /** Six corners and three panes, with something other than at first everywhere. */
    SOME(6, 3),
    /** 40 corners, 30 panes. */
    FULL(40, 30);

    private final int corners;
    private final int panes;
    private List<Long> answers;

    Stage(int corners, int panes) {
        this.corners = corners;
        this.panes = panes;
    }

    GlassRaster make() {
        GlassRaster g = new GlassRaster();
        if (this == EMPTY) {
            return g;
        }
        g.setCamera(0, 1000, 30, -20, 7);
        g.setCamera(1, -40, 1010, 50, -9);
        g.setCamera(2, 60, -70, 1030, 600);
        g.setLens(110, 45);
        g.setBackground(0x123456);
        for (int i = 0; i < corners; i++) {
            g.addCorner((i * 173 + 40) % 400 - 200, (i * 97 + 60) % 240 - 120, i * 53 % 300 - 60,
                    (i * 0x2B4D71 + 0x80FF40) & 0xFFFFFF, i * 50 + 9, 2030 - i * 47);
        }
        for (int i = 0; i < panes; i++) {
            g.addPane(i, (i + 2) % corners, (i + 1) % corners, i * 2 % 5 - 1, i % 3 == 1, true);
        }
        for (int i = 0; i < 24; i++) {
            g.setPattern(i % 4, i * 3 % 8, i * 5 % 8, 0xFFFFFF - i * 0x010307);
        }
        g.setRepeats(2, false);
        g.paint();
        g.setBackground(0x654321);
        g.show(1, false);
        return g;
    }

    /** All that can be asked of the object in less than 400 calls; it is used up by that. */
    static List<Long> answersOf(GlassRaster g) {
        List<Long> answers = new ArrayList<>();
        answers.add(g.digest());
        int corners = g.corners();
        int panes = g.panes();
        answers.add((long) g.setBackground(0));
        for (int pane = 0; pane < panes; pane++) {
            answers.add(g.show(pane, true) ? 1L : 0L);
        }
        answers.add((long) g.paint());
        answers.add(g.digest());
        answers.add((long) g.setLens(1, 50));
        for (int corner = 0; corner < corners; corner++) {
            answers.add((long) g.setColour(corner, 0xFFFFFF));
        }
        for (int i = 0; i < 256; i++) {
            answers.add((long) g.setPattern(i / 64, i % 8, i / 8 % 8, i * 0x010101));
        }
        for (int pattern = 0; pattern < 4; pattern++) {
            answers.add(g.setRepeats(pattern, pattern % 2 == 0) ? 1L : 0L);
        }
        g.setCamera(2, 0, 0, 0, 640);
        for (int pane = 0; pane < panes; pane++) {
            answers.add((long) g.cornerOf(pane, 0, 3));
            answers.add((long) g.cornerOf(pane, 0, 4));
        }
        g.paint();
        answers.add(g.digest());
        return answers;
    }

    List<Long> answers() {
        if (answers == null) {
            answers = answersOf(make());
        }
        return answers;
    }
}
