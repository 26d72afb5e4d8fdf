/** Edges that the terms name of the picture: its sides, samples and PARTS, LIFTING and WAVES. */
final class PictureEdges {
    private static final String TERMS = "Terms";
    private static final int OUT = Check.OUT;
    private static final int NO = Check.NO_WAVE;

    private PictureEdges() {
    }

    static void all() {
        Doc.each(
            PictureEdges::sides,
            PictureEdges::values,
            PictureEdges::insideAtFirst,
            PictureEdges::parts,
            PictureEdges::partsThatDoNotTouch,
            PictureEdges::numbersOfParts,
            PictureEdges::halves,
            PictureEdges::fourths,
            PictureEdges::oneIsNotThere,
            PictureEdges::noneIsThere,
            PictureEdges::liftedBack,
            PictureEdges::steps,
            PictureEdges::multiplesOfTheStep,
            PictureEdges::rowsOfPoints,
            PictureEdges::placesByTheStep,
            PictureEdges::columnsBehindRows,
            PictureEdges::whatStands);
    }

    private static void sides() {
        Doc.says(TERMS, "THE PICTURE has a width and a height of 1 .. 16 (others count as the nearest of these),"
            + " columns x to the right, rows y downward;");
        int[][] asked = {{Integer.MIN_VALUE, 1}, {-16, 1}, {-1, 1}, {0, 1}, {1, 1}, {2, 2}, {15, 15}, {16, 16}, {17, 16},
            {32, 16}, {Integer.MAX_VALUE, 16}};
        for (int[] width : asked) {
            for (int[] height : asked) {
                FreeWavelets w = new FreeWavelets(width[0], height[0]);
                String what = width[0] + " times " + height[0];
                Check.due(what + ", width", width[1], w.told(0));
                Check.due(what + ", height", height[1], w.told(1));
                Check.due(what + ", the last sample is there", 1, w.mask(width[1] - 1, height[1] - 1, 1, true));
                Check.refused(what + ", no column more", Check.INDEX, () -> w.wave(width[1], 0));
                Check.refused(what + ", no row more", Check.INDEX, () -> w.wave(0, height[1]));
                Check.due(what + ", x of the last sample", width[1] - 1, w.part(0, 1));
                Check.due(what + ", y of the last sample", height[1] - 1, w.part(0, 2));
            }
        }
    }

    private static void values() {
        Doc.says(TERMS, "samples have values 0 .. 255, at first 0,");
        FreeWavelets w = new FreeWavelets(2, 2);
        for (int y = 0; y < 2; y++) {
            Check.due("row " + y + " was 0", 0, w.put(0, y, 2, 0));
        }
        Check.due("255", 2, w.put(0, 0, 2, 255));
        w.mask(0, 0, 1, true);
        Check.due("255 is kept", 255, w.wave(0, 0));
        Check.due("0", 2, w.put(0, 0, 2, 0));
        Check.due("0 is kept", 0, w.wave(0, 0));
        Check.refused("-1", Check.ARGUMENT, () -> w.put(0, 0, 1, -1));
        Check.refused("256", Check.ARGUMENT, () -> w.put(0, 0, 1, 256));
    }

    private static void insideAtFirst() {
        Doc.says(TERMS, "and are INSIDE or not, at first not.");
        FreeWavelets w = new FreeWavelets(16, 16);
        for (int y = 0; y < 16; y++) {
            Check.due("row " + y + " is not inside", 0, w.mask(0, y, 16, false));
        }
        Check.due("none", 0, w.told(2));
        for (int y = 0; y < 16; y++) {
            Check.due("row " + y + " becomes it", 16, w.mask(0, y, 16, true));
        }
        Check.due("all", 256, w.told(2));
    }

    private static void parts() {
        Doc.says(TERMS, "PARTS: samples INSIDE that stand side by side, or one above the other, are of the same one;");
        areParts("none", 0, new int[] {OUT, OUT});
        areParts("one sample", 1, new int[] {OUT, 0});
        areParts("side by side", 1, new int[] {OUT, 0, 0});
        areParts("one above the other", 1, new int[] {OUT, 0}, new int[] {OUT, 0});
        areParts("a way to the left and up", 1, new int[] {0, OUT, 0}, new int[] {0, OUT, 0}, new int[] {0, 0, 0});
        areParts("a way down the right and back", 1,
            new int[] {0, 0, 0, 0}, new int[] {OUT, OUT, OUT, 0}, new int[] {0, OUT, 0, 0}, new int[] {0, 0, 0, OUT});
        FreeWavelets all = new FreeWavelets(16, 16);
        FreeWavelets snake = new FreeWavelets(16, 16);
        for (int y = 0; y < 16; y++) {
            all.mask(0, y, 16, true);
            snake.mask(y % 4 == 1 ? 15 : 0, y, y % 2 == 0 ? 16 : 1, true);
        }
        Check.due("all of 16 times 16", 1, all.told(3));
        Check.due("all of 16 times 16: samples", 256, all.part(0, 0));
        Check.due("a snake", 1, snake.told(3));
        Check.due("a snake: samples", 8 * 16 + 8, snake.part(0, 0));
    }

    private static void partsThatDoNotTouch() {
        Doc.says(TERMS, "samples INSIDE that stand side by side, or one above the other, are of the same one;");
        areParts("corners down to the right", 2, new int[] {0, OUT}, new int[] {OUT, 0});
        areParts("corners down to the left", 2, new int[] {OUT, 0}, new int[] {0, OUT});
        areParts("a gap in a row", 2, new int[] {0, OUT, 0});
        areParts("a gap in a column", 2, new int[] {0}, new int[] {OUT}, new int[] {0});
        areParts("a row's end and the next one's start", 2, new int[] {OUT, OUT, 0}, new int[] {0, OUT, OUT});
        areParts("a row's start and its end", 2, new int[] {0, OUT, OUT, 0});
        areParts("an isle in a ring", 2, new int[] {0, 0, 0, 0, 0}, new int[] {0, OUT, OUT, OUT, 0},
            new int[] {0, OUT, 0, OUT, 0}, new int[] {0, OUT, OUT, OUT, 0}, new int[] {0, 0, 0, 0, 0});
        FreeWavelets wide = new FreeWavelets(16, 16);
        wide.mask(15, 0, 1, true);
        wide.mask(0, 1, 1, true);
        wide.mask(0, 15, 1, true);
        Check.due("ends of 16 columns and rows", 3, wide.told(3));
        FreeWavelets board = new FreeWavelets(16, 16);
        for (int i = 0; i < 256; i += 2) {
            board.mask((i + i / 16 % 2) % 16, i / 16, 1, true);
        }
        Check.due("a chess board", 128, board.told(3));
        Check.due("a chess board: samples", 128, board.told(2));
        Check.due("a chess board: the last part", 1, board.part(127, 0));
    }

    private static void areParts(String what, int want, int[]... rows) {
        Check.due(what, want, Check.picture(rows).told(3));
    }

    private static void numbersOfParts() {
        Doc.says(TERMS, "PARTS are numbered from 0 by their first samples, row by row.");
        // The one with the arm up on the right reaches further left and down, but is first met at (4, 0).
        FreeWavelets w = Check.picture(
            new int[] {OUT, OUT, 0, OUT, 0},
            new int[] {0, OUT, OUT, OUT, 0},
            new int[] {0, 0, 0, 0, 0},
            new int[] {OUT, OUT, OUT, OUT, OUT},
            new int[] {OUT, 0, OUT, 0, 0});
        partIs(w, 0, 1, 2, 0);
        partIs(w, 1, 8, 4, 0);
        partIs(w, 2, 1, 1, 4);
        partIs(w, 3, 2, 3, 4);
        Check.refused("there are four", Check.INDEX, () -> w.part(4, 0));
        w.mask(4, 1, 1, false);
        partIs(w, 1, 1, 4, 0);
        partIs(w, 2, 6, 0, 1);
        partIs(w, 4, 2, 3, 4);
        w.mask(0, 0, 1, true);
        partIs(w, 0, 7, 0, 0);
        partIs(w, 1, 1, 2, 0);
    }

    private static void partIs(FreeWavelets w, int k, int samples, int x, int y) {
        Check.due("part " + k + ": samples", samples, w.part(k, 0));
        Check.due("part " + k + ": x", x, w.part(k, 1));
        Check.due("part " + k + ": y", y, w.part(k, 2));
    }

    private static void halves() {
        Doc.says(TERMS, "LIFTING a row of points at places k, k + 1, ..: each point at an odd place becomes less by"
            + " the half (rounded down) of the sum of those before and behind it;");
        // 0 - floor(9 / 2) = -4; 4 + floor(-6 / 4) = 2 and 3; step 2: 3 - 2 = 1, 2 + floor(4 / 4) = 3.
        Check.waves("half of 9", Check.picture(new int[] {4, 0, 5}), new int[] {3, -4, 1});
        // 255 - floor(0 / 2) = 255; 0 + floor(512 / 4) = 128 twice; step 2: 0, 128 + floor(2 / 4).
        Check.waves("half of 0", Check.picture(new int[] {0, 255, 0}), new int[] {128, 255, 0});
        // Rows leave -3, 0, -4 in the second column: 0 - floor(-7 / 2) = 4, then -3 + 2 and -4 + 2.
        Check.waves("half of -7", Check.picture(new int[] {3, 0}, new int[] {0, 0}, new int[] {4, 0}),
            new int[] {1, -1}, new int[] {-2, 4}, new int[] {0, -2});
        // k is odd: places 1, 2, 3. 20 - 30 = -10, 50 - 30 = 20; 30 + floor(12 / 4) = 33.
        Check.waves("from place 1 on", Check.picture(new int[] {OUT, 20, 30, 50}), new int[] {NO, -10, 33, 20});
    }

    private static void fourths() {
        Doc.says(TERMS, "then each at an even place more by a fourth (rounded down) of the sum of those before and"
            + " behind it and 2.");
        // What the places before and behind have become, and by how much the even one is more.
        int[][] cases = {{0, 0, 0}, {1, 0, 0}, {1, 1, 1}, {2, 3, 1}, {3, 3, 2}, {-1, -1, 0}, {-1, -2, -1}, {-3, -3, -1},
            {-3, -4, -2}, {155, 155, 78}, {-100, -100, -50}};
        for (int[] one : cases) {
            FreeWavelets w = Check.picture(new int[] {OUT, 100 + one[0], 100, 100 + one[1]});
            Check.due("before", one[0], w.wave(1, 0));
            Check.due("behind", one[1], w.wave(3, 0));
            Check.due("of " + one[0] + " and " + one[1], 100 + one[2], w.wave(2, 0));
        }
    }

    private static void oneIsNotThere() {
        Doc.says(TERMS, "If one of these two is not there, the other one counts twice;");
        // Odd: 9 - floor(8 / 2) = 5, and 4 - floor(18 / 2) = -5. Even: 4 + floor(12 / 4) = 7, 9 + floor(-8 / 4) = 7.
        Check.waves("odd without one before, even without one behind",
            Check.picture(new int[] {OUT, 9, 4, OUT}), new int[] {NO, 5, 7, NO});
        Check.waves("odd without one before, even at the row's end",
            Check.picture(new int[] {OUT, 9, 4}), new int[] {NO, 5, 7});
        Check.waves("even without one before, odd without one behind",
            Check.picture(new int[] {OUT, OUT, 4, 9, OUT}), new int[] {NO, NO, 7, 5, NO});
        Check.waves("even at the row's start, odd at its end", Check.picture(new int[] {9, 4}), new int[] {7, -5});
        Check.waves("odd without one above, even at the column's end",
            Check.picture(new int[] {OUT}, new int[] {9}, new int[] {4}), new int[] {NO}, new int[] {5}, new int[] {7});
        Check.waves("even at the column's start, odd without one below",
            Check.picture(new int[] {9}, new int[] {4}, new int[] {OUT}), new int[] {7}, new int[] {-5}, new int[] {NO});
    }

    private static void noneIsThere() {
        Doc.says(TERMS, "if neither is, the point stays.");
        Check.waves("odd and even alone", Check.picture(new int[] {OUT, 9, OUT, OUT, 4, OUT}),
            new int[] {NO, 9, NO, NO, 4, NO});
        Check.waves("alone at the start and the end", Check.picture(new int[] {9, OUT, OUT, 255}),
            new int[] {9, NO, NO, 255});
        Check.waves("alone in a column", Check.picture(new int[] {OUT}, new int[] {9}, new int[] {OUT}),
            new int[] {NO}, new int[] {9}, new int[] {NO});
        Check.waves("a picture of one sample", Check.picture(new int[] {255}), new int[] {255});
    }

    private static void liftedBack() {
        Doc.says(TERMS, "LIFTED BACK it is all the other way round, the even places first.");
        // 6 - floor(-2 / 4) = 7, -2 + 7 = 5; the odd place first would give 4 and 4.
        FreeWavelets two = Check.fedWith("0001 0000 00011 1 011  1111 0 0  1 11  0 0");
        two.decode(Check.ALL);
        Check.seen("6 and -2", two, new int[] {7, 5});
        int[][][] pictures = {{{4, 0, 5}}, {{3, 0}, {0, 0}, {4, 0}}, {{OUT, 20, 30, 50}}, {{OUT, 9, 4, OUT}}, {{9, 4}},
            {{OUT, 9, OUT, OUT, 4, OUT}}, {{0, 255, 0, 255, 0}, {255, 0, 255, 0, 255}, {0, 255, OUT, 255, 0}}};
        for (int[][] picture : pictures) {
            FreeWavelets w = Check.picture(picture);
            w.encode(Check.ALL);
            w.pass(0, 2400);
            w.decode(Check.ALL);
            Check.seen("there and back", w, picture);
        }
    }

    private static void steps() {
        Doc.says(TERMS, "WAVES, of the samples as numbers: with steps 1, 2, 4, in turn,");
        FreeWavelets across = new FreeWavelets(16, 1);
        FreeWavelets down = new FreeWavelets(1, 16);
        across.mask(0, 0, 16, true);
        across.put(0, 0, 16, 100);
        for (int y = 0; y < 16; y++) {
            down.mask(0, y, 1, true);
            down.put(0, y, 1, 100);
        }
        // All alike: each step leaves every second point 0, and there is none of 8.
        for (int i = 0; i < 16; i++) {
            Check.due("column " + i, i % 8 == 0 ? 100 : 0, across.wave(i, 0));
            Check.due("row " + i, i % 8 == 0 ? 100 : 0, down.wave(0, i));
        }
        // Step 1 leaves 0 0 -1 -4 6; step 2 of 0 -1 6 leaves -2 -4 4; step 4 of -2 4 leaves 1 6.
        Check.waves("one after the other", Check.picture(new int[] {0, 0, 0, 0, 8}), new int[] {1, 0, -4, -4, 6});
    }

    private static void multiplesOfTheStep() {
        Doc.says(TERMS, "the POINTS are the samples INSIDE whose x and y are multiples of the step;");
        for (int line = 0; line < 16; line++) {
            FreeWavelets across = new FreeWavelets(16, 16);
            FreeWavelets down = new FreeWavelets(16, 16);
            across.mask(0, line, 16, true);
            across.put(0, line, 16, 100);
            for (int i = 0; i < 16; i++) {
                down.mask(line, i, 1, true);
                down.put(line, i, 1, 100);
            }
            int last = line % 4 == 0 ? 8 : line % 2 == 0 ? 4 : 2;
            for (int i = 0; i < 16; i++) {
                Check.due("row " + line + ", x " + i, i % last == 0 ? 100 : 0, across.wave(i, line));
                Check.due("column " + line + ", y " + i, i % last == 0 ? 100 : 0, down.wave(line, i));
            }
        }
    }

    private static void rowsOfPoints() {
        Doc.says(TERMS, "each row of POINTS of the same PART, one a step behind the other, as long as may be, is LIFTED");
        // Two parts: step 2 does not join them. 80 - 40 = 40, 40 + floor(82 / 4) = 60.
        Check.waves("a gap between parts", Check.picture(new int[] {10, OUT, 40, 80}), new int[] {10, NO, 60, 40});
        Check.waves("a gap of four between parts", Check.picture(new int[] {10, OUT, OUT, OUT, 40}),
            new int[] {10, NO, NO, NO, 40});
        // One part by its second row: the corners are a step of 2 apart, over the gap, but not one of 1.
        // Row 1: 9 - 9 = 0. Columns, odd: 0, 0, 9 - 50 = -41; even: 9, 50 + floor(-80 / 4) = 30.
        // Step 2: 30 - 9 = 21, 9 + floor(44 / 4) = 20.
        Check.waves("a gap in a part", Check.picture(new int[] {9, OUT, 50}, new int[] {9, 9, 9}),
            new int[] {20, NO, 21}, new int[] {0, 0, -41});
        // As long as may be: (2, 0) looks at both sides, 0 + floor((10 + 90 + 2) / 4) = 25, not at one twice.
        Check.due("five in one row", 90, Check.picture(new int[] {0, 10, 0, 90, 0}).wave(3, 0));
        // Evens are 0 + floor(22 / 4) = 5, 25 and 0 + floor(182 / 4) = 45; step 2: 25 - floor(50 / 2) = 0.
        Check.due("five in one row, step 2", 0, Check.picture(new int[] {0, 10, 0, 90, 0}).wave(2, 0));
    }

    private static void placesByTheStep() {
        Doc.says(TERMS, "(its place is x by the step);");
        // 20 - floor(20 / 2) = 10; 0 + floor(22 / 4) = 5, 20 + 5 = 25; step 2: 25 - 5 = 20, 5 + floor(42 / 4) = 15.
        FreeWavelets two = Check.picture(new int[] {OUT, OUT, OUT}, new int[] {OUT, OUT, OUT}, new int[] {0, 20, 20});
        Check.waves("2 by 2", two, new int[] {NO, NO, NO}, new int[] {NO, NO, NO}, new int[] {15, 10, 20});
        // 4 is even by 1 and by 2, and odd by 4: alike, it becomes 0 if there is a point before, else it stays.
        FreeWavelets four = Check.picture(new int[] {80, 80, 80, 80, 80, 80, 80});
        Check.waves("4 by 4", four, new int[] {80, 0, 0, 0, 0, 0, 0});
        FreeWavelets late = Check.picture(new int[] {OUT, OUT, OUT, OUT, 80, 80, 80});
        Check.waves("4 by 4, without one before", late, new int[] {NO, NO, NO, NO, 80, 0, 0});
    }

    private static void columnsBehindRows() {
        Doc.says(TERMS, "then each column likewise.");
        // Rows: 0 1 become 1 1, 0 0 stay. Columns: 1 0 become 1 -1, and so does the other. Columns first: 0 at (0, 1).
        Check.waves("rows before columns", Check.picture(new int[] {0, 1}, new int[] {0, 0}),
            new int[] {1, 1}, new int[] {-1, -1});
        // Likewise: a gap between parts, and in one, as in a row.
        Check.waves("a gap between parts", Check.picture(new int[] {10}, new int[] {OUT}, new int[] {40}, new int[] {80}),
            new int[] {10}, new int[] {NO}, new int[] {60}, new int[] {40});
        // Rows, odd: 9 - 9 = 0, 9 - 50 = -41; even: 9, 50 + floor(-80 / 4) = 30. The second column is 0, 9, -41:
        // 9 - floor(-41 / 2) = 30, 0 + floor(62 / 4) = 15, -41 + 15 = -26. Step 2: 30 - 9 = 21, 9 + floor(44 / 4) = 20.
        Check.waves("a gap in a part", Check.picture(new int[] {9, 9}, new int[] {OUT, 9}, new int[] {50, 9}),
            new int[] {20, 15}, new int[] {NO, 30}, new int[] {21, -26});
    }

    private static void whatStands() {
        Doc.says(TERMS, "What stands at a sample INSIDE is its WAVE then.");
        FreeWavelets w = Check.picture(new int[] {6, OUT, 255}, new int[] {OUT, 0, OUT});
        Check.waves("alone", w, new int[] {6, NO, 255}, new int[] {NO, 0, NO});
        w.mask(1, 0, 1, true);
        w.put(1, 0, 1, 6);
        w.mask(2, 0, 1, false);
        w.mask(1, 1, 1, false);
        Check.waves("by a mask that is another now", w, new int[] {6, 0, NO}, new int[] {NO, NO, NO});
    }
}
