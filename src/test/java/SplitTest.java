/** SPLIT where it is rare: sheets found by a search, on which DOTS change RINGS and RINGS are given up. */
public final class SplitTest {
    /** The text of the SHEET, LOW, HIGH, SLACK, NEED, ROUND, how many RINGS are KEPT, how many are left. */
    private static final String[] ROWS = {
        // a DOT that is equally far from two
        "29x10:h47r37g0-q9718620-j2-i7-o32k3-d9-k52a9-92- 1 17 1 2 2 3 3",
        "8x17:56048-3e130-0d40g05052004d35715g-6f61d-5a- 1 8 2 2 1 2 2",
        "16x16:38-597da27c6ad-e41aa02d7ec-674935fc3d177a2 1 12 3 3 2 2 2",
        "30x21:4h-se-sk-hh-42-r4-ac-4f-q0-pa-re-2e-dc-cc- 1 10 2 3 1 2 2",
        "7x5:44-23-61-62-20-10-00-30-12-63-01- 1 16 0 3 2 2 2",
        "18x6:04-74-41-d4-72-81- 1 22 0 2 1 2 2",
        // a WHOLE one is OPEN then
        "13x11:12-b8-b4-a6-62-06-29-8a-87-18-04-50-76-79- 1 22 3 2 1 2 2",
        // one is given up
        "16x20:14-1g-dc0180e2-30-134a5-b0-c832c197-0d5be2 1 21 3 5 3 2 1",
        "10x8:26-75-10-53-32-97-96-80-06-56-62-51- 1 10 1 5 4 2 1",
        "24x8:665b1-k1-a3527-06-e60376l1-233m5-n4-e17a70 2 16 1 2 2 4 3",
        // its DOTS go over to others
        "31x28:be1r04985ie-h1-l7-705np0io7pr7ka-42-o0-cn1 1 12 0 2 2 4 3",
        "18x30:61-bk-66-cq224575-b9-e7-096ci-cf54c-5p-40- 1 13 4 5 1 2 1",
        "23x26:4h-gd-7b-45-ba-29-cf-0g-6l-hl-d5-7e-lm-66- 1 14 2 3 3 3 2",
        "6x25:4f-1h52405l42e63k-1f-0e-47-0a449-4h-5b-4m4 1 22 0 2 1 4 3",
        "9x12:18-54-65377411-62-35-3a-5b78a-12117-56121- 1 9 0 2 1 4 3",
        "10x29:3s-0l-6r-2l-9e-3m-7n-52-6d-7b-60-7r-63-02- 1 11 0 3 2 4 3",
        "22x19:764i029b5653ch68945f6 1 22 0 2 1 3 2",
        "17x9:35-18-f2-05-14-74-e0- 1 22 0 2 2 3 2",
        // two are given up
        "15x13:03-ba6124801cc677-974ec-ea41525744959939a3 1 11 3 3 1 4 2",
        "18x13:02-d8-22-f7-gb-43-ga-85-47-98-e2-6a-db-03- 1 20 0 4 2 3 1",
        "22x7:b21067l13l6460130-e6135-23583-c01e10f34g32 1 11 3 2 1 6 4",
        "9x12:85-88-29-3b-26-7b-62-30-70-31-15-87-74-89- 1 21 0 4 2 3 1",
        "28x30:5f1jb5rh34h79932m1b22fm6j14nt-r84eh-lo5cc0 1 13 2 2 1 5 3",
        // three are given up
        "15x21:8g5611e533j-e11ae59d068-9b7cj3bh3ai-d62ad7 1 22 1 2 1 6 3",
        // seven are KEPT
        "22x24:1721b7ai5h02ba01129347d7fc7e83fn58g0854ld6 1 22 0 2 1 7 7",
        "20x14:i65c62j22555fb59901c0a45g31f76624975c04101 1 22 0 2 1 7 7",
        "21x24:9a4cc60g1012334491442596ig5fj68b6b74gj4155 1 22 0 2 1 7 7",
        "22x27:eo2i60k74fd2h63g77di0h41gj61i0i77dq0dg1hq4 1 22 0 2 1 7 7",
        "26x13:g86ob4d24gc6h755b7e845a6d97d53j44f61f93k75 1 22 0 2 1 7 7",
        // seven are KEPT, one of them given up: the first, or one amid
        "24x22:c81da4e733c1ki5ff4nf46d7di42338d27c2gb55e2 1 22 0 2 1 7 6",
        "20x24:c42jb5675203712a33i91j12hb0945e015b69i73l0 1 22 0 2 1 7 6",
        "26x11:p75ka3i53h10b02l03742c94k93f10964o02e304a7 1 22 0 2 1 7 6",
        "12x12:675751812694403b53372290b32914581683210110 1 22 0 2 1 7 6",
        // of two with too few the one with fewest goes first, though its number is the lesser one
        "31x9:o56j63i23680h14c1-s0-31-q1-23-n14351n35824 1 9 3 3 2 4 3",
        "24x12:k53556n5-e51246d20c4-00-hb5677f93h147b6h01 1 14 4 3 1 4 3",
        // of several with fewest the one of the greatest number goes first
        "15x17:58-ed43d777152-c6-d50c93661e9-7g-c706e61f0 1 18 0 2 1 5 4",
        "9x6:80205-45122410-40225175104512244142223470- 1 9 3 2 1 4 3",
        "24x30:ed6h228p0362811na3613b63cf6gt35330r69e17d3 1 19 4 2 1 5 3",
        "24x10:g35787873j44j90h02f31n4-d76i60680880i52j33 1 20 1 2 1 4 2",
        "16x19:8f41h71a-8b783-d52eb6ag72f61g69e0500bd063- 1 8 4 3 2 4 2",
        "23x27:lh-85-3i-ae-86-i1-fe-lg-fm-ko-3o-1j-h5-59- 1 8 0 2 2 5 3",
        "11x17:05-25-20-2e-6b-0d-8d-40-a8-9d-39-26-32-12- 1 15 0 4 1 3 1",
        "21x20:73-8a-g3-7d-6e-3a-2g-6g-a3-b3-4h-d6-g5-b7- 1 21 0 4 1 3 1",
    };

    private final Checks checks = new Checks();

    public static void main(String[] args) {
        SplitTest test = new SplitTest();
        for (String row : ROWS) {
            test.row(row.split(" "));
        }
        test.sums();
        test.checks.end();
    }

    private void row(String[] parts) {
        ArcRings real = new ArcRings();
        Model model = new Model();
        laid(real, model, parts);
        int kept = Integer.parseInt(parts[6]);
        int left = Integer.parseInt(parts[7]);
        checks.due(parts[0] + ": hunt()", kept, real.hunt());
        checks.due(parts[0] + ": hunt() of the model", kept, model.hunt());
        same(parts[0] + " hunted: ", real, model);
        checks.due(parts[0] + ": split()", left, real.split());
        checks.due(parts[0] + ": split() of the model", left, model.split());
        same(parts[0] + " split: ", real, model);
        checks.due(parts[0] + ": count(6)", kept - left, real.count(6));
        checks.due(parts[0] + ": ring(left, 0)", ArcRings.UNKNOWN, real.ring(left, 0));
        long before = real.digest();
        checks.due(parts[0] + ": split() again", left, real.split());
        checks.due(parts[0] + ": digest() after that", before, real.digest());
    }

    private static void laid(ArcRings real, Model model, String[] parts) {
        for (char letter : parts[0].toCharArray()) {
            real.letter(letter);
            model.letter(letter);
        }
        real.sheet();
        model.sheet();
        for (int what = 0; what < 5; what++) {
            real.bound(what, Integer.parseInt(parts[1 + what]));
            model.bound(what, Integer.parseInt(parts[1 + what]));
        }
    }

    private void same(String where, ArcRings real, Model model) {
        for (int ring = 0; ring < model.count(1); ring++) {
            for (int what = 0; what < 7; what++) {
                checks.due(where + "ring(" + ring + ", " + what + ")", model.ring(ring, what), real.ring(ring, what));
            }
        }
        for (int dot = 0; dot < model.count(0); dot++) {
            checks.due(where + "told(" + dot + ", 3)", model.told(dot, 3), real.told(dot, 3));
        }
        for (int what = 0; what < 7; what++) {
            checks.due(where + "count(" + what + ")", model.count(what), real.count(what));
        }
        checks.due(where + "digest()", model.digest(), real.digest());
    }

    /** What was given up is counted over all SPLITS and SHEETS of an object. */
    private void sums() {
        ArcRings real = new ArcRings();
        Model model = new Model();
        int given = 0;
        for (int i = 12; i < 16; i++) {
            String[] parts = ROWS[i].split(" ");
            laid(real, model, parts);
            for (int again = 0; again < 2; again++) {
                real.hunt();
                model.hunt();
                real.split();
                model.split();
                given += Integer.parseInt(parts[6]) - Integer.parseInt(parts[7]);
                checks.due("given up so far", given, real.count(6));
            }
            same(parts[0] + " in a row: ", real, model);
        }
    }
}
