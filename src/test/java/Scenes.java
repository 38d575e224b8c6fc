/** Scenes that more than one test looks at. */
final class Scenes {
    private Scenes() {
    }

    static Scene empty(Due due) {
        return new Scene(due);
    }

    /** Sheets 0 to 2 as they should be, each cell 0. */
    static Scene calm(Scene scene) {
        return scene.and("sheet 0 0 24", "sheet 1 1 24", "sheet 2 2 24");
    }

    /** Some of everything, nothing full, so that most of what may change shows. */
    static Scene rich(Due due) {
        return rich(due, "image");
    }

    /** The same, with another call in the place of the image. */
    static Scene rich(Due due, String image) {
        return new Scene(due)
            .and("place 3", "place 2", "place 0")
            .and("step 0 1 0 4 0 true", "step 1 0 1 3 2 false", "step 1 2 2 5 3 false", "step 2 0 3 1 1 false", "step 0 2 4 2 4 false")
            .and("route 0", "on 0 1", "on 0 4", "route 2", "on 1 3")
            .and("sheet 0 0 24", "sheet 1 1 20", "sheet 2 2 24", "sheet 3 1 5")
            .and("lay 0 5 3050", "lay 0 6 2000000000", "lay 1 5 7", "lay 2 5 30")
            .and("guide 5 9 999", "guide 3 4 6", "guide 4 6 20", "guide 5 2 8")
            .and("tell bar quarter>80;pay 100*people;ask people-1;back quarter=13;")
            .and("day 5", "go 0 0 3", "give 1000", "share 10", "give 700", image, "give 11")
            .and("day 6", "go 1 0 1", "guide 2 1 3")
            .and("person 5", "person 6", "person 7", "person 2", "person 9")
            .and("wish 0 1 4", "wish 1 0 -3", "wish 2 3 9", "wish 4 0 -9")
            .and("rope 0 9 10 2", "rope 0 5 10 3", "rope 1 9 60 1")
            .and("entry 0 0 10", "entry 0 1 13", "entry 1 1 20", "entry 1 3 5")
            .and("tape pay 7;ask 2;");
    }

    /** As much of everything as there may be: the next of each is one too many. */
    static Scene full(Due due) {
        Scene scene = new Scene(due);
        for (int i = 0; i < 12; i++) {
            scene = scene.and("place " + i % 10);
        }
        for (int i = 0; i < 12; i++) {
            scene = scene.and("step " + i + " " + (i + 1) % 12 + " " + i % 5 + " " + (1 + i % 4) + " " + i % 6 + " " + (i % 3 == 0));
        }
        for (int i = 0; i < 8; i++) {
            scene = scene.and("step " + (i + 1) + " " + i + " 0 " + (i + 2) + " 5 false");
        }
        for (int r = 0; r < 6; r++) {
            scene = scene.and("route " + r);
            for (int i = 1; i < 6; i++) {
                scene = scene.and("on " + r + " " + (r + i));
            }
        }
        scene = calm(scene).and("sheet 3 0 24", "lay 0 3 4550", "lay 1 4 12", "lay 2 7 33");
        for (int i = 0; i < 8; i++) {
            scene = scene.and("guide " + (5 - i % 2) + " " + i + " " + (999 - i), "rope " + i % 6 + " " + (9 - i) + " " + 9 * i + " " + (i + 1));
        }
        for (int i = 0; i < 9; i++) {
            scene = scene.and("person " + Math.min(7, 8 - i));
        }
        for (int i = 0; i < 9; i++) {
            scene = scene.and("wish " + i + " " + (i + 2) % 9 + " " + (9 - 2 * i));
        }
        for (int i = 0; i < 14; i++) {
            scene = scene.and("entry " + i % 6 + " " + i % 8 + " " + (95 - 3 * i));
        }
        return scene.and("tell bar day>7;pay 8;pay 9;ask 2;back day>2;pay 1;pay 1;pay 1;pay 1;pay 1;pay 1;pay 1000;")
            .and("day 2", "give 99999", "go 0 0 1", "share 192", "image", "give 4")
            .times(29, "feed 2314885530818453536").and("feed 8097886784294952992");
    }
}
