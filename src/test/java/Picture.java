/** All that can be asked of a bay without changing it, as one text. */
final class Picture {
    private Picture() {
    }

    static String of(SemaphoreBay bay) {
        StringBuilder text = new StringBuilder();
        text.append(bay.digest()).append(" late ").append(bay.meanLate());
        for (int route = 0; route < bay.many(1); route++) {
            text.append("\nroute");
            for (int what = 0; what <= 4; what++) {
                text.append(' ').append(bay.ofRoute(route, what));
            }
            for (int place = 0; place < bay.ofRoute(route, 2); place++) {
                text.append(" b").append(bay.onRoute(route, place));
            }
        }
        for (int train = 0; train < bay.many(2); train++) {
            addTrain(text, bay, train);
        }
        // What would be shows the order and the stay too, for which there is no question of their own.
        for (int order = 0; order <= 2; order++) {
            text.append("\nwould wait ").append(bay.waitedWith(order, 60));
        }
        return text.append(" stuck ").append(bay.stuckIn(60)).toString();
    }

    private static void addTrain(StringBuilder text, SemaphoreBay bay, int train) {
        text.append("\ntrain");
        for (int stop = 0; stop < bay.ofTrain(train, 2); stop++) {
            text.append(' ').append(bay.plan(train, stop, false)).append('@').append(bay.plan(train, stop, true));
        }
        for (int route = 0; route < bay.many(1); route++) {
            text.append(bay.isOpen(train, route) ? " open" : " closed");
        }
        text.append(" done in ").append(bay.doneIn(train, 60));
    }
}
