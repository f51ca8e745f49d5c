/** Reads and writes whole texts, which a service takes and gives character by character. */
final class Text {
    private Text() {
    }

    static void type(RepairBarrows service, String text) {
        for (int i = 0; i < text.length(); i++) {
            service.type(text.charAt(i));
        }
    }

    static int run(RepairBarrows service, String text) {
        type(service, text);
        return service.run();
    }

    static String line(RepairBarrows service, int length) {
        StringBuilder line = new StringBuilder();
        for (int i = 0; i < length; i++) {
            line.append(service.charAt(i));
        }
        return line.toString();
    }

    static String barrow(RepairBarrows service, int barrow) {
        return line(service, service.writeBarrow(barrow));
    }

    static String plan(RepairBarrows service, int barrow) {
        return line(service, service.writePlan(barrow));
    }
}
