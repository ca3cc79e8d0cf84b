/** Counts and prints the answers that are not the ones that are due. */
final class Check {
    private int asDue = 0;
    private int notAsDue = 0;

    void due(String call, long got, long want) {
        if (got == want) {
            asDue++;
        } else {
            notAsDue++;
            System.out.println(call + " answered " + got + ", due is " + want);
        }
    }

    void dueReal(String call, double got, double want) {
        due(call, Double.doubleToLongBits(got), Double.doubleToLongBits(want));
    }

    void dueText(String call, String got, String want) {
        if (got.equals(want)) {
            asDue++;
        } else {
            notAsDue++;
            System.out.println(call + " answered \"" + got + "\", due is \"" + want + "\"");
        }
    }

    /** Ends the program with 1 if an answer was not as due, or if nothing was asked. */
    void end() {
        System.out.println(asDue + " answers as due, " + notAsDue + " not");
        if (notAsDue > 0 || asDue == 0) {
            System.exit(1);
        }
    }

    static FortHeralds countryOf(int forts) {
        FortHeralds country = new FortHeralds();
        for (int fort = 0; fort < forts; fort++) {
            country.fort();
        }
        return country;
    }

    /** A row of forts, each joined to the one ahead of it by a road of so many leagues. */
    static FortHeralds rowOf(int forts, int leagues) {
        FortHeralds country = countryOf(forts);
        for (int fort = 1; fort < forts; fort++) {
            country.road(fort - 1, fort, leagues);
        }
        return country;
    }

    static String lineOf(FortHeralds country) {
        StringBuilder line = new StringBuilder();
        for (int index = 0; country.character(index) >= 0; index++) {
            line.append((char) country.character(index));
        }
        return line.toString();
    }

    static int runText(FortHeralds country, String text) {
        for (int index = 0; index < text.length(); index++) {
            country.append(text.charAt(index));
        }
        return country.run();
    }
}
