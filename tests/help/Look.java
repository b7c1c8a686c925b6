/** All that an object tells of how it stands, as a text: two of them are alike if nothing changed between. */
final class Look {
    private Look() {
    }

    /** How it stands: counts, sitters, SEATS, what was told by hand. Some 90 calls. */
    static String at(PastSleep x) {
        StringBuilder all = new StringBuilder();
        for (int what = 0; what <= 11; what++) {
            all.append(x.count(what)).append(' ');
        }
        for (int i = 0; i < x.count(2); i++) {
            for (int what = 0; what <= 9; what++) {
                all.append(x.sitter(i, what)).append(' ');
            }
            all.append(x.truly(i, 0)).append('/').append(x.truly(i, 1)).append(' ').append(x.fits(i, 0)).append(' ')
                .append(x.fits(i, 1)).append(' ');
        }
        for (int seat = 0; seat < x.count(0); seat++) {
            for (int what = 0; what <= 2; what++) {
                all.append(x.seat(seat, what)).append(' ');
            }
        }
        return all.toString();
    }

    /** How it stands, and what the CABIN says of laws, prices and the AISLE. Some 130 calls in a flight of ten TICKS. */
    static String whole(PastSleep x) {
        StringBuilder all = new StringBuilder(at(x));
        for (int tick = 0; tick < x.count(1); tick++) {
            all.append(x.shut(tick)).append(' ');
        }
        for (int i = 0; i < x.count(2); i++) {
            for (int way = 0; way <= 2; way++) {
                all.append(x.odds(i, way)).append(' ');
            }
            all.append(x.cost(i, 0)).append(' ').append(x.length(i)).append(' ');
        }
        all.append(x.habits(-1, 2)).append(' ').append(x.seated(-1)).append(' ').append(x.flights(3, 2, 1));
        return all.toString();
    }
}
