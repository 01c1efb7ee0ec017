/** One shape for each way to be WHOLE, and for each way not to be. */
enum Sample {
    CIRCLE(true, forms -> forms.circle(1, 2, 3)),
    CIRCLE_OF_ONE_PLACE(true, forms -> forms.circle(1, 2, 0)),
    BOX(true, forms -> forms.box(0, 0, 10, 6, 2)),
    BOX_OF_NO_WIDTH(true, forms -> forms.box(0, 0, 0, 6, 0)),
    BOX_OF_NO_HEIGHT(true, forms -> forms.box(0, 0, 10, 0, 0)),
    BOX_OF_ONE_PLACE(true, forms -> forms.box(1, 2, 0, 0, 0)),
    TRACE_OF_ONE_CORNER(true, forms -> Make.trace(forms, 2, 1, 2)),
    TRACE_OF_TWO_CORNERS(true, forms -> Make.trace(forms, 0, 1, 2, 5, 2)),
    TRACE_OF_48_CORNERS(true, forms -> Make.fullTrace(forms)),
    POLYGON_OF_ONE_RING(true, forms -> Make.polygon(forms, 0, 0, 9, 0, 0, 9)),
    POLYGON_OF_TWO_RINGS(true, Make::frame),
    POLYGON_OF_48_CORNERS(true, forms -> Make.fullPolygon(forms)),
    POLYGON_BEHIND_A_REFUSED_RING(true, forms -> Make.ringOn(forms, Make.frame(forms), -5, 9, 30, 9, 30, 11)),
    POLYGON_BEHIND_AN_EMPTY_RING(true, forms -> Make.ringOn(forms, Make.frame(forms), 8, 8, 9, 9)),
    GROWN_POLYGON(true, forms -> forms.grow(Make.frame(forms), 1)),

    POLYGON_WITHOUT_CORNERS(false, forms -> forms.polygon()),
    POLYGON_OF_ONE_CORNER(false, forms -> Make.cornersOn(forms, forms.polygon(), 1, 1)),
    POLYGON_NOT_CLOSED(false, forms -> Make.cornersOn(forms, forms.polygon(), 0, 0, 9, 0, 0, 9)),
    POLYGON_OF_A_REFUSED_RING(false, forms -> Make.polygon(forms, 0, 0, 9, 9, 9, 0, 0, 9)),
    POLYGON_OF_AN_EMPTY_RING(false, forms -> Make.polygon(forms, 0, 0, 9, 9)),
    POLYGON_AND_ONE_CORNER(false, Make::unfinished),
    POLYGON_AND_A_RING_NOT_CLOSED(false, forms -> Make.cornersOn(forms, Make.frame(forms), 8, 8, 12, 8, 8, 12)),
    TRACE_WITHOUT_CORNERS(false, forms -> forms.trace(2)),
    TRACE_OF_NO_WIDTH_WITHOUT_CORNERS(false, forms -> forms.trace(0));

    interface Maker {
        int on(ShapeForms forms);
    }

    final boolean whole;
    private final Maker maker;

    Sample(boolean whole, Maker maker) {
        this.whole = whole;
        this.maker = maker;
    }

    /** Makes it, and answers its number. */
    int on(ShapeForms forms) {
        return maker.on(forms);
    }
}
