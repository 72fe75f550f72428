abbrev vwCl : List vw_C := [(RX1, TX1, 13), (RX2, TX2, 4), (RX4, TX4, 3), (RX5, TX5, 4), (RX8, TX8, 2), (RX9, TX9, 4)]
