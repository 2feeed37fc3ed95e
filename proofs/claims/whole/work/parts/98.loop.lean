theorem am_loop : am_LOOP := am_loop0 jj_table jj_text
