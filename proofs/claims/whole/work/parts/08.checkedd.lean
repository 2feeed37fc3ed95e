set_option maxRecDepth 100000 in
theorem am_kl0 : (am_nth am_c236 0 []).all (am_chk 236) = true := by decide +kernel
set_option maxRecDepth 100000 in
theorem am_kl1 : (am_nth am_c236 1 []).all (am_chk 236) = true := by decide +kernel
set_option maxRecDepth 100000 in
theorem am_kl2 : (am_nth am_c236 2 []).all (am_chk 236) = true := by decide +kernel
set_option maxRecDepth 100000 in
theorem am_kl3 : (am_nth am_c236 3 []).all (am_chk 236) = true := by decide +kernel
set_option maxRecDepth 100000 in
theorem am_kl4 : (am_nth am_c236 4 []).all (am_chk 236) = true := by decide +kernel
set_option maxRecDepth 100000 in
theorem am_kl5 : (am_nth am_c236 5 []).all (am_chk 236) = true := by decide +kernel
set_option maxRecDepth 100000 in
theorem am_kl6 : (am_nth am_c236 6 []).all (am_chk 236) = true := by decide +kernel
set_option maxRecDepth 100000 in
theorem am_kl7 : (am_nth am_c236 7 []).all (am_chk 236) = true := by decide +kernel
set_option maxRecDepth 100000 in
theorem am_kl8 : (am_nth am_c236 8 []).all (am_chk 236) = true := by decide +kernel
set_option maxRecDepth 100000 in
theorem am_kl9 : (am_nth am_c236 9 []).all (am_chk 236) = true := by decide +kernel
set_option maxRecDepth 100000 in
theorem am_kl10 : (am_nth am_c236 10 []).all (am_chk 236) = true := by decide +kernel
set_option maxRecDepth 100000 in
theorem am_kl11 : (am_nth am_c236 11 []).all (am_chk 236) = true := by decide +kernel
set_option maxRecDepth 100000 in
theorem am_kl12 : (am_nth am_c236 12 []).all (am_chk 236) = true := by decide +kernel
set_option maxRecDepth 100000 in
theorem am_kl13 : (am_nth am_c236 13 []).all (am_chk 236) = true := by decide +kernel
set_option maxRecDepth 100000 in
theorem am_kl14 : (am_nth am_c236 14 []).all (am_chk 236) = true := by decide +kernel
set_option maxRecDepth 100000 in
theorem am_kl15 : (am_nth am_c236 15 []).all (am_chk 236) = true := by decide +kernel
set_option maxRecDepth 100000 in
theorem am_kl16 : (am_nth am_c236 16 []).all (am_chk 236) = true := by decide +kernel
set_option maxRecDepth 100000 in
theorem am_kl17 : (am_nth am_c236 17 []).all (am_chk 236) = true := by decide +kernel
set_option maxRecDepth 100000 in
theorem am_kl18 : (am_nth am_c236 18 []).all (am_chk 236) = true := by decide +kernel
set_option maxRecDepth 100000 in
theorem am_kl19 : (am_nth am_c236 19 []).all (am_chk 236) = true := by decide +kernel
set_option maxRecDepth 100000 in
theorem am_kl20 : (am_nth am_c236 20 []).all (am_chk 236) = true := by decide +kernel
set_option maxRecDepth 100000 in
theorem am_kl21 : (am_nth am_c236 21 []).all (am_chk 236) = true := by decide +kernel
set_option maxRecDepth 100000 in
theorem am_kl22 : (am_nth am_c236 22 []).all (am_chk 236) = true := by decide +kernel
set_option maxRecDepth 100000 in
theorem am_kl23 : (am_nth am_c236 23 []).all (am_chk 236) = true := by decide +kernel
set_option maxRecDepth 100000 in
theorem am_kl24 : (am_nth am_c236 24 []).all (am_chk 236) = true := by decide +kernel
set_option maxRecDepth 100000 in
theorem am_kl25 : (am_nth am_c236 25 []).all (am_chk 236) = true := by decide +kernel
set_option maxRecDepth 100000 in
theorem am_kl26 : (am_nth am_c236 26 []).all (am_chk 236) = true := by decide +kernel
set_option maxRecDepth 100000 in
theorem am_kl27 : (am_nth am_c236 27 []).all (am_chk 236) = true := by decide +kernel
set_option maxRecDepth 100000 in
theorem am_kl28 : (am_nth am_c236 28 []).all (am_chk 236) = true := by decide +kernel
set_option maxRecDepth 100000 in
theorem am_kl29 : (am_nth am_c236 29 []).all (am_chk 236) = true := by decide +kernel
set_option maxRecDepth 100000 in
theorem am_kl30 : (am_nth am_c236 30 []).all (am_chk 236) = true := by decide +kernel
set_option maxRecDepth 100000 in
theorem am_kl31 : (am_nth am_c236 31 []).all (am_chk 236) = true := by decide +kernel
set_option maxRecDepth 100000 in
theorem am_kl32 : (am_nth am_c236 32 []).all (am_chk 236) = true := by decide +kernel
set_option maxRecDepth 100000 in
theorem am_kl33 : (am_nth am_c236 33 []).all (am_chk 236) = true := by decide +kernel
