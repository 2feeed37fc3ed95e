set_option maxRecDepth 100000 in
theorem am_kl34 : (am_nth am_c236 34 []).all (am_chk 236) = true := by decide +kernel
set_option maxRecDepth 100000 in
theorem am_kl35 : (am_nth am_c236 35 []).all (am_chk 236) = true := by decide +kernel
set_option maxRecDepth 100000 in
theorem am_kl36 : (am_nth am_c236 36 []).all (am_chk 236) = true := by decide +kernel
set_option maxRecDepth 100000 in
theorem am_kl37 : (am_nth am_c236 37 []).all (am_chk 236) = true := by decide +kernel
set_option maxRecDepth 100000 in
theorem am_kl38 : (am_nth am_c236 38 []).all (am_chk 236) = true := by decide +kernel
set_option maxRecDepth 100000 in
theorem am_kl39 : (am_nth am_c236 39 []).all (am_chk 236) = true := by decide +kernel
set_option maxRecDepth 100000 in
theorem am_kl40 : (am_nth am_c236 40 []).all (am_chk 236) = true := by decide +kernel
set_option maxRecDepth 100000 in
theorem am_kl41 : (am_nth am_c236 41 []).all (am_chk 236) = true := by decide +kernel
set_option maxRecDepth 100000 in
theorem am_kl42 : (am_nth am_c236 42 []).all (am_chk 236) = true := by decide +kernel
set_option maxRecDepth 100000 in
theorem am_kl43 : (am_nth am_c236 43 []).all (am_chk 236) = true := by decide +kernel
set_option maxRecDepth 100000 in
theorem am_kl44 : (am_nth am_c236 44 []).all (am_chk 236) = true := by decide +kernel
set_option maxRecDepth 100000 in
theorem am_kl45 : (am_nth am_c236 45 []).all (am_chk 236) = true := by decide +kernel
set_option maxRecDepth 100000 in
theorem am_kl46 : (am_nth am_c236 46 []).all (am_chk 236) = true := by decide +kernel
set_option maxRecDepth 100000 in
theorem am_kl47 : (am_nth am_c236 47 []).all (am_chk 236) = true := by decide +kernel
set_option maxRecDepth 100000 in
theorem am_kl48 : (am_nth am_c236 48 []).all (am_chk 236) = true := by decide +kernel
set_option maxRecDepth 100000 in
theorem am_kl49 : (am_nth am_c236 49 []).all (am_chk 236) = true := by decide +kernel
set_option maxRecDepth 100000 in
theorem am_kl50 : (am_nth am_c236 50 []).all (am_chk 236) = true := by decide +kernel
set_option maxRecDepth 100000 in
theorem am_kl51 : (am_nth am_c236 51 []).all (am_chk 236) = true := by decide +kernel
set_option maxRecDepth 100000 in
theorem am_kl52 : (am_nth am_c236 52 []).all (am_chk 236) = true := by decide +kernel
set_option maxRecDepth 100000 in
theorem am_kl53 : (am_nth am_c236 53 []).all (am_chk 236) = true := by decide +kernel
set_option maxRecDepth 100000 in
theorem am_kl54 : (am_nth am_c236 54 []).all (am_chk 236) = true := by decide +kernel
set_option maxRecDepth 100000 in
theorem am_kl55 : (am_nth am_c236 55 []).all (am_chk 236) = true := by decide +kernel
set_option maxRecDepth 100000 in
theorem am_kl56 : (am_nth am_c236 56 []).all (am_chk 236) = true := by decide +kernel
set_option maxRecDepth 100000 in
theorem am_kl57 : (am_nth am_c236 57 []).all (am_chk 236) = true := by decide +kernel
set_option maxRecDepth 100000 in
theorem am_kl58 : (am_nth am_c236 58 []).all (am_chk 236) = true := by decide +kernel
set_option maxRecDepth 100000 in
theorem am_kl59 : (am_nth am_c236 59 []).all (am_chk 236) = true := by decide +kernel
set_option maxRecDepth 100000 in
theorem am_kl60 : (am_nth am_c236 60 []).all (am_chk 236) = true := by decide +kernel
set_option maxRecDepth 100000 in
theorem am_kl61 : (am_nth am_c236 61 []).all (am_chk 236) = true := by decide +kernel
set_option maxRecDepth 100000 in
theorem am_kl62 : (am_nth am_c236 62 []).all (am_chk 236) = true := by decide +kernel
set_option maxRecDepth 100000 in
theorem am_kl63 : (am_nth am_c236 63 []).all (am_chk 236) = true := by decide +kernel
set_option maxRecDepth 100000 in
theorem am_kl64 : (am_nth am_c236 64 []).all (am_chk 236) = true := by decide +kernel
set_option maxRecDepth 100000 in
theorem am_kl65 : (am_nth am_c236 65 []).all (am_chk 236) = true := by decide +kernel
set_option maxRecDepth 100000 in
theorem am_kl66 : (am_nth am_c236 66 []).all (am_chk 236) = true := by decide +kernel
set_option maxRecDepth 100000 in
theorem am_kl67 : (am_nth am_c236 67 []).all (am_chk 236) = true := by decide +kernel
