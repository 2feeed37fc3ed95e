set_option maxRecDepth 100000 in
theorem am_cw0 : lw_tbl[100]? = some (.code (am_nm 0) (am_by 0) (am_ml 0) (am_rt 0)) := rfl
theorem am_mk0 : am_mck 0 = true := by decide +kernel
set_option maxRecDepth 100000 in
theorem am_cw1 : lw_tbl[410]? = some (.code (am_nm 1) (am_by 1) (am_ml 1) (am_rt 1)) := rfl
theorem am_mk1 : am_mck 1 = true := by decide +kernel
set_option maxRecDepth 100000 in
theorem am_cw2 : lw_tbl[537]? = some (.code (am_nm 2) (am_by 2) (am_ml 2) (am_rt 2)) := rfl
theorem am_mk2 : am_mck 2 = true := by decide +kernel
set_option maxRecDepth 100000 in
theorem am_cw3 : lw_tbl[415]? = some (.code (am_nm 3) (am_by 3) (am_ml 3) (am_rt 3)) := rfl
theorem am_mk3 : am_mck 3 = true := by decide +kernel
set_option maxRecDepth 100000 in
theorem am_cw4 : lw_tbl[427]? = some (.code (am_nm 4) (am_by 4) (am_ml 4) (am_rt 4)) := rfl
theorem am_mk4 : am_mck 4 = true := by decide +kernel
set_option maxRecDepth 100000 in
theorem am_cw5 : lw_tbl[498]? = some (.code (am_nm 5) (am_by 5) (am_ml 5) (am_rt 5)) := rfl
theorem am_mk5 : am_mck 5 = true := by decide +kernel
set_option maxRecDepth 100000 in
theorem am_cw6 : lw_tbl[575]? = some (.code (am_nm 6) (am_by 6) (am_ml 6) (am_rt 6)) := rfl
theorem am_mk6 : am_mck 6 = true := by decide +kernel
set_option maxRecDepth 100000 in
theorem am_cw7 : lw_tbl[431]? = some (.code (am_nm 7) (am_by 7) (am_ml 7) (am_rt 7)) := rfl
theorem am_mk7 : am_mck 7 = true := by decide +kernel
set_option maxRecDepth 100000 in
theorem am_cw8 : lw_tbl[751]? = some (.code (am_nm 8) (am_by 8) (am_ml 8) (am_rt 8)) := rfl
theorem am_mk8 : am_mck 8 = true := by decide +kernel
set_option maxRecDepth 100000 in
theorem am_cw9 : lw_tbl[827]? = some (.code (am_nm 9) (am_by 9) (am_ml 9) (am_rt 9)) := rfl
theorem am_mk9 : am_mck 9 = true := by decide +kernel
set_option maxRecDepth 100000 in
theorem am_cw10 : lw_tbl[769]? = some (.code (am_nm 10) (am_by 10) (am_ml 10) (am_rt 10)) := rfl
theorem am_mk10 : am_mck 10 = true := by decide +kernel
set_option maxRecDepth 100000 in
theorem am_cw11 : lw_tbl[831]? = some (.code (am_nm 11) (am_by 11) (am_ml 11) (am_rt 11)) := rfl
theorem am_mk11 : am_mck 11 = true := by decide +kernel
set_option maxRecDepth 100000 in
theorem am_cw12 : lw_tbl[989]? = some (.code (am_nm 12) (am_by 12) (am_ml 12) (am_rt 12)) := rfl
theorem am_mk12 : am_mck 12 = true := by decide +kernel
set_option maxRecDepth 100000 in
theorem am_cw13 : lw_tbl[993]? = some (.code (am_nm 13) (am_by 13) (am_ml 13) (am_rt 13)) := rfl
theorem am_mk13 : am_mck 13 = true := by decide +kernel
set_option maxRecDepth 100000 in
theorem am_cw14 : lw_tbl[866]? = some (.code (am_nm 14) (am_by 14) (am_ml 14) (am_rt 14)) := rfl
theorem am_mk14 : am_mck 14 = true := by decide +kernel
set_option maxRecDepth 100000 in
theorem am_cw15 : lw_tbl[874]? = some (.code (am_nm 15) (am_by 15) (am_ml 15) (am_rt 15)) := rfl
theorem am_mk15 : am_mck 15 = true := by decide +kernel
set_option maxRecDepth 100000 in
theorem am_cw16 : lw_tbl[878]? = some (.code (am_nm 16) (am_by 16) (am_ml 16) (am_rt 16)) := rfl
theorem am_mk16 : am_mck 16 = true := by decide +kernel
set_option maxRecDepth 100000 in
theorem am_cw17 : lw_tbl[882]? = some (.code (am_nm 17) (am_by 17) (am_ml 17) (am_rt 17)) := rfl
theorem am_mk17 : am_mck 17 = true := by decide +kernel
set_option maxRecDepth 100000 in
theorem am_cw18 : lw_tbl[798]? = some (.code (am_nm 18) (am_by 18) (am_ml 18) (am_rt 18)) := rfl
theorem am_mk18 : am_mck 18 = true := by decide +kernel
set_option maxRecDepth 100000 in
theorem am_cw19 : lw_tbl[150]? = some (.code (am_nm 19) (am_by 19) (am_ml 19) (am_rt 19)) := rfl
theorem am_mk19 : am_mck 19 = true := by decide +kernel
set_option maxRecDepth 100000 in
theorem am_cw20 : lw_tbl[545]? = some (.code (am_nm 20) (am_by 20) (am_ml 20) (am_rt 20)) := rfl
theorem am_mk20 : am_mck 20 = true := by decide +kernel
set_option maxRecDepth 100000 in
theorem am_cw21 : lw_tbl[764]? = some (.code (am_nm 21) (am_by 21) (am_ml 21) (am_rt 21)) := rfl
theorem am_mk21 : am_mck 21 = true := by decide +kernel
set_option maxRecDepth 100000 in
theorem am_cw22 : lw_tbl[806]? = some (.code (am_nm 22) (am_by 22) (am_ml 22) (am_rt 22)) := rfl
theorem am_mk22 : am_mck 22 = true := by decide +kernel
set_option maxRecDepth 100000 in
theorem am_cw23 : lw_tbl[107]? = some (.code (am_nm 23) (am_by 23) (am_ml 23) (am_rt 23)) := rfl
theorem am_mk23 : am_mck 23 = true := by decide +kernel
set_option maxRecDepth 100000 in
theorem am_cw24 : lw_tbl[487]? = some (.code (am_nm 24) (am_by 24) (am_ml 24) (am_rt 24)) := rfl
theorem am_mk24 : am_mck 24 = true := by decide +kernel
set_option maxRecDepth 100000 in
theorem am_cw25 : lw_tbl[502]? = some (.code (am_nm 25) (am_by 25) (am_ml 25) (am_rt 25)) := rfl
theorem am_mk25 : am_mck 25 = true := by decide +kernel
set_option maxRecDepth 100000 in
theorem am_cw26 : lw_tbl[439]? = some (.code (am_nm 26) (am_by 26) (am_ml 26) (am_rt 26)) := rfl
theorem am_mk26 : am_mck 26 = true := by decide +kernel
set_option maxRecDepth 100000 in
theorem am_cw27 : lw_tbl[443]? = some (.code (am_nm 27) (am_by 27) (am_ml 27) (am_rt 27)) := rfl
theorem am_mk27 : am_mck 27 = true := by decide +kernel
set_option maxRecDepth 100000 in
theorem am_cw28 : lw_tbl[435]? = some (.code (am_nm 28) (am_by 28) (am_ml 28) (am_rt 28)) := rfl
theorem am_mk28 : am_mck 28 = true := by decide +kernel
set_option maxRecDepth 100000 in
theorem am_cw29 : lw_tbl[759]? = some (.code (am_nm 29) (am_by 29) (am_ml 29) (am_rt 29)) := rfl
theorem am_mk29 : am_mck 29 = true := by decide +kernel
set_option maxRecDepth 100000 in
theorem am_cw30 : lw_tbl[755]? = some (.code (am_nm 30) (am_by 30) (am_ml 30) (am_rt 30)) := rfl
theorem am_mk30 : am_mck 30 = true := by decide +kernel
set_option maxRecDepth 100000 in
theorem am_cw31 : lw_tbl[802]? = some (.code (am_nm 31) (am_by 31) (am_ml 31) (am_rt 31)) := rfl
theorem am_mk31 : am_mck 31 = true := by decide +kernel
set_option maxRecDepth 100000 in
theorem am_cw32 : lw_tbl[299]? = some (.code (am_nm 32) (am_by 32) (am_ml 32) (am_rt 32)) := rfl
theorem am_mk32 : am_mck 32 = true := by decide +kernel
set_option maxRecDepth 100000 in
theorem am_cw33 : lw_tbl[596]? = some (.code (am_nm 33) (am_by 33) (am_ml 33) (am_rt 33)) := rfl
theorem am_mk33 : am_mck 33 = true := by decide +kernel
set_option maxRecDepth 100000 in
theorem am_cw34 : lw_tbl[601]? = some (.code (am_nm 34) (am_by 34) (am_ml 34) (am_rt 34)) := rfl
theorem am_mk34 : am_mck 34 = true := by decide +kernel
set_option maxRecDepth 100000 in
theorem am_cw35 : lw_tbl[609]? = some (.code (am_nm 35) (am_by 35) (am_ml 35) (am_rt 35)) := rfl
theorem am_mk35 : am_mck 35 = true := by decide +kernel
set_option maxRecDepth 100000 in
theorem am_cw36 : lw_tbl[613]? = some (.code (am_nm 36) (am_by 36) (am_ml 36) (am_rt 36)) := rfl
theorem am_mk36 : am_mck 36 = true := by decide +kernel
set_option maxRecDepth 100000 in
theorem am_cw37 : lw_tbl[698]? = some (.code (am_nm 37) (am_by 37) (am_ml 37) (am_rt 37)) := rfl
theorem am_mk37 : am_mck 37 = true := by decide +kernel
set_option maxRecDepth 100000 in
theorem am_cw38 : lw_tbl[702]? = some (.code (am_nm 38) (am_by 38) (am_ml 38) (am_rt 38)) := rfl
theorem am_mk38 : am_mck 38 = true := by decide +kernel
set_option maxRecDepth 100000 in
theorem am_cw39 : lw_tbl[713]? = some (.code (am_nm 39) (am_by 39) (am_ml 39) (am_rt 39)) := rfl
theorem am_mk39 : am_mck 39 = true := by decide +kernel
set_option maxRecDepth 100000 in
theorem am_cw40 : lw_tbl[717]? = some (.code (am_nm 40) (am_by 40) (am_ml 40) (am_rt 40)) := rfl
theorem am_mk40 : am_mck 40 = true := by decide +kernel
set_option maxRecDepth 100000 in
theorem am_cw41 : lw_tbl[721]? = some (.code (am_nm 41) (am_by 41) (am_ml 41) (am_rt 41)) := rfl
theorem am_mk41 : am_mck 41 = true := by decide +kernel
set_option maxRecDepth 100000 in
theorem am_cw42 : lw_tbl[707]? = some (.code (am_nm 42) (am_by 42) (am_ml 42) (am_rt 42)) := rfl
theorem am_mk42 : am_mck 42 = true := by decide +kernel
set_option maxRecDepth 100000 in
theorem am_cw43 : lw_tbl[724]? = some (.code (am_nm 43) (am_by 43) (am_ml 43) (am_rt 43)) := rfl
theorem am_mk43 : am_mck 43 = true := by decide +kernel
set_option maxRecDepth 100000 in
theorem am_cw44 : lw_tbl[94]? = some (.code (am_nm 44) (am_by 44) (am_ml 44) (am_rt 44)) := rfl
theorem am_mk44 : am_mck 44 = true := by decide +kernel
set_option maxRecDepth 100000 in
theorem am_cw45 : lw_tbl[592]? = some (.code (am_nm 45) (am_by 45) (am_ml 45) (am_rt 45)) := rfl
theorem am_mk45 : am_mck 45 = true := by decide +kernel
set_option maxRecDepth 100000 in
theorem am_cw46 : lw_tbl[777]? = some (.code (am_nm 46) (am_by 46) (am_ml 46) (am_rt 46)) := rfl
theorem am_mk46 : am_mck 46 = true := by decide +kernel
set_option maxRecDepth 100000 in
theorem am_cw47 : lw_tbl[781]? = some (.code (am_nm 47) (am_by 47) (am_ml 47) (am_rt 47)) := rfl
theorem am_mk47 : am_mck 47 = true := by decide +kernel
set_option maxRecDepth 100000 in
theorem am_cw48 : lw_tbl[962]? = some (.code (am_nm 48) (am_by 48) (am_ml 48) (am_rt 48)) := rfl
theorem am_mk48 : am_mck 48 = true := by decide +kernel
set_option maxRecDepth 100000 in
theorem am_cw49 : lw_tbl[227]? = some (.code (am_nm 49) (am_by 49) (am_ml 49) (am_rt 49)) := rfl
theorem am_mk49 : am_mck 49 = true := by decide +kernel
set_option maxRecDepth 100000 in
theorem am_cw50 : lw_tbl[463]? = some (.code (am_nm 50) (am_by 50) (am_ml 50) (am_rt 50)) := rfl
theorem am_mk50 : am_mck 50 = true := by decide +kernel
set_option maxRecDepth 100000 in
theorem am_cw51 : lw_tbl[605]? = some (.code (am_nm 51) (am_by 51) (am_ml 51) (am_rt 51)) := rfl
theorem am_mk51 : am_mck 51 = true := by decide +kernel
set_option maxRecDepth 100000 in
theorem am_cw52 : lw_tbl[470]? = some (.code (am_nm 52) (am_by 52) (am_ml 52) (am_rt 52)) := rfl
theorem am_mk52 : am_mck 52 = true := by decide +kernel
set_option maxRecDepth 100000 in
theorem am_cw53 : lw_tbl[474]? = some (.code (am_nm 53) (am_by 53) (am_ml 53) (am_rt 53)) := rfl
theorem am_mk53 : am_mck 53 = true := by decide +kernel
set_option maxRecDepth 100000 in
theorem am_cw54 : lw_tbl[459]? = some (.code (am_nm 54) (am_by 54) (am_ml 54) (am_rt 54)) := rfl
theorem am_mk54 : am_mck 54 = true := by decide +kernel
set_option maxRecDepth 100000 in
theorem am_cw55 : lw_tbl[733]? = some (.code (am_nm 55) (am_by 55) (am_ml 55) (am_rt 55)) := rfl
theorem am_mk55 : am_mck 55 = true := by decide +kernel
set_option maxRecDepth 100000 in
theorem am_cw56 : lw_tbl[347]? = some (.code (am_nm 56) (am_by 56) (am_ml 56) (am_rt 56)) := rfl
theorem am_mk56 : am_mck 56 = true := by decide +kernel
set_option maxRecDepth 100000 in
theorem am_cw57 : lw_tbl[935]? = some (.code (am_nm 57) (am_by 57) (am_ml 57) (am_rt 57)) := rfl
theorem am_mk57 : am_mck 57 = true := by decide +kernel
set_option maxRecDepth 100000 in
theorem am_cw58 : lw_tbl[927]? = some (.code (am_nm 58) (am_by 58) (am_ml 58) (am_rt 58)) := rfl
theorem am_mk58 : am_mck 58 = true := by decide +kernel
set_option maxRecDepth 100000 in
theorem am_cw59 : lw_tbl[939]? = some (.code (am_nm 59) (am_by 59) (am_ml 59) (am_rt 59)) := rfl
theorem am_mk59 : am_mck 59 = true := by decide +kernel
set_option maxRecDepth 100000 in
theorem am_cw60 : lw_tbl[947]? = some (.code (am_nm 60) (am_by 60) (am_ml 60) (am_rt 60)) := rfl
theorem am_mk60 : am_mck 60 = true := by decide +kernel
set_option maxRecDepth 100000 in
theorem am_cw61 : lw_tbl[324]? = some (.code (am_nm 61) (am_by 61) (am_ml 61) (am_rt 61)) := rfl
theorem am_mk61 : am_mck 61 = true := by decide +kernel
set_option maxRecDepth 100000 in
theorem am_cw62 : lw_tbl[895]? = some (.code (am_nm 62) (am_by 62) (am_ml 62) (am_rt 62)) := rfl
theorem am_mk62 : am_mck 62 = true := by decide +kernel
set_option maxRecDepth 100000 in
theorem am_cw63 : lw_tbl[900]? = some (.code (am_nm 63) (am_by 63) (am_ml 63) (am_rt 63)) := rfl
theorem am_mk63 : am_mck 63 = true := by decide +kernel
set_option maxRecDepth 100000 in
theorem am_cw64 : lw_tbl[903]? = some (.code (am_nm 64) (am_by 64) (am_ml 64) (am_rt 64)) := rfl
theorem am_mk64 : am_mck 64 = true := by decide +kernel
set_option maxRecDepth 100000 in
theorem am_cw65 : lw_tbl[910]? = some (.code (am_nm 65) (am_by 65) (am_ml 65) (am_rt 65)) := rfl
theorem am_mk65 : am_mck 65 = true := by decide +kernel
set_option maxRecDepth 100000 in
theorem am_cw66 : lw_tbl[221]? = some (.code (am_nm 66) (am_by 66) (am_ml 66) (am_rt 66)) := rfl
theorem am_mk66 : am_mck 66 = true := by decide +kernel
set_option maxRecDepth 100000 in
theorem am_cw67 : lw_tbl[729]? = some (.code (am_nm 67) (am_by 67) (am_ml 67) (am_rt 67)) := rfl
theorem am_mk67 : am_mck 67 = true := by decide +kernel
set_option maxRecDepth 100000 in
theorem am_cw68 : lw_tbl[447]? = some (.code (am_nm 68) (am_by 68) (am_ml 68) (am_rt 68)) := rfl
theorem am_mk68 : am_mck 68 = true := by decide +kernel
set_option maxRecDepth 100000 in
theorem am_cw69 : lw_tbl[451]? = some (.code (am_nm 69) (am_by 69) (am_ml 69) (am_rt 69)) := rfl
theorem am_mk69 : am_mck 69 = true := by decide +kernel
set_option maxRecDepth 100000 in
theorem am_cw70 : lw_tbl[455]? = some (.code (am_nm 70) (am_by 70) (am_ml 70) (am_rt 70)) := rfl
theorem am_mk70 : am_mck 70 = true := by decide +kernel
set_option maxRecDepth 100000 in
theorem am_cw71 : lw_tbl[466]? = some (.code (am_nm 71) (am_by 71) (am_ml 71) (am_rt 71)) := rfl
theorem am_mk71 : am_mck 71 = true := by decide +kernel
set_option maxRecDepth 100000 in
theorem am_cw72 : lw_tbl[477]? = some (.code (am_nm 72) (am_by 72) (am_ml 72) (am_rt 72)) := rfl
theorem am_mk72 : am_mck 72 = true := by decide +kernel
set_option maxRecDepth 100000 in
theorem am_cw73 : lw_tbl[86]? = some (.code (am_nm 73) (am_by 73) (am_ml 73) (am_rt 73)) := rfl
theorem am_mk73 : am_mck 73 = true := by decide +kernel
set_option maxRecDepth 100000 in
theorem am_cw74 : lw_tbl[393]? = some (.code (am_nm 74) (am_by 74) (am_ml 74) (am_rt 74)) := rfl
theorem am_mk74 : am_mck 74 = true := by decide +kernel
set_option maxRecDepth 100000 in
theorem am_cw75 : lw_tbl[419]? = some (.code (am_nm 75) (am_by 75) (am_ml 75) (am_rt 75)) := rfl
theorem am_mk75 : am_mck 75 = true := by decide +kernel
set_option maxRecDepth 100000 in
theorem am_cw76 : lw_tbl[491]? = some (.code (am_nm 76) (am_by 76) (am_ml 76) (am_rt 76)) := rfl
theorem am_mk76 : am_mck 76 = true := by decide +kernel
set_option maxRecDepth 100000 in
theorem am_cw77 : lw_tbl[506]? = some (.code (am_nm 77) (am_by 77) (am_ml 77) (am_rt 77)) := rfl
theorem am_mk77 : am_mck 77 = true := by decide +kernel
set_option maxRecDepth 100000 in
theorem am_cw78 : lw_tbl[510]? = some (.code (am_nm 78) (am_by 78) (am_ml 78) (am_rt 78)) := rfl
theorem am_mk78 : am_mck 78 = true := by decide +kernel
set_option maxRecDepth 100000 in
theorem am_cw79 : lw_tbl[520]? = some (.code (am_nm 79) (am_by 79) (am_ml 79) (am_rt 79)) := rfl
theorem am_mk79 : am_mck 79 = true := by decide +kernel
set_option maxRecDepth 100000 in
theorem am_cw80 : lw_tbl[529]? = some (.code (am_nm 80) (am_by 80) (am_ml 80) (am_rt 80)) := rfl
theorem am_mk80 : am_mck 80 = true := by decide +kernel
set_option maxRecDepth 100000 in
theorem am_cw81 : lw_tbl[541]? = some (.code (am_nm 81) (am_by 81) (am_ml 81) (am_rt 81)) := rfl
theorem am_mk81 : am_mck 81 = true := by decide +kernel
set_option maxRecDepth 100000 in
theorem am_cw82 : lw_tbl[549]? = some (.code (am_nm 82) (am_by 82) (am_ml 82) (am_rt 82)) := rfl
theorem am_mk82 : am_mck 82 = true := by decide +kernel
set_option maxRecDepth 100000 in
theorem am_cw83 : lw_tbl[553]? = some (.code (am_nm 83) (am_by 83) (am_ml 83) (am_rt 83)) := rfl
theorem am_mk83 : am_mck 83 = true := by decide +kernel
set_option maxRecDepth 100000 in
theorem am_cw84 : lw_tbl[557]? = some (.code (am_nm 84) (am_by 84) (am_ml 84) (am_rt 84)) := rfl
theorem am_mk84 : am_mck 84 = true := by decide +kernel
set_option maxRecDepth 100000 in
theorem am_cw85 : lw_tbl[564]? = some (.code (am_nm 85) (am_by 85) (am_ml 85) (am_rt 85)) := rfl
theorem am_mk85 : am_mck 85 = true := by decide +kernel
set_option maxRecDepth 100000 in
theorem am_cw86 : lw_tbl[571]? = some (.code (am_nm 86) (am_by 86) (am_ml 86) (am_rt 86)) := rfl
theorem am_mk86 : am_mck 86 = true := by decide +kernel
set_option maxRecDepth 100000 in
theorem am_cw87 : lw_tbl[580]? = some (.code (am_nm 87) (am_by 87) (am_ml 87) (am_rt 87)) := rfl
theorem am_mk87 : am_mck 87 = true := by decide +kernel
set_option maxRecDepth 100000 in
theorem am_cw88 : lw_tbl[585]? = some (.code (am_nm 88) (am_by 88) (am_ml 88) (am_rt 88)) := rfl
theorem am_mk88 : am_mck 88 = true := by decide +kernel
set_option maxRecDepth 100000 in
theorem am_cw89 : lw_tbl[739]? = some (.code (am_nm 89) (am_by 89) (am_ml 89) (am_rt 89)) := rfl
theorem am_mk89 : am_mck 89 = true := by decide +kernel
set_option maxRecDepth 100000 in
theorem am_cw90 : lw_tbl[743]? = some (.code (am_nm 90) (am_by 90) (am_ml 90) (am_rt 90)) := rfl
theorem am_mk90 : am_mck 90 = true := by decide +kernel
set_option maxRecDepth 100000 in
theorem am_cw91 : lw_tbl[773]? = some (.code (am_nm 91) (am_by 91) (am_ml 91) (am_rt 91)) := rfl
theorem am_mk91 : am_mck 91 = true := by decide +kernel
set_option maxRecDepth 100000 in
theorem am_cw92 : lw_tbl[787]? = some (.code (am_nm 92) (am_by 92) (am_ml 92) (am_rt 92)) := rfl
theorem am_mk92 : am_mck 92 = true := by decide +kernel
set_option maxRecDepth 100000 in
theorem am_cw93 : lw_tbl[810]? = some (.code (am_nm 93) (am_by 93) (am_ml 93) (am_rt 93)) := rfl
theorem am_mk93 : am_mck 93 = true := by decide +kernel
set_option maxRecDepth 100000 in
theorem am_cw94 : lw_tbl[814]? = some (.code (am_nm 94) (am_by 94) (am_ml 94) (am_rt 94)) := rfl
theorem am_mk94 : am_mck 94 = true := by decide +kernel
set_option maxRecDepth 100000 in
theorem am_cw95 : lw_tbl[818]? = some (.code (am_nm 95) (am_by 95) (am_ml 95) (am_rt 95)) := rfl
theorem am_mk95 : am_mck 95 = true := by decide +kernel
set_option maxRecDepth 100000 in
theorem am_cw96 : lw_tbl[846]? = some (.code (am_nm 96) (am_by 96) (am_ml 96) (am_rt 96)) := rfl
theorem am_mk96 : am_mck 96 = true := by decide +kernel
set_option maxRecDepth 100000 in
theorem am_cw97 : lw_tbl[854]? = some (.code (am_nm 97) (am_by 97) (am_ml 97) (am_rt 97)) := rfl
theorem am_mk97 : am_mck 97 = true := by decide +kernel
set_option maxRecDepth 100000 in
theorem am_cw98 : lw_tbl[862]? = some (.code (am_nm 98) (am_by 98) (am_ml 98) (am_rt 98)) := rfl
theorem am_mk98 : am_mck 98 = true := by decide +kernel
set_option maxRecDepth 100000 in
theorem am_cw99 : lw_tbl[870]? = some (.code (am_nm 99) (am_by 99) (am_ml 99) (am_rt 99)) := rfl
theorem am_mk99 : am_mck 99 = true := by decide +kernel
set_option maxRecDepth 100000 in
theorem am_cw100 : lw_tbl[887]? = some (.code (am_nm 100) (am_by 100) (am_ml 100) (am_rt 100)) := rfl
theorem am_mk100 : am_mck 100 = true := by decide +kernel
set_option maxRecDepth 100000 in
theorem am_cw101 : lw_tbl[891]? = some (.code (am_nm 101) (am_by 101) (am_ml 101) (am_rt 101)) := rfl
theorem am_mk101 : am_mck 101 = true := by decide +kernel
set_option maxRecDepth 100000 in
theorem am_cw102 : lw_tbl[915]? = some (.code (am_nm 102) (am_by 102) (am_ml 102) (am_rt 102)) := rfl
theorem am_mk102 : am_mck 102 = true := by decide +kernel
set_option maxRecDepth 100000 in
theorem am_cw103 : lw_tbl[920]? = some (.code (am_nm 103) (am_by 103) (am_ml 103) (am_rt 103)) := rfl
theorem am_mk103 : am_mck 103 = true := by decide +kernel
set_option maxRecDepth 100000 in
theorem am_cw104 : lw_tbl[931]? = some (.code (am_nm 104) (am_by 104) (am_ml 104) (am_rt 104)) := rfl
theorem am_mk104 : am_mck 104 = true := by decide +kernel
set_option maxRecDepth 100000 in
theorem am_cw105 : lw_tbl[943]? = some (.code (am_nm 105) (am_by 105) (am_ml 105) (am_rt 105)) := rfl
theorem am_mk105 : am_mck 105 = true := by decide +kernel
set_option maxRecDepth 100000 in
theorem am_cw106 : lw_tbl[954]? = some (.code (am_nm 106) (am_by 106) (am_ml 106) (am_rt 106)) := rfl
theorem am_mk106 : am_mck 106 = true := by decide +kernel
set_option maxRecDepth 100000 in
theorem am_cw107 : lw_tbl[958]? = some (.code (am_nm 107) (am_by 107) (am_ml 107) (am_rt 107)) := rfl
theorem am_mk107 : am_mck 107 = true := by decide +kernel
set_option maxRecDepth 100000 in
theorem am_cw108 : lw_tbl[969]? = some (.code (am_nm 108) (am_by 108) (am_ml 108) (am_rt 108)) := rfl
theorem am_mk108 : am_mck 108 = true := by decide +kernel
set_option maxRecDepth 100000 in
theorem am_cw109 : lw_tbl[973]? = some (.code (am_nm 109) (am_by 109) (am_ml 109) (am_rt 109)) := rfl
theorem am_mk109 : am_mck 109 = true := by decide +kernel
set_option maxRecDepth 100000 in
theorem am_cw110 : lw_tbl[977]? = some (.code (am_nm 110) (am_by 110) (am_ml 110) (am_rt 110)) := rfl
theorem am_mk110 : am_mck 110 = true := by decide +kernel
set_option maxRecDepth 100000 in
theorem am_cw111 : lw_tbl[985]? = some (.code (am_nm 111) (am_by 111) (am_ml 111) (am_rt 111)) := rfl
theorem am_mk111 : am_mck 111 = true := by decide +kernel
set_option maxRecDepth 100000 in
theorem am_cw112 : lw_tbl[997]? = some (.code (am_nm 112) (am_by 112) (am_ml 112) (am_rt 112)) := rfl
theorem am_mk112 : am_mck 112 = true := by decide +kernel
set_option maxRecDepth 100000 in
theorem am_cw113 : lw_tbl[404]? = some (.code (am_nm 113) (am_by 113) (am_ml 113) (am_rt 113)) := rfl
theorem am_mk113 : am_mck 113 = true := by decide +kernel
set_option maxRecDepth 100000 in
theorem am_cw114 : lw_tbl[399]? = some (.code (am_nm 114) (am_by 114) (am_ml 114) (am_rt 114)) := rfl
theorem am_mk114 : am_mck 114 = true := by decide +kernel
set_option maxRecDepth 100000 in
theorem am_cw115 : lw_tbl[396]? = some (.code (am_nm 115) (am_by 115) (am_ml 115) (am_rt 115)) := rfl
theorem am_mk115 : am_mck 115 = true := by decide +kernel
set_option maxRecDepth 100000 in
theorem am_cw116 : lw_tbl[567]? = some (.code (am_nm 116) (am_by 116) (am_ml 116) (am_rt 116)) := rfl
theorem am_mk116 : am_mck 116 = true := by decide +kernel
set_option maxRecDepth 100000 in
theorem am_cw117 : lw_tbl[588]? = some (.code (am_nm 117) (am_by 117) (am_ml 117) (am_rt 117)) := rfl
theorem am_mk117 : am_mck 117 = true := by decide +kernel
set_option maxRecDepth 100000 in
theorem am_cw118 : lw_tbl[923]? = some (.code (am_nm 118) (am_by 118) (am_ml 118) (am_rt 118)) := rfl
theorem am_mk118 : am_mck 118 = true := by decide +kernel
set_option maxRecDepth 100000 in
theorem am_cw119 : lw_tbl[790]? = some (.code (am_nm 119) (am_by 119) (am_ml 119) (am_rt 119)) := rfl
theorem am_mk119 : am_mck 119 = true := by decide +kernel
set_option maxRecDepth 100000 in
theorem am_cw120 : lw_tbl[423]? = some (.code (am_nm 120) (am_by 120) (am_ml 120) (am_rt 120)) := rfl
theorem am_mk120 : am_mck 120 = true := by decide +kernel
set_option maxRecDepth 100000 in
theorem am_cw121 : lw_tbl[524]? = some (.code (am_nm 121) (am_by 121) (am_ml 121) (am_rt 121)) := rfl
theorem am_mk121 : am_mck 121 = true := by decide +kernel
set_option maxRecDepth 100000 in
theorem am_cw122 : lw_tbl[513]? = some (.code (am_nm 122) (am_by 122) (am_ml 122) (am_rt 122)) := rfl
theorem am_mk122 : am_mck 122 = true := by decide +kernel
set_option maxRecDepth 100000 in
theorem am_cw123 : lw_tbl[494]? = some (.code (am_nm 123) (am_by 123) (am_ml 123) (am_rt 123)) := rfl
theorem am_mk123 : am_mck 123 = true := by decide +kernel
set_option maxRecDepth 100000 in
theorem am_cw124 : lw_tbl[533]? = some (.code (am_nm 124) (am_by 124) (am_ml 124) (am_rt 124)) := rfl
theorem am_mk124 : am_mck 124 = true := by decide +kernel
set_option maxRecDepth 100000 in
theorem am_cw125 : lw_tbl[747]? = some (.code (am_nm 125) (am_by 125) (am_ml 125) (am_rt 125)) := rfl
theorem am_mk125 : am_mck 125 = true := by decide +kernel
set_option maxRecDepth 100000 in
theorem am_cw126 : lw_tbl[794]? = some (.code (am_nm 126) (am_by 126) (am_ml 126) (am_rt 126)) := rfl
theorem am_mk126 : am_mck 126 = true := by decide +kernel
set_option maxRecDepth 100000 in
theorem am_cw127 : lw_tbl[850]? = some (.code (am_nm 127) (am_by 127) (am_ml 127) (am_rt 127)) := rfl
theorem am_mk127 : am_mck 127 = true := by decide +kernel
set_option maxRecDepth 100000 in
theorem am_cw128 : lw_tbl[858]? = some (.code (am_nm 128) (am_by 128) (am_ml 128) (am_rt 128)) := rfl
theorem am_mk128 : am_mck 128 = true := by decide +kernel
set_option maxRecDepth 100000 in
theorem am_cw129 : lw_tbl[823]? = some (.code (am_nm 129) (am_by 129) (am_ml 129) (am_rt 129)) := rfl
theorem am_mk129 : am_mck 129 = true := by decide +kernel
set_option maxRecDepth 100000 in
theorem am_cw130 : lw_tbl[835]? = some (.code (am_nm 130) (am_by 130) (am_ml 130) (am_rt 130)) := rfl
theorem am_mk130 : am_mck 130 = true := by decide +kernel
set_option maxRecDepth 100000 in
theorem am_cw131 : lw_tbl[839]? = some (.code (am_nm 131) (am_by 131) (am_ml 131) (am_rt 131)) := rfl
theorem am_mk131 : am_mck 131 = true := by decide +kernel
set_option maxRecDepth 100000 in
theorem am_cw132 : lw_tbl[842]? = some (.code (am_nm 132) (am_by 132) (am_ml 132) (am_rt 132)) := rfl
theorem am_mk132 : am_mck 132 = true := by decide +kernel
set_option maxRecDepth 100000 in
theorem am_cw133 : lw_tbl[981]? = some (.code (am_nm 133) (am_by 133) (am_ml 133) (am_rt 133)) := rfl
theorem am_mk133 : am_mck 133 = true := by decide +kernel
set_option maxRecDepth 100000 in
theorem am_cw134 : lw_tbl[1002]? = some (.code (am_nm 134) (am_by 134) (am_ml 134) (am_rt 134)) := rfl
theorem am_mk134 : am_mck 134 = true := by decide +kernel
set_option maxRecDepth 100000 in
theorem am_cw135 : lw_tbl[1086]? = some (.code (am_nm 135) (am_by 135) (am_ml 135) (am_rt 135)) := rfl
theorem am_mk135 : am_mck 135 = true := by decide +kernel
set_option maxRecDepth 100000 in
theorem am_cw136 : lw_tbl[1081]? = some (.code (am_nm 136) (am_by 136) (am_ml 136) (am_rt 136)) := rfl
theorem am_mk136 : am_mck 136 = true := by decide +kernel
set_option maxRecDepth 100000 in
theorem am_cw137 : lw_tbl[1134]? = some (.code (am_nm 137) (am_by 137) (am_ml 137) (am_rt 137)) := rfl
theorem am_mk137 : am_mck 137 = true := by decide +kernel
set_option maxRecDepth 100000 in
theorem am_cw138 : lw_tbl[1096]? = some (.code (am_nm 138) (am_by 138) (am_ml 138) (am_rt 138)) := rfl
theorem am_mk138 : am_mck 138 = true := by decide +kernel
set_option maxRecDepth 100000 in
theorem am_cw139 : lw_tbl[1321]? = some (.code (am_nm 139) (am_by 139) (am_ml 139) (am_rt 139)) := rfl
theorem am_mk139 : am_mck 139 = true := by decide +kernel
set_option maxRecDepth 100000 in
theorem am_cw140 : lw_tbl[1144]? = some (.code (am_nm 140) (am_by 140) (am_ml 140) (am_rt 140)) := rfl
theorem am_mk140 : am_mck 140 = true := by decide +kernel
set_option maxRecDepth 100000 in
theorem am_cw141 : lw_tbl[1325]? = some (.code (am_nm 141) (am_by 141) (am_ml 141) (am_rt 141)) := rfl
theorem am_mk141 : am_mck 141 = true := by decide +kernel
set_option maxRecDepth 100000 in
theorem am_cw142 : lw_tbl[1112]? = some (.code (am_nm 142) (am_by 142) (am_ml 142) (am_rt 142)) := rfl
theorem am_mk142 : am_mck 142 = true := by decide +kernel
set_option maxRecDepth 100000 in
theorem am_cw143 : lw_tbl[1108]? = some (.code (am_nm 143) (am_by 143) (am_ml 143) (am_rt 143)) := rfl
theorem am_mk143 : am_mck 143 = true := by decide +kernel
set_option maxRecDepth 100000 in
theorem am_cw144 : lw_tbl[1195]? = some (.code (am_nm 144) (am_by 144) (am_ml 144) (am_rt 144)) := rfl
theorem am_mk144 : am_mck 144 = true := by decide +kernel
set_option maxRecDepth 100000 in
theorem am_cw145 : lw_tbl[1078]? = some (.code (am_nm 145) (am_by 145) (am_ml 145) (am_rt 145)) := rfl
theorem am_mk145 : am_mck 145 = true := by decide +kernel
set_option maxRecDepth 100000 in
theorem am_cw146 : lw_tbl[1100]? = some (.code (am_nm 146) (am_by 146) (am_ml 146) (am_rt 146)) := rfl
theorem am_mk146 : am_mck 146 = true := by decide +kernel
set_option maxRecDepth 100000 in
theorem am_cw147 : lw_tbl[1092]? = some (.code (am_nm 147) (am_by 147) (am_ml 147) (am_rt 147)) := rfl
theorem am_mk147 : am_mck 147 = true := by decide +kernel
set_option maxRecDepth 100000 in
theorem am_cw148 : lw_tbl[1140]? = some (.code (am_nm 148) (am_by 148) (am_ml 148) (am_rt 148)) := rfl
theorem am_mk148 : am_mck 148 = true := by decide +kernel
set_option maxRecDepth 100000 in
theorem am_cw149 : lw_tbl[1148]? = some (.code (am_nm 149) (am_by 149) (am_ml 149) (am_rt 149)) := rfl
theorem am_mk149 : am_mck 149 = true := by decide +kernel
set_option maxRecDepth 100000 in
theorem am_cw150 : lw_tbl[1155]? = some (.code (am_nm 150) (am_by 150) (am_ml 150) (am_rt 150)) := rfl
theorem am_mk150 : am_mck 150 = true := by decide +kernel
set_option maxRecDepth 100000 in
theorem am_cw151 : lw_tbl[1152]? = some (.code (am_nm 151) (am_by 151) (am_ml 151) (am_rt 151)) := rfl
theorem am_mk151 : am_mck 151 = true := by decide +kernel
set_option maxRecDepth 100000 in
theorem am_cw152 : lw_tbl[1116]? = some (.code (am_nm 152) (am_by 152) (am_ml 152) (am_rt 152)) := rfl
theorem am_mk152 : am_mck 152 = true := by decide +kernel
set_option maxRecDepth 100000 in
theorem am_cw153 : lw_tbl[1160]? = some (.code (am_nm 153) (am_by 153) (am_ml 153) (am_rt 153)) := rfl
theorem am_mk153 : am_mck 153 = true := by decide +kernel
set_option maxRecDepth 100000 in
theorem am_cw154 : lw_tbl[1104]? = some (.code (am_nm 154) (am_by 154) (am_ml 154) (am_rt 154)) := rfl
theorem am_mk154 : am_mck 154 = true := by decide +kernel
set_option maxRecDepth 100000 in
theorem am_cw155 : lw_tbl[1167]? = some (.code (am_nm 155) (am_by 155) (am_ml 155) (am_rt 155)) := rfl
theorem am_mk155 : am_mck 155 = true := by decide +kernel
set_option maxRecDepth 100000 in
theorem am_cw156 : lw_tbl[1171]? = some (.code (am_nm 156) (am_by 156) (am_ml 156) (am_rt 156)) := rfl
theorem am_mk156 : am_mck 156 = true := by decide +kernel
set_option maxRecDepth 100000 in
theorem am_cw157 : lw_tbl[1164]? = some (.code (am_nm 157) (am_by 157) (am_ml 157) (am_rt 157)) := rfl
theorem am_mk157 : am_mck 157 = true := by decide +kernel
set_option maxRecDepth 100000 in
theorem am_cw158 : lw_tbl[1175]? = some (.code (am_nm 158) (am_by 158) (am_ml 158) (am_rt 158)) := rfl
theorem am_mk158 : am_mck 158 = true := by decide +kernel
set_option maxRecDepth 100000 in
theorem am_cw159 : lw_tbl[1179]? = some (.code (am_nm 159) (am_by 159) (am_ml 159) (am_rt 159)) := rfl
theorem am_mk159 : am_mck 159 = true := by decide +kernel
set_option maxRecDepth 100000 in
theorem am_cw160 : lw_tbl[1183]? = some (.code (am_nm 160) (am_by 160) (am_ml 160) (am_rt 160)) := rfl
theorem am_mk160 : am_mck 160 = true := by decide +kernel
set_option maxRecDepth 100000 in
theorem am_cw161 : lw_tbl[1187]? = some (.code (am_nm 161) (am_by 161) (am_ml 161) (am_rt 161)) := rfl
theorem am_mk161 : am_mck 161 = true := by decide +kernel
set_option maxRecDepth 100000 in
theorem am_cw162 : lw_tbl[1192]? = some (.code (am_nm 162) (am_by 162) (am_ml 162) (am_rt 162)) := rfl
theorem am_mk162 : am_mck 162 = true := by decide +kernel
set_option maxRecDepth 100000 in
theorem am_cw163 : lw_tbl[1199]? = some (.code (am_nm 163) (am_by 163) (am_ml 163) (am_rt 163)) := rfl
theorem am_mk163 : am_mck 163 = true := by decide +kernel
set_option maxRecDepth 100000 in
theorem am_cw164 : lw_tbl[1203]? = some (.code (am_nm 164) (am_by 164) (am_ml 164) (am_rt 164)) := rfl
theorem am_mk164 : am_mck 164 = true := by decide +kernel
set_option maxRecDepth 100000 in
theorem am_cw165 : lw_tbl[1236]? = some (.code (am_nm 165) (am_by 165) (am_ml 165) (am_rt 165)) := rfl
theorem am_mk165 : am_mck 165 = true := by decide +kernel
set_option maxRecDepth 100000 in
theorem am_cw166 : lw_tbl[1244]? = some (.code (am_nm 166) (am_by 166) (am_ml 166) (am_rt 166)) := rfl
theorem am_mk166 : am_mck 166 = true := by decide +kernel
set_option maxRecDepth 100000 in
theorem am_cw167 : lw_tbl[1240]? = some (.code (am_nm 167) (am_by 167) (am_ml 167) (am_rt 167)) := rfl
theorem am_mk167 : am_mck 167 = true := by decide +kernel
set_option maxRecDepth 100000 in
theorem am_cw168 : lw_tbl[1212]? = some (.code (am_nm 168) (am_by 168) (am_ml 168) (am_rt 168)) := rfl
theorem am_mk168 : am_mck 168 = true := by decide +kernel
set_option maxRecDepth 100000 in
theorem am_cw169 : lw_tbl[1216]? = some (.code (am_nm 169) (am_by 169) (am_ml 169) (am_rt 169)) := rfl
theorem am_mk169 : am_mck 169 = true := by decide +kernel
set_option maxRecDepth 100000 in
theorem am_cw170 : lw_tbl[1220]? = some (.code (am_nm 170) (am_by 170) (am_ml 170) (am_rt 170)) := rfl
theorem am_mk170 : am_mck 170 = true := by decide +kernel
set_option maxRecDepth 100000 in
theorem am_cw171 : lw_tbl[1224]? = some (.code (am_nm 171) (am_by 171) (am_ml 171) (am_rt 171)) := rfl
theorem am_mk171 : am_mck 171 = true := by decide +kernel
set_option maxRecDepth 100000 in
theorem am_cw172 : lw_tbl[1228]? = some (.code (am_nm 172) (am_by 172) (am_ml 172) (am_rt 172)) := rfl
theorem am_mk172 : am_mck 172 = true := by decide +kernel
set_option maxRecDepth 100000 in
theorem am_cw173 : lw_tbl[1248]? = some (.code (am_nm 173) (am_by 173) (am_ml 173) (am_rt 173)) := rfl
theorem am_mk173 : am_mck 173 = true := by decide +kernel
set_option maxRecDepth 100000 in
theorem am_cw174 : lw_tbl[1232]? = some (.code (am_nm 174) (am_by 174) (am_ml 174) (am_rt 174)) := rfl
theorem am_mk174 : am_mck 174 = true := by decide +kernel
set_option maxRecDepth 100000 in
theorem am_cw175 : lw_tbl[1208]? = some (.code (am_nm 175) (am_by 175) (am_ml 175) (am_rt 175)) := rfl
theorem am_mk175 : am_mck 175 = true := by decide +kernel
set_option maxRecDepth 100000 in
theorem am_cw176 : lw_tbl[1131]? = some (.code (am_nm 176) (am_by 176) (am_ml 176) (am_rt 176)) := rfl
theorem am_mk176 : am_mck 176 = true := by decide +kernel
set_option maxRecDepth 100000 in
theorem am_cw177 : lw_tbl[1128]? = some (.code (am_nm 177) (am_by 177) (am_ml 177) (am_rt 177)) := rfl
theorem am_mk177 : am_mck 177 = true := by decide +kernel
set_option maxRecDepth 100000 in
theorem am_cw178 : lw_tbl[1124]? = some (.code (am_nm 178) (am_by 178) (am_ml 178) (am_rt 178)) := rfl
theorem am_mk178 : am_mck 178 = true := by decide +kernel
set_option maxRecDepth 100000 in
theorem am_cw179 : lw_tbl[1120]? = some (.code (am_nm 179) (am_by 179) (am_ml 179) (am_rt 179)) := rfl
theorem am_mk179 : am_mck 179 = true := by decide +kernel
set_option maxRecDepth 100000 in
theorem am_cw180 : lw_tbl[1273]? = some (.code (am_nm 180) (am_by 180) (am_ml 180) (am_rt 180)) := rfl
theorem am_mk180 : am_mck 180 = true := by decide +kernel
set_option maxRecDepth 100000 in
theorem am_cw181 : lw_tbl[1289]? = some (.code (am_nm 181) (am_by 181) (am_ml 181) (am_rt 181)) := rfl
theorem am_mk181 : am_mck 181 = true := by decide +kernel
set_option maxRecDepth 100000 in
theorem am_cw182 : lw_tbl[1302]? = some (.code (am_nm 182) (am_by 182) (am_ml 182) (am_rt 182)) := rfl
theorem am_mk182 : am_mck 182 = true := by decide +kernel
set_option maxRecDepth 100000 in
theorem am_cw183 : lw_tbl[1297]? = some (.code (am_nm 183) (am_by 183) (am_ml 183) (am_rt 183)) := rfl
theorem am_mk183 : am_mck 183 = true := by decide +kernel
set_option maxRecDepth 100000 in
theorem am_cw184 : lw_tbl[1293]? = some (.code (am_nm 184) (am_by 184) (am_ml 184) (am_rt 184)) := rfl
theorem am_mk184 : am_mck 184 = true := by decide +kernel
set_option maxRecDepth 100000 in
theorem am_cw185 : lw_tbl[1285]? = some (.code (am_nm 185) (am_by 185) (am_ml 185) (am_rt 185)) := rfl
theorem am_mk185 : am_mck 185 = true := by decide +kernel
set_option maxRecDepth 100000 in
theorem am_cw186 : lw_tbl[1307]? = some (.code (am_nm 186) (am_by 186) (am_ml 186) (am_rt 186)) := rfl
theorem am_mk186 : am_mck 186 = true := by decide +kernel
set_option maxRecDepth 100000 in
theorem am_cw187 : lw_tbl[1281]? = some (.code (am_nm 187) (am_by 187) (am_ml 187) (am_rt 187)) := rfl
theorem am_mk187 : am_mck 187 = true := by decide +kernel
set_option maxRecDepth 100000 in
theorem am_cw188 : lw_tbl[1277]? = some (.code (am_nm 188) (am_by 188) (am_ml 188) (am_rt 188)) := rfl
theorem am_mk188 : am_mck 188 = true := by decide +kernel
set_option maxRecDepth 100000 in
theorem am_cw189 : lw_tbl[1311]? = some (.code (am_nm 189) (am_by 189) (am_ml 189) (am_rt 189)) := rfl
theorem am_mk189 : am_mck 189 = true := by decide +kernel
set_option maxRecDepth 100000 in
theorem am_cw190 : lw_tbl[1318]? = some (.code (am_nm 190) (am_by 190) (am_ml 190) (am_rt 190)) := rfl
theorem am_mk190 : am_mck 190 = true := by decide +kernel
set_option maxRecDepth 100000 in
theorem am_cw191 : lw_tbl[1315]? = some (.code (am_nm 191) (am_by 191) (am_ml 191) (am_rt 191)) := rfl
theorem am_mk191 : am_mck 191 = true := by decide +kernel
set_option maxRecDepth 100000 in
theorem am_cw192 : lw_tbl[1329]? = some (.code (am_nm 192) (am_by 192) (am_ml 192) (am_rt 192)) := rfl
theorem am_mk192 : am_mck 192 = true := by decide +kernel
set_option maxRecDepth 100000 in
theorem am_cw193 : lw_tbl[1337]? = some (.code (am_nm 193) (am_by 193) (am_ml 193) (am_rt 193)) := rfl
theorem am_mk193 : am_mck 193 = true := by decide +kernel
set_option maxRecDepth 100000 in
theorem am_cw194 : lw_tbl[1333]? = some (.code (am_nm 194) (am_by 194) (am_ml 194) (am_rt 194)) := rfl
theorem am_mk194 : am_mck 194 = true := by decide +kernel
set_option maxRecDepth 100000 in
theorem am_cw195 : lw_tbl[1346]? = some (.code (am_nm 195) (am_by 195) (am_ml 195) (am_rt 195)) := rfl
theorem am_mk195 : am_mck 195 = true := by decide +kernel
set_option maxRecDepth 100000 in
theorem am_cw196 : lw_tbl[1341]? = some (.code (am_nm 196) (am_by 196) (am_ml 196) (am_rt 196)) := rfl
theorem am_mk196 : am_mck 196 = true := by decide +kernel
set_option maxRecDepth 100000 in
theorem am_cw197 : lw_tbl[1350]? = some (.code (am_nm 197) (am_by 197) (am_ml 197) (am_rt 197)) := rfl
theorem am_mk197 : am_mck 197 = true := by decide +kernel
set_option maxRecDepth 100000 in
theorem am_cw198 : lw_tbl[1358]? = some (.code (am_nm 198) (am_by 198) (am_ml 198) (am_rt 198)) := rfl
theorem am_mk198 : am_mck 198 = true := by decide +kernel
set_option maxRecDepth 100000 in
theorem am_cw199 : lw_tbl[1354]? = some (.code (am_nm 199) (am_by 199) (am_ml 199) (am_rt 199)) := rfl
theorem am_mk199 : am_mck 199 = true := by decide +kernel
set_option maxRecDepth 100000 in
theorem am_cw200 : lw_tbl[1366]? = some (.code (am_nm 200) (am_by 200) (am_ml 200) (am_rt 200)) := rfl
theorem am_mk200 : am_mck 200 = true := by decide +kernel
set_option maxRecDepth 100000 in
theorem am_cw201 : lw_tbl[1362]? = some (.code (am_nm 201) (am_by 201) (am_ml 201) (am_rt 201)) := rfl
theorem am_mk201 : am_mck 201 = true := by decide +kernel
set_option maxRecDepth 100000 in
theorem am_cw202 : lw_tbl[1370]? = some (.code (am_nm 202) (am_by 202) (am_ml 202) (am_rt 202)) := rfl
theorem am_mk202 : am_mck 202 = true := by decide +kernel
set_option maxRecDepth 100000 in
theorem am_cw203 : lw_tbl[1374]? = some (.code (am_nm 203) (am_by 203) (am_ml 203) (am_rt 203)) := rfl
theorem am_mk203 : am_mck 203 = true := by decide +kernel
set_option maxRecDepth 100000 in
theorem am_cw204 : lw_tbl[1397]? = some (.code (am_nm 204) (am_by 204) (am_ml 204) (am_rt 204)) := rfl
theorem am_mk204 : am_mck 204 = true := by decide +kernel
set_option maxRecDepth 100000 in
theorem am_cw205 : lw_tbl[1389]? = some (.code (am_nm 205) (am_by 205) (am_ml 205) (am_rt 205)) := rfl
theorem am_mk205 : am_mck 205 = true := by decide +kernel
set_option maxRecDepth 100000 in
theorem am_cw206 : lw_tbl[1382]? = some (.code (am_nm 206) (am_by 206) (am_ml 206) (am_rt 206)) := rfl
theorem am_mk206 : am_mck 206 = true := by decide +kernel
set_option maxRecDepth 100000 in
theorem am_cw207 : lw_tbl[1386]? = some (.code (am_nm 207) (am_by 207) (am_ml 207) (am_rt 207)) := rfl
theorem am_mk207 : am_mck 207 = true := by decide +kernel
set_option maxRecDepth 100000 in
theorem am_cw208 : lw_tbl[1393]? = some (.code (am_nm 208) (am_by 208) (am_ml 208) (am_rt 208)) := rfl
theorem am_mk208 : am_mck 208 = true := by decide +kernel
set_option maxRecDepth 100000 in
theorem am_cw209 : lw_tbl[1378]? = some (.code (am_nm 209) (am_by 209) (am_ml 209) (am_rt 209)) := rfl
theorem am_mk209 : am_mck 209 = true := by decide +kernel
set_option maxRecDepth 100000 in
theorem am_cw210 : lw_tbl[1401]? = some (.code (am_nm 210) (am_by 210) (am_ml 210) (am_rt 210)) := rfl
theorem am_mk210 : am_mck 210 = true := by decide +kernel
set_option maxRecDepth 100000 in
theorem am_cw211 : lw_tbl[1408]? = some (.code (am_nm 211) (am_by 211) (am_ml 211) (am_rt 211)) := rfl
theorem am_mk211 : am_mck 211 = true := by decide +kernel
set_option maxRecDepth 100000 in
theorem am_cw212 : lw_tbl[1405]? = some (.code (am_nm 212) (am_by 212) (am_ml 212) (am_rt 212)) := rfl
theorem am_mk212 : am_mck 212 = true := by decide +kernel
set_option maxRecDepth 100000 in
theorem am_cw213 : lw_tbl[1412]? = some (.code (am_nm 213) (am_by 213) (am_ml 213) (am_rt 213)) := rfl
theorem am_mk213 : am_mck 213 = true := by decide +kernel
set_option maxRecDepth 100000 in
theorem am_cw214 : lw_tbl[1416]? = some (.code (am_nm 214) (am_by 214) (am_ml 214) (am_rt 214)) := rfl
theorem am_mk214 : am_mck 214 = true := by decide +kernel
set_option maxRecDepth 100000 in
theorem am_cw215 : lw_tbl[1420]? = some (.code (am_nm 215) (am_by 215) (am_ml 215) (am_rt 215)) := rfl
theorem am_mk215 : am_mck 215 = true := by decide +kernel
set_option maxRecDepth 100000 in
theorem am_cw216 : lw_tbl[1424]? = some (.code (am_nm 216) (am_by 216) (am_ml 216) (am_rt 216)) := rfl
theorem am_mk216 : am_mck 216 = true := by decide +kernel
set_option maxRecDepth 100000 in
theorem am_cw217 : lw_tbl[1428]? = some (.code (am_nm 217) (am_by 217) (am_ml 217) (am_rt 217)) := rfl
theorem am_mk217 : am_mck 217 = true := by decide +kernel
set_option maxRecDepth 100000 in
theorem am_cw218 : lw_tbl[1432]? = some (.code (am_nm 218) (am_by 218) (am_ml 218) (am_rt 218)) := rfl
theorem am_mk218 : am_mck 218 = true := by decide +kernel
set_option maxRecDepth 100000 in
theorem am_cw219 : lw_tbl[1436]? = some (.code (am_nm 219) (am_by 219) (am_ml 219) (am_rt 219)) := rfl
theorem am_mk219 : am_mck 219 = true := by decide +kernel
set_option maxRecDepth 100000 in
theorem am_cw220 : lw_tbl[1440]? = some (.code (am_nm 220) (am_by 220) (am_ml 220) (am_rt 220)) := rfl
theorem am_mk220 : am_mck 220 = true := by decide +kernel
set_option maxRecDepth 100000 in
theorem am_cw221 : lw_tbl[1444]? = some (.code (am_nm 221) (am_by 221) (am_ml 221) (am_rt 221)) := rfl
theorem am_mk221 : am_mck 221 = true := by decide +kernel
set_option maxRecDepth 100000 in
theorem am_cw222 : lw_tbl[231]? = some (.code (am_nm 222) (am_by 222) (am_ml 222) (am_rt 222)) := rfl
set_option maxRecDepth 100000 in
theorem am_cw223 : lw_tbl[480]? = some (.code (am_nm 223) (am_by 223) (am_ml 223) (am_rt 223)) := rfl
set_option maxRecDepth 100000 in
theorem am_cw224 : lw_tbl[631]? = some (.code (am_nm 224) (am_by 224) (am_ml 224) (am_rt 224)) := rfl
theorem am_mk224 : am_mck 224 = true := by decide +kernel
set_option maxRecDepth 100000 in
theorem am_cw225 : lw_tbl[1253]? = some (.code (am_nm 225) (am_by 225) (am_ml 225) (am_rt 225)) := rfl
theorem am_mk225 : am_mck 225 = true := by decide +kernel
set_option maxRecDepth 100000 in
theorem am_cw226 : lw_tbl[617]? = some (.code (am_nm 226) (am_by 226) (am_ml 226) (am_rt 226)) := rfl
theorem am_mk226 : am_mck 226 = true := by decide +kernel
set_option maxRecDepth 100000 in
theorem am_cw227 : lw_tbl[621]? = some (.code (am_nm 227) (am_by 227) (am_ml 227) (am_rt 227)) := rfl
theorem am_mk227 : am_mck 227 = true := by decide +kernel
set_option maxRecDepth 100000 in
theorem am_cw228 : lw_tbl[635]? = some (.code (am_nm 228) (am_by 228) (am_ml 228) (am_rt 228)) := rfl
theorem am_mk228 : am_mck 228 = true := by decide +kernel
set_option maxRecDepth 100000 in
theorem am_cw229 : lw_tbl[625]? = some (.code (am_nm 229) (am_by 229) (am_ml 229) (am_rt 229)) := rfl
theorem am_mk229 : am_mck 229 = true := by decide +kernel
set_option maxRecDepth 100000 in
theorem am_cw230 : lw_tbl[1259]? = some (.code (am_nm 230) (am_by 230) (am_ml 230) (am_rt 230)) := rfl
theorem am_mk230 : am_mck 230 = true := by decide +kernel
set_option maxRecDepth 100000 in
theorem am_cw231 : lw_tbl[1256]? = some (.code (am_nm 231) (am_by 231) (am_ml 231) (am_rt 231)) := rfl
theorem am_mk231 : am_mck 231 = true := by decide +kernel
set_option maxRecDepth 100000 in
theorem am_cw232 : lw_tbl[641]? = some (.code (am_nm 232) (am_by 232) (am_ml 232) (am_rt 232)) := rfl
theorem am_mk232 : am_mck 232 = true := by decide +kernel
set_option maxRecDepth 100000 in
theorem am_cw233 : lw_tbl[638]? = some (.code (am_nm 233) (am_by 233) (am_ml 233) (am_rt 233)) := rfl
theorem am_mk233 : am_mck 233 = true := by decide +kernel
set_option maxRecDepth 100000 in
theorem am_cw234 : lw_tbl[646]? = some (.code (am_nm 234) (am_by 234) (am_ml 234) (am_rt 234)) := rfl
theorem am_mk234 : am_mck 234 = true := by decide +kernel
set_option maxRecDepth 100000 in
theorem am_cw235 : lw_tbl[1262]? = some (.code (am_nm 235) (am_by 235) (am_ml 235) (am_rt 235)) := rfl
theorem am_mk235 : am_mck 235 = true := by decide +kernel
set_option maxRecDepth 100000 in
theorem am_mwmax : (am_word 231 (.code Lib.Math.max.name Lib.Math.max.code 2 (some .int)) && am_word 71 (.initialized "java/lang/Math") && am_word 230 (.static Lib.Math.max.name) && decide (am_nm 222 = Lib.Math.max.name)) = true := by decide +kernel
set_option maxRecDepth 100000 in
theorem am_mwmin : (am_word 480 (.code Lib.Math.min.name Lib.Math.min.code 2 (some .int)) && am_word 71 (.initialized "java/lang/Math") && am_word 479 (.static Lib.Math.min.name) && decide (am_nm 223 = Lib.Math.min.name)) = true := by decide +kernel
