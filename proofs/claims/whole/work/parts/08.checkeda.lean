set_option maxRecDepth 100000 in
theorem am_k0 : am_okm 0 = true := by decide +kernel
set_option maxRecDepth 100000 in
theorem am_k1 : am_okm 1 = true := by decide +kernel
set_option maxRecDepth 100000 in
theorem am_k2 : am_okm 2 = true := by decide +kernel
set_option maxRecDepth 100000 in
theorem am_k3 : am_okm 3 = true := by decide +kernel
set_option maxRecDepth 100000 in
theorem am_k4 : am_okm 4 = true := by decide +kernel
set_option maxRecDepth 100000 in
theorem am_k5 : am_okm 5 = true := by decide +kernel
set_option maxRecDepth 100000 in
theorem am_k6 : am_okm 6 = true := by decide +kernel
set_option maxRecDepth 100000 in
theorem am_k7 : am_okm 7 = true := by decide +kernel
set_option maxRecDepth 100000 in
theorem am_k8 : am_okm 8 = true := by decide +kernel
set_option maxRecDepth 100000 in
theorem am_k9 : am_okm 9 = true := by decide +kernel
set_option maxRecDepth 100000 in
theorem am_k10 : am_okm 10 = true := by decide +kernel
set_option maxRecDepth 100000 in
theorem am_k11 : am_okm 11 = true := by decide +kernel
set_option maxRecDepth 100000 in
theorem am_k12 : am_okm 12 = true := by decide +kernel
set_option maxRecDepth 100000 in
theorem am_k13 : am_okm 13 = true := by decide +kernel
set_option maxRecDepth 100000 in
theorem am_k14 : am_okm 14 = true := by decide +kernel
set_option maxRecDepth 100000 in
theorem am_k15 : am_okm 15 = true := by decide +kernel
set_option maxRecDepth 100000 in
theorem am_k16 : am_okm 16 = true := by decide +kernel
set_option maxRecDepth 100000 in
theorem am_k17 : am_okm 17 = true := by decide +kernel
set_option maxRecDepth 100000 in
theorem am_k18 : am_okm 18 = true := by decide +kernel
set_option maxRecDepth 100000 in
theorem am_k19 : am_okm 19 = true := by decide +kernel
set_option maxRecDepth 100000 in
theorem am_k20 : am_okm 20 = true := by decide +kernel
set_option maxRecDepth 100000 in
theorem am_k21 : am_okm 21 = true := by decide +kernel
set_option maxRecDepth 100000 in
theorem am_k22 : am_okm 22 = true := by decide +kernel
set_option maxRecDepth 100000 in
theorem am_k23 : am_okm 23 = true := by decide +kernel
set_option maxRecDepth 100000 in
theorem am_k24 : am_okm 24 = true := by decide +kernel
set_option maxRecDepth 100000 in
theorem am_k25 : am_okm 25 = true := by decide +kernel
set_option maxRecDepth 100000 in
theorem am_k26 : am_okm 26 = true := by decide +kernel
set_option maxRecDepth 100000 in
theorem am_k27 : am_okm 27 = true := by decide +kernel
set_option maxRecDepth 100000 in
theorem am_k28 : am_okm 28 = true := by decide +kernel
set_option maxRecDepth 100000 in
theorem am_k29 : am_okm 29 = true := by decide +kernel
set_option maxRecDepth 100000 in
theorem am_k30 : am_okm 30 = true := by decide +kernel
set_option maxRecDepth 100000 in
theorem am_k31 : am_okm 31 = true := by decide +kernel
set_option maxRecDepth 100000 in
theorem am_k32 : am_okm 32 = true := by decide +kernel
set_option maxRecDepth 100000 in
theorem am_k33 : am_okm 33 = true := by decide +kernel
set_option maxRecDepth 100000 in
theorem am_k34 : am_okm 34 = true := by decide +kernel
set_option maxRecDepth 100000 in
theorem am_k35 : am_okm 35 = true := by decide +kernel
set_option maxRecDepth 100000 in
theorem am_k36 : am_okm 36 = true := by decide +kernel
set_option maxRecDepth 100000 in
theorem am_k37 : am_okm 37 = true := by decide +kernel
set_option maxRecDepth 100000 in
theorem am_k38 : am_okm 38 = true := by decide +kernel
set_option maxRecDepth 100000 in
theorem am_k39 : am_okm 39 = true := by decide +kernel
set_option maxRecDepth 100000 in
theorem am_k40 : am_okm 40 = true := by decide +kernel
set_option maxRecDepth 100000 in
theorem am_k41 : am_okm 41 = true := by decide +kernel
set_option maxRecDepth 100000 in
theorem am_k42 : am_okm 42 = true := by decide +kernel
set_option maxRecDepth 100000 in
theorem am_k43 : am_okm 43 = true := by decide +kernel
set_option maxRecDepth 100000 in
theorem am_k44 : am_okm 44 = true := by decide +kernel
set_option maxRecDepth 100000 in
theorem am_k45 : am_okm 45 = true := by decide +kernel
set_option maxRecDepth 100000 in
theorem am_k46 : am_okm 46 = true := by decide +kernel
set_option maxRecDepth 100000 in
theorem am_k47 : am_okm 47 = true := by decide +kernel
set_option maxRecDepth 100000 in
theorem am_k48 : am_okm 48 = true := by decide +kernel
set_option maxRecDepth 100000 in
theorem am_k49 : am_okm 49 = true := by decide +kernel
set_option maxRecDepth 100000 in
theorem am_k50 : am_okm 50 = true := by decide +kernel
set_option maxRecDepth 100000 in
theorem am_k51 : am_okm 51 = true := by decide +kernel
set_option maxRecDepth 100000 in
theorem am_k52 : am_okm 52 = true := by decide +kernel
set_option maxRecDepth 100000 in
theorem am_k53 : am_okm 53 = true := by decide +kernel
set_option maxRecDepth 100000 in
theorem am_k54 : am_okm 54 = true := by decide +kernel
set_option maxRecDepth 100000 in
theorem am_k55 : am_okm 55 = true := by decide +kernel
set_option maxRecDepth 100000 in
theorem am_k56 : am_okm 56 = true := by decide +kernel
set_option maxRecDepth 100000 in
theorem am_k57 : am_okm 57 = true := by decide +kernel
set_option maxRecDepth 100000 in
theorem am_k58 : am_okm 58 = true := by decide +kernel
set_option maxRecDepth 100000 in
theorem am_k59 : am_okm 59 = true := by decide +kernel
set_option maxRecDepth 100000 in
theorem am_k60 : am_okm 60 = true := by decide +kernel
set_option maxRecDepth 100000 in
theorem am_k61 : am_okm 61 = true := by decide +kernel
set_option maxRecDepth 100000 in
theorem am_k62 : am_okm 62 = true := by decide +kernel
set_option maxRecDepth 100000 in
theorem am_k63 : am_okm 63 = true := by decide +kernel
set_option maxRecDepth 100000 in
theorem am_k64 : am_okm 64 = true := by decide +kernel
set_option maxRecDepth 100000 in
theorem am_k65 : am_okm 65 = true := by decide +kernel
set_option maxRecDepth 100000 in
theorem am_k66 : am_okm 66 = true := by decide +kernel
set_option maxRecDepth 100000 in
theorem am_k67 : am_okm 67 = true := by decide +kernel
set_option maxRecDepth 100000 in
theorem am_k68 : am_okm 68 = true := by decide +kernel
set_option maxRecDepth 100000 in
theorem am_k69 : am_okm 69 = true := by decide +kernel
set_option maxRecDepth 100000 in
theorem am_k70 : am_okm 70 = true := by decide +kernel
set_option maxRecDepth 100000 in
theorem am_k71 : am_okm 71 = true := by decide +kernel
set_option maxRecDepth 100000 in
theorem am_k72 : am_okm 72 = true := by decide +kernel
set_option maxRecDepth 100000 in
theorem am_k73 : am_okm 73 = true := by decide +kernel
set_option maxRecDepth 100000 in
theorem am_k74 : am_okm 74 = true := by decide +kernel
set_option maxRecDepth 100000 in
theorem am_k75 : am_okm 75 = true := by decide +kernel
set_option maxRecDepth 100000 in
theorem am_k76 : am_okm 76 = true := by decide +kernel
set_option maxRecDepth 100000 in
theorem am_k77 : am_okm 77 = true := by decide +kernel
set_option maxRecDepth 100000 in
theorem am_k78 : am_okm 78 = true := by decide +kernel
set_option maxRecDepth 100000 in
theorem am_k79 : am_okm 79 = true := by decide +kernel
set_option maxRecDepth 100000 in
theorem am_k80 : am_okm 80 = true := by decide +kernel
set_option maxRecDepth 100000 in
theorem am_k81 : am_okm 81 = true := by decide +kernel
set_option maxRecDepth 100000 in
theorem am_k82 : am_okm 82 = true := by decide +kernel
set_option maxRecDepth 100000 in
theorem am_k83 : am_okm 83 = true := by decide +kernel
set_option maxRecDepth 100000 in
theorem am_k84 : am_okm 84 = true := by decide +kernel
set_option maxRecDepth 100000 in
theorem am_k85 : am_okm 85 = true := by decide +kernel
set_option maxRecDepth 100000 in
theorem am_k86 : am_okm 86 = true := by decide +kernel
set_option maxRecDepth 100000 in
theorem am_k87 : am_okm 87 = true := by decide +kernel
set_option maxRecDepth 100000 in
theorem am_k88 : am_okm 88 = true := by decide +kernel
set_option maxRecDepth 100000 in
theorem am_k89 : am_okm 89 = true := by decide +kernel
set_option maxRecDepth 100000 in
theorem am_k90 : am_okm 90 = true := by decide +kernel
set_option maxRecDepth 100000 in
theorem am_k91 : am_okm 91 = true := by decide +kernel
set_option maxRecDepth 100000 in
theorem am_k92 : am_okm 92 = true := by decide +kernel
set_option maxRecDepth 100000 in
theorem am_k93 : am_okm 93 = true := by decide +kernel
set_option maxRecDepth 100000 in
theorem am_k94 : am_okm 94 = true := by decide +kernel
set_option maxRecDepth 100000 in
theorem am_k95 : am_okm 95 = true := by decide +kernel
set_option maxRecDepth 100000 in
theorem am_k96 : am_okm 96 = true := by decide +kernel
set_option maxRecDepth 100000 in
theorem am_k97 : am_okm 97 = true := by decide +kernel
set_option maxRecDepth 100000 in
theorem am_k98 : am_okm 98 = true := by decide +kernel
set_option maxRecDepth 100000 in
theorem am_k99 : am_okm 99 = true := by decide +kernel
set_option maxRecDepth 100000 in
theorem am_k100 : am_okm 100 = true := by decide +kernel
set_option maxRecDepth 100000 in
theorem am_k101 : am_okm 101 = true := by decide +kernel
set_option maxRecDepth 100000 in
theorem am_k102 : am_okm 102 = true := by decide +kernel
set_option maxRecDepth 100000 in
theorem am_k103 : am_okm 103 = true := by decide +kernel
set_option maxRecDepth 100000 in
theorem am_k104 : am_okm 104 = true := by decide +kernel
set_option maxRecDepth 100000 in
theorem am_k105 : am_okm 105 = true := by decide +kernel
set_option maxRecDepth 100000 in
theorem am_k106 : am_okm 106 = true := by decide +kernel
set_option maxRecDepth 100000 in
theorem am_k107 : am_okm 107 = true := by decide +kernel
set_option maxRecDepth 100000 in
theorem am_k108 : am_okm 108 = true := by decide +kernel
set_option maxRecDepth 100000 in
theorem am_k109 : am_okm 109 = true := by decide +kernel
