set_option maxRecDepth 100000 in
theorem am_k180 : am_okm 180 = true := by decide +kernel
set_option maxRecDepth 100000 in
theorem am_k181 : am_okm 181 = true := by decide +kernel
set_option maxRecDepth 100000 in
theorem am_k182 : am_okm 182 = true := by decide +kernel
set_option maxRecDepth 100000 in
theorem am_k183 : am_okm 183 = true := by decide +kernel
set_option maxRecDepth 100000 in
theorem am_k184 : am_okm 184 = true := by decide +kernel
set_option maxRecDepth 100000 in
theorem am_k185 : am_okm 185 = true := by decide +kernel
set_option maxRecDepth 100000 in
theorem am_k186 : am_okm 186 = true := by decide +kernel
set_option maxRecDepth 100000 in
theorem am_k187 : am_okm 187 = true := by decide +kernel
set_option maxRecDepth 100000 in
theorem am_k188 : am_okm 188 = true := by decide +kernel
set_option maxRecDepth 100000 in
theorem am_k189 : am_okm 189 = true := by decide +kernel
set_option maxRecDepth 100000 in
theorem am_k190 : am_okm 190 = true := by decide +kernel
set_option maxRecDepth 100000 in
theorem am_k191 : am_okm 191 = true := by decide +kernel
set_option maxRecDepth 100000 in
theorem am_k192 : am_okm 192 = true := by decide +kernel
set_option maxRecDepth 100000 in
theorem am_k193 : am_okm 193 = true := by decide +kernel
set_option maxRecDepth 100000 in
theorem am_k194 : am_okm 194 = true := by decide +kernel
set_option maxRecDepth 100000 in
theorem am_k195 : am_okm 195 = true := by decide +kernel
set_option maxRecDepth 100000 in
theorem am_k196 : am_okm 196 = true := by decide +kernel
set_option maxRecDepth 100000 in
theorem am_k197 : am_okm 197 = true := by decide +kernel
set_option maxRecDepth 100000 in
theorem am_k198 : am_okm 198 = true := by decide +kernel
set_option maxRecDepth 100000 in
theorem am_k199 : am_okm 199 = true := by decide +kernel
set_option maxRecDepth 100000 in
theorem am_k200 : am_okm 200 = true := by decide +kernel
set_option maxRecDepth 100000 in
theorem am_k201 : am_okm 201 = true := by decide +kernel
set_option maxRecDepth 100000 in
theorem am_k202 : am_okm 202 = true := by decide +kernel
set_option maxRecDepth 100000 in
theorem am_k203 : am_okm 203 = true := by decide +kernel
set_option maxRecDepth 100000 in
theorem am_k204 : am_okm 204 = true := by decide +kernel
set_option maxRecDepth 100000 in
theorem am_k205 : am_okm 205 = true := by decide +kernel
set_option maxRecDepth 100000 in
theorem am_k206 : am_okm 206 = true := by decide +kernel
set_option maxRecDepth 100000 in
theorem am_k207 : am_okm 207 = true := by decide +kernel
set_option maxRecDepth 100000 in
theorem am_k208 : am_okm 208 = true := by decide +kernel
set_option maxRecDepth 100000 in
theorem am_k209 : am_okm 209 = true := by decide +kernel
set_option maxRecDepth 100000 in
theorem am_k210 : am_okm 210 = true := by decide +kernel
set_option maxRecDepth 100000 in
theorem am_k211 : am_okm 211 = true := by decide +kernel
set_option maxRecDepth 100000 in
theorem am_k212 : am_okm 212 = true := by decide +kernel
set_option maxRecDepth 100000 in
theorem am_k213 : am_okm 213 = true := by decide +kernel
set_option maxRecDepth 100000 in
theorem am_k214 : am_okm 214 = true := by decide +kernel
set_option maxRecDepth 100000 in
theorem am_k215 : am_okm 215 = true := by decide +kernel
set_option maxRecDepth 100000 in
theorem am_k216 : am_okm 216 = true := by decide +kernel
set_option maxRecDepth 100000 in
theorem am_k217 : am_okm 217 = true := by decide +kernel
set_option maxRecDepth 100000 in
theorem am_k218 : am_okm 218 = true := by decide +kernel
set_option maxRecDepth 100000 in
theorem am_k219 : am_okm 219 = true := by decide +kernel
set_option maxRecDepth 100000 in
theorem am_k220 : am_okm 220 = true := by decide +kernel
set_option maxRecDepth 100000 in
theorem am_k221 : am_okm 221 = true := by decide +kernel
set_option maxRecDepth 100000 in
theorem am_k222 : am_okm 222 = true := by decide +kernel
set_option maxRecDepth 100000 in
theorem am_k223 : am_okm 223 = true := by decide +kernel
set_option maxRecDepth 100000 in
theorem am_k224 : am_okm 224 = true := by decide +kernel
set_option maxRecDepth 100000 in
theorem am_k225 : am_okm 225 = true := by decide +kernel
set_option maxRecDepth 100000 in
theorem am_k226 : am_okm 226 = true := by decide +kernel
set_option maxRecDepth 100000 in
theorem am_k227 : am_okm 227 = true := by decide +kernel
set_option maxRecDepth 100000 in
theorem am_k228 : am_okm 228 = true := by decide +kernel
set_option maxRecDepth 100000 in
theorem am_k229 : am_okm 229 = true := by decide +kernel
set_option maxRecDepth 100000 in
theorem am_k230 : am_okm 230 = true := by decide +kernel
set_option maxRecDepth 100000 in
theorem am_k231 : am_okm 231 = true := by decide +kernel
set_option maxRecDepth 100000 in
theorem am_k232 : am_okm 232 = true := by decide +kernel
set_option maxRecDepth 100000 in
theorem am_k233 : am_okm 233 = true := by decide +kernel
set_option maxRecDepth 100000 in
theorem am_k234 : am_okm 234 = true := by decide +kernel
set_option maxRecDepth 100000 in
theorem am_k235 : am_okm 235 = true := by decide +kernel
