/-! the checks, 4 -/
set_option maxRecDepth 100000 in
theorem am_k163_0 : am_cks 163 0 80 = true := by decide +kernel
set_option maxRecDepth 100000 in
theorem am_k164_0 : am_cks 164 0 80 = true := by decide +kernel
set_option maxRecDepth 100000 in
theorem am_k165_0 : am_cks 165 0 80 = true := by decide +kernel
set_option maxRecDepth 100000 in
theorem am_k165_80 : am_cks 165 80 80 = true := by decide +kernel
set_option maxRecDepth 100000 in
theorem am_k166_0 : am_cks 166 0 80 = true := by decide +kernel
set_option maxRecDepth 100000 in
theorem am_k167_0 : am_cks 167 0 80 = true := by decide +kernel
set_option maxRecDepth 100000 in
theorem am_k168_0 : am_cks 168 0 80 = true := by decide +kernel
set_option maxRecDepth 100000 in
theorem am_k169_0 : am_cks 169 0 80 = true := by decide +kernel
set_option maxRecDepth 100000 in
theorem am_k170_0 : am_cks 170 0 80 = true := by decide +kernel
set_option maxRecDepth 100000 in
theorem am_k171_0 : am_cks 171 0 80 = true := by decide +kernel
set_option maxRecDepth 100000 in
theorem am_k172_0 : am_cks 172 0 80 = true := by decide +kernel
set_option maxRecDepth 100000 in
theorem am_k173_0 : am_cks 173 0 80 = true := by decide +kernel
set_option maxRecDepth 100000 in
theorem am_k174_0 : am_cks 174 0 80 = true := by decide +kernel
set_option maxRecDepth 100000 in
theorem am_k175_0 : am_cks 175 0 80 = true := by decide +kernel
set_option maxRecDepth 100000 in
theorem am_k176_0 : am_cks 176 0 80 = true := by decide +kernel
set_option maxRecDepth 100000 in
theorem am_k177_0 : am_cks 177 0 80 = true := by decide +kernel
set_option maxRecDepth 100000 in
theorem am_k178_0 : am_cks 178 0 80 = true := by decide +kernel
set_option maxRecDepth 100000 in
theorem am_k179_0 : am_cks 179 0 80 = true := by decide +kernel
set_option maxRecDepth 100000 in
theorem am_k180_0 : am_cks 180 0 80 = true := by decide +kernel
set_option maxRecDepth 100000 in
theorem am_k181_0 : am_cks 181 0 80 = true := by decide +kernel
set_option maxRecDepth 100000 in
theorem am_k182_0 : am_cks 182 0 80 = true := by decide +kernel
set_option maxRecDepth 100000 in
theorem am_k183_0 : am_cks 183 0 80 = true := by decide +kernel
set_option maxRecDepth 100000 in
theorem am_k184_0 : am_cks 184 0 80 = true := by decide +kernel
set_option maxRecDepth 100000 in
theorem am_k185_0 : am_cks 185 0 80 = true := by decide +kernel
set_option maxRecDepth 100000 in
theorem am_k186_0 : am_cks 186 0 80 = true := by decide +kernel
set_option maxRecDepth 100000 in
theorem am_k187_0 : am_cks 187 0 80 = true := by decide +kernel
set_option maxRecDepth 100000 in
theorem am_k188_0 : am_cks 188 0 80 = true := by decide +kernel
set_option maxRecDepth 100000 in
theorem am_k189_0 : am_cks 189 0 80 = true := by decide +kernel
set_option maxRecDepth 100000 in
theorem am_k190_0 : am_cks 190 0 80 = true := by decide +kernel
set_option maxRecDepth 100000 in
theorem am_k191_0 : am_cks 191 0 80 = true := by decide +kernel
set_option maxRecDepth 100000 in
theorem am_k192_0 : am_cks 192 0 80 = true := by decide +kernel
set_option maxRecDepth 100000 in
theorem am_k193_0 : am_cks 193 0 80 = true := by decide +kernel
set_option maxRecDepth 100000 in
theorem am_k194_0 : am_cks 194 0 80 = true := by decide +kernel
set_option maxRecDepth 100000 in
theorem am_k195_0 : am_cks 195 0 80 = true := by decide +kernel
set_option maxRecDepth 100000 in
theorem am_k196_0 : am_cks 196 0 80 = true := by decide +kernel
set_option maxRecDepth 100000 in
theorem am_k197_0 : am_cks 197 0 80 = true := by decide +kernel
set_option maxRecDepth 100000 in
theorem am_k198_0 : am_cks 198 0 80 = true := by decide +kernel
set_option maxRecDepth 100000 in
theorem am_k199_0 : am_cks 199 0 80 = true := by decide +kernel
set_option maxRecDepth 100000 in
theorem am_k200_0 : am_cks 200 0 80 = true := by decide +kernel
set_option maxRecDepth 100000 in
theorem am_k201_0 : am_cks 201 0 80 = true := by decide +kernel
set_option maxRecDepth 100000 in
theorem am_k202_0 : am_cks 202 0 80 = true := by decide +kernel
set_option maxRecDepth 100000 in
theorem am_k203_0 : am_cks 203 0 80 = true := by decide +kernel
set_option maxRecDepth 100000 in
theorem am_k204_0 : am_cks 204 0 80 = true := by decide +kernel
set_option maxRecDepth 100000 in
theorem am_k205_0 : am_cks 205 0 80 = true := by decide +kernel
set_option maxRecDepth 100000 in
theorem am_k206_0 : am_cks 206 0 80 = true := by decide +kernel
set_option maxRecDepth 100000 in
theorem am_k207_0 : am_cks 207 0 80 = true := by decide +kernel
set_option maxRecDepth 100000 in
theorem am_k208_0 : am_cks 208 0 80 = true := by decide +kernel
set_option maxRecDepth 100000 in
theorem am_k209_0 : am_cks 209 0 80 = true := by decide +kernel
set_option maxRecDepth 100000 in
theorem am_k210_0 : am_cks 210 0 80 = true := by decide +kernel
set_option maxRecDepth 100000 in
theorem am_k211_0 : am_cks 211 0 80 = true := by decide +kernel
set_option maxRecDepth 100000 in
theorem am_k212_0 : am_cks 212 0 80 = true := by decide +kernel
set_option maxRecDepth 100000 in
theorem am_k213_0 : am_cks 213 0 80 = true := by decide +kernel
set_option maxRecDepth 100000 in
theorem am_k214_0 : am_cks 214 0 80 = true := by decide +kernel
set_option maxRecDepth 100000 in
theorem am_k215_0 : am_cks 215 0 80 = true := by decide +kernel
set_option maxRecDepth 100000 in
theorem am_k216_0 : am_cks 216 0 80 = true := by decide +kernel
set_option maxRecDepth 100000 in
theorem am_k217_0 : am_cks 217 0 80 = true := by decide +kernel
set_option maxRecDepth 100000 in
theorem am_k218_0 : am_cks 218 0 80 = true := by decide +kernel
set_option maxRecDepth 100000 in
theorem am_k219_0 : am_cks 219 0 80 = true := by decide +kernel
set_option maxRecDepth 100000 in
theorem am_k220_0 : am_cks 220 0 80 = true := by decide +kernel
set_option maxRecDepth 100000 in
theorem am_k221_0 : am_cks 221 0 80 = true := by decide +kernel
set_option maxRecDepth 100000 in
theorem am_k222_0 : am_cks 222 0 80 = true := by decide +kernel
set_option maxRecDepth 100000 in
theorem am_k223_0 : am_cks 223 0 80 = true := by decide +kernel
set_option maxRecDepth 100000 in
theorem am_k224_0 : am_cks 224 0 80 = true := by decide +kernel
set_option maxRecDepth 100000 in
theorem am_k225_0 : am_cks 225 0 80 = true := by decide +kernel
set_option maxRecDepth 100000 in
theorem am_k226_0 : am_cks 226 0 80 = true := by decide +kernel
set_option maxRecDepth 100000 in
theorem am_k227_0 : am_cks 227 0 80 = true := by decide +kernel
set_option maxRecDepth 100000 in
theorem am_k228_0 : am_cks 228 0 80 = true := by decide +kernel
set_option maxRecDepth 100000 in
theorem am_k228_80 : am_cks 228 80 80 = true := by decide +kernel
