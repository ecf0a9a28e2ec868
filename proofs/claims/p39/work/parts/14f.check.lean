/-! the tables are checked, by program (wip/p44/gen2.py) -/
set_option maxRecDepth 100000 in
theorem zk_m217 : zx_okL 217 zx_c217 0 := zx_okB_ok (by decide +kernel)
set_option maxRecDepth 100000 in
theorem zk_m218 : zx_okL 218 zx_c218 0 := zx_okB_ok (by decide +kernel)
set_option maxRecDepth 100000 in
theorem zk_m219 : zx_okL 219 zx_c219 0 := zx_okB_ok (by decide +kernel)
set_option maxRecDepth 100000 in
theorem zk_m220 : zx_okL 220 zx_c220 0 := zx_okB_ok (by decide +kernel)
set_option maxRecDepth 100000 in
theorem zk_m221 : zx_okL 221 zx_c221 0 := zx_okB_ok (by decide +kernel)
set_option maxRecDepth 100000 in
theorem zk_m222 : zx_okL 222 zx_c222 0 := zx_okB_ok (by decide +kernel)
set_option maxRecDepth 100000 in
theorem zk_m223 : zx_okL 223 zx_c223 0 := zx_okB_ok (by decide +kernel)
set_option maxRecDepth 100000 in
theorem zk_m224 : zx_okL 224 zx_c224 0 := zx_okB_ok (by decide +kernel)
set_option maxRecDepth 100000 in
theorem zk_m225 : zx_okL 225 zx_c225 0 := zx_okB_ok (by decide +kernel)
set_option maxRecDepth 100000 in
theorem zk_m226 : zx_okL 226 zx_c226 0 := zx_okB_ok (by decide +kernel)
set_option maxRecDepth 100000 in
theorem zk_m227 : zx_okL 227 zx_c227 0 := zx_okB_ok (by decide +kernel)
set_option maxRecDepth 100000 in
theorem zk_m228 : zx_okL 228 zx_c228 0 := zx_okB_ok (by decide +kernel)
set_option maxRecDepth 100000 in
theorem zk_m229 : zx_okL 229 zx_c229 0 := zx_okB_ok (by decide +kernel)
set_option maxRecDepth 100000 in
theorem zk_m230 : zx_okL 230 zx_c230 0 := zx_okB_ok (by decide +kernel)
set_option maxRecDepth 100000 in
theorem zk_m231 : zx_okL 231 zx_c231 0 := zx_okB_ok (by decide +kernel)
set_option maxRecDepth 100000 in
theorem zk_m232 : zx_okL 232 zx_c232 0 := zx_okB_ok (by decide +kernel)
set_option maxRecDepth 100000 in
theorem zk_m233 : zx_okL 233 zx_c233 0 := zx_okB_ok (by decide +kernel)
set_option maxRecDepth 100000 in
theorem zk_m234 : zx_okL 234 zx_c234 0 := zx_okB_ok (by decide +kernel)
set_option maxRecDepth 100000 in
theorem zk_m235 : zx_okL 235 zx_c235 0 := zx_okB_ok (by decide +kernel)
set_option maxRecDepth 100000 in
theorem zk_m236 : zx_okL 236 zx_c236 0 := zx_okB_ok (by decide +kernel)
set_option maxRecDepth 100000 in
theorem zk_m237 : zx_okL 237 zx_c237 0 := zx_okB_ok (by decide +kernel)
set_option maxRecDepth 100000 in
theorem zk_m238 : zx_okL 238 zx_c238 0 := zx_okB_ok (by decide +kernel)
set_option maxRecDepth 100000 in
theorem zk_m239 : zx_okL 239 zx_c239 0 := zx_okB_ok (by decide +kernel)
set_option maxRecDepth 100000 in
theorem zk_m240 : zx_okL 240 zx_c240 0 := zx_okB_ok (by decide +kernel)
set_option maxRecDepth 100000 in
theorem zk_m241 : zx_okL 241 zx_c241 0 := zx_okB_ok (by decide +kernel)
set_option maxRecDepth 100000 in
theorem zk_m242 : zx_okL 242 zx_c242 0 := zx_okB_ok (by decide +kernel)
set_option maxRecDepth 100000 in
theorem zk_m243 : zx_okL 243 zx_c243 0 := zx_okB_ok (by decide +kernel)
set_option maxRecDepth 100000 in
theorem zk_m244 : zx_okL 244 zx_c244 0 := zx_okB_ok (by decide +kernel)
set_option maxRecDepth 100000 in
theorem zk_m245 : zx_okL 245 zx_c245 0 := zx_okB_ok (by decide +kernel)
set_option maxRecDepth 100000 in
theorem zk_m246 : zx_okL 246 zx_c246 0 := zx_okB_ok (by decide +kernel)
set_option maxRecDepth 100000 in
theorem zk_m247 : zx_okL 247 zx_c247 0 := zx_okB_ok (by decide +kernel)
set_option maxRecDepth 100000 in
theorem zk_m248 : zx_okL 248 zx_c248 0 := zx_okB_ok (by decide +kernel)
set_option maxRecDepth 100000 in
theorem zk_m249 : zx_okL 249 zx_c249 0 := zx_okB_ok (by decide +kernel)
set_option maxRecDepth 100000 in
theorem zk_m250 : zx_okL 250 zx_c250 0 := zx_okB_ok (by decide +kernel)
set_option maxRecDepth 100000 in
theorem zk_m251 : zx_okL 251 zx_c251 0 := zx_okB_ok (by decide +kernel)
set_option maxRecDepth 100000 in
theorem zk_m252 : zx_okL 252 zx_c252 0 := zx_okB_ok (by decide +kernel)
set_option maxRecDepth 100000 in
theorem zk_m253 : zx_okL 253 zx_c253 0 := zx_okB_ok (by decide +kernel)
set_option maxRecDepth 100000 in
theorem zk_m254 : zx_okL 254 zx_c254 0 := zx_okB_ok (by decide +kernel)
set_option maxRecDepth 100000 in
theorem zk_m255 : zx_okL 255 zx_c255 0 := zx_okB_ok (by decide +kernel)
set_option maxRecDepth 100000 in
theorem zk_m256 : zx_okL 256 zx_c256 0 := zx_okB_ok (by decide +kernel)
set_option maxRecDepth 100000 in
theorem zk_m257 : zx_okL 257 zx_c257 0 := zx_okB_ok (by decide +kernel)
set_option maxRecDepth 100000 in
theorem zk_m258 : zx_okL 258 zx_c258 0 := zx_okB_ok (by decide +kernel)
set_option maxRecDepth 100000 in
theorem zk_m259 : zx_okL 259 zx_c259 0 := zx_okB_ok (by decide +kernel)
set_option maxRecDepth 100000 in
theorem zk_m260 : zx_okL 260 zx_c260 0 := zx_okB_ok (by decide +kernel)
set_option maxRecDepth 100000 in
theorem zk_m261 : zx_okL 261 zx_c261 0 := zx_okB_ok (by decide +kernel)
set_option maxRecDepth 100000 in
theorem zk_m262 : zx_okL 262 zx_c262 0 := zx_okB_ok (by decide +kernel)
set_option maxRecDepth 100000 in
theorem zk_m263 : zx_okL 263 zx_c263 0 := zx_okB_ok (by decide +kernel)
set_option maxRecDepth 100000 in
theorem zk_m264 : zx_okL 264 zx_c264 0 := zx_okB_ok (by decide +kernel)
set_option maxRecDepth 100000 in
theorem zk_m265 : zx_okL 265 zx_c265 0 := zx_okB_ok (by decide +kernel)
set_option maxRecDepth 100000 in
theorem zk_m266 : zx_okL 266 zx_c266 0 := zx_okB_ok (by decide +kernel)
set_option maxRecDepth 100000 in
theorem zk_m267 : zx_okL 267 zx_c267 0 := zx_okB_ok (by decide +kernel)
set_option maxRecDepth 100000 in
theorem zk_m268 : zx_okL 268 zx_c268 0 := zx_okB_ok (by decide +kernel)
set_option maxRecDepth 100000 in
theorem zk_m269 : zx_okL 269 zx_c269 0 := zx_okB_ok (by decide +kernel)
set_option maxRecDepth 100000 in
theorem zk_m270 : zx_okL 270 zx_c270 0 := zx_okB_ok (by decide +kernel)
set_option maxRecDepth 100000 in
theorem zk_m271 : zx_okL 271 zx_c271 0 := zx_okB_ok (by decide +kernel)
set_option maxRecDepth 100000 in
theorem zk_m272 : zx_okL 272 zx_c272 0 := zx_okB_ok (by decide +kernel)
set_option maxRecDepth 100000 in
theorem zk_m273 : zx_okL 273 zx_c273 0 := zx_okB_ok (by decide +kernel)
set_option maxRecDepth 100000 in
theorem zk_m274 : zx_okL 274 zx_c274 0 := zx_okB_ok (by decide +kernel)
set_option maxRecDepth 100000 in
theorem zk_m275 : zx_okL 275 zx_c275 0 := zx_okB_ok (by decide +kernel)
set_option maxRecDepth 100000 in
theorem zk_m276 : zx_okL 276 zx_c276 0 := zx_okB_ok (by decide +kernel)
