/-! the tables are checked, by program (wip/p44/gen2.py) -/
set_option maxRecDepth 100000 in
theorem zk_m157 : zx_okL 157 zx_c157 0 := zx_okB_ok (by decide +kernel)
set_option maxRecDepth 100000 in
theorem zk_m158 : zx_okL 158 zx_c158 0 := zx_okB_ok (by decide +kernel)
set_option maxRecDepth 100000 in
theorem zk_m159 : zx_okL 159 zx_c159 0 := zx_okB_ok (by decide +kernel)
set_option maxRecDepth 100000 in
theorem zk_m160 : zx_okL 160 zx_c160 0 := zx_okB_ok (by decide +kernel)
set_option maxRecDepth 100000 in
theorem zk_m161 : zx_okL 161 zx_c161 0 := zx_okB_ok (by decide +kernel)
set_option maxRecDepth 100000 in
theorem zk_m162 : zx_okL 162 zx_c162 0 := zx_okB_ok (by decide +kernel)
set_option maxRecDepth 100000 in
theorem zk_m163 : zx_okL 163 zx_c163 0 := zx_okB_ok (by decide +kernel)
set_option maxRecDepth 100000 in
theorem zk_m164 : zx_okL 164 zx_c164 0 := zx_okB_ok (by decide +kernel)
set_option maxRecDepth 100000 in
theorem zk_m165 : zx_okL 165 zx_c165 0 := zx_okB_ok (by decide +kernel)
set_option maxRecDepth 100000 in
theorem zk_m166 : zx_okL 166 zx_c166 0 := zx_okB_ok (by decide +kernel)
set_option maxRecDepth 100000 in
theorem zk_m167 : zx_okL 167 zx_c167 0 := zx_okB_ok (by decide +kernel)
set_option maxRecDepth 100000 in
theorem zk_m168 : zx_okL 168 zx_c168 0 := zx_okB_ok (by decide +kernel)
set_option maxRecDepth 100000 in
theorem zk_m169 : zx_okL 169 zx_c169 0 := zx_okB_ok (by decide +kernel)
set_option maxRecDepth 100000 in
theorem zk_m170 : zx_okL 170 zx_c170 0 := zx_okB_ok (by decide +kernel)
set_option maxRecDepth 100000 in
theorem zk_m171 : zx_okL 171 zx_c171 0 := zx_okB_ok (by decide +kernel)
set_option maxRecDepth 100000 in
theorem zk_m172 : zx_okL 172 zx_c172 0 := zx_okB_ok (by decide +kernel)
set_option maxRecDepth 100000 in
theorem zk_m173 : zx_okL 173 zx_c173 0 := zx_okB_ok (by decide +kernel)
set_option maxRecDepth 100000 in
theorem zk_m174 : zx_okL 174 zx_c174 0 := zx_okB_ok (by decide +kernel)
set_option maxRecDepth 100000 in
theorem zk_m175 : zx_okL 175 zx_c175 0 := zx_okB_ok (by decide +kernel)
set_option maxRecDepth 100000 in
theorem zk_m176 : zx_okL 176 zx_c176 0 := zx_okB_ok (by decide +kernel)
set_option maxRecDepth 100000 in
theorem zk_m177 : zx_okL 177 zx_c177 0 := zx_okB_ok (by decide +kernel)
set_option maxRecDepth 100000 in
theorem zk_m178 : zx_okL 178 zx_c178 0 := zx_okB_ok (by decide +kernel)
set_option maxRecDepth 100000 in
theorem zk_m179 : zx_okL 179 zx_c179 0 := zx_okB_ok (by decide +kernel)
set_option maxRecDepth 100000 in
theorem zk_m180 : zx_okL 180 zx_c180 0 := zx_okB_ok (by decide +kernel)
set_option maxRecDepth 100000 in
theorem zk_m181 : zx_okL 181 zx_c181 0 := zx_okB_ok (by decide +kernel)
set_option maxRecDepth 100000 in
theorem zk_m182 : zx_okL 182 zx_c182 0 := zx_okB_ok (by decide +kernel)
set_option maxRecDepth 100000 in
theorem zk_m183 : zx_okL 183 zx_c183 0 := zx_okB_ok (by decide +kernel)
set_option maxRecDepth 100000 in
theorem zk_m184 : zx_okL 184 zx_c184 0 := zx_okB_ok (by decide +kernel)
set_option maxRecDepth 100000 in
theorem zk_m185 : zx_okL 185 zx_c185 0 := zx_okB_ok (by decide +kernel)
set_option maxRecDepth 100000 in
theorem zk_m186 : zx_okL 186 zx_c186 0 := zx_okB_ok (by decide +kernel)
set_option maxRecDepth 100000 in
theorem zk_m187 : zx_okL 187 zx_c187 0 := zx_okB_ok (by decide +kernel)
set_option maxRecDepth 100000 in
theorem zk_m188 : zx_okL 188 zx_c188 0 := zx_okB_ok (by decide +kernel)
set_option maxRecDepth 100000 in
theorem zk_m189 : zx_okL 189 zx_c189 0 := zx_okB_ok (by decide +kernel)
set_option maxRecDepth 100000 in
theorem zk_m190 : zx_okL 190 zx_c190 0 := zx_okB_ok (by decide +kernel)
set_option maxRecDepth 100000 in
theorem zk_m191 : zx_okL 191 zx_c191 0 := zx_okB_ok (by decide +kernel)
set_option maxRecDepth 100000 in
theorem zk_m192 : zx_okL 192 zx_c192 0 := zx_okB_ok (by decide +kernel)
set_option maxRecDepth 100000 in
theorem zk_m193 : zx_okL 193 zx_c193 0 := zx_okB_ok (by decide +kernel)
set_option maxRecDepth 100000 in
theorem zk_m194 : zx_okL 194 zx_c194 0 := zx_okB_ok (by decide +kernel)
set_option maxRecDepth 100000 in
theorem zk_m195 : zx_okL 195 zx_c195 0 := zx_okB_ok (by decide +kernel)
set_option maxRecDepth 100000 in
theorem zk_m196 : zx_okL 196 zx_c196 0 := zx_okB_ok (by decide +kernel)
set_option maxRecDepth 100000 in
theorem zk_m197 : zx_okL 197 zx_c197 0 := zx_okB_ok (by decide +kernel)
set_option maxRecDepth 100000 in
theorem zk_m198 : zx_okL 198 zx_c198 0 := zx_okB_ok (by decide +kernel)
set_option maxRecDepth 100000 in
theorem zk_m199 : zx_okL 199 zx_c199 0 := zx_okB_ok (by decide +kernel)
set_option maxRecDepth 100000 in
theorem zk_m200 : zx_okL 200 zx_c200 0 := zx_okB_ok (by decide +kernel)
set_option maxRecDepth 100000 in
theorem zk_m201 : zx_okL 201 zx_c201 0 := zx_okB_ok (by decide +kernel)
set_option maxRecDepth 100000 in
theorem zk_m202 : zx_okL 202 zx_c202 0 := zx_okB_ok (by decide +kernel)
set_option maxRecDepth 100000 in
theorem zk_m203 : zx_okL 203 zx_c203 0 := zx_okB_ok (by decide +kernel)
set_option maxRecDepth 100000 in
theorem zk_m204 : zx_okL 204 zx_c204 0 := zx_okB_ok (by decide +kernel)
set_option maxRecDepth 100000 in
theorem zk_m205 : zx_okL 205 zx_c205 0 := zx_okB_ok (by decide +kernel)
set_option maxRecDepth 100000 in
theorem zk_m206 : zx_okL 206 zx_c206 0 := zx_okB_ok (by decide +kernel)
set_option maxRecDepth 100000 in
theorem zk_m207 : zx_okL 207 zx_c207 0 := zx_okB_ok (by decide +kernel)
set_option maxRecDepth 100000 in
theorem zk_m208 : zx_okL 208 zx_c208 0 := zx_okB_ok (by decide +kernel)
set_option maxRecDepth 100000 in
theorem zk_m209 : zx_okL 209 zx_c209 0 := zx_okB_ok (by decide +kernel)
set_option maxRecDepth 100000 in
theorem zk_m210 : zx_okL 210 zx_c210 0 := zx_okB_ok (by decide +kernel)
set_option maxRecDepth 100000 in
theorem zk_m211 : zx_okL 211 zx_c211 0 := zx_okB_ok (by decide +kernel)
set_option maxRecDepth 100000 in
theorem zk_m212 : zx_okL 212 zx_c212 0 := zx_okB_ok (by decide +kernel)
set_option maxRecDepth 100000 in
theorem zk_m213 : zx_okL 213 zx_c213 0 := zx_okB_ok (by decide +kernel)
set_option maxRecDepth 100000 in
theorem zk_m214 : zx_okL 214 zx_c214 0 := zx_okB_ok (by decide +kernel)
set_option maxRecDepth 100000 in
theorem zk_m215 : zx_okL 215 zx_c215 0 := zx_okB_ok (by decide +kernel)
set_option maxRecDepth 100000 in
theorem zk_m216 : zx_okL 216 zx_c216 0 := zx_okB_ok (by decide +kernel)
