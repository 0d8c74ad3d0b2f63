theorem lg_cmp_self (x : Int64) : lg_cmp x x = 0 := by
  unfold lg_cmp
  rw [if_neg, if_pos rfl]
  exact fun h => by rw [gt_iff_lt, fa_lt64] at h; omega
section
variable {p : Program} {l : Launch} {e : Env} {s : State} {m : MethodId} {below : List Frame} {meth : Method} {c : Code} {b : Nat} {D : va_G} {cI cZ cS : ClassId} {a aM : Nat → Nat} {σ τ : Sg} {tS tF L : Nat} {xs : Nat → Int32} {x3 : Int32}
theorem law_0 (X : CallFix p m c cL_law 4 s #[Value.ref b] AW "TrainNoteLaw") (hKC : va_K D vwCl (tyC cI cZ cS) s) (hKM : va_K D vwCl (tyM cI) s) (hSX : SXC tS tF (fun q : Nat => s.heap.size ≤ q) s s.heap) (hX : va_X b L xs s s.heap) (hbl : b < s.heap.size) (hRel : Rel σ τ) (h_1 : vp_in (x3 + 1) L) (h_2 : vp_in (x3 + 2) L) (h_3 : vp_in (x3 + 3) L) (h_4 : vp_in (x3 + 4) L) (h_5 : vp_in (x3 + 5) L) (nx : ∀ σ1 τ1, Rel σ1 τ1 → GL p l e s m below meth c b D cI cZ cS a aM 1164 [(3, .int x3), (2, .ref (aM 0)), (1, .ref (a 0)), (0, .ref b)] [] σ1 τ1) : GL p l e s m below meth c b D cI cZ cS a aM 176 [(3, .int x3), (2, .ref (aM 0)), (1, .ref (a 0)), (0, .ref b)] [] σ τ := by
  refine l_aload_n (pc := 176) X rfl 2 rfl dL_law_176 ?_
  refine l_aload_n (pc := 177) X rfl 3 rfl dL_law_177 ?_
  refine l_iload_n (pc := 178) X rfl 0 rfl dL_law_178 ?_
  refine l_iconst (pc := 179) X ic_1 dL_law_179 ?_
  refine l_iadd (pc := 180) X dL_law_180 ?_
  refine l_sld (pc := 181) X hX hbl h_1 dL_law_181 ?_
  refine l_aload_n (pc := 182) X rfl 3 rfl dL_law_182 ?_
  refine l_iload_n (pc := 183) X rfl 0 rfl dL_law_183 ?_
  refine l_iconst (pc := 184) X ic_2 dL_law_184 ?_
  refine l_iadd (pc := 185) X dL_law_185 ?_
  refine l_sld (pc := 186) X hX hbl h_2 dL_law_186 ?_
  have z := op_type hRel (xs (x3 + 1).toNatClampNeg) (xs (x3 + 2).toNatClampNeg)
  refine l_xMi (pc := 187) (As := [.int (xs (x3 + 1).toNatClampNeg), .int (xs (x3 + 2).toNatClampNeg)]) X hKC hSX mi_X6_type (c_X6_type (xs (x3 + 1).toNatClampNeg) (xs (x3 + 2).toNatClampNeg) σ _) kw1_212 ⟨rfl, rfl⟩ ⟨Nat.le_of_ble_eq_true rfl, Nat.le_of_ble_eq_true rfl⟩ rfl (Nat.le_of_ble_eq_true rfl) dL_law_187 rfl z (fun r1 σ1 z => ?_)
  refine l_aload_n (pc := 190) X rfl 1 rfl dL_law_190 ?_
  refine l_aload_n (pc := 191) X rfl 3 rfl dL_law_191 ?_
  refine l_iload_n (pc := 192) X rfl 0 rfl dL_law_192 ?_
  refine l_iconst (pc := 193) X ic_1 dL_law_193 ?_
  refine l_iadd (pc := 194) X dL_law_194 ?_
  refine l_sld (pc := 195) X hX hbl h_1 dL_law_195 ?_
  refine l_aload_n (pc := 196) X rfl 3 rfl dL_law_196 ?_
  refine l_iload_n (pc := 197) X rfl 0 rfl dL_law_197 ?_
  refine l_iconst (pc := 198) X ic_2 dL_law_198 ?_
  refine l_iadd (pc := 199) X dL_law_199 ?_
  refine l_sld (pc := 200) X hX hbl h_2 dL_law_200 ?_
  refine l_mMi (pc := 201) (As := [.int (xs (x3 + 1).toNatClampNeg), .int (xs (x3 + 2).toNatClampNeg)]) X hKM mi_X7_type (c_X7_type (xs (x3 + 1).toNatClampNeg) (xs (x3 + 2).toNatClampNeg) τ _) kw4_2 ⟨rfl, rfl⟩ ⟨Nat.le_of_ble_eq_true rfl, Nat.le_of_ble_eq_true rfl⟩ rfl (Nat.le_of_ble_eq_true rfl) dL_law_201 rfl z (fun r2 τ1 z => ?_)
  refine l_icmp_eq (pc := 204) (tgt := 1164) X (by decide) dL_law_204 (fun c_ => ?_) (fun c_ => ?_)
  · exact nx σ1 τ1 z.2
  · exact absurd z.1 c_
theorem law_1 (X : CallFix p m c cL_law 4 s #[Value.ref b] AW "TrainNoteLaw") (hKC : va_K D vwCl (tyC cI cZ cS) s) (hKM : va_K D vwCl (tyM cI) s) (hSX : SXC tS tF (fun q : Nat => s.heap.size ≤ q) s s.heap) (hX : va_X b L xs s s.heap) (hbl : b < s.heap.size) (hRel : Rel σ τ) (h_1 : vp_in (x3 + 1) L) (h_2 : vp_in (x3 + 2) L) (h_3 : vp_in (x3 + 3) L) (h_4 : vp_in (x3 + 4) L) (h_5 : vp_in (x3 + 5) L) (nx : ∀ σ1 τ1, Rel σ1 τ1 → GL p l e s m below meth c b D cI cZ cS a aM 1164 [(3, .int x3), (2, .ref (aM 0)), (1, .ref (a 0)), (0, .ref b)] [] σ1 τ1) : GL p l e s m below meth c b D cI cZ cS a aM 209 [(3, .int x3), (2, .ref (aM 0)), (1, .ref (a 0)), (0, .ref b)] [] σ τ := by
  refine l_aload_n (pc := 209) X rfl 2 rfl dL_law_209 ?_
  refine l_aload_n (pc := 210) X rfl 3 rfl dL_law_210 ?_
  refine l_iload_n (pc := 211) X rfl 0 rfl dL_law_211 ?_
  refine l_iconst (pc := 212) X ic_1 dL_law_212 ?_
  refine l_iadd (pc := 213) X dL_law_213 ?_
  refine l_sld (pc := 214) X hX hbl h_1 dL_law_214 ?_
  have z := op_wipe hRel (xs (x3 + 1).toNatClampNeg)
  refine l_xMi (pc := 215) (As := [.int (xs (x3 + 1).toNatClampNeg)]) X hKC hSX mi_X6_wipe (c_X6_wipe (xs (x3 + 1).toNatClampNeg) σ _) kw2_34 ⟨rfl, rfl⟩ ⟨Nat.le_of_ble_eq_true rfl, Nat.le_of_ble_eq_true rfl⟩ rfl (Nat.le_of_ble_eq_true rfl) dL_law_215 rfl z (fun r1 σ1 z => ?_)
  refine l_aload_n (pc := 218) X rfl 1 rfl dL_law_218 ?_
  refine l_aload_n (pc := 219) X rfl 3 rfl dL_law_219 ?_
  refine l_iload_n (pc := 220) X rfl 0 rfl dL_law_220 ?_
  refine l_iconst (pc := 221) X ic_1 dL_law_221 ?_
  refine l_iadd (pc := 222) X dL_law_222 ?_
  refine l_sld (pc := 223) X hX hbl h_1 dL_law_223 ?_
  refine l_mMi (pc := 224) (As := [.int (xs (x3 + 1).toNatClampNeg)]) X hKM mi_X7_wipe (c_X7_wipe (xs (x3 + 1).toNatClampNeg) τ _) kw4_10 ⟨rfl, rfl⟩ ⟨Nat.le_of_ble_eq_true rfl, Nat.le_of_ble_eq_true rfl⟩ rfl (Nat.le_of_ble_eq_true rfl) dL_law_224 rfl z (fun r2 τ1 z => ?_)
  refine l_icmp_eq (pc := 227) (tgt := 1164) X (by decide) dL_law_227 (fun c_ => ?_) (fun c_ => ?_)
  · exact nx σ1 τ1 z.2
  · exact absurd z.1 c_
theorem law_2 (X : CallFix p m c cL_law 4 s #[Value.ref b] AW "TrainNoteLaw") (hKC : va_K D vwCl (tyC cI cZ cS) s) (hKM : va_K D vwCl (tyM cI) s) (hSX : SXC tS tF (fun q : Nat => s.heap.size ≤ q) s s.heap) (hX : va_X b L xs s s.heap) (hbl : b < s.heap.size) (hRel : Rel σ τ) (h_1 : vp_in (x3 + 1) L) (h_2 : vp_in (x3 + 2) L) (h_3 : vp_in (x3 + 3) L) (h_4 : vp_in (x3 + 4) L) (h_5 : vp_in (x3 + 5) L) (nx : ∀ σ1 τ1, Rel σ1 τ1 → GL p l e s m below meth c b D cI cZ cS a aM 1164 [(3, .int x3), (2, .ref (aM 0)), (1, .ref (a 0)), (0, .ref b)] [] σ1 τ1) : GL p l e s m below meth c b D cI cZ cS a aM 232 [(3, .int x3), (2, .ref (aM 0)), (1, .ref (a 0)), (0, .ref b)] [] σ τ := by
  refine l_aload_n (pc := 232) X rfl 2 rfl dL_law_232 ?_
  refine l_aload_n (pc := 233) X rfl 3 rfl dL_law_233 ?_
  refine l_iload_n (pc := 234) X rfl 0 rfl dL_law_234 ?_
  refine l_iconst (pc := 235) X ic_1 dL_law_235 ?_
  refine l_iadd (pc := 236) X dL_law_236 ?_
  refine l_sld (pc := 237) X hX hbl h_1 dL_law_237 ?_
  have z := op_undo hRel (xs (x3 + 1).toNatClampNeg)
  refine l_xMi (pc := 238) (As := [.int (xs (x3 + 1).toNatClampNeg)]) X hKC hSX mi_X6_undo (c_X6_undo (xs (x3 + 1).toNatClampNeg) σ _) kw2_45 ⟨rfl, rfl⟩ ⟨Nat.le_of_ble_eq_true rfl, Nat.le_of_ble_eq_true rfl⟩ rfl (Nat.le_of_ble_eq_true rfl) dL_law_238 rfl z (fun r1 σ1 z => ?_)
  refine l_aload_n (pc := 241) X rfl 1 rfl dL_law_241 ?_
  refine l_aload_n (pc := 242) X rfl 3 rfl dL_law_242 ?_
  refine l_iload_n (pc := 243) X rfl 0 rfl dL_law_243 ?_
  refine l_iconst (pc := 244) X ic_1 dL_law_244 ?_
  refine l_iadd (pc := 245) X dL_law_245 ?_
  refine l_sld (pc := 246) X hX hbl h_1 dL_law_246 ?_
  refine l_mMi (pc := 247) (As := [.int (xs (x3 + 1).toNatClampNeg)]) X hKM mi_X7_undo (c_X7_undo (xs (x3 + 1).toNatClampNeg) τ _) kw4_14 ⟨rfl, rfl⟩ ⟨Nat.le_of_ble_eq_true rfl, Nat.le_of_ble_eq_true rfl⟩ rfl (Nat.le_of_ble_eq_true rfl) dL_law_247 rfl z (fun r2 τ1 z => ?_)
  refine l_icmp_eq (pc := 250) (tgt := 1164) X (by decide) dL_law_250 (fun c_ => ?_) (fun c_ => ?_)
  · exact nx σ1 τ1 z.2
  · exact absurd z.1 c_
theorem law_3 (X : CallFix p m c cL_law 4 s #[Value.ref b] AW "TrainNoteLaw") (hKC : va_K D vwCl (tyC cI cZ cS) s) (hKM : va_K D vwCl (tyM cI) s) (hSX : SXC tS tF (fun q : Nat => s.heap.size ≤ q) s s.heap) (hX : va_X b L xs s s.heap) (hbl : b < s.heap.size) (hRel : Rel σ τ) (h_1 : vp_in (x3 + 1) L) (h_2 : vp_in (x3 + 2) L) (h_3 : vp_in (x3 + 3) L) (h_4 : vp_in (x3 + 4) L) (h_5 : vp_in (x3 + 5) L) (nx : ∀ σ1 τ1, Rel σ1 τ1 → GL p l e s m below meth c b D cI cZ cS a aM 1164 [(3, .int x3), (2, .ref (aM 0)), (1, .ref (a 0)), (0, .ref b)] [] σ1 τ1) : GL p l e s m below meth c b D cI cZ cS a aM 255 [(3, .int x3), (2, .ref (aM 0)), (1, .ref (a 0)), (0, .ref b)] [] σ τ := by
  refine l_aload_n (pc := 255) X rfl 2 rfl dL_law_255 ?_
  refine l_aload_n (pc := 256) X rfl 3 rfl dL_law_256 ?_
  refine l_iload_n (pc := 257) X rfl 0 rfl dL_law_257 ?_
  refine l_iconst (pc := 258) X ic_1 dL_law_258 ?_
  refine l_iadd (pc := 259) X dL_law_259 ?_
  refine l_sld (pc := 260) X hX hbl h_1 dL_law_260 ?_
  have z := op_fault hRel (xs (x3 + 1).toNatClampNeg)
  refine l_xPi (pc := 261) (As := [.int (xs (x3 + 1).toNatClampNeg)]) X hKC mi_X6_fault (c_X6_fault (xs (x3 + 1).toNatClampNeg) σ _) kw2_49 ⟨rfl, rfl⟩ ⟨Nat.le_of_ble_eq_true rfl, Nat.le_of_ble_eq_true rfl⟩ rfl (Nat.le_of_ble_eq_true rfl) dL_law_261 rfl z (fun r1 z => ?_)
  refine l_aload_n (pc := 264) X rfl 1 rfl dL_law_264 ?_
  refine l_aload_n (pc := 265) X rfl 3 rfl dL_law_265 ?_
  refine l_iload_n (pc := 266) X rfl 0 rfl dL_law_266 ?_
  refine l_iconst (pc := 267) X ic_1 dL_law_267 ?_
  refine l_iadd (pc := 268) X dL_law_268 ?_
  refine l_sld (pc := 269) X hX hbl h_1 dL_law_269 ?_
  refine l_mMi (pc := 270) (As := [.int (xs (x3 + 1).toNatClampNeg)]) X hKM mi_X7_fault (c_X7_fault (xs (x3 + 1).toNatClampNeg) τ _) kw4_18 ⟨rfl, rfl⟩ ⟨Nat.le_of_ble_eq_true rfl, Nat.le_of_ble_eq_true rfl⟩ rfl (Nat.le_of_ble_eq_true rfl) dL_law_270 rfl z (fun r2 τ1 z => ?_)
  refine l_icmp_eq (pc := 273) (tgt := 1164) X (by decide) dL_law_273 (fun c_ => ?_) (fun c_ => ?_)
  · exact nx σ τ1 z.2
  · exact absurd z.1 c_
theorem law_4 (X : CallFix p m c cL_law 4 s #[Value.ref b] AW "TrainNoteLaw") (hKC : va_K D vwCl (tyC cI cZ cS) s) (hKM : va_K D vwCl (tyM cI) s) (hSX : SXC tS tF (fun q : Nat => s.heap.size ≤ q) s s.heap) (hX : va_X b L xs s s.heap) (hbl : b < s.heap.size) (hRel : Rel σ τ) (h_1 : vp_in (x3 + 1) L) (h_2 : vp_in (x3 + 2) L) (h_3 : vp_in (x3 + 3) L) (h_4 : vp_in (x3 + 4) L) (h_5 : vp_in (x3 + 5) L) (nx : ∀ σ1 τ1, Rel σ1 τ1 → GL p l e s m below meth c b D cI cZ cS a aM 1164 [(3, .int x3), (2, .ref (aM 0)), (1, .ref (a 0)), (0, .ref b)] [] σ1 τ1) : GL p l e s m below meth c b D cI cZ cS a aM 278 [(3, .int x3), (2, .ref (aM 0)), (1, .ref (a 0)), (0, .ref b)] [] σ τ := by
  refine l_aload_n (pc := 278) X rfl 2 rfl dL_law_278 ?_
  refine l_aload_n (pc := 279) X rfl 3 rfl dL_law_279 ?_
  refine l_iload_n (pc := 280) X rfl 0 rfl dL_law_280 ?_
  refine l_iconst (pc := 281) X ic_1 dL_law_281 ?_
  refine l_iadd (pc := 282) X dL_law_282 ?_
  refine l_sld (pc := 283) X hX hbl h_1 dL_law_283 ?_
  refine l_aload_n (pc := 284) X rfl 3 rfl dL_law_284 ?_
  refine l_iload_n (pc := 285) X rfl 0 rfl dL_law_285 ?_
  refine l_iconst (pc := 286) X ic_2 dL_law_286 ?_
  refine l_iadd (pc := 287) X dL_law_287 ?_
  refine l_sld (pc := 288) X hX hbl h_2 dL_law_288 ?_
  have z := op_singer hRel (xs (x3 + 1).toNatClampNeg) (xs (x3 + 2).toNatClampNeg)
  refine l_xPi (pc := 289) (As := [.int (xs (x3 + 1).toNatClampNeg), .int (xs (x3 + 2).toNatClampNeg)]) X hKC mi_X6_singer (c_X6_singer (xs (x3 + 1).toNatClampNeg) (xs (x3 + 2).toNatClampNeg) σ _) kw2_55 ⟨rfl, rfl⟩ ⟨Nat.le_of_ble_eq_true rfl, Nat.le_of_ble_eq_true rfl⟩ rfl (Nat.le_of_ble_eq_true rfl) dL_law_289 rfl z (fun r1 z => ?_)
  refine l_aload_n (pc := 292) X rfl 1 rfl dL_law_292 ?_
  refine l_aload_n (pc := 293) X rfl 3 rfl dL_law_293 ?_
  refine l_iload_n (pc := 294) X rfl 0 rfl dL_law_294 ?_
  refine l_iconst (pc := 295) X ic_1 dL_law_295 ?_
  refine l_iadd (pc := 296) X dL_law_296 ?_
  refine l_sld (pc := 297) X hX hbl h_1 dL_law_297 ?_
  refine l_aload_n (pc := 298) X rfl 3 rfl dL_law_298 ?_
  refine l_iload_n (pc := 299) X rfl 0 rfl dL_law_299 ?_
  refine l_iconst (pc := 300) X ic_2 dL_law_300 ?_
  refine l_iadd (pc := 301) X dL_law_301 ?_
  refine l_sld (pc := 302) X hX hbl h_2 dL_law_302 ?_
  refine l_mMi (pc := 303) (As := [.int (xs (x3 + 1).toNatClampNeg), .int (xs (x3 + 2).toNatClampNeg)]) X hKM mi_X7_singer (c_X7_singer (xs (x3 + 1).toNatClampNeg) (xs (x3 + 2).toNatClampNeg) τ _) kw4_35 ⟨rfl, rfl⟩ ⟨Nat.le_of_ble_eq_true rfl, Nat.le_of_ble_eq_true rfl⟩ rfl (Nat.le_of_ble_eq_true rfl) dL_law_303 rfl z (fun r2 τ1 z => ?_)
  refine l_icmp_eq (pc := 306) (tgt := 1164) X (by decide) dL_law_306 (fun c_ => ?_) (fun c_ => ?_)
  · exact nx σ τ1 z.2
  · exact absurd z.1 c_
theorem law_5 (X : CallFix p m c cL_law 4 s #[Value.ref b] AW "TrainNoteLaw") (hKC : va_K D vwCl (tyC cI cZ cS) s) (hKM : va_K D vwCl (tyM cI) s) (hSX : SXC tS tF (fun q : Nat => s.heap.size ≤ q) s s.heap) (hX : va_X b L xs s s.heap) (hbl : b < s.heap.size) (hRel : Rel σ τ) (h_1 : vp_in (x3 + 1) L) (h_2 : vp_in (x3 + 2) L) (h_3 : vp_in (x3 + 3) L) (h_4 : vp_in (x3 + 4) L) (h_5 : vp_in (x3 + 5) L) (nx : ∀ σ1 τ1, Rel σ1 τ1 → GL p l e s m below meth c b D cI cZ cS a aM 1164 [(3, .int x3), (2, .ref (aM 0)), (1, .ref (a 0)), (0, .ref b)] [] σ1 τ1) : GL p l e s m below meth c b D cI cZ cS a aM 311 [(3, .int x3), (2, .ref (aM 0)), (1, .ref (a 0)), (0, .ref b)] [] σ τ := by
  refine l_aload_n (pc := 311) X rfl 2 rfl dL_law_311 ?_
  refine l_aload_n (pc := 312) X rfl 3 rfl dL_law_312 ?_
  refine l_iload_n (pc := 313) X rfl 0 rfl dL_law_313 ?_
  refine l_iconst (pc := 314) X ic_1 dL_law_314 ?_
  refine l_iadd (pc := 315) X dL_law_315 ?_
  refine l_sld (pc := 316) X hX hbl h_1 dL_law_316 ?_
  have z := op_bar hRel (xs (x3 + 1).toNatClampNeg)
  refine l_xPi (pc := 317) (As := [.int (xs (x3 + 1).toNatClampNeg)]) X hKC mi_X6_bar (c_X6_bar (xs (x3 + 1).toNatClampNeg) σ _) kw2_63 ⟨rfl, rfl⟩ ⟨Nat.le_of_ble_eq_true rfl, Nat.le_of_ble_eq_true rfl⟩ rfl (Nat.le_of_ble_eq_true rfl) dL_law_317 rfl z (fun r1 z => ?_)
  refine l_aload_n (pc := 320) X rfl 1 rfl dL_law_320 ?_
  refine l_aload_n (pc := 321) X rfl 3 rfl dL_law_321 ?_
  refine l_iload_n (pc := 322) X rfl 0 rfl dL_law_322 ?_
  refine l_iconst (pc := 323) X ic_1 dL_law_323 ?_
  refine l_iadd (pc := 324) X dL_law_324 ?_
  refine l_sld (pc := 325) X hX hbl h_1 dL_law_325 ?_
  refine l_mMi (pc := 326) (As := [.int (xs (x3 + 1).toNatClampNeg)]) X hKM mi_X7_bar (c_X7_bar (xs (x3 + 1).toNatClampNeg) τ _) kw4_43 ⟨rfl, rfl⟩ ⟨Nat.le_of_ble_eq_true rfl, Nat.le_of_ble_eq_true rfl⟩ rfl (Nat.le_of_ble_eq_true rfl) dL_law_326 rfl z (fun r2 τ1 z => ?_)
  refine l_icmp_eq (pc := 329) (tgt := 1164) X (by decide) dL_law_329 (fun c_ => ?_) (fun c_ => ?_)
  · exact nx σ τ1 z.2
  · exact absurd z.1 c_
theorem law_6 (X : CallFix p m c cL_law 4 s #[Value.ref b] AW "TrainNoteLaw") (hKC : va_K D vwCl (tyC cI cZ cS) s) (hKM : va_K D vwCl (tyM cI) s) (hSX : SXC tS tF (fun q : Nat => s.heap.size ≤ q) s s.heap) (hX : va_X b L xs s s.heap) (hbl : b < s.heap.size) (hRel : Rel σ τ) (h_1 : vp_in (x3 + 1) L) (h_2 : vp_in (x3 + 2) L) (h_3 : vp_in (x3 + 3) L) (h_4 : vp_in (x3 + 4) L) (h_5 : vp_in (x3 + 5) L) (nx : ∀ σ1 τ1, Rel σ1 τ1 → GL p l e s m below meth c b D cI cZ cS a aM 1164 [(3, .int x3), (2, .ref (aM 0)), (1, .ref (a 0)), (0, .ref b)] [] σ1 τ1) : GL p l e s m below meth c b D cI cZ cS a aM 334 [(3, .int x3), (2, .ref (aM 0)), (1, .ref (a 0)), (0, .ref b)] [] σ τ := by
  refine l_aload_n (pc := 334) X rfl 2 rfl dL_law_334 ?_
  refine l_aload_n (pc := 335) X rfl 3 rfl dL_law_335 ?_
  refine l_iload_n (pc := 336) X rfl 0 rfl dL_law_336 ?_
  refine l_iconst (pc := 337) X ic_1 dL_law_337 ?_
  refine l_iadd (pc := 338) X dL_law_338 ?_
  refine l_sld (pc := 339) X hX hbl h_1 dL_law_339 ?_
  refine l_aload_n (pc := 340) X rfl 3 rfl dL_law_340 ?_
  refine l_iload_n (pc := 341) X rfl 0 rfl dL_law_341 ?_
  refine l_iconst (pc := 342) X ic_2 dL_law_342 ?_
  refine l_iadd (pc := 343) X dL_law_343 ?_
  refine l_sld (pc := 344) X hX hbl h_2 dL_law_344 ?_
  have z := op_set hRel (xs (x3 + 1).toNatClampNeg) (xs (x3 + 2).toNatClampNeg)
  refine l_xMi (pc := 345) (As := [.int (xs (x3 + 1).toNatClampNeg), .int (xs (x3 + 2).toNatClampNeg)]) X hKC hSX mi_X6_set (c_X6_set (xs (x3 + 1).toNatClampNeg) (xs (x3 + 2).toNatClampNeg) σ _) kw2_67 ⟨rfl, rfl⟩ ⟨Nat.le_of_ble_eq_true rfl, Nat.le_of_ble_eq_true rfl⟩ rfl (Nat.le_of_ble_eq_true rfl) dL_law_345 rfl z (fun r1 σ1 z => ?_)
  refine l_aload_n (pc := 348) X rfl 1 rfl dL_law_348 ?_
  refine l_aload_n (pc := 349) X rfl 3 rfl dL_law_349 ?_
  refine l_iload_n (pc := 350) X rfl 0 rfl dL_law_350 ?_
  refine l_iconst (pc := 351) X ic_1 dL_law_351 ?_
  refine l_iadd (pc := 352) X dL_law_352 ?_
  refine l_sld (pc := 353) X hX hbl h_1 dL_law_353 ?_
  refine l_aload_n (pc := 354) X rfl 3 rfl dL_law_354 ?_
  refine l_iload_n (pc := 355) X rfl 0 rfl dL_law_355 ?_
  refine l_iconst (pc := 356) X ic_2 dL_law_356 ?_
  refine l_iadd (pc := 357) X dL_law_357 ?_
  refine l_sld (pc := 358) X hX hbl h_2 dL_law_358 ?_
  refine l_mMi (pc := 359) (As := [.int (xs (x3 + 1).toNatClampNeg), .int (xs (x3 + 2).toNatClampNeg)]) X hKM mi_X7_set (c_X7_set (xs (x3 + 1).toNatClampNeg) (xs (x3 + 2).toNatClampNeg) τ _) kw4_48 ⟨rfl, rfl⟩ ⟨Nat.le_of_ble_eq_true rfl, Nat.le_of_ble_eq_true rfl⟩ rfl (Nat.le_of_ble_eq_true rfl) dL_law_359 rfl z (fun r2 τ1 z => ?_)
  refine l_icmp_eq (pc := 362) (tgt := 1164) X (by decide) dL_law_362 (fun c_ => ?_) (fun c_ => ?_)
  · exact nx σ1 τ1 z.2
  · exact absurd z.1 c_
theorem law_7 (X : CallFix p m c cL_law 4 s #[Value.ref b] AW "TrainNoteLaw") (hKC : va_K D vwCl (tyC cI cZ cS) s) (hKM : va_K D vwCl (tyM cI) s) (hSX : SXC tS tF (fun q : Nat => s.heap.size ≤ q) s s.heap) (hX : va_X b L xs s s.heap) (hbl : b < s.heap.size) (hRel : Rel σ τ) (h_1 : vp_in (x3 + 1) L) (h_2 : vp_in (x3 + 2) L) (h_3 : vp_in (x3 + 3) L) (h_4 : vp_in (x3 + 4) L) (h_5 : vp_in (x3 + 5) L) (nx : ∀ σ1 τ1, Rel σ1 τ1 → GL p l e s m below meth c b D cI cZ cS a aM 1164 [(3, .int x3), (2, .ref (aM 0)), (1, .ref (a 0)), (0, .ref b)] [] σ1 τ1) : GL p l e s m below meth c b D cI cZ cS a aM 367 [(3, .int x3), (2, .ref (aM 0)), (1, .ref (a 0)), (0, .ref b)] [] σ τ := by
  refine l_aload_n (pc := 367) X rfl 2 rfl dL_law_367 ?_
  refine l_aload_n (pc := 368) X rfl 3 rfl dL_law_368 ?_
  refine l_iload_n (pc := 369) X rfl 0 rfl dL_law_369 ?_
  refine l_iconst (pc := 370) X ic_1 dL_law_370 ?_
  refine l_iadd (pc := 371) X dL_law_371 ?_
  refine l_sld (pc := 372) X hX hbl h_1 dL_law_372 ?_
  have z := op_whistle hRel (xs (x3 + 1).toNatClampNeg)
  refine l_xPi (pc := 373) (As := [.int (xs (x3 + 1).toNatClampNeg)]) X hKC mi_X6_whistle (c_X6_whistle (xs (x3 + 1).toNatClampNeg) σ _) kw2_77 ⟨rfl, rfl⟩ ⟨Nat.le_of_ble_eq_true rfl, Nat.le_of_ble_eq_true rfl⟩ rfl (Nat.le_of_ble_eq_true rfl) dL_law_373 rfl z (fun r1 z => ?_)
  refine l_aload_n (pc := 376) X rfl 1 rfl dL_law_376 ?_
  refine l_aload_n (pc := 377) X rfl 3 rfl dL_law_377 ?_
  refine l_iload_n (pc := 378) X rfl 0 rfl dL_law_378 ?_
  refine l_iconst (pc := 379) X ic_1 dL_law_379 ?_
  refine l_iadd (pc := 380) X dL_law_380 ?_
  refine l_sld (pc := 381) X hX hbl h_1 dL_law_381 ?_
  refine l_mPi (pc := 382) (As := [.int (xs (x3 + 1).toNatClampNeg)]) X hKM mi_X7_whistle (c_X7_whistle (xs (x3 + 1).toNatClampNeg) τ _) kw4_55 ⟨rfl, rfl⟩ ⟨Nat.le_of_ble_eq_true rfl, Nat.le_of_ble_eq_true rfl⟩ rfl (Nat.le_of_ble_eq_true rfl) dL_law_382 rfl z (fun r2 z => ?_)
  refine l_icmp_eq (pc := 385) (tgt := 1164) X (by decide) dL_law_385 (fun c_ => ?_) (fun c_ => ?_)
  · exact nx σ τ z.2
  · exact absurd z.1 c_
theorem law_8 (X : CallFix p m c cL_law 4 s #[Value.ref b] AW "TrainNoteLaw") (hKC : va_K D vwCl (tyC cI cZ cS) s) (hKM : va_K D vwCl (tyM cI) s) (hSX : SXC tS tF (fun q : Nat => s.heap.size ≤ q) s s.heap) (hX : va_X b L xs s s.heap) (hbl : b < s.heap.size) (hRel : Rel σ τ) (h_1 : vp_in (x3 + 1) L) (h_2 : vp_in (x3 + 2) L) (h_3 : vp_in (x3 + 3) L) (h_4 : vp_in (x3 + 4) L) (h_5 : vp_in (x3 + 5) L) (nx : ∀ σ1 τ1, Rel σ1 τ1 → GL p l e s m below meth c b D cI cZ cS a aM 1164 [(3, .int x3), (2, .ref (aM 0)), (1, .ref (a 0)), (0, .ref b)] [] σ1 τ1) : GL p l e s m below meth c b D cI cZ cS a aM 390 [(3, .int x3), (2, .ref (aM 0)), (1, .ref (a 0)), (0, .ref b)] [] σ τ := by
  refine l_aload_n (pc := 390) X rfl 2 rfl dL_law_390 ?_
  refine l_aload_n (pc := 391) X rfl 3 rfl dL_law_391 ?_
  refine l_iload_n (pc := 392) X rfl 0 rfl dL_law_392 ?_
  refine l_iconst (pc := 393) X ic_1 dL_law_393 ?_
  refine l_iadd (pc := 394) X dL_law_394 ?_
  refine l_sld (pc := 395) X hX hbl h_1 dL_law_395 ?_
  refine l_aload_n (pc := 396) X rfl 3 rfl dL_law_396 ?_
  refine l_iload_n (pc := 397) X rfl 0 rfl dL_law_397 ?_
  refine l_iconst (pc := 398) X ic_2 dL_law_398 ?_
  refine l_iadd (pc := 399) X dL_law_399 ?_
  refine l_sld (pc := 400) X hX hbl h_2 dL_law_400 ?_
  have z := op_ear hRel (xs (x3 + 1).toNatClampNeg) (xs (x3 + 2).toNatClampNeg)
  refine l_xPi (pc := 401) (As := [.int (xs (x3 + 1).toNatClampNeg), .int (xs (x3 + 2).toNatClampNeg)]) X hKC mi_X6_ear (c_X6_ear (xs (x3 + 1).toNatClampNeg) (xs (x3 + 2).toNatClampNeg) σ _) kw2_85 ⟨rfl, rfl⟩ ⟨Nat.le_of_ble_eq_true rfl, Nat.le_of_ble_eq_true rfl⟩ rfl (Nat.le_of_ble_eq_true rfl) dL_law_401 rfl z (fun r1 z => ?_)
  refine l_aload_n (pc := 404) X rfl 1 rfl dL_law_404 ?_
  refine l_aload_n (pc := 405) X rfl 3 rfl dL_law_405 ?_
  refine l_iload_n (pc := 406) X rfl 0 rfl dL_law_406 ?_
  refine l_iconst (pc := 407) X ic_1 dL_law_407 ?_
  refine l_iadd (pc := 408) X dL_law_408 ?_
  refine l_sld (pc := 409) X hX hbl h_1 dL_law_409 ?_
  refine l_aload_n (pc := 410) X rfl 3 rfl dL_law_410 ?_
  refine l_iload_n (pc := 411) X rfl 0 rfl dL_law_411 ?_
  refine l_iconst (pc := 412) X ic_2 dL_law_412 ?_
  refine l_iadd (pc := 413) X dL_law_413 ?_
  refine l_sld (pc := 414) X hX hbl h_2 dL_law_414 ?_
  refine l_mMi (pc := 415) (As := [.int (xs (x3 + 1).toNatClampNeg), .int (xs (x3 + 2).toNatClampNeg)]) X hKM mi_X7_ear (c_X7_ear (xs (x3 + 1).toNatClampNeg) (xs (x3 + 2).toNatClampNeg) τ _) kw4_63 ⟨rfl, rfl⟩ ⟨Nat.le_of_ble_eq_true rfl, Nat.le_of_ble_eq_true rfl⟩ rfl (Nat.le_of_ble_eq_true rfl) dL_law_415 rfl z (fun r2 τ1 z => ?_)
  refine l_icmp_eq (pc := 418) (tgt := 1164) X (by decide) dL_law_418 (fun c_ => ?_) (fun c_ => ?_)
  · exact nx σ τ1 z.2
  · exact absurd z.1 c_
theorem law_9 (X : CallFix p m c cL_law 4 s #[Value.ref b] AW "TrainNoteLaw") (hKC : va_K D vwCl (tyC cI cZ cS) s) (hKM : va_K D vwCl (tyM cI) s) (hSX : SXC tS tF (fun q : Nat => s.heap.size ≤ q) s s.heap) (hX : va_X b L xs s s.heap) (hbl : b < s.heap.size) (hRel : Rel σ τ) (h_1 : vp_in (x3 + 1) L) (h_2 : vp_in (x3 + 2) L) (h_3 : vp_in (x3 + 3) L) (h_4 : vp_in (x3 + 4) L) (h_5 : vp_in (x3 + 5) L) (nx : ∀ σ1 τ1, Rel σ1 τ1 → GL p l e s m below meth c b D cI cZ cS a aM 1164 [(3, .int x3), (2, .ref (aM 0)), (1, .ref (a 0)), (0, .ref b)] [] σ1 τ1) : GL p l e s m below meth c b D cI cZ cS a aM 423 [(3, .int x3), (2, .ref (aM 0)), (1, .ref (a 0)), (0, .ref b)] [] σ τ := by
  refine l_aload_n (pc := 423) X rfl 2 rfl dL_law_423 ?_
  refine l_aload_n (pc := 424) X rfl 3 rfl dL_law_424 ?_
  refine l_iload_n (pc := 425) X rfl 0 rfl dL_law_425 ?_
  refine l_iconst (pc := 426) X ic_1 dL_law_426 ?_
  refine l_iadd (pc := 427) X dL_law_427 ?_
  refine l_sld (pc := 428) X hX hbl h_1 dL_law_428 ?_
  refine l_aload_n (pc := 429) X rfl 3 rfl dL_law_429 ?_
  refine l_iload_n (pc := 430) X rfl 0 rfl dL_law_430 ?_
  refine l_iconst (pc := 431) X ic_2 dL_law_431 ?_
  refine l_iadd (pc := 432) X dL_law_432 ?_
  refine l_sld (pc := 433) X hX hbl h_2 dL_law_433 ?_
  have z := op_note hRel (xs (x3 + 1).toNatClampNeg) (xs (x3 + 2).toNatClampNeg)
  refine l_xPi (pc := 434) (As := [.int (xs (x3 + 1).toNatClampNeg), .int (xs (x3 + 2).toNatClampNeg)]) X hKC mi_X6_note (c_X6_note (xs (x3 + 1).toNatClampNeg) (xs (x3 + 2).toNatClampNeg) σ _) kw2_92 ⟨rfl, rfl⟩ ⟨Nat.le_of_ble_eq_true rfl, Nat.le_of_ble_eq_true rfl⟩ rfl (Nat.le_of_ble_eq_true rfl) dL_law_434 rfl z (fun r1 z => ?_)
  refine l_aload_n (pc := 437) X rfl 1 rfl dL_law_437 ?_
  refine l_aload_n (pc := 438) X rfl 3 rfl dL_law_438 ?_
  refine l_iload_n (pc := 439) X rfl 0 rfl dL_law_439 ?_
  refine l_iconst (pc := 440) X ic_1 dL_law_440 ?_
  refine l_iadd (pc := 441) X dL_law_441 ?_
  refine l_sld (pc := 442) X hX hbl h_1 dL_law_442 ?_
  refine l_aload_n (pc := 443) X rfl 3 rfl dL_law_443 ?_
  refine l_iload_n (pc := 444) X rfl 0 rfl dL_law_444 ?_
  refine l_iconst (pc := 445) X ic_2 dL_law_445 ?_
  refine l_iadd (pc := 446) X dL_law_446 ?_
  refine l_sld (pc := 447) X hX hbl h_2 dL_law_447 ?_
  refine l_mMi (pc := 448) (As := [.int (xs (x3 + 1).toNatClampNeg), .int (xs (x3 + 2).toNatClampNeg)]) X hKM mi_X7_note (c_X7_note (xs (x3 + 1).toNatClampNeg) (xs (x3 + 2).toNatClampNeg) τ _) kw4_90 ⟨rfl, rfl⟩ ⟨Nat.le_of_ble_eq_true rfl, Nat.le_of_ble_eq_true rfl⟩ rfl (Nat.le_of_ble_eq_true rfl) dL_law_448 rfl z (fun r2 τ1 z => ?_)
  refine l_icmp_eq (pc := 451) (tgt := 1164) X (by decide) dL_law_451 (fun c_ => ?_) (fun c_ => ?_)
  · exact nx σ τ1 z.2
  · exact absurd z.1 c_
theorem law_10 (X : CallFix p m c cL_law 4 s #[Value.ref b] AW "TrainNoteLaw") (hKC : va_K D vwCl (tyC cI cZ cS) s) (hKM : va_K D vwCl (tyM cI) s) (hSX : SXC tS tF (fun q : Nat => s.heap.size ≤ q) s s.heap) (hX : va_X b L xs s s.heap) (hbl : b < s.heap.size) (hRel : Rel σ τ) (h_1 : vp_in (x3 + 1) L) (h_2 : vp_in (x3 + 2) L) (h_3 : vp_in (x3 + 3) L) (h_4 : vp_in (x3 + 4) L) (h_5 : vp_in (x3 + 5) L) (nx : ∀ σ1 τ1, Rel σ1 τ1 → GL p l e s m below meth c b D cI cZ cS a aM 1164 [(3, .int x3), (2, .ref (aM 0)), (1, .ref (a 0)), (0, .ref b)] [] σ1 τ1) : GL p l e s m below meth c b D cI cZ cS a aM 456 [(3, .int x3), (2, .ref (aM 0)), (1, .ref (a 0)), (0, .ref b)] [] σ τ := by
  refine l_aload_n (pc := 456) X rfl 2 rfl dL_law_456 ?_
  refine l_aload_n (pc := 457) X rfl 3 rfl dL_law_457 ?_
  refine l_iload_n (pc := 458) X rfl 0 rfl dL_law_458 ?_
  refine l_iconst (pc := 459) X ic_1 dL_law_459 ?_
  refine l_iadd (pc := 460) X dL_law_460 ?_
  refine l_sld (pc := 461) X hX hbl h_1 dL_law_461 ?_
  refine l_aload_n (pc := 462) X rfl 3 rfl dL_law_462 ?_
  refine l_iload_n (pc := 463) X rfl 0 rfl dL_law_463 ?_
  refine l_iconst (pc := 464) X ic_2 dL_law_464 ?_
  refine l_iadd (pc := 465) X dL_law_465 ?_
  refine l_sld (pc := 466) X hX hbl h_2 dL_law_466 ?_
  have z := op_away hRel (xs (x3 + 1).toNatClampNeg) (xs (x3 + 2).toNatClampNeg)
  refine l_xPi (pc := 467) (As := [.int (xs (x3 + 1).toNatClampNeg), .int (xs (x3 + 2).toNatClampNeg)]) X hKC mi_X6_away (c_X6_away (xs (x3 + 1).toNatClampNeg) (xs (x3 + 2).toNatClampNeg) σ _) kw2_103 ⟨rfl, rfl⟩ ⟨Nat.le_of_ble_eq_true rfl, Nat.le_of_ble_eq_true rfl⟩ rfl (Nat.le_of_ble_eq_true rfl) dL_law_467 rfl z (fun r1 z => ?_)
  refine l_aload_n (pc := 470) X rfl 1 rfl dL_law_470 ?_
  refine l_aload_n (pc := 471) X rfl 3 rfl dL_law_471 ?_
  refine l_iload_n (pc := 472) X rfl 0 rfl dL_law_472 ?_
  refine l_iconst (pc := 473) X ic_1 dL_law_473 ?_
  refine l_iadd (pc := 474) X dL_law_474 ?_
  refine l_sld (pc := 475) X hX hbl h_1 dL_law_475 ?_
  refine l_aload_n (pc := 476) X rfl 3 rfl dL_law_476 ?_
  refine l_iload_n (pc := 477) X rfl 0 rfl dL_law_477 ?_
  refine l_iconst (pc := 478) X ic_2 dL_law_478 ?_
  refine l_iadd (pc := 479) X dL_law_479 ?_
  refine l_sld (pc := 480) X hX hbl h_2 dL_law_480 ?_
  refine l_mMi (pc := 481) (As := [.int (xs (x3 + 1).toNatClampNeg), .int (xs (x3 + 2).toNatClampNeg)]) X hKM mi_X7_away (c_X7_away (xs (x3 + 1).toNatClampNeg) (xs (x3 + 2).toNatClampNeg) τ _) kw4_106 ⟨rfl, rfl⟩ ⟨Nat.le_of_ble_eq_true rfl, Nat.le_of_ble_eq_true rfl⟩ rfl (Nat.le_of_ble_eq_true rfl) dL_law_481 rfl z (fun r2 τ1 z => ?_)
  refine l_icmp_eq (pc := 484) (tgt := 1164) X (by decide) dL_law_484 (fun c_ => ?_) (fun c_ => ?_)
  · exact nx σ τ1 z.2
  · exact absurd z.1 c_
theorem law_11 (X : CallFix p m c cL_law 4 s #[Value.ref b] AW "TrainNoteLaw") (hKC : va_K D vwCl (tyC cI cZ cS) s) (hKM : va_K D vwCl (tyM cI) s) (hSX : SXC tS tF (fun q : Nat => s.heap.size ≤ q) s s.heap) (hX : va_X b L xs s s.heap) (hbl : b < s.heap.size) (hRel : Rel σ τ) (h_1 : vp_in (x3 + 1) L) (h_2 : vp_in (x3 + 2) L) (h_3 : vp_in (x3 + 3) L) (h_4 : vp_in (x3 + 4) L) (h_5 : vp_in (x3 + 5) L) (nx : ∀ σ1 τ1, Rel σ1 τ1 → GL p l e s m below meth c b D cI cZ cS a aM 1164 [(3, .int x3), (2, .ref (aM 0)), (1, .ref (a 0)), (0, .ref b)] [] σ1 τ1) : GL p l e s m below meth c b D cI cZ cS a aM 489 [(3, .int x3), (2, .ref (aM 0)), (1, .ref (a 0)), (0, .ref b)] [] σ τ := by
  refine l_aload_n (pc := 489) X rfl 2 rfl dL_law_489 ?_
  refine l_aload_n (pc := 490) X rfl 3 rfl dL_law_490 ?_
  refine l_iload_n (pc := 491) X rfl 0 rfl dL_law_491 ?_
  refine l_iconst (pc := 492) X ic_1 dL_law_492 ?_
  refine l_iadd (pc := 493) X dL_law_493 ?_
  refine l_sld (pc := 494) X hX hbl h_1 dL_law_494 ?_
  refine l_aload_n (pc := 495) X rfl 3 rfl dL_law_495 ?_
  refine l_iload_n (pc := 496) X rfl 0 rfl dL_law_496 ?_
  refine l_iconst (pc := 497) X ic_2 dL_law_497 ?_
  refine l_iadd (pc := 498) X dL_law_498 ?_
  refine l_sld (pc := 499) X hX hbl h_2 dL_law_499 ?_
  have z := op_chord hRel (xs (x3 + 1).toNatClampNeg) (xs (x3 + 2).toNatClampNeg)
  refine l_xPi (pc := 500) (As := [.int (xs (x3 + 1).toNatClampNeg), .int (xs (x3 + 2).toNatClampNeg)]) X hKC mi_X6_chord (c_X6_chord (xs (x3 + 1).toNatClampNeg) (xs (x3 + 2).toNatClampNeg) σ _) kw2_107 ⟨rfl, rfl⟩ ⟨Nat.le_of_ble_eq_true rfl, Nat.le_of_ble_eq_true rfl⟩ rfl (Nat.le_of_ble_eq_true rfl) dL_law_500 rfl z (fun r1 z => ?_)
  refine l_aload_n (pc := 503) X rfl 1 rfl dL_law_503 ?_
  refine l_aload_n (pc := 504) X rfl 3 rfl dL_law_504 ?_
  refine l_iload_n (pc := 505) X rfl 0 rfl dL_law_505 ?_
  refine l_iconst (pc := 506) X ic_1 dL_law_506 ?_
  refine l_iadd (pc := 507) X dL_law_507 ?_
  refine l_sld (pc := 508) X hX hbl h_1 dL_law_508 ?_
  refine l_aload_n (pc := 509) X rfl 3 rfl dL_law_509 ?_
  refine l_iload_n (pc := 510) X rfl 0 rfl dL_law_510 ?_
  refine l_iconst (pc := 511) X ic_2 dL_law_511 ?_
  refine l_iadd (pc := 512) X dL_law_512 ?_
  refine l_sld (pc := 513) X hX hbl h_2 dL_law_513 ?_
  refine l_mMi (pc := 514) (As := [.int (xs (x3 + 1).toNatClampNeg), .int (xs (x3 + 2).toNatClampNeg)]) X hKM mi_X7_chord (c_X7_chord (xs (x3 + 1).toNatClampNeg) (xs (x3 + 2).toNatClampNeg) τ _) kw4_110 ⟨rfl, rfl⟩ ⟨Nat.le_of_ble_eq_true rfl, Nat.le_of_ble_eq_true rfl⟩ rfl (Nat.le_of_ble_eq_true rfl) dL_law_514 rfl z (fun r2 τ1 z => ?_)
  refine l_icmp_eq (pc := 517) (tgt := 1164) X (by decide) dL_law_517 (fun c_ => ?_) (fun c_ => ?_)
  · exact nx σ τ1 z.2
  · exact absurd z.1 c_
theorem law_12 (X : CallFix p m c cL_law 4 s #[Value.ref b] AW "TrainNoteLaw") (hKC : va_K D vwCl (tyC cI cZ cS) s) (hKM : va_K D vwCl (tyM cI) s) (hSX : SXC tS tF (fun q : Nat => s.heap.size ≤ q) s s.heap) (hX : va_X b L xs s s.heap) (hbl : b < s.heap.size) (hRel : Rel σ τ) (h_1 : vp_in (x3 + 1) L) (h_2 : vp_in (x3 + 2) L) (h_3 : vp_in (x3 + 3) L) (h_4 : vp_in (x3 + 4) L) (h_5 : vp_in (x3 + 5) L) (nx : ∀ σ1 τ1, Rel σ1 τ1 → GL p l e s m below meth c b D cI cZ cS a aM 1164 [(3, .int x3), (2, .ref (aM 0)), (1, .ref (a 0)), (0, .ref b)] [] σ1 τ1) : GL p l e s m below meth c b D cI cZ cS a aM 522 [(3, .int x3), (2, .ref (aM 0)), (1, .ref (a 0)), (0, .ref b)] [] σ τ := by
  refine l_aload_n (pc := 522) X rfl 2 rfl dL_law_522 ?_
  refine l_aload_n (pc := 523) X rfl 3 rfl dL_law_523 ?_
  refine l_iload_n (pc := 524) X rfl 0 rfl dL_law_524 ?_
  refine l_iconst (pc := 525) X ic_1 dL_law_525 ?_
  refine l_iadd (pc := 526) X dL_law_526 ?_
  refine l_sld (pc := 527) X hX hbl h_1 dL_law_527 ?_
  have z := op_open hRel (xs (x3 + 1).toNatClampNeg)
  refine l_xPi (pc := 528) (As := [.int (xs (x3 + 1).toNatClampNeg)]) X hKC mi_X6_open (c_X6_open (xs (x3 + 1).toNatClampNeg) σ _) kw2_129 ⟨rfl, rfl⟩ ⟨Nat.le_of_ble_eq_true rfl, Nat.le_of_ble_eq_true rfl⟩ rfl (Nat.le_of_ble_eq_true rfl) dL_law_528 rfl z (fun r1 z => ?_)
  refine l_aload_n (pc := 531) X rfl 1 rfl dL_law_531 ?_
  refine l_aload_n (pc := 532) X rfl 3 rfl dL_law_532 ?_
  refine l_iload_n (pc := 533) X rfl 0 rfl dL_law_533 ?_
  refine l_iconst (pc := 534) X ic_1 dL_law_534 ?_
  refine l_iadd (pc := 535) X dL_law_535 ?_
  refine l_sld (pc := 536) X hX hbl h_1 dL_law_536 ?_
  refine l_mMi (pc := 537) (As := [.int (xs (x3 + 1).toNatClampNeg)]) X hKM mi_X7_open (c_X7_open (xs (x3 + 1).toNatClampNeg) τ _) kw4_139 ⟨rfl, rfl⟩ ⟨Nat.le_of_ble_eq_true rfl, Nat.le_of_ble_eq_true rfl⟩ rfl (Nat.le_of_ble_eq_true rfl) dL_law_537 rfl z (fun r2 τ1 z => ?_)
  refine l_icmp_eq (pc := 540) (tgt := 1164) X (by decide) dL_law_540 (fun c_ => ?_) (fun c_ => ?_)
  · exact nx σ τ1 z.2
  · exact absurd z.1 c_
theorem law_13 (X : CallFix p m c cL_law 4 s #[Value.ref b] AW "TrainNoteLaw") (hKC : va_K D vwCl (tyC cI cZ cS) s) (hKM : va_K D vwCl (tyM cI) s) (hSX : SXC tS tF (fun q : Nat => s.heap.size ≤ q) s s.heap) (hX : va_X b L xs s s.heap) (hbl : b < s.heap.size) (hRel : Rel σ τ) (h_1 : vp_in (x3 + 1) L) (h_2 : vp_in (x3 + 2) L) (h_3 : vp_in (x3 + 3) L) (h_4 : vp_in (x3 + 4) L) (h_5 : vp_in (x3 + 5) L) (nx : ∀ σ1 τ1, Rel σ1 τ1 → GL p l e s m below meth c b D cI cZ cS a aM 1164 [(3, .int x3), (2, .ref (aM 0)), (1, .ref (a 0)), (0, .ref b)] [] σ1 τ1) : GL p l e s m below meth c b D cI cZ cS a aM 545 [(3, .int x3), (2, .ref (aM 0)), (1, .ref (a 0)), (0, .ref b)] [] σ τ := by
  refine l_aload_n (pc := 545) X rfl 2 rfl dL_law_545 ?_
  refine l_aload_n (pc := 546) X rfl 3 rfl dL_law_546 ?_
  refine l_iload_n (pc := 547) X rfl 0 rfl dL_law_547 ?_
  refine l_iconst (pc := 548) X ic_1 dL_law_548 ?_
  refine l_iadd (pc := 549) X dL_law_549 ?_
  refine l_sld (pc := 550) X hX hbl h_1 dL_law_550 ?_
  refine l_aload_n (pc := 551) X rfl 3 rfl dL_law_551 ?_
  refine l_iload_n (pc := 552) X rfl 0 rfl dL_law_552 ?_
  refine l_iconst (pc := 553) X ic_2 dL_law_553 ?_
  refine l_iadd (pc := 554) X dL_law_554 ?_
  refine l_sld (pc := 555) X hX hbl h_2 dL_law_555 ?_
  have z := op_stand hRel (xs (x3 + 1).toNatClampNeg) (xs (x3 + 2).toNatClampNeg)
  refine l_xMi (pc := 556) (As := [.int (xs (x3 + 1).toNatClampNeg), .int (xs (x3 + 2).toNatClampNeg)]) X hKC hSX mi_X6_stand (c_X6_stand (xs (x3 + 1).toNatClampNeg) (xs (x3 + 2).toNatClampNeg) σ _) kw2_133 ⟨rfl, rfl⟩ ⟨Nat.le_of_ble_eq_true rfl, Nat.le_of_ble_eq_true rfl⟩ rfl (Nat.le_of_ble_eq_true rfl) dL_law_556 rfl z (fun r1 σ1 z => ?_)
  refine l_aload_n (pc := 559) X rfl 1 rfl dL_law_559 ?_
  refine l_aload_n (pc := 560) X rfl 3 rfl dL_law_560 ?_
  refine l_iload_n (pc := 561) X rfl 0 rfl dL_law_561 ?_
  refine l_iconst (pc := 562) X ic_1 dL_law_562 ?_
  refine l_iadd (pc := 563) X dL_law_563 ?_
  refine l_sld (pc := 564) X hX hbl h_1 dL_law_564 ?_
  refine l_aload_n (pc := 565) X rfl 3 rfl dL_law_565 ?_
  refine l_iload_n (pc := 566) X rfl 0 rfl dL_law_566 ?_
  refine l_iconst (pc := 567) X ic_2 dL_law_567 ?_
  refine l_iadd (pc := 568) X dL_law_568 ?_
  refine l_sld (pc := 569) X hX hbl h_2 dL_law_569 ?_
  refine l_mMi (pc := 570) (As := [.int (xs (x3 + 1).toNatClampNeg), .int (xs (x3 + 2).toNatClampNeg)]) X hKM mi_X7_stand (c_X7_stand (xs (x3 + 1).toNatClampNeg) (xs (x3 + 2).toNatClampNeg) τ _) kw4_147 ⟨rfl, rfl⟩ ⟨Nat.le_of_ble_eq_true rfl, Nat.le_of_ble_eq_true rfl⟩ rfl (Nat.le_of_ble_eq_true rfl) dL_law_570 rfl z (fun r2 τ1 z => ?_)
  refine l_icmp_eq (pc := 573) (tgt := 1164) X (by decide) dL_law_573 (fun c_ => ?_) (fun c_ => ?_)
  · exact nx σ1 τ1 z.2
  · exact absurd z.1 c_
theorem law_14 (X : CallFix p m c cL_law 4 s #[Value.ref b] AW "TrainNoteLaw") (hKC : va_K D vwCl (tyC cI cZ cS) s) (hKM : va_K D vwCl (tyM cI) s) (hSX : SXC tS tF (fun q : Nat => s.heap.size ≤ q) s s.heap) (hX : va_X b L xs s s.heap) (hbl : b < s.heap.size) (hRel : Rel σ τ) (h_1 : vp_in (x3 + 1) L) (h_2 : vp_in (x3 + 2) L) (h_3 : vp_in (x3 + 3) L) (h_4 : vp_in (x3 + 4) L) (h_5 : vp_in (x3 + 5) L) (nx : ∀ σ1 τ1, Rel σ1 τ1 → GL p l e s m below meth c b D cI cZ cS a aM 1164 [(3, .int x3), (2, .ref (aM 0)), (1, .ref (a 0)), (0, .ref b)] [] σ1 τ1) : GL p l e s m below meth c b D cI cZ cS a aM 578 [(3, .int x3), (2, .ref (aM 0)), (1, .ref (a 0)), (0, .ref b)] [] σ τ := by
  refine l_aload_n (pc := 578) X rfl 2 rfl dL_law_578 ?_
  refine l_aload_n (pc := 579) X rfl 3 rfl dL_law_579 ?_
  refine l_iload_n (pc := 580) X rfl 0 rfl dL_law_580 ?_
  refine l_iconst (pc := 581) X ic_1 dL_law_581 ?_
  refine l_iadd (pc := 582) X dL_law_582 ?_
  refine l_sld (pc := 583) X hX hbl h_1 dL_law_583 ?_
  refine l_aload_n (pc := 584) X rfl 3 rfl dL_law_584 ?_
  refine l_iload_n (pc := 585) X rfl 0 rfl dL_law_585 ?_
  refine l_iconst (pc := 586) X ic_2 dL_law_586 ?_
  refine l_iadd (pc := 587) X dL_law_587 ?_
  refine l_sld (pc := 588) X hX hbl h_2 dL_law_588 ?_
  have z := op_hush hRel (xs (x3 + 1).toNatClampNeg) (xs (x3 + 2).toNatClampNeg)
  refine l_xPi (pc := 589) (As := [.int (xs (x3 + 1).toNatClampNeg), .int (xs (x3 + 2).toNatClampNeg)]) X hKC mi_X6_hush (c_X6_hush (xs (x3 + 1).toNatClampNeg) (xs (x3 + 2).toNatClampNeg) σ _) kw2_159 ⟨rfl, rfl⟩ ⟨Nat.le_of_ble_eq_true rfl, Nat.le_of_ble_eq_true rfl⟩ rfl (Nat.le_of_ble_eq_true rfl) dL_law_589 rfl z (fun r1 z => ?_)
  refine l_aload_n (pc := 592) X rfl 1 rfl dL_law_592 ?_
  refine l_aload_n (pc := 593) X rfl 3 rfl dL_law_593 ?_
  refine l_iload_n (pc := 594) X rfl 0 rfl dL_law_594 ?_
  refine l_iconst (pc := 595) X ic_1 dL_law_595 ?_
  refine l_iadd (pc := 596) X dL_law_596 ?_
  refine l_sld (pc := 597) X hX hbl h_1 dL_law_597 ?_
  refine l_aload_n (pc := 598) X rfl 3 rfl dL_law_598 ?_
  refine l_iload_n (pc := 599) X rfl 0 rfl dL_law_599 ?_
  refine l_iconst (pc := 600) X ic_2 dL_law_600 ?_
  refine l_iadd (pc := 601) X dL_law_601 ?_
  refine l_sld (pc := 602) X hX hbl h_2 dL_law_602 ?_
  refine l_mMi (pc := 603) (As := [.int (xs (x3 + 1).toNatClampNeg), .int (xs (x3 + 2).toNatClampNeg)]) X hKM mi_X7_hush (c_X7_hush (xs (x3 + 1).toNatClampNeg) (xs (x3 + 2).toNatClampNeg) τ _) kw4_161 ⟨rfl, rfl⟩ ⟨Nat.le_of_ble_eq_true rfl, Nat.le_of_ble_eq_true rfl⟩ rfl (Nat.le_of_ble_eq_true rfl) dL_law_603 rfl z (fun r2 τ1 z => ?_)
  refine l_icmp_eq (pc := 606) (tgt := 1164) X (by decide) dL_law_606 (fun c_ => ?_) (fun c_ => ?_)
  · exact nx σ τ1 z.2
  · exact absurd z.1 c_
theorem law_15 (X : CallFix p m c cL_law 4 s #[Value.ref b] AW "TrainNoteLaw") (hKC : va_K D vwCl (tyC cI cZ cS) s) (hKM : va_K D vwCl (tyM cI) s) (hSX : SXC tS tF (fun q : Nat => s.heap.size ≤ q) s s.heap) (hX : va_X b L xs s s.heap) (hbl : b < s.heap.size) (hRel : Rel σ τ) (h_1 : vp_in (x3 + 1) L) (h_2 : vp_in (x3 + 2) L) (h_3 : vp_in (x3 + 3) L) (h_4 : vp_in (x3 + 4) L) (h_5 : vp_in (x3 + 5) L) (nx : ∀ σ1 τ1, Rel σ1 τ1 → GL p l e s m below meth c b D cI cZ cS a aM 1164 [(3, .int x3), (2, .ref (aM 0)), (1, .ref (a 0)), (0, .ref b)] [] σ1 τ1) : GL p l e s m below meth c b D cI cZ cS a aM 611 [(3, .int x3), (2, .ref (aM 0)), (1, .ref (a 0)), (0, .ref b)] [] σ τ := by
  refine l_aload_n (pc := 611) X rfl 2 rfl dL_law_611 ?_
  refine l_aload_n (pc := 612) X rfl 3 rfl dL_law_612 ?_
  refine l_iload_n (pc := 613) X rfl 0 rfl dL_law_613 ?_
  refine l_iconst (pc := 614) X ic_1 dL_law_614 ?_
  refine l_iadd (pc := 615) X dL_law_615 ?_
  refine l_sld (pc := 616) X hX hbl h_1 dL_law_616 ?_
  refine l_aload_n (pc := 617) X rfl 3 rfl dL_law_617 ?_
  refine l_iload_n (pc := 618) X rfl 0 rfl dL_law_618 ?_
  refine l_iconst (pc := 619) X ic_2 dL_law_619 ?_
  refine l_iadd (pc := 620) X dL_law_620 ?_
  refine l_sld (pc := 621) X hX hbl h_2 dL_law_621 ?_
  have z := op_drive hRel (xs (x3 + 1).toNatClampNeg) (xs (x3 + 2).toNatClampNeg)
  refine l_xMi (pc := 622) (As := [.int (xs (x3 + 1).toNatClampNeg), .int (xs (x3 + 2).toNatClampNeg)]) X hKC hSX mi_X6_drive (c_X6_drive (xs (x3 + 1).toNatClampNeg) (xs (x3 + 2).toNatClampNeg) σ _) kw2_180 ⟨rfl, rfl⟩ ⟨Nat.le_of_ble_eq_true rfl, Nat.le_of_ble_eq_true rfl⟩ rfl (Nat.le_of_ble_eq_true rfl) dL_law_622 rfl z (fun r1 σ1 z => ?_)
  refine l_aload_n (pc := 625) X rfl 1 rfl dL_law_625 ?_
  refine l_aload_n (pc := 626) X rfl 3 rfl dL_law_626 ?_
  refine l_iload_n (pc := 627) X rfl 0 rfl dL_law_627 ?_
  refine l_iconst (pc := 628) X ic_1 dL_law_628 ?_
  refine l_iadd (pc := 629) X dL_law_629 ?_
  refine l_sld (pc := 630) X hX hbl h_1 dL_law_630 ?_
  refine l_aload_n (pc := 631) X rfl 3 rfl dL_law_631 ?_
  refine l_iload_n (pc := 632) X rfl 0 rfl dL_law_632 ?_
  refine l_iconst (pc := 633) X ic_2 dL_law_633 ?_
  refine l_iadd (pc := 634) X dL_law_634 ?_
  refine l_sld (pc := 635) X hX hbl h_2 dL_law_635 ?_
  refine l_mMi (pc := 636) (As := [.int (xs (x3 + 1).toNatClampNeg), .int (xs (x3 + 2).toNatClampNeg)]) X hKM mi_X7_drive (c_X7_drive (xs (x3 + 1).toNatClampNeg) (xs (x3 + 2).toNatClampNeg) τ _) kw4_172 ⟨rfl, rfl⟩ ⟨Nat.le_of_ble_eq_true rfl, Nat.le_of_ble_eq_true rfl⟩ rfl (Nat.le_of_ble_eq_true rfl) dL_law_636 rfl z (fun r2 τ1 z => ?_)
  refine l_icmp_eq (pc := 639) (tgt := 1164) X (by decide) dL_law_639 (fun c_ => ?_) (fun c_ => ?_)
  · exact nx σ1 τ1 z.2
  · exact absurd z.1 c_
theorem law_16 (X : CallFix p m c cL_law 4 s #[Value.ref b] AW "TrainNoteLaw") (hKC : va_K D vwCl (tyC cI cZ cS) s) (hKM : va_K D vwCl (tyM cI) s) (hSX : SXC tS tF (fun q : Nat => s.heap.size ≤ q) s s.heap) (hX : va_X b L xs s s.heap) (hbl : b < s.heap.size) (hRel : Rel σ τ) (h_1 : vp_in (x3 + 1) L) (h_2 : vp_in (x3 + 2) L) (h_3 : vp_in (x3 + 3) L) (h_4 : vp_in (x3 + 4) L) (h_5 : vp_in (x3 + 5) L) (nx : ∀ σ1 τ1, Rel σ1 τ1 → GL p l e s m below meth c b D cI cZ cS a aM 1164 [(3, .int x3), (2, .ref (aM 0)), (1, .ref (a 0)), (0, .ref b)] [] σ1 τ1) : GL p l e s m below meth c b D cI cZ cS a aM 644 [(3, .int x3), (2, .ref (aM 0)), (1, .ref (a 0)), (0, .ref b)] [] σ τ := by
  refine l_aload_n (pc := 644) X rfl 2 rfl dL_law_644 ?_
  refine l_aload_n (pc := 645) X rfl 3 rfl dL_law_645 ?_
  refine l_iload_n (pc := 646) X rfl 0 rfl dL_law_646 ?_
  refine l_iconst (pc := 647) X ic_1 dL_law_647 ?_
  refine l_iadd (pc := 648) X dL_law_648 ?_
  refine l_sld (pc := 649) X hX hbl h_1 dL_law_649 ?_
  refine l_aload_n (pc := 650) X rfl 3 rfl dL_law_650 ?_
  refine l_iload_n (pc := 651) X rfl 0 rfl dL_law_651 ?_
  refine l_iconst (pc := 652) X ic_2 dL_law_652 ?_
  refine l_iadd (pc := 653) X dL_law_653 ?_
  refine l_sld (pc := 654) X hX hbl h_2 dL_law_654 ?_
  refine l_aload_n (pc := 655) X rfl 3 rfl dL_law_655 ?_
  refine l_iload_n (pc := 656) X rfl 0 rfl dL_law_656 ?_
  refine l_iconst (pc := 657) X ic_3 dL_law_657 ?_
  refine l_iadd (pc := 658) X dL_law_658 ?_
  refine l_sld (pc := 659) X hX hbl h_3 dL_law_659 ?_
  have z := op_heard hRel (xs (x3 + 1).toNatClampNeg) (xs (x3 + 2).toNatClampNeg) (xs (x3 + 3).toNatClampNeg)
  refine l_xMi (pc := 660) (As := [.int (xs (x3 + 1).toNatClampNeg), .int (xs (x3 + 2).toNatClampNeg), .int (xs (x3 + 3).toNatClampNeg)]) X hKC hSX mi_X6_heard (c_X6_heard (xs (x3 + 1).toNatClampNeg) (xs (x3 + 2).toNatClampNeg) (xs (x3 + 3).toNatClampNeg) σ _) kw2_189 ⟨rfl, rfl⟩ ⟨Nat.le_of_ble_eq_true rfl, Nat.le_of_ble_eq_true rfl⟩ rfl (Nat.le_of_ble_eq_true rfl) dL_law_660 rfl z (fun r1 σ1 z => ?_)
  refine l_aload_n (pc := 663) X rfl 1 rfl dL_law_663 ?_
  refine l_aload_n (pc := 664) X rfl 3 rfl dL_law_664 ?_
  refine l_iload_n (pc := 665) X rfl 0 rfl dL_law_665 ?_
  refine l_iconst (pc := 666) X ic_1 dL_law_666 ?_
  refine l_iadd (pc := 667) X dL_law_667 ?_
  refine l_sld (pc := 668) X hX hbl h_1 dL_law_668 ?_
  refine l_aload_n (pc := 669) X rfl 3 rfl dL_law_669 ?_
  refine l_iload_n (pc := 670) X rfl 0 rfl dL_law_670 ?_
  refine l_iconst (pc := 671) X ic_2 dL_law_671 ?_
  refine l_iadd (pc := 672) X dL_law_672 ?_
  refine l_sld (pc := 673) X hX hbl h_2 dL_law_673 ?_
  refine l_aload_n (pc := 674) X rfl 3 rfl dL_law_674 ?_
  refine l_iload_n (pc := 675) X rfl 0 rfl dL_law_675 ?_
  refine l_iconst (pc := 676) X ic_3 dL_law_676 ?_
  refine l_iadd (pc := 677) X dL_law_677 ?_
  refine l_sld (pc := 678) X hX hbl h_3 dL_law_678 ?_
  refine l_mMi (pc := 679) (As := [.int (xs (x3 + 1).toNatClampNeg), .int (xs (x3 + 2).toNatClampNeg), .int (xs (x3 + 3).toNatClampNeg)]) X hKM mi_X7_heard (c_X7_heard (xs (x3 + 1).toNatClampNeg) (xs (x3 + 2).toNatClampNeg) (xs (x3 + 3).toNatClampNeg) τ _) kw4_180 ⟨rfl, rfl⟩ ⟨Nat.le_of_ble_eq_true rfl, Nat.le_of_ble_eq_true rfl⟩ rfl (Nat.le_of_ble_eq_true rfl) dL_law_679 rfl z (fun r2 τ1 z => ?_)
  refine l_icmp_eq (pc := 682) (tgt := 1164) X (by decide) dL_law_682 (fun c_ => ?_) (fun c_ => ?_)
  · exact nx σ1 τ1 z.2
  · exact absurd z.1 c_
theorem law_17 (X : CallFix p m c cL_law 4 s #[Value.ref b] AW "TrainNoteLaw") (hKC : va_K D vwCl (tyC cI cZ cS) s) (hKM : va_K D vwCl (tyM cI) s) (hSX : SXC tS tF (fun q : Nat => s.heap.size ≤ q) s s.heap) (hX : va_X b L xs s s.heap) (hbl : b < s.heap.size) (hRel : Rel σ τ) (h_1 : vp_in (x3 + 1) L) (h_2 : vp_in (x3 + 2) L) (h_3 : vp_in (x3 + 3) L) (h_4 : vp_in (x3 + 4) L) (h_5 : vp_in (x3 + 5) L) (nx : ∀ σ1 τ1, Rel σ1 τ1 → GL p l e s m below meth c b D cI cZ cS a aM 1164 [(3, .int x3), (2, .ref (aM 0)), (1, .ref (a 0)), (0, .ref b)] [] σ1 τ1) : GL p l e s m below meth c b D cI cZ cS a aM 687 [(3, .int x3), (2, .ref (aM 0)), (1, .ref (a 0)), (0, .ref b)] [] σ τ := by
  refine l_aload_n (pc := 687) X rfl 2 rfl dL_law_687 ?_
  have z := op_forget hRel
  refine l_xMi (pc := 688) (As := []) X hKC hSX mi_X6_forget (c_X6_forget σ _) kw2_205 ⟨rfl, rfl⟩ ⟨Nat.le_of_ble_eq_true rfl, Nat.le_of_ble_eq_true rfl⟩ rfl (Nat.le_of_ble_eq_true rfl) dL_law_688 rfl z (fun r1 σ1 z => ?_)
  refine l_aload_n (pc := 691) X rfl 1 rfl dL_law_691 ?_
  refine l_mMi (pc := 692) (As := []) X hKM mi_X7_forget (c_X7_forget τ _) kw4_186 ⟨rfl, rfl⟩ ⟨Nat.le_of_ble_eq_true rfl, Nat.le_of_ble_eq_true rfl⟩ rfl (Nat.le_of_ble_eq_true rfl) dL_law_692 rfl z (fun r2 τ1 z => ?_)
  refine l_icmp_eq (pc := 695) (tgt := 1164) X (by decide) dL_law_695 (fun c_ => ?_) (fun c_ => ?_)
  · exact nx σ1 τ1 z.2
  · exact absurd z.1 c_
theorem law_18 (X : CallFix p m c cL_law 4 s #[Value.ref b] AW "TrainNoteLaw") (hKC : va_K D vwCl (tyC cI cZ cS) s) (hKM : va_K D vwCl (tyM cI) s) (hSX : SXC tS tF (fun q : Nat => s.heap.size ≤ q) s s.heap) (hX : va_X b L xs s s.heap) (hbl : b < s.heap.size) (hRel : Rel σ τ) (h_1 : vp_in (x3 + 1) L) (h_2 : vp_in (x3 + 2) L) (h_3 : vp_in (x3 + 3) L) (h_4 : vp_in (x3 + 4) L) (h_5 : vp_in (x3 + 5) L) (nx : ∀ σ1 τ1, Rel σ1 τ1 → GL p l e s m below meth c b D cI cZ cS a aM 1164 [(3, .int x3), (2, .ref (aM 0)), (1, .ref (a 0)), (0, .ref b)] [] σ1 τ1) : GL p l e s m below meth c b D cI cZ cS a aM 700 [(3, .int x3), (2, .ref (aM 0)), (1, .ref (a 0)), (0, .ref b)] [] σ τ := by
  refine l_aload_n (pc := 700) X rfl 2 rfl dL_law_700 ?_
  refine l_aload_n (pc := 701) X rfl 3 rfl dL_law_701 ?_
  refine l_iload_n (pc := 702) X rfl 0 rfl dL_law_702 ?_
  refine l_iconst (pc := 703) X ic_1 dL_law_703 ?_
  refine l_iadd (pc := 704) X dL_law_704 ?_
  refine l_sld (pc := 705) X hX hbl h_1 dL_law_705 ?_
  have z := op_read hRel (xs (x3 + 1).toNatClampNeg)
  refine l_xMi (pc := 706) (As := [.int (xs (x3 + 1).toNatClampNeg)]) X hKC hSX mi_X6_read (c_X6_read (xs (x3 + 1).toNatClampNeg) σ _) kw2_209 ⟨rfl, rfl⟩ ⟨Nat.le_of_ble_eq_true rfl, Nat.le_of_ble_eq_true rfl⟩ rfl (Nat.le_of_ble_eq_true rfl) dL_law_706 rfl z (fun r1 σ1 z => ?_)
  refine l_aload_n (pc := 709) X rfl 1 rfl dL_law_709 ?_
  refine l_aload_n (pc := 710) X rfl 3 rfl dL_law_710 ?_
  refine l_iload_n (pc := 711) X rfl 0 rfl dL_law_711 ?_
  refine l_iconst (pc := 712) X ic_1 dL_law_712 ?_
  refine l_iadd (pc := 713) X dL_law_713 ?_
  refine l_sld (pc := 714) X hX hbl h_1 dL_law_714 ?_
  refine l_mMi (pc := 715) (As := [.int (xs (x3 + 1).toNatClampNeg)]) X hKM mi_X7_read (c_X7_read (xs (x3 + 1).toNatClampNeg) τ _) kw4_190 ⟨rfl, rfl⟩ ⟨Nat.le_of_ble_eq_true rfl, Nat.le_of_ble_eq_true rfl⟩ rfl (Nat.le_of_ble_eq_true rfl) dL_law_715 rfl z (fun r2 τ1 z => ?_)
  refine l_icmp_eq (pc := 718) (tgt := 1164) X (by decide) dL_law_718 (fun c_ => ?_) (fun c_ => ?_)
  · exact nx σ1 τ1 z.2
  · exact absurd z.1 c_
theorem law_19 (X : CallFix p m c cL_law 4 s #[Value.ref b] AW "TrainNoteLaw") (hKC : va_K D vwCl (tyC cI cZ cS) s) (hKM : va_K D vwCl (tyM cI) s) (hSX : SXC tS tF (fun q : Nat => s.heap.size ≤ q) s s.heap) (hX : va_X b L xs s s.heap) (hbl : b < s.heap.size) (hRel : Rel σ τ) (h_1 : vp_in (x3 + 1) L) (h_2 : vp_in (x3 + 2) L) (h_3 : vp_in (x3 + 3) L) (h_4 : vp_in (x3 + 4) L) (h_5 : vp_in (x3 + 5) L) (nx : ∀ σ1 τ1, Rel σ1 τ1 → GL p l e s m below meth c b D cI cZ cS a aM 1164 [(3, .int x3), (2, .ref (aM 0)), (1, .ref (a 0)), (0, .ref b)] [] σ1 τ1) : GL p l e s m below meth c b D cI cZ cS a aM 723 [(3, .int x3), (2, .ref (aM 0)), (1, .ref (a 0)), (0, .ref b)] [] σ τ := by
  refine l_aload_n (pc := 723) X rfl 2 rfl dL_law_723 ?_
  refine l_aload_n (pc := 724) X rfl 3 rfl dL_law_724 ?_
  refine l_iload_n (pc := 725) X rfl 0 rfl dL_law_725 ?_
  refine l_iconst (pc := 726) X ic_1 dL_law_726 ?_
  refine l_iadd (pc := 727) X dL_law_727 ?_
  refine l_sld (pc := 728) X hX hbl h_1 dL_law_728 ?_
  have z := op_speeds hRel (xs (x3 + 1).toNatClampNeg)
  refine l_xMi (pc := 729) (As := [.int (xs (x3 + 1).toNatClampNeg)]) X hKC hSX mi_X6_speeds (c_X6_speeds (xs (x3 + 1).toNatClampNeg) σ _) kw2_224 ⟨rfl, rfl⟩ ⟨Nat.le_of_ble_eq_true rfl, Nat.le_of_ble_eq_true rfl⟩ rfl (Nat.le_of_ble_eq_true rfl) dL_law_729 rfl z (fun r1 σ1 z => ?_)
  refine l_aload_n (pc := 732) X rfl 1 rfl dL_law_732 ?_
  refine l_aload_n (pc := 733) X rfl 3 rfl dL_law_733 ?_
  refine l_iload_n (pc := 734) X rfl 0 rfl dL_law_734 ?_
  refine l_iconst (pc := 735) X ic_1 dL_law_735 ?_
  refine l_iadd (pc := 736) X dL_law_736 ?_
  refine l_sld (pc := 737) X hX hbl h_1 dL_law_737 ?_
  refine l_mMi (pc := 738) (As := [.int (xs (x3 + 1).toNatClampNeg)]) X hKM mi_X7_speeds (c_X7_speeds (xs (x3 + 1).toNatClampNeg) τ _) kw4_195 ⟨rfl, rfl⟩ ⟨Nat.le_of_ble_eq_true rfl, Nat.le_of_ble_eq_true rfl⟩ rfl (Nat.le_of_ble_eq_true rfl) dL_law_738 rfl z (fun r2 τ1 z => ?_)
  refine l_icmp_eq (pc := 741) (tgt := 1164) X (by decide) dL_law_741 (fun c_ => ?_) (fun c_ => ?_)
  · exact nx σ1 τ1 z.2
  · exact absurd z.1 c_
theorem law_20 (X : CallFix p m c cL_law 4 s #[Value.ref b] AW "TrainNoteLaw") (hKC : va_K D vwCl (tyC cI cZ cS) s) (hKM : va_K D vwCl (tyM cI) s) (hSX : SXC tS tF (fun q : Nat => s.heap.size ≤ q) s s.heap) (hX : va_X b L xs s s.heap) (hbl : b < s.heap.size) (hRel : Rel σ τ) (h_1 : vp_in (x3 + 1) L) (h_2 : vp_in (x3 + 2) L) (h_3 : vp_in (x3 + 3) L) (h_4 : vp_in (x3 + 4) L) (h_5 : vp_in (x3 + 5) L) (nx : ∀ σ1 τ1, Rel σ1 τ1 → GL p l e s m below meth c b D cI cZ cS a aM 1164 [(3, .int x3), (2, .ref (aM 0)), (1, .ref (a 0)), (0, .ref b)] [] σ1 τ1) : GL p l e s m below meth c b D cI cZ cS a aM 746 [(3, .int x3), (2, .ref (aM 0)), (1, .ref (a 0)), (0, .ref b)] [] σ τ := by
  refine l_aload_n (pc := 746) X rfl 2 rfl dL_law_746 ?_
  have z := op_cows hRel
  refine l_xMi (pc := 747) (As := []) X hKC hSX mi_X6_cows (c_X6_cows σ _) kw2_236 ⟨rfl, rfl⟩ ⟨Nat.le_of_ble_eq_true rfl, Nat.le_of_ble_eq_true rfl⟩ rfl (Nat.le_of_ble_eq_true rfl) dL_law_747 rfl z (fun r1 σ1 z => ?_)
  refine l_aload_n (pc := 750) X rfl 1 rfl dL_law_750 ?_
  refine l_mMi (pc := 751) (As := []) X hKM mi_X7_cows (c_X7_cows τ _) kw4_207 ⟨rfl, rfl⟩ ⟨Nat.le_of_ble_eq_true rfl, Nat.le_of_ble_eq_true rfl⟩ rfl (Nat.le_of_ble_eq_true rfl) dL_law_751 rfl z (fun r2 τ1 z => ?_)
  refine l_icmp_eq (pc := 754) (tgt := 1164) X (by decide) dL_law_754 (fun c_ => ?_) (fun c_ => ?_)
  · exact nx σ1 τ1 z.2
  · exact absurd z.1 c_
theorem law_21 (X : CallFix p m c cL_law 4 s #[Value.ref b] AW "TrainNoteLaw") (hKC : va_K D vwCl (tyC cI cZ cS) s) (hKM : va_K D vwCl (tyM cI) s) (hSX : SXC tS tF (fun q : Nat => s.heap.size ≤ q) s s.heap) (hX : va_X b L xs s s.heap) (hbl : b < s.heap.size) (hRel : Rel σ τ) (h_1 : vp_in (x3 + 1) L) (h_2 : vp_in (x3 + 2) L) (h_3 : vp_in (x3 + 3) L) (h_4 : vp_in (x3 + 4) L) (h_5 : vp_in (x3 + 5) L) (nx : ∀ σ1 τ1, Rel σ1 τ1 → GL p l e s m below meth c b D cI cZ cS a aM 1164 [(3, .int x3), (2, .ref (aM 0)), (1, .ref (a 0)), (0, .ref b)] [] σ1 τ1) : GL p l e s m below meth c b D cI cZ cS a aM 759 [(3, .int x3), (2, .ref (aM 0)), (1, .ref (a 0)), (0, .ref b)] [] σ τ := by
  refine l_aload_n (pc := 759) X rfl 2 rfl dL_law_759 ?_
  have z := op_ask hRel
  refine l_xMi (pc := 760) (As := []) X hKC hSX mi_X6_ask (c_X6_ask σ _) kw3_0 ⟨rfl, rfl⟩ ⟨Nat.le_of_ble_eq_true rfl, Nat.le_of_ble_eq_true rfl⟩ rfl (Nat.le_of_ble_eq_true rfl) dL_law_760 rfl z (fun r1 σ1 z => ?_)
  refine l_aload_n (pc := 763) X rfl 1 rfl dL_law_763 ?_
  refine l_mMi (pc := 764) (As := []) X hKM mi_X7_ask (c_X7_ask τ _) kw4_215 ⟨rfl, rfl⟩ ⟨Nat.le_of_ble_eq_true rfl, Nat.le_of_ble_eq_true rfl⟩ rfl (Nat.le_of_ble_eq_true rfl) dL_law_764 rfl z (fun r2 τ1 z => ?_)
  refine l_icmp_eq (pc := 767) (tgt := 1164) X (by decide) dL_law_767 (fun c_ => ?_) (fun c_ => ?_)
  · exact nx σ1 τ1 z.2
  · exact absurd z.1 c_
theorem law_22 (X : CallFix p m c cL_law 4 s #[Value.ref b] AW "TrainNoteLaw") (hKC : va_K D vwCl (tyC cI cZ cS) s) (hKM : va_K D vwCl (tyM cI) s) (hSX : SXC tS tF (fun q : Nat => s.heap.size ≤ q) s s.heap) (hX : va_X b L xs s s.heap) (hbl : b < s.heap.size) (hRel : Rel σ τ) (h_1 : vp_in (x3 + 1) L) (h_2 : vp_in (x3 + 2) L) (h_3 : vp_in (x3 + 3) L) (h_4 : vp_in (x3 + 4) L) (h_5 : vp_in (x3 + 5) L) (nx : ∀ σ1 τ1, Rel σ1 τ1 → GL p l e s m below meth c b D cI cZ cS a aM 1164 [(3, .int x3), (2, .ref (aM 0)), (1, .ref (a 0)), (0, .ref b)] [] σ1 τ1) : GL p l e s m below meth c b D cI cZ cS a aM 772 [(3, .int x3), (2, .ref (aM 0)), (1, .ref (a 0)), (0, .ref b)] [] σ τ := by
  refine l_aload_n (pc := 772) X rfl 2 rfl dL_law_772 ?_
  refine l_aload_n (pc := 773) X rfl 3 rfl dL_law_773 ?_
  refine l_iload_n (pc := 774) X rfl 0 rfl dL_law_774 ?_
  refine l_iconst (pc := 775) X ic_1 dL_law_775 ?_
  refine l_iadd (pc := 776) X dL_law_776 ?_
  refine l_sld (pc := 777) X hX hbl h_1 dL_law_777 ?_
  refine l_aload_n (pc := 778) X rfl 3 rfl dL_law_778 ?_
  refine l_iload_n (pc := 779) X rfl 0 rfl dL_law_779 ?_
  refine l_iconst (pc := 780) X ic_2 dL_law_780 ?_
  refine l_iadd (pc := 781) X dL_law_781 ?_
  refine l_sld (pc := 782) X hX hbl h_2 dL_law_782 ?_
  refine l_aload_n (pc := 783) X rfl 3 rfl dL_law_783 ?_
  refine l_iload_n (pc := 784) X rfl 0 rfl dL_law_784 ?_
  refine l_iconst (pc := 785) X ic_3 dL_law_785 ?_
  refine l_iadd (pc := 786) X dL_law_786 ?_
  refine l_sld (pc := 787) X hX hbl h_3 dL_law_787 ?_
  refine l_aload_n (pc := 788) X rfl 3 rfl dL_law_788 ?_
  refine l_iload_n (pc := 789) X rfl 0 rfl dL_law_789 ?_
  refine l_iconst (pc := 790) X ic_4 dL_law_790 ?_
  refine l_iadd (pc := 791) X dL_law_791 ?_
  refine l_sld (pc := 792) X hX hbl h_4 dL_law_792 ?_
  have z := op_herd hRel (xs (x3 + 1).toNatClampNeg) (xs (x3 + 2).toNatClampNeg) (xs (x3 + 3).toNatClampNeg) (xs (x3 + 4).toNatClampNeg)
  refine l_xMl (pc := 793) (As := [.int (xs (x3 + 1).toNatClampNeg), .int (xs (x3 + 2).toNatClampNeg), .int (xs (x3 + 3).toNatClampNeg), .int (xs (x3 + 4).toNatClampNeg)]) X hKC hSX mi_X6_herd (c_X6_herd (xs (x3 + 1).toNatClampNeg) (xs (x3 + 2).toNatClampNeg) (xs (x3 + 3).toNatClampNeg) (xs (x3 + 4).toNatClampNeg) σ _) kw3_8 ⟨rfl, rfl⟩ ⟨Nat.le_of_ble_eq_true rfl, Nat.le_of_ble_eq_true rfl⟩ rfl (Nat.le_of_ble_eq_true rfl) dL_law_793 rfl z (fun r1 σ1 z => ?_)
  refine l_aload_n (pc := 796) X rfl 1 rfl dL_law_796 ?_
  refine l_aload_n (pc := 797) X rfl 3 rfl dL_law_797 ?_
  refine l_iload_n (pc := 798) X rfl 0 rfl dL_law_798 ?_
  refine l_iconst (pc := 799) X ic_1 dL_law_799 ?_
  refine l_iadd (pc := 800) X dL_law_800 ?_
  refine l_sld (pc := 801) X hX hbl h_1 dL_law_801 ?_
  refine l_aload_n (pc := 802) X rfl 3 rfl dL_law_802 ?_
  refine l_iload_n (pc := 803) X rfl 0 rfl dL_law_803 ?_
  refine l_iconst (pc := 804) X ic_2 dL_law_804 ?_
  refine l_iadd (pc := 805) X dL_law_805 ?_
  refine l_sld (pc := 806) X hX hbl h_2 dL_law_806 ?_
  refine l_aload_n (pc := 807) X rfl 3 rfl dL_law_807 ?_
  refine l_iload_n (pc := 808) X rfl 0 rfl dL_law_808 ?_
  refine l_iconst (pc := 809) X ic_3 dL_law_809 ?_
  refine l_iadd (pc := 810) X dL_law_810 ?_
  refine l_sld (pc := 811) X hX hbl h_3 dL_law_811 ?_
  refine l_aload_n (pc := 812) X rfl 3 rfl dL_law_812 ?_
  refine l_iload_n (pc := 813) X rfl 0 rfl dL_law_813 ?_
  refine l_iconst (pc := 814) X ic_4 dL_law_814 ?_
  refine l_iadd (pc := 815) X dL_law_815 ?_
  refine l_sld (pc := 816) X hX hbl h_4 dL_law_816 ?_
  refine l_mMl (pc := 817) (As := [.int (xs (x3 + 1).toNatClampNeg), .int (xs (x3 + 2).toNatClampNeg), .int (xs (x3 + 3).toNatClampNeg), .int (xs (x3 + 4).toNatClampNeg)]) X hKM mi_X7_herd (c_X7_herd (xs (x3 + 1).toNatClampNeg) (xs (x3 + 2).toNatClampNeg) (xs (x3 + 3).toNatClampNeg) (xs (x3 + 4).toNatClampNeg) τ _) kw4_227 ⟨rfl, rfl⟩ ⟨Nat.le_of_ble_eq_true rfl, Nat.le_of_ble_eq_true rfl⟩ rfl (Nat.le_of_ble_eq_true rfl) dL_law_817 rfl z (fun r2 τ1 z => ?_)
  refine l_lcmp (pc := 820) X dL_law_820 ?_
  refine l_if_eq (pc := 821) (tgt := 1164) X (by decide) dL_law_821 (fun c_ => ?_) (fun c_ => ?_)
  · exact nx σ1 τ1 z.2
  · exact absurd (by rw [z.1]; exact lg_cmp_self _) c_
theorem law_23 (X : CallFix p m c cL_law 4 s #[Value.ref b] AW "TrainNoteLaw") (hKC : va_K D vwCl (tyC cI cZ cS) s) (hKM : va_K D vwCl (tyM cI) s) (hSX : SXC tS tF (fun q : Nat => s.heap.size ≤ q) s s.heap) (hX : va_X b L xs s s.heap) (hbl : b < s.heap.size) (hRel : Rel σ τ) (h_1 : vp_in (x3 + 1) L) (h_2 : vp_in (x3 + 2) L) (h_3 : vp_in (x3 + 3) L) (h_4 : vp_in (x3 + 4) L) (h_5 : vp_in (x3 + 5) L) (nx : ∀ σ1 τ1, Rel σ1 τ1 → GL p l e s m below meth c b D cI cZ cS a aM 1164 [(3, .int x3), (2, .ref (aM 0)), (1, .ref (a 0)), (0, .ref b)] [] σ1 τ1) : GL p l e s m below meth c b D cI cZ cS a aM 826 [(3, .int x3), (2, .ref (aM 0)), (1, .ref (a 0)), (0, .ref b)] [] σ τ := by
  refine l_aload_n (pc := 826) X rfl 2 rfl dL_law_826 ?_
  refine l_aload_n (pc := 827) X rfl 3 rfl dL_law_827 ?_
  refine l_iload_n (pc := 828) X rfl 0 rfl dL_law_828 ?_
  refine l_iconst (pc := 829) X ic_1 dL_law_829 ?_
  refine l_iadd (pc := 830) X dL_law_830 ?_
  refine l_sld (pc := 831) X hX hbl h_1 dL_law_831 ?_
  refine l_aload_n (pc := 832) X rfl 3 rfl dL_law_832 ?_
  refine l_iload_n (pc := 833) X rfl 0 rfl dL_law_833 ?_
  refine l_iconst (pc := 834) X ic_2 dL_law_834 ?_
  refine l_iadd (pc := 835) X dL_law_835 ?_
  refine l_sld (pc := 836) X hX hbl h_2 dL_law_836 ?_
  refine l_aload_n (pc := 837) X rfl 3 rfl dL_law_837 ?_
  refine l_iload_n (pc := 838) X rfl 0 rfl dL_law_838 ?_
  refine l_iconst (pc := 839) X ic_3 dL_law_839 ?_
  refine l_iadd (pc := 840) X dL_law_840 ?_
  refine l_sld (pc := 841) X hX hbl h_3 dL_law_841 ?_
  have z := op_times hRel (xs (x3 + 1).toNatClampNeg) (xs (x3 + 2).toNatClampNeg) (xs (x3 + 3).toNatClampNeg)
  refine l_xMi (pc := 842) (As := [.int (xs (x3 + 1).toNatClampNeg), .int (xs (x3 + 2).toNatClampNeg), .int (xs (x3 + 3).toNatClampNeg)]) X hKC hSX mi_X6_times (c_X6_times (xs (x3 + 1).toNatClampNeg) (xs (x3 + 2).toNatClampNeg) (xs (x3 + 3).toNatClampNeg) σ _) kw3_22 ⟨rfl, rfl⟩ ⟨Nat.le_of_ble_eq_true rfl, Nat.le_of_ble_eq_true rfl⟩ rfl (Nat.le_of_ble_eq_true rfl) dL_law_842 rfl z (fun r1 σ1 z => ?_)
  refine l_aload_n (pc := 845) X rfl 1 rfl dL_law_845 ?_
  refine l_aload_n (pc := 846) X rfl 3 rfl dL_law_846 ?_
  refine l_iload_n (pc := 847) X rfl 0 rfl dL_law_847 ?_
  refine l_iconst (pc := 848) X ic_1 dL_law_848 ?_
  refine l_iadd (pc := 849) X dL_law_849 ?_
  refine l_sld (pc := 850) X hX hbl h_1 dL_law_850 ?_
  refine l_aload_n (pc := 851) X rfl 3 rfl dL_law_851 ?_
  refine l_iload_n (pc := 852) X rfl 0 rfl dL_law_852 ?_
  refine l_iconst (pc := 853) X ic_2 dL_law_853 ?_
  refine l_iadd (pc := 854) X dL_law_854 ?_
  refine l_sld (pc := 855) X hX hbl h_2 dL_law_855 ?_
  refine l_aload_n (pc := 856) X rfl 3 rfl dL_law_856 ?_
  refine l_iload_n (pc := 857) X rfl 0 rfl dL_law_857 ?_
  refine l_iconst (pc := 858) X ic_3 dL_law_858 ?_
  refine l_iadd (pc := 859) X dL_law_859 ?_
  refine l_sld (pc := 860) X hX hbl h_3 dL_law_860 ?_
  refine l_mMi (pc := 861) (As := [.int (xs (x3 + 1).toNatClampNeg), .int (xs (x3 + 2).toNatClampNeg), .int (xs (x3 + 3).toNatClampNeg)]) X hKM mi_X7_times (c_X7_times (xs (x3 + 1).toNatClampNeg) (xs (x3 + 2).toNatClampNeg) (xs (x3 + 3).toNatClampNeg) τ _) kw5_7 ⟨rfl, rfl⟩ ⟨Nat.le_of_ble_eq_true rfl, Nat.le_of_ble_eq_true rfl⟩ rfl (Nat.le_of_ble_eq_true rfl) dL_law_861 rfl z (fun r2 τ1 z => ?_)
  refine l_icmp_eq (pc := 864) (tgt := 1164) X (by decide) dL_law_864 (fun c_ => ?_) (fun c_ => ?_)
  · exact nx σ1 τ1 z.2
  · exact absurd z.1 c_
theorem law_24 (X : CallFix p m c cL_law 4 s #[Value.ref b] AW "TrainNoteLaw") (hKC : va_K D vwCl (tyC cI cZ cS) s) (hKM : va_K D vwCl (tyM cI) s) (hSX : SXC tS tF (fun q : Nat => s.heap.size ≤ q) s s.heap) (hX : va_X b L xs s s.heap) (hbl : b < s.heap.size) (hRel : Rel σ τ) (h_1 : vp_in (x3 + 1) L) (h_2 : vp_in (x3 + 2) L) (h_3 : vp_in (x3 + 3) L) (h_4 : vp_in (x3 + 4) L) (h_5 : vp_in (x3 + 5) L) (nx : ∀ σ1 τ1, Rel σ1 τ1 → GL p l e s m below meth c b D cI cZ cS a aM 1164 [(3, .int x3), (2, .ref (aM 0)), (1, .ref (a 0)), (0, .ref b)] [] σ1 τ1) : GL p l e s m below meth c b D cI cZ cS a aM 869 [(3, .int x3), (2, .ref (aM 0)), (1, .ref (a 0)), (0, .ref b)] [] σ τ := by
  refine l_aload_n (pc := 869) X rfl 2 rfl dL_law_869 ?_
  refine l_aload_n (pc := 870) X rfl 3 rfl dL_law_870 ?_
  refine l_iload_n (pc := 871) X rfl 0 rfl dL_law_871 ?_
  refine l_iconst (pc := 872) X ic_1 dL_law_872 ?_
  refine l_iadd (pc := 873) X dL_law_873 ?_
  refine l_sld (pc := 874) X hX hbl h_1 dL_law_874 ?_
  refine l_aload_n (pc := 875) X rfl 3 rfl dL_law_875 ?_
  refine l_iload_n (pc := 876) X rfl 0 rfl dL_law_876 ?_
  refine l_iconst (pc := 877) X ic_2 dL_law_877 ?_
  refine l_iadd (pc := 878) X dL_law_878 ?_
  refine l_sld (pc := 879) X hX hbl h_2 dL_law_879 ?_
  refine l_aload_n (pc := 880) X rfl 3 rfl dL_law_880 ?_
  refine l_iload_n (pc := 881) X rfl 0 rfl dL_law_881 ?_
  refine l_iconst (pc := 882) X ic_3 dL_law_882 ?_
  refine l_iadd (pc := 883) X dL_law_883 ?_
  refine l_sld (pc := 884) X hX hbl h_3 dL_law_884 ?_
  have z := op_sheet hRel (xs (x3 + 1).toNatClampNeg) (xs (x3 + 2).toNatClampNeg) (xs (x3 + 3).toNatClampNeg)
  refine l_xMi (pc := 885) (As := [.int (xs (x3 + 1).toNatClampNeg), .int (xs (x3 + 2).toNatClampNeg), .int (xs (x3 + 3).toNatClampNeg)]) X hKC hSX mi_X6_sheet (c_X6_sheet (xs (x3 + 1).toNatClampNeg) (xs (x3 + 2).toNatClampNeg) (xs (x3 + 3).toNatClampNeg) σ _) kw3_33 ⟨rfl, rfl⟩ ⟨Nat.le_of_ble_eq_true rfl, Nat.le_of_ble_eq_true rfl⟩ rfl (Nat.le_of_ble_eq_true rfl) dL_law_885 rfl z (fun r1 σ1 z => ?_)
  refine l_aload_n (pc := 888) X rfl 1 rfl dL_law_888 ?_
  refine l_aload_n (pc := 889) X rfl 3 rfl dL_law_889 ?_
  refine l_iload_n (pc := 890) X rfl 0 rfl dL_law_890 ?_
  refine l_iconst (pc := 891) X ic_1 dL_law_891 ?_
  refine l_iadd (pc := 892) X dL_law_892 ?_
  refine l_sld (pc := 893) X hX hbl h_1 dL_law_893 ?_
  refine l_aload_n (pc := 894) X rfl 3 rfl dL_law_894 ?_
  refine l_iload_n (pc := 895) X rfl 0 rfl dL_law_895 ?_
  refine l_iconst (pc := 896) X ic_2 dL_law_896 ?_
  refine l_iadd (pc := 897) X dL_law_897 ?_
  refine l_sld (pc := 898) X hX hbl h_2 dL_law_898 ?_
  refine l_aload_n (pc := 899) X rfl 3 rfl dL_law_899 ?_
  refine l_iload_n (pc := 900) X rfl 0 rfl dL_law_900 ?_
  refine l_iconst (pc := 901) X ic_3 dL_law_901 ?_
  refine l_iadd (pc := 902) X dL_law_902 ?_
  refine l_sld (pc := 903) X hX hbl h_3 dL_law_903 ?_
  refine l_mMi (pc := 904) (As := [.int (xs (x3 + 1).toNatClampNeg), .int (xs (x3 + 2).toNatClampNeg), .int (xs (x3 + 3).toNatClampNeg)]) X hKM mi_X7_sheet (c_X7_sheet (xs (x3 + 1).toNatClampNeg) (xs (x3 + 2).toNatClampNeg) (xs (x3 + 3).toNatClampNeg) τ _) kw3_202 ⟨rfl, rfl⟩ ⟨Nat.le_of_ble_eq_true rfl, Nat.le_of_ble_eq_true rfl⟩ rfl (Nat.le_of_ble_eq_true rfl) dL_law_904 rfl z (fun r2 τ1 z => ?_)
  refine l_icmp_eq (pc := 907) (tgt := 1164) X (by decide) dL_law_907 (fun c_ => ?_) (fun c_ => ?_)
  · exact nx σ1 τ1 z.2
  · exact absurd z.1 c_
theorem law_25 (X : CallFix p m c cL_law 4 s #[Value.ref b] AW "TrainNoteLaw") (hKC : va_K D vwCl (tyC cI cZ cS) s) (hKM : va_K D vwCl (tyM cI) s) (hSX : SXC tS tF (fun q : Nat => s.heap.size ≤ q) s s.heap) (hX : va_X b L xs s s.heap) (hbl : b < s.heap.size) (hRel : Rel σ τ) (h_1 : vp_in (x3 + 1) L) (h_2 : vp_in (x3 + 2) L) (h_3 : vp_in (x3 + 3) L) (h_4 : vp_in (x3 + 4) L) (h_5 : vp_in (x3 + 5) L) (nx : ∀ σ1 τ1, Rel σ1 τ1 → GL p l e s m below meth c b D cI cZ cS a aM 1164 [(3, .int x3), (2, .ref (aM 0)), (1, .ref (a 0)), (0, .ref b)] [] σ1 τ1) : GL p l e s m below meth c b D cI cZ cS a aM 912 [(3, .int x3), (2, .ref (aM 0)), (1, .ref (a 0)), (0, .ref b)] [] σ τ := by
  refine l_aload_n (pc := 912) X rfl 2 rfl dL_law_912 ?_
  refine l_aload_n (pc := 913) X rfl 3 rfl dL_law_913 ?_
  refine l_iload_n (pc := 914) X rfl 0 rfl dL_law_914 ?_
  refine l_iconst (pc := 915) X ic_1 dL_law_915 ?_
  refine l_iadd (pc := 916) X dL_law_916 ?_
  refine l_sld (pc := 917) X hX hbl h_1 dL_law_917 ?_
  have z := op_lose hRel (xs (x3 + 1).toNatClampNeg)
  refine l_xMi (pc := 918) (As := [.int (xs (x3 + 1).toNatClampNeg)]) X hKC hSX mi_X6_lose (c_X6_lose (xs (x3 + 1).toNatClampNeg) σ _) kw3_49 ⟨rfl, rfl⟩ ⟨Nat.le_of_ble_eq_true rfl, Nat.le_of_ble_eq_true rfl⟩ rfl (Nat.le_of_ble_eq_true rfl) dL_law_918 rfl z (fun r1 σ1 z => ?_)
  refine l_aload_n (pc := 921) X rfl 1 rfl dL_law_921 ?_
  refine l_aload_n (pc := 922) X rfl 3 rfl dL_law_922 ?_
  refine l_iload_n (pc := 923) X rfl 0 rfl dL_law_923 ?_
  refine l_iconst (pc := 924) X ic_1 dL_law_924 ?_
  refine l_iadd (pc := 925) X dL_law_925 ?_
  refine l_sld (pc := 926) X hX hbl h_1 dL_law_926 ?_
  refine l_mMi (pc := 927) (As := [.int (xs (x3 + 1).toNatClampNeg)]) X hKM mi_X7_lose (c_X7_lose (xs (x3 + 1).toNatClampNeg) τ _) kw3_218 ⟨rfl, rfl⟩ ⟨Nat.le_of_ble_eq_true rfl, Nat.le_of_ble_eq_true rfl⟩ rfl (Nat.le_of_ble_eq_true rfl) dL_law_927 rfl z (fun r2 τ1 z => ?_)
  refine l_icmp_eq (pc := 930) (tgt := 1164) X (by decide) dL_law_930 (fun c_ => ?_) (fun c_ => ?_)
  · exact nx σ1 τ1 z.2
  · exact absurd z.1 c_
theorem law_26 (X : CallFix p m c cL_law 4 s #[Value.ref b] AW "TrainNoteLaw") (hKC : va_K D vwCl (tyC cI cZ cS) s) (hKM : va_K D vwCl (tyM cI) s) (hSX : SXC tS tF (fun q : Nat => s.heap.size ≤ q) s s.heap) (hX : va_X b L xs s s.heap) (hbl : b < s.heap.size) (hRel : Rel σ τ) (h_1 : vp_in (x3 + 1) L) (h_2 : vp_in (x3 + 2) L) (h_3 : vp_in (x3 + 3) L) (h_4 : vp_in (x3 + 4) L) (h_5 : vp_in (x3 + 5) L) (nx : ∀ σ1 τ1, Rel σ1 τ1 → GL p l e s m below meth c b D cI cZ cS a aM 1164 [(3, .int x3), (2, .ref (aM 0)), (1, .ref (a 0)), (0, .ref b)] [] σ1 τ1) : GL p l e s m below meth c b D cI cZ cS a aM 935 [(3, .int x3), (2, .ref (aM 0)), (1, .ref (a 0)), (0, .ref b)] [] σ τ := by
  refine l_aload_n (pc := 935) X rfl 2 rfl dL_law_935 ?_
  refine l_aload_n (pc := 936) X rfl 3 rfl dL_law_936 ?_
  refine l_iload_n (pc := 937) X rfl 0 rfl dL_law_937 ?_
  refine l_iconst (pc := 938) X ic_1 dL_law_938 ?_
  refine l_iadd (pc := 939) X dL_law_939 ?_
  refine l_sld (pc := 940) X hX hbl h_1 dL_law_940 ?_
  refine l_aload_n (pc := 941) X rfl 3 rfl dL_law_941 ?_
  refine l_iload_n (pc := 942) X rfl 0 rfl dL_law_942 ?_
  refine l_iconst (pc := 943) X ic_2 dL_law_943 ?_
  refine l_iadd (pc := 944) X dL_law_944 ?_
  refine l_sld (pc := 945) X hX hbl h_2 dL_law_945 ?_
  refine l_aload_n (pc := 946) X rfl 3 rfl dL_law_946 ?_
  refine l_iload_n (pc := 947) X rfl 0 rfl dL_law_947 ?_
  refine l_iconst (pc := 948) X ic_3 dL_law_948 ?_
  refine l_iadd (pc := 949) X dL_law_949 ?_
  refine l_sld (pc := 950) X hX hbl h_3 dL_law_950 ?_
  refine l_aload_n (pc := 951) X rfl 3 rfl dL_law_951 ?_
  refine l_iload_n (pc := 952) X rfl 0 rfl dL_law_952 ?_
  refine l_iconst (pc := 953) X ic_4 dL_law_953 ?_
  refine l_iadd (pc := 954) X dL_law_954 ?_
  refine l_sld (pc := 955) X hX hbl h_4 dL_law_955 ?_
  have z := op_lay hRel (xs (x3 + 1).toNatClampNeg) (xs (x3 + 2).toNatClampNeg) (xs (x3 + 3).toNatClampNeg) (xs (x3 + 4).toNatClampNeg)
  refine l_xMi (pc := 956) (As := [.int (xs (x3 + 1).toNatClampNeg), .int (xs (x3 + 2).toNatClampNeg), .int (xs (x3 + 3).toNatClampNeg), .int (xs (x3 + 4).toNatClampNeg)]) X hKC hSX mi_X6_lay (c_X6_lay (xs (x3 + 1).toNatClampNeg) (xs (x3 + 2).toNatClampNeg) (xs (x3 + 3).toNatClampNeg) (xs (x3 + 4).toNatClampNeg) σ _) kw3_53 ⟨rfl, rfl⟩ ⟨Nat.le_of_ble_eq_true rfl, Nat.le_of_ble_eq_true rfl⟩ rfl (Nat.le_of_ble_eq_true rfl) dL_law_956 rfl z (fun r1 σ1 z => ?_)
  refine l_aload_n (pc := 959) X rfl 1 rfl dL_law_959 ?_
  refine l_aload_n (pc := 960) X rfl 3 rfl dL_law_960 ?_
  refine l_iload_n (pc := 961) X rfl 0 rfl dL_law_961 ?_
  refine l_iconst (pc := 962) X ic_1 dL_law_962 ?_
  refine l_iadd (pc := 963) X dL_law_963 ?_
  refine l_sld (pc := 964) X hX hbl h_1 dL_law_964 ?_
  refine l_aload_n (pc := 965) X rfl 3 rfl dL_law_965 ?_
  refine l_iload_n (pc := 966) X rfl 0 rfl dL_law_966 ?_
  refine l_iconst (pc := 967) X ic_2 dL_law_967 ?_
  refine l_iadd (pc := 968) X dL_law_968 ?_
  refine l_sld (pc := 969) X hX hbl h_2 dL_law_969 ?_
  refine l_aload_n (pc := 970) X rfl 3 rfl dL_law_970 ?_
  refine l_iload_n (pc := 971) X rfl 0 rfl dL_law_971 ?_
  refine l_iconst (pc := 972) X ic_3 dL_law_972 ?_
  refine l_iadd (pc := 973) X dL_law_973 ?_
  refine l_sld (pc := 974) X hX hbl h_3 dL_law_974 ?_
  refine l_aload_n (pc := 975) X rfl 3 rfl dL_law_975 ?_
  refine l_iload_n (pc := 976) X rfl 0 rfl dL_law_976 ?_
  refine l_iconst (pc := 977) X ic_4 dL_law_977 ?_
  refine l_iadd (pc := 978) X dL_law_978 ?_
  refine l_sld (pc := 979) X hX hbl h_4 dL_law_979 ?_
  refine l_mMi (pc := 980) (As := [.int (xs (x3 + 1).toNatClampNeg), .int (xs (x3 + 2).toNatClampNeg), .int (xs (x3 + 3).toNatClampNeg), .int (xs (x3 + 4).toNatClampNeg)]) X hKM mi_X7_lay (c_X7_lay (xs (x3 + 1).toNatClampNeg) (xs (x3 + 2).toNatClampNeg) (xs (x3 + 3).toNatClampNeg) (xs (x3 + 4).toNatClampNeg) τ _) kw3_222 ⟨rfl, rfl⟩ ⟨Nat.le_of_ble_eq_true rfl, Nat.le_of_ble_eq_true rfl⟩ rfl (Nat.le_of_ble_eq_true rfl) dL_law_980 rfl z (fun r2 τ1 z => ?_)
  refine l_icmp_eq (pc := 983) (tgt := 1164) X (by decide) dL_law_983 (fun c_ => ?_) (fun c_ => ?_)
  · exact nx σ1 τ1 z.2
  · exact absurd z.1 c_
theorem law_27 (X : CallFix p m c cL_law 4 s #[Value.ref b] AW "TrainNoteLaw") (hKC : va_K D vwCl (tyC cI cZ cS) s) (hKM : va_K D vwCl (tyM cI) s) (hSX : SXC tS tF (fun q : Nat => s.heap.size ≤ q) s s.heap) (hX : va_X b L xs s s.heap) (hbl : b < s.heap.size) (hRel : Rel σ τ) (h_1 : vp_in (x3 + 1) L) (h_2 : vp_in (x3 + 2) L) (h_3 : vp_in (x3 + 3) L) (h_4 : vp_in (x3 + 4) L) (h_5 : vp_in (x3 + 5) L) (nx : ∀ σ1 τ1, Rel σ1 τ1 → GL p l e s m below meth c b D cI cZ cS a aM 1164 [(3, .int x3), (2, .ref (aM 0)), (1, .ref (a 0)), (0, .ref b)] [] σ1 τ1) : GL p l e s m below meth c b D cI cZ cS a aM 988 [(3, .int x3), (2, .ref (aM 0)), (1, .ref (a 0)), (0, .ref b)] [] σ τ := by
  refine l_aload_n (pc := 988) X rfl 2 rfl dL_law_988 ?_
  refine l_aload_n (pc := 989) X rfl 3 rfl dL_law_989 ?_
  refine l_iload_n (pc := 990) X rfl 0 rfl dL_law_990 ?_
  refine l_iconst (pc := 991) X ic_1 dL_law_991 ?_
  refine l_iadd (pc := 992) X dL_law_992 ?_
  refine l_sld (pc := 993) X hX hbl h_1 dL_law_993 ?_
  refine l_aload_n (pc := 994) X rfl 3 rfl dL_law_994 ?_
  refine l_iload_n (pc := 995) X rfl 0 rfl dL_law_995 ?_
  refine l_iconst (pc := 996) X ic_2 dL_law_996 ?_
  refine l_iadd (pc := 997) X dL_law_997 ?_
  refine l_sld (pc := 998) X hX hbl h_2 dL_law_998 ?_
  refine l_aload_n (pc := 999) X rfl 3 rfl dL_law_999 ?_
  refine l_iload_n (pc := 1000) X rfl 0 rfl dL_law_1000 ?_
  refine l_iconst (pc := 1001) X ic_3 dL_law_1001 ?_
  refine l_iadd (pc := 1002) X dL_law_1002 ?_
  refine l_sld (pc := 1003) X hX hbl h_3 dL_law_1003 ?_
  have z := op_get hRel (xs (x3 + 1).toNatClampNeg) (xs (x3 + 2).toNatClampNeg) (xs (x3 + 3).toNatClampNeg)
  refine l_xMi (pc := 1004) (As := [.int (xs (x3 + 1).toNatClampNeg), .int (xs (x3 + 2).toNatClampNeg), .int (xs (x3 + 3).toNatClampNeg)]) X hKC hSX mi_X6_get (c_X6_get (xs (x3 + 1).toNatClampNeg) (xs (x3 + 2).toNatClampNeg) (xs (x3 + 3).toNatClampNeg) σ _) kw3_64 ⟨rfl, rfl⟩ ⟨Nat.le_of_ble_eq_true rfl, Nat.le_of_ble_eq_true rfl⟩ rfl (Nat.le_of_ble_eq_true rfl) dL_law_1004 rfl z (fun r1 σ1 z => ?_)
  refine l_aload_n (pc := 1007) X rfl 1 rfl dL_law_1007 ?_
  refine l_aload_n (pc := 1008) X rfl 3 rfl dL_law_1008 ?_
  refine l_iload_n (pc := 1009) X rfl 0 rfl dL_law_1009 ?_
  refine l_iconst (pc := 1010) X ic_1 dL_law_1010 ?_
  refine l_iadd (pc := 1011) X dL_law_1011 ?_
  refine l_sld (pc := 1012) X hX hbl h_1 dL_law_1012 ?_
  refine l_aload_n (pc := 1013) X rfl 3 rfl dL_law_1013 ?_
  refine l_iload_n (pc := 1014) X rfl 0 rfl dL_law_1014 ?_
  refine l_iconst (pc := 1015) X ic_2 dL_law_1015 ?_
  refine l_iadd (pc := 1016) X dL_law_1016 ?_
  refine l_sld (pc := 1017) X hX hbl h_2 dL_law_1017 ?_
  refine l_aload_n (pc := 1018) X rfl 3 rfl dL_law_1018 ?_
  refine l_iload_n (pc := 1019) X rfl 0 rfl dL_law_1019 ?_
  refine l_iconst (pc := 1020) X ic_3 dL_law_1020 ?_
  refine l_iadd (pc := 1021) X dL_law_1021 ?_
  refine l_sld (pc := 1022) X hX hbl h_3 dL_law_1022 ?_
  refine l_mMi (pc := 1023) (As := [.int (xs (x3 + 1).toNatClampNeg), .int (xs (x3 + 2).toNatClampNeg), .int (xs (x3 + 3).toNatClampNeg)]) X hKM mi_X7_get (c_X7_get (xs (x3 + 1).toNatClampNeg) (xs (x3 + 2).toNatClampNeg) (xs (x3 + 3).toNatClampNeg) τ _) kw3_233 ⟨rfl, rfl⟩ ⟨Nat.le_of_ble_eq_true rfl, Nat.le_of_ble_eq_true rfl⟩ rfl (Nat.le_of_ble_eq_true rfl) dL_law_1023 rfl z (fun r2 τ1 z => ?_)
  refine l_icmp_eq (pc := 1026) (tgt := 1164) X (by decide) dL_law_1026 (fun c_ => ?_) (fun c_ => ?_)
  · exact nx σ1 τ1 z.2
  · exact absurd z.1 c_
theorem law_28 (X : CallFix p m c cL_law 4 s #[Value.ref b] AW "TrainNoteLaw") (hKC : va_K D vwCl (tyC cI cZ cS) s) (hKM : va_K D vwCl (tyM cI) s) (hSX : SXC tS tF (fun q : Nat => s.heap.size ≤ q) s s.heap) (hX : va_X b L xs s s.heap) (hbl : b < s.heap.size) (hRel : Rel σ τ) (h_1 : vp_in (x3 + 1) L) (h_2 : vp_in (x3 + 2) L) (h_3 : vp_in (x3 + 3) L) (h_4 : vp_in (x3 + 4) L) (h_5 : vp_in (x3 + 5) L) (nx : ∀ σ1 τ1, Rel σ1 τ1 → GL p l e s m below meth c b D cI cZ cS a aM 1164 [(3, .int x3), (2, .ref (aM 0)), (1, .ref (a 0)), (0, .ref b)] [] σ1 τ1) : GL p l e s m below meth c b D cI cZ cS a aM 1031 [(3, .int x3), (2, .ref (aM 0)), (1, .ref (a 0)), (0, .ref b)] [] σ τ := by
  refine l_aload_n (pc := 1031) X rfl 2 rfl dL_law_1031 ?_
  refine l_aload_n (pc := 1032) X rfl 3 rfl dL_law_1032 ?_
  refine l_iload_n (pc := 1033) X rfl 0 rfl dL_law_1033 ?_
  refine l_iconst (pc := 1034) X ic_1 dL_law_1034 ?_
  refine l_iadd (pc := 1035) X dL_law_1035 ?_
  refine l_sld (pc := 1036) X hX hbl h_1 dL_law_1036 ?_
  refine l_aload_n (pc := 1037) X rfl 3 rfl dL_law_1037 ?_
  refine l_iload_n (pc := 1038) X rfl 0 rfl dL_law_1038 ?_
  refine l_iconst (pc := 1039) X ic_2 dL_law_1039 ?_
  refine l_iadd (pc := 1040) X dL_law_1040 ?_
  refine l_sld (pc := 1041) X hX hbl h_2 dL_law_1041 ?_
  refine l_aload_n (pc := 1042) X rfl 3 rfl dL_law_1042 ?_
  refine l_iload_n (pc := 1043) X rfl 0 rfl dL_law_1043 ?_
  refine l_iconst (pc := 1044) X ic_3 dL_law_1044 ?_
  refine l_iadd (pc := 1045) X dL_law_1045 ?_
  refine l_sld (pc := 1046) X hX hbl h_3 dL_law_1046 ?_
  refine l_aload_n (pc := 1047) X rfl 3 rfl dL_law_1047 ?_
  refine l_iload_n (pc := 1048) X rfl 0 rfl dL_law_1048 ?_
  refine l_iconst (pc := 1049) X ic_4 dL_law_1049 ?_
  refine l_iadd (pc := 1050) X dL_law_1050 ?_
  refine l_sld (pc := 1051) X hX hbl h_4 dL_law_1051 ?_
  refine l_aload_n (pc := 1052) X rfl 3 rfl dL_law_1052 ?_
  refine l_iload_n (pc := 1053) X rfl 0 rfl dL_law_1053 ?_
  refine l_iconst (pc := 1054) X ic_5 dL_law_1054 ?_
  refine l_iadd (pc := 1055) X dL_law_1055 ?_
  refine l_sld (pc := 1056) X hX hbl h_5 dL_law_1056 ?_
  have z := op_copy hRel (xs (x3 + 1).toNatClampNeg) (xs (x3 + 2).toNatClampNeg) (xs (x3 + 3).toNatClampNeg) (xs (x3 + 4).toNatClampNeg) (xs (x3 + 5).toNatClampNeg)
  refine l_xMi (pc := 1057) (As := [.int (xs (x3 + 1).toNatClampNeg), .int (xs (x3 + 2).toNatClampNeg), .int (xs (x3 + 3).toNatClampNeg), .int (xs (x3 + 4).toNatClampNeg), .int (xs (x3 + 5).toNatClampNeg)]) X hKC hSX mi_X6_copy (c_X6_copy (xs (x3 + 1).toNatClampNeg) (xs (x3 + 2).toNatClampNeg) (xs (x3 + 3).toNatClampNeg) (xs (x3 + 4).toNatClampNeg) (xs (x3 + 5).toNatClampNeg) σ _) kw3_68 ⟨rfl, rfl⟩ ⟨Nat.le_of_ble_eq_true rfl, Nat.le_of_ble_eq_true rfl⟩ rfl (Nat.le_of_ble_eq_true rfl) dL_law_1057 rfl z (fun r1 σ1 z => ?_)
  refine l_aload_n (pc := 1060) X rfl 1 rfl dL_law_1060 ?_
  refine l_aload_n (pc := 1061) X rfl 3 rfl dL_law_1061 ?_
  refine l_iload_n (pc := 1062) X rfl 0 rfl dL_law_1062 ?_
  refine l_iconst (pc := 1063) X ic_1 dL_law_1063 ?_
  refine l_iadd (pc := 1064) X dL_law_1064 ?_
  refine l_sld (pc := 1065) X hX hbl h_1 dL_law_1065 ?_
  refine l_aload_n (pc := 1066) X rfl 3 rfl dL_law_1066 ?_
  refine l_iload_n (pc := 1067) X rfl 0 rfl dL_law_1067 ?_
  refine l_iconst (pc := 1068) X ic_2 dL_law_1068 ?_
  refine l_iadd (pc := 1069) X dL_law_1069 ?_
  refine l_sld (pc := 1070) X hX hbl h_2 dL_law_1070 ?_
  refine l_aload_n (pc := 1071) X rfl 3 rfl dL_law_1071 ?_
  refine l_iload_n (pc := 1072) X rfl 0 rfl dL_law_1072 ?_
  refine l_iconst (pc := 1073) X ic_3 dL_law_1073 ?_
  refine l_iadd (pc := 1074) X dL_law_1074 ?_
  refine l_sld (pc := 1075) X hX hbl h_3 dL_law_1075 ?_
  refine l_aload_n (pc := 1076) X rfl 3 rfl dL_law_1076 ?_
  refine l_iload_n (pc := 1077) X rfl 0 rfl dL_law_1077 ?_
  refine l_iconst (pc := 1078) X ic_4 dL_law_1078 ?_
  refine l_iadd (pc := 1079) X dL_law_1079 ?_
  refine l_sld (pc := 1080) X hX hbl h_4 dL_law_1080 ?_
  refine l_aload_n (pc := 1081) X rfl 3 rfl dL_law_1081 ?_
  refine l_iload_n (pc := 1082) X rfl 0 rfl dL_law_1082 ?_
  refine l_iconst (pc := 1083) X ic_5 dL_law_1083 ?_
  refine l_iadd (pc := 1084) X dL_law_1084 ?_
  refine l_sld (pc := 1085) X hX hbl h_5 dL_law_1085 ?_
  refine l_mMi (pc := 1086) (As := [.int (xs (x3 + 1).toNatClampNeg), .int (xs (x3 + 2).toNatClampNeg), .int (xs (x3 + 3).toNatClampNeg), .int (xs (x3 + 4).toNatClampNeg), .int (xs (x3 + 5).toNatClampNeg)]) X hKM mi_X7_copy (c_X7_copy (xs (x3 + 1).toNatClampNeg) (xs (x3 + 2).toNatClampNeg) (xs (x3 + 3).toNatClampNeg) (xs (x3 + 4).toNatClampNeg) (xs (x3 + 5).toNatClampNeg) τ _) kw3_238 ⟨rfl, rfl⟩ ⟨Nat.le_of_ble_eq_true rfl, Nat.le_of_ble_eq_true rfl⟩ rfl (Nat.le_of_ble_eq_true rfl) dL_law_1086 rfl z (fun r2 τ1 z => ?_)
  refine l_icmp_eq (pc := 1089) (tgt := 1164) X (by decide) dL_law_1089 (fun c_ => ?_) (fun c_ => ?_)
  · exact nx σ1 τ1 z.2
  · exact absurd z.1 c_
theorem law_29 (X : CallFix p m c cL_law 4 s #[Value.ref b] AW "TrainNoteLaw") (hKC : va_K D vwCl (tyC cI cZ cS) s) (hKM : va_K D vwCl (tyM cI) s) (hSX : SXC tS tF (fun q : Nat => s.heap.size ≤ q) s s.heap) (hX : va_X b L xs s s.heap) (hbl : b < s.heap.size) (hRel : Rel σ τ) (h_1 : vp_in (x3 + 1) L) (h_2 : vp_in (x3 + 2) L) (h_3 : vp_in (x3 + 3) L) (h_4 : vp_in (x3 + 4) L) (h_5 : vp_in (x3 + 5) L) (nx : ∀ σ1 τ1, Rel σ1 τ1 → GL p l e s m below meth c b D cI cZ cS a aM 1164 [(3, .int x3), (2, .ref (aM 0)), (1, .ref (a 0)), (0, .ref b)] [] σ1 τ1) : GL p l e s m below meth c b D cI cZ cS a aM 1094 [(3, .int x3), (2, .ref (aM 0)), (1, .ref (a 0)), (0, .ref b)] [] σ τ := by
  refine l_aload_n (pc := 1094) X rfl 2 rfl dL_law_1094 ?_
  refine l_aload_n (pc := 1095) X rfl 3 rfl dL_law_1095 ?_
  refine l_iload_n (pc := 1096) X rfl 0 rfl dL_law_1096 ?_
  refine l_iconst (pc := 1097) X ic_1 dL_law_1097 ?_
  refine l_iadd (pc := 1098) X dL_law_1098 ?_
  refine l_sld (pc := 1099) X hX hbl h_1 dL_law_1099 ?_
  refine l_aload_n (pc := 1100) X rfl 3 rfl dL_law_1100 ?_
  refine l_iload_n (pc := 1101) X rfl 0 rfl dL_law_1101 ?_
  refine l_iconst (pc := 1102) X ic_2 dL_law_1102 ?_
  refine l_iadd (pc := 1103) X dL_law_1103 ?_
  refine l_sld (pc := 1104) X hX hbl h_2 dL_law_1104 ?_
  have z := op_write hRel (xs (x3 + 1).toNatClampNeg) (xs (x3 + 2).toNatClampNeg)
  refine l_xMi (pc := 1105) (As := [.int (xs (x3 + 1).toNatClampNeg), .int (xs (x3 + 2).toNatClampNeg)]) X hKC hSX mi_X6_write (c_X6_write (xs (x3 + 1).toNatClampNeg) (xs (x3 + 2).toNatClampNeg) σ _) kw3_79 ⟨rfl, rfl⟩ ⟨Nat.le_of_ble_eq_true rfl, Nat.le_of_ble_eq_true rfl⟩ rfl (Nat.le_of_ble_eq_true rfl) dL_law_1105 rfl z (fun r1 σ1 z => ?_)
  refine l_aload_n (pc := 1108) X rfl 1 rfl dL_law_1108 ?_
  refine l_aload_n (pc := 1109) X rfl 3 rfl dL_law_1109 ?_
  refine l_iload_n (pc := 1110) X rfl 0 rfl dL_law_1110 ?_
  refine l_iconst (pc := 1111) X ic_1 dL_law_1111 ?_
  refine l_iadd (pc := 1112) X dL_law_1112 ?_
  refine l_sld (pc := 1113) X hX hbl h_1 dL_law_1113 ?_
  refine l_aload_n (pc := 1114) X rfl 3 rfl dL_law_1114 ?_
  refine l_iload_n (pc := 1115) X rfl 0 rfl dL_law_1115 ?_
  refine l_iconst (pc := 1116) X ic_2 dL_law_1116 ?_
  refine l_iadd (pc := 1117) X dL_law_1117 ?_
  refine l_sld (pc := 1118) X hX hbl h_2 dL_law_1118 ?_
  refine l_mMi (pc := 1119) (As := [.int (xs (x3 + 1).toNatClampNeg), .int (xs (x3 + 2).toNatClampNeg)]) X hKM mi_X7_write (c_X7_write (xs (x3 + 1).toNatClampNeg) (xs (x3 + 2).toNatClampNeg) τ _) kw5_20 ⟨rfl, rfl⟩ ⟨Nat.le_of_ble_eq_true rfl, Nat.le_of_ble_eq_true rfl⟩ rfl (Nat.le_of_ble_eq_true rfl) dL_law_1119 rfl z (fun r2 τ1 z => ?_)
  refine l_icmp_eq (pc := 1122) (tgt := 1164) X (by decide) dL_law_1122 (fun c_ => ?_) (fun c_ => ?_)
  · exact nx σ1 τ1 z.2
  · exact absurd z.1 c_
theorem law_30 (X : CallFix p m c cL_law 4 s #[Value.ref b] AW "TrainNoteLaw") (hKC : va_K D vwCl (tyC cI cZ cS) s) (hKM : va_K D vwCl (tyM cI) s) (hSX : SXC tS tF (fun q : Nat => s.heap.size ≤ q) s s.heap) (hX : va_X b L xs s s.heap) (hbl : b < s.heap.size) (hRel : Rel σ τ) (h_1 : vp_in (x3 + 1) L) (h_2 : vp_in (x3 + 2) L) (h_3 : vp_in (x3 + 3) L) (h_4 : vp_in (x3 + 4) L) (h_5 : vp_in (x3 + 5) L) (nx : ∀ σ1 τ1, Rel σ1 τ1 → GL p l e s m below meth c b D cI cZ cS a aM 1164 [(3, .int x3), (2, .ref (aM 0)), (1, .ref (a 0)), (0, .ref b)] [] σ1 τ1) : GL p l e s m below meth c b D cI cZ cS a aM 1127 [(3, .int x3), (2, .ref (aM 0)), (1, .ref (a 0)), (0, .ref b)] [] σ τ := by
  refine l_aload_n (pc := 1127) X rfl 2 rfl dL_law_1127 ?_
  refine l_aload_n (pc := 1128) X rfl 3 rfl dL_law_1128 ?_
  refine l_iload_n (pc := 1129) X rfl 0 rfl dL_law_1129 ?_
  refine l_iconst (pc := 1130) X ic_1 dL_law_1130 ?_
  refine l_iadd (pc := 1131) X dL_law_1131 ?_
  refine l_sld (pc := 1132) X hX hbl h_1 dL_law_1132 ?_
  have z := op_count hRel (xs (x3 + 1).toNatClampNeg)
  refine l_xPi (pc := 1133) (As := [.int (xs (x3 + 1).toNatClampNeg)]) X hKC mi_X6_count (c_X6_count (xs (x3 + 1).toNatClampNeg) σ _) kw3_83 ⟨rfl, rfl⟩ ⟨Nat.le_of_ble_eq_true rfl, Nat.le_of_ble_eq_true rfl⟩ rfl (Nat.le_of_ble_eq_true rfl) dL_law_1133 rfl z (fun r1 z => ?_)
  refine l_aload_n (pc := 1136) X rfl 1 rfl dL_law_1136 ?_
  refine l_aload_n (pc := 1137) X rfl 3 rfl dL_law_1137 ?_
  refine l_iload_n (pc := 1138) X rfl 0 rfl dL_law_1138 ?_
  refine l_iconst (pc := 1139) X ic_1 dL_law_1139 ?_
  refine l_iadd (pc := 1140) X dL_law_1140 ?_
  refine l_sld (pc := 1141) X hX hbl h_1 dL_law_1141 ?_
  refine l_mMi (pc := 1142) (As := [.int (xs (x3 + 1).toNatClampNeg)]) X hKM mi_X7_count (c_X7_count (xs (x3 + 1).toNatClampNeg) τ _) kw5_24 ⟨rfl, rfl⟩ ⟨Nat.le_of_ble_eq_true rfl, Nat.le_of_ble_eq_true rfl⟩ rfl (Nat.le_of_ble_eq_true rfl) dL_law_1142 rfl z (fun r2 τ1 z => ?_)
  refine l_icmp_eq (pc := 1145) (tgt := 1164) X (by decide) dL_law_1145 (fun c_ => ?_) (fun c_ => ?_)
  · exact nx σ τ1 z.2
  · exact absurd z.1 c_
theorem law_31 (X : CallFix p m c cL_law 4 s #[Value.ref b] AW "TrainNoteLaw") (hKC : va_K D vwCl (tyC cI cZ cS) s) (hKM : va_K D vwCl (tyM cI) s) (hSX : SXC tS tF (fun q : Nat => s.heap.size ≤ q) s s.heap) (hX : va_X b L xs s s.heap) (hbl : b < s.heap.size) (hRel : Rel σ τ) (h_1 : vp_in (x3 + 1) L) (h_2 : vp_in (x3 + 2) L) (h_3 : vp_in (x3 + 3) L) (h_4 : vp_in (x3 + 4) L) (h_5 : vp_in (x3 + 5) L) (nx : ∀ σ1 τ1, Rel σ1 τ1 → GL p l e s m below meth c b D cI cZ cS a aM 1164 [(3, .int x3), (2, .ref (aM 0)), (1, .ref (a 0)), (0, .ref b)] [] σ1 τ1) : GL p l e s m below meth c b D cI cZ cS a aM 1150 [(3, .int x3), (2, .ref (aM 0)), (1, .ref (a 0)), (0, .ref b)] [] σ τ := by
  refine l_aload_n (pc := 1150) X rfl 2 rfl dL_law_1150 ?_
  have z := op_digest hRel
  refine l_xMl (pc := 1151) (As := []) X hKC hSX mi_X6_digest (c_X6_digest σ _) kw3_95 ⟨rfl, rfl⟩ ⟨Nat.le_of_ble_eq_true rfl, Nat.le_of_ble_eq_true rfl⟩ rfl (Nat.le_of_ble_eq_true rfl) dL_law_1151 rfl z (fun r1 σ1 z => ?_)
  refine l_aload_n (pc := 1154) X rfl 1 rfl dL_law_1154 ?_
  refine l_mMl (pc := 1155) (As := []) X hKM mi_X7_digest (c_X7_digest τ _) kw5_36 ⟨rfl, rfl⟩ ⟨Nat.le_of_ble_eq_true rfl, Nat.le_of_ble_eq_true rfl⟩ rfl (Nat.le_of_ble_eq_true rfl) dL_law_1155 rfl z (fun r2 τ1 z => ?_)
  refine l_lcmp (pc := 1158) X dL_law_1158 ?_
  refine l_if_eq (pc := 1159) (tgt := 1164) X (by decide) dL_law_1159 (fun c_ => ?_) (fun c_ => ?_)
  · exact nx σ1 τ1 z.2
  · exact absurd (by rw [z.1]; exact lg_cmp_self _) c_
end
set_option maxRecDepth 20000 in
set_option maxHeartbeats 4000000 in
theorem law_loop {p : Program} {l : Launch} {e : Env} {s : State} {m : MethodId} {below : List Frame} {meth : Method} {c : Code} {b : Nat} {D : va_G} {cI cZ cS : ClassId} {a aM : Nat → Nat} {tS tF L : Nat} {xs : Nat → Int32} (hL : L ≤ 384) (X : CallFix p m c cL_law 4 s #[Value.ref b] AW "TrainNoteLaw") (hKC : va_K D vwCl (tyC cI cZ cS) s) (hKM : va_K D vwCl (tyM cI) s) (hSX : SXC tS tF (fun q : Nat => s.heap.size ≤ q) s s.heap) (hX : va_X b L xs s s.heap) (hbl : b < s.heap.size) (hr : meth.sig.returnType = ret) (hlk : meth.locks = false) : ∀ (n i : Nat) (σ τ : Sg), i ≤ L → L ≤ i + n → Rel σ τ → GL p l e s m below meth c b D cI cZ cS a aM 18 [(3, .int (nI i)), (2, .ref (aM 0)), (1, .ref (a 0)), (0, .ref b)] [] σ τ := by
  intro n
  induction n with
  | zero =>
    intro i σ τ hi hn hRel
    have e1 : i = L := by omega
    subst e1
    refine l_iload_n (pc := 18) X rfl 0 rfl dL_law_18 ?_
    refine l_aload_n (pc := 19) X rfl 3 rfl dL_law_19 ?_
    refine l_slen (pc := 20) X hX hbl dL_law_20 ?_
    refine l_bipush (pc := 21) X bp_6 dL_law_21 ?_
    refine l_isub (pc := 23) X dL_law_23 ?_
    refine l_icmp_gt (pc := 24) (tgt := 1170) X (by decide) dL_law_24 (fun c_ => ?_) (fun c_ => ?_)
    · refine l_iconst (pc := 1170) X ic_1 dL_law_1170 ?_
      exact l_ret (pc := 1171) X hr hlk dL_law_1171
    · exfalso
      apply c_
      show nI i - 6 < nI i
      rw [fa_lt, fb_subI, nI_toInt (by omega)]
      · have h6 : (6 : Int32).toInt = 6 := by decide
        omega
      · have h6 : (6 : Int32).toInt = 6 := by decide
        rw [nI_toInt (by omega), h6]; omega
      · have h6 : (6 : Int32).toInt = 6 := by decide
        rw [nI_toInt (by omega), h6]; omega
  | succ n ih =>
    intro i σ τ hi hn hRel
    refine l_iload_n (pc := 18) X rfl 0 rfl dL_law_18 ?_
    refine l_aload_n (pc := 19) X rfl 3 rfl dL_law_19 ?_
    refine l_slen (pc := 20) X hX hbl dL_law_20 ?_
    refine l_bipush (pc := 21) X bp_6 dL_law_21 ?_
    refine l_isub (pc := 23) X dL_law_23 ?_
    refine l_icmp_gt (pc := 24) (tgt := 1170) X (by decide) dL_law_24 (fun c_ => ?_) (fun c_ => ?_)
    · refine l_iconst (pc := 1170) X ic_1 dL_law_1170 ?_
      exact l_ret (pc := 1171) X hr hlk dL_law_1171
    · have hi6 : i + 6 ≤ L := by
        rcases Nat.lt_or_ge L (i + 6) with q | q
        · exfalso
          apply c_
          show nI L - 6 < nI i
          have h6 : (6 : Int32).toInt = 6 := by decide
          rw [fa_lt, fb_subI, nI_toInt (by omega), nI_toInt (by omega), h6]
          · omega
          · rw [nI_toInt (by omega), h6]; omega
          · rw [nI_toInt (by omega), h6]; omega
        · exact q
      have hv : ∀ k : Nat, k < 6 → vp_in (nI i + nI k) L := fun k hk => by rw [nI_add]; exact vp_in_nI (by omega) (by omega)
      have nx : ∀ σ1 τ1, Rel σ1 τ1 → GL p l e s m below meth c b D cI cZ cS a aM 1164 [(3, .int (nI i)), (2, .ref (aM 0)), (1, .ref (a 0)), (0, .ref b)] [] σ1 τ1 := by
        intro σ1 τ1 hR1
        refine l_iinc (pc := 1164) (n := 6) (v := nI (i + 6)) (lv' := [(3, .int (nI (i + 6))), (2, .ref (aM 0)), (1, .ref (a 0)), (0, .ref b)]) X 0 rfl (by rw [show Int32.ofInt 6 = nI 6 from by decide]; exact nI_add i 6) (by decide) rfl dL_law_1164 ?_
        refine l_goto (pc := 1167) (tgt := 18) X (by decide) dL_law_1167 ?_
        exact ih (i + 6) σ1 τ1 hi6 (by omega) hR1
      refine l_aload_n (pc := 27) X rfl 3 rfl dL_law_27 ?_
      refine l_iload_n (pc := 28) X rfl 0 rfl dL_law_28 ?_
      refine l_sld (pc := 29) X hX hbl (vp_in_nI (by omega) (by omega)) dL_law_29 ?_
      refine l_bipush (pc := 30) X bp_31 dL_law_30 ?_
      refine l_iand (pc := 32) X dL_law_32 ?_
      obtain ⟨j, hj, ej⟩ := pk_andE (xs (nI i).toNatClampNeg) (m := 31) 5 (by decide)
      rw [ej]
      have h1 := hv 1 (by omega)
      have h2 := hv 2 (by omega)
      have h3 := hv 3 (by omega)
      have h4 := hv 4 (by omega)
      have h5 := hv 5 (by omega)
      rcases (show j = 0 ∨ j = 1 ∨ j = 2 ∨ j = 3 ∨ j = 4 ∨ j = 5 ∨ j = 6 ∨ j = 7 ∨ j = 8 ∨ j = 9 ∨ j = 10 ∨ j = 11 ∨ j = 12 ∨ j = 13 ∨ j = 14 ∨ j = 15 ∨ j = 16 ∨ j = 17 ∨ j = 18 ∨ j = 19 ∨ j = 20 ∨ j = 21 ∨ j = 22 ∨ j = 23 ∨ j = 24 ∨ j = 25 ∨ j = 26 ∨ j = 27 ∨ j = 28 ∨ j = 29 ∨ j = 30 ∨ j = 31 by omega) with rfl | rfl | rfl | rfl | rfl | rfl | rfl | rfl | rfl | rfl | rfl | rfl | rfl | rfl | rfl | rfl | rfl | rfl | rfl | rfl | rfl | rfl | rfl | rfl | rfl | rfl | rfl | rfl | rfl | rfl | rfl | rfl
      · refine l_tabI (pc := 33) (tgt := 176) (off := 143) X (by decide) (by decide) rfl (by decide) dL_law_33 ?_
        exact law_0 X hKC hKM hSX hX hbl hRel h1 h2 h3 h4 h5 nx
      · refine l_tabI (pc := 33) (tgt := 209) (off := 176) X (by decide) (by decide) rfl (by decide) dL_law_33 ?_
        exact law_1 X hKC hKM hSX hX hbl hRel h1 h2 h3 h4 h5 nx
      · refine l_tabI (pc := 33) (tgt := 232) (off := 199) X (by decide) (by decide) rfl (by decide) dL_law_33 ?_
        exact law_2 X hKC hKM hSX hX hbl hRel h1 h2 h3 h4 h5 nx
      · refine l_tabI (pc := 33) (tgt := 255) (off := 222) X (by decide) (by decide) rfl (by decide) dL_law_33 ?_
        exact law_3 X hKC hKM hSX hX hbl hRel h1 h2 h3 h4 h5 nx
      · refine l_tabI (pc := 33) (tgt := 278) (off := 245) X (by decide) (by decide) rfl (by decide) dL_law_33 ?_
        exact law_4 X hKC hKM hSX hX hbl hRel h1 h2 h3 h4 h5 nx
      · refine l_tabI (pc := 33) (tgt := 311) (off := 278) X (by decide) (by decide) rfl (by decide) dL_law_33 ?_
        exact law_5 X hKC hKM hSX hX hbl hRel h1 h2 h3 h4 h5 nx
      · refine l_tabI (pc := 33) (tgt := 334) (off := 301) X (by decide) (by decide) rfl (by decide) dL_law_33 ?_
        exact law_6 X hKC hKM hSX hX hbl hRel h1 h2 h3 h4 h5 nx
      · refine l_tabI (pc := 33) (tgt := 367) (off := 334) X (by decide) (by decide) rfl (by decide) dL_law_33 ?_
        exact law_7 X hKC hKM hSX hX hbl hRel h1 h2 h3 h4 h5 nx
      · refine l_tabI (pc := 33) (tgt := 390) (off := 357) X (by decide) (by decide) rfl (by decide) dL_law_33 ?_
        exact law_8 X hKC hKM hSX hX hbl hRel h1 h2 h3 h4 h5 nx
      · refine l_tabI (pc := 33) (tgt := 423) (off := 390) X (by decide) (by decide) rfl (by decide) dL_law_33 ?_
        exact law_9 X hKC hKM hSX hX hbl hRel h1 h2 h3 h4 h5 nx
      · refine l_tabI (pc := 33) (tgt := 456) (off := 423) X (by decide) (by decide) rfl (by decide) dL_law_33 ?_
        exact law_10 X hKC hKM hSX hX hbl hRel h1 h2 h3 h4 h5 nx
      · refine l_tabI (pc := 33) (tgt := 489) (off := 456) X (by decide) (by decide) rfl (by decide) dL_law_33 ?_
        exact law_11 X hKC hKM hSX hX hbl hRel h1 h2 h3 h4 h5 nx
      · refine l_tabI (pc := 33) (tgt := 522) (off := 489) X (by decide) (by decide) rfl (by decide) dL_law_33 ?_
        exact law_12 X hKC hKM hSX hX hbl hRel h1 h2 h3 h4 h5 nx
      · refine l_tabI (pc := 33) (tgt := 545) (off := 512) X (by decide) (by decide) rfl (by decide) dL_law_33 ?_
        exact law_13 X hKC hKM hSX hX hbl hRel h1 h2 h3 h4 h5 nx
      · refine l_tabI (pc := 33) (tgt := 578) (off := 545) X (by decide) (by decide) rfl (by decide) dL_law_33 ?_
        exact law_14 X hKC hKM hSX hX hbl hRel h1 h2 h3 h4 h5 nx
      · refine l_tabI (pc := 33) (tgt := 611) (off := 578) X (by decide) (by decide) rfl (by decide) dL_law_33 ?_
        exact law_15 X hKC hKM hSX hX hbl hRel h1 h2 h3 h4 h5 nx
      · refine l_tabI (pc := 33) (tgt := 644) (off := 611) X (by decide) (by decide) rfl (by decide) dL_law_33 ?_
        exact law_16 X hKC hKM hSX hX hbl hRel h1 h2 h3 h4 h5 nx
      · refine l_tabI (pc := 33) (tgt := 687) (off := 654) X (by decide) (by decide) rfl (by decide) dL_law_33 ?_
        exact law_17 X hKC hKM hSX hX hbl hRel h1 h2 h3 h4 h5 nx
      · refine l_tabI (pc := 33) (tgt := 700) (off := 667) X (by decide) (by decide) rfl (by decide) dL_law_33 ?_
        exact law_18 X hKC hKM hSX hX hbl hRel h1 h2 h3 h4 h5 nx
      · refine l_tabI (pc := 33) (tgt := 723) (off := 690) X (by decide) (by decide) rfl (by decide) dL_law_33 ?_
        exact law_19 X hKC hKM hSX hX hbl hRel h1 h2 h3 h4 h5 nx
      · refine l_tabI (pc := 33) (tgt := 746) (off := 713) X (by decide) (by decide) rfl (by decide) dL_law_33 ?_
        exact law_20 X hKC hKM hSX hX hbl hRel h1 h2 h3 h4 h5 nx
      · refine l_tabI (pc := 33) (tgt := 759) (off := 726) X (by decide) (by decide) rfl (by decide) dL_law_33 ?_
        exact law_21 X hKC hKM hSX hX hbl hRel h1 h2 h3 h4 h5 nx
      · refine l_tabI (pc := 33) (tgt := 772) (off := 739) X (by decide) (by decide) rfl (by decide) dL_law_33 ?_
        exact law_22 X hKC hKM hSX hX hbl hRel h1 h2 h3 h4 h5 nx
      · refine l_tabI (pc := 33) (tgt := 826) (off := 793) X (by decide) (by decide) rfl (by decide) dL_law_33 ?_
        exact law_23 X hKC hKM hSX hX hbl hRel h1 h2 h3 h4 h5 nx
      · refine l_tabI (pc := 33) (tgt := 869) (off := 836) X (by decide) (by decide) rfl (by decide) dL_law_33 ?_
        exact law_24 X hKC hKM hSX hX hbl hRel h1 h2 h3 h4 h5 nx
      · refine l_tabI (pc := 33) (tgt := 912) (off := 879) X (by decide) (by decide) rfl (by decide) dL_law_33 ?_
        exact law_25 X hKC hKM hSX hX hbl hRel h1 h2 h3 h4 h5 nx
      · refine l_tabI (pc := 33) (tgt := 935) (off := 902) X (by decide) (by decide) rfl (by decide) dL_law_33 ?_
        exact law_26 X hKC hKM hSX hX hbl hRel h1 h2 h3 h4 h5 nx
      · refine l_tabI (pc := 33) (tgt := 988) (off := 955) X (by decide) (by decide) rfl (by decide) dL_law_33 ?_
        exact law_27 X hKC hKM hSX hX hbl hRel h1 h2 h3 h4 h5 nx
      · refine l_tabI (pc := 33) (tgt := 1031) (off := 998) X (by decide) (by decide) rfl (by decide) dL_law_33 ?_
        exact law_28 X hKC hKM hSX hX hbl hRel h1 h2 h3 h4 h5 nx
      · refine l_tabI (pc := 33) (tgt := 1094) (off := 1061) X (by decide) (by decide) rfl (by decide) dL_law_33 ?_
        exact law_29 X hKC hKM hSX hX hbl hRel h1 h2 h3 h4 h5 nx
      · refine l_tabI (pc := 33) (tgt := 1127) (off := 1094) X (by decide) (by decide) rfl (by decide) dL_law_33 ?_
        exact law_30 X hKC hKM hSX hX hbl hRel h1 h2 h3 h4 h5 nx
      · refine l_tabI (pc := 33) (tgt := 1150) (off := 1117) X (by decide) (by decide) rfl (by decide) dL_law_33 ?_
        exact law_31 X hKC hKM hSX hX hbl hRel h1 h2 h3 h4 h5 nx
