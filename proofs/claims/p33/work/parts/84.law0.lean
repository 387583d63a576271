def lop_0 (l : Launch) (Inv : Nat → Nat → Nat → CS → MS → Prop) (j kc ks : Nat) (S : CS) (M : MS) : Prop := ∀ (a1 : Int32) (a2 : Int32), cX_X8_yard l S a1 a2 (fun r1 S1 => mX_yard l M a1 a2 (fun r2 M1 => Inv (j + 1) kc ks S1 M1))
set_option maxHeartbeats 8000000 in
set_option maxRecDepth 100000 in
theorem lawc_0 {p : Program} {l : Launch} {e : Env} {s : State} {m : MethodId} {below : List Frame} {meth : Method} {c : Code} {b L : Nat} {xs : Nat → Int32} {D : va_G} {cI cZ cL cG : ClassId} {Q : State → Prop} (C0 : lw_At p s m meth c b L xs) (hK : va_K D vwCl (cTy cI cZ cL cG) s) (hZ : cZw s) {Inv : Nat → Nat → Nat → CS → MS → Prop} {j kc ks : Nat} {S : CS} {M : MS} (hkc : kc ≤ 599911) (hks : ks ≤ 6978994) (hop : lop_0 l Inv j kc ks S M) {x3 : Int32} (hi : ∀ k : Nat, k < 9 → vp_in (x3 + nI k) L) {ad vd am : Nat → Nat} {H : Heap} {locs : List Loc} {ls : Array Slot} (hP : va_P D vwCl (cW ad vd cI cZ cL cG S ++ mW am cI cZ cL M) H) (hD : va_D (fun q : Nat => s.heap.size ≤ q) (cW ad vd cI cZ cL cG S ++ mW am cI cZ cL M)) (hS : va_S (fun q : Nat => s.heap.size ≤ q) s.heap H locs) (hl : lv_has ls 4 [(0, .ref b), (1, .ref (ad 0)), (2, .ref (am 0)), (3, .int x3)]) (kk : ∀ (kc1 ks1 : Nat) (S1 : CS) (M1 : MS) (vd1 : Nat → Nat) (H1 : Heap) (locs1 : List Loc), kc1 ≤ 599911 → ks1 ≤ 6978994 → Inv (j + 1) kc1 ks1 S1 M1 → va_P D vwCl (cW ad vd1 cI cZ cL cG S1 ++ mW am cI cZ cL M1) H1 → va_D (fun q : Nat => s.heap.size ≤ q) (cW ad vd1 cI cZ cL cG S1 ++ mW am cI cZ cL M1) → va_S (fun q : Nat => s.heap.size ≤ q) s.heap H1 locs1 → W p l e room_1 s m #[Value.ref b] below meth c H1 locs1 (89 + kc1) (323256 + ks1) Q (F0 m 1130 ls [])) : W p l e room_1 s m #[Value.ref b] below meth c H locs (89 + kc) (323256 + ks) Q (F0 m 176 ls []) := by
  obtain ⟨hx, hb, hr, hml, hown, hts0, hX, hbl, hlocks, hgv⟩ := C0
  have hts : ∀ w ∈ gw, w.before #[Value.ref b] s = true := fun w h => hts0 w (List.mem_filter.mp h).1
  have hA : ∀ q : Nat, s.heap.size ≤ q → (fun q : Nat => s.heap.size ≤ q) q := fun _ h => h
  have hbA : ¬ (fun q : Nat => s.heap.size ≤ q) b := Nat.not_le.mpr hbl
  have hi1 : vp_in (x3 + 1) L := hi 1 (by decide)
  have hi2 : vp_in (x3 + 2) L := hi 2 (by decide)
  refine lv_aload_n hx hb dl_176 rfl (lv_at hl 1 rfl) ?_
  refine lv_aload_n hx hb dl_177 rfl (lv_at hl 0 rfl) ?_
  refine lv_iload_n hx hb dl_178 rfl (lv_at hl 3 rfl) ?_
  refine lv_iconst (v := 1) hx hb dl_179 (by decide) ?_
  refine lv_iadd hx hb dl_180 ?_
  refine va_sld hx hb hX hbl hbA hS hi1 dl_181 ?_
  refine lv_aload_n hx hb dl_182 rfl (lv_at hl 0 rfl) ?_
  refine lv_iload_n hx hb dl_183 rfl (lv_at hl 3 rfl) ?_
  refine lv_iconst (v := 2) hx hb dl_184 (by decide) ?_
  refine lv_iadd hx hb dl_185 ?_
  refine va_sld hx hb hX hbl hbA hS hi2 dl_186 ?_
  have hT := hop (xs (x3 + 1).toNatClampNeg) (xs (x3 + 2).toNatClampNeg)
  refine ccallVZ (n := 2) (b := ad 0) (C := RX8) (As := [.int (xs (x3 + 1).toNatClampNeg), .int (xs (x3 + 2).toNatClampNeg)]) (rest := []) hT hx hb hml hown hts hK hZ hA hP hD hS hl gl_13 hdl_X8_yard (va_recv hK hP rfl cob_0) ⟨Nat.le_of_ble_eq_true rfl, Nat.le_of_ble_eq_true rfl⟩ rfl rfl rfl (Nat.le_of_ble_eq_true rfl) dl_187 (by rw [rm_c]; omega) (by rw [rm_s]; omega) (fun r1 S1 vd H locs hP hD hS hT => ?_)
  refine lv_pop hx hb dl_190 rfl ?_
  refine lv_aload_n hx hb dl_191 rfl (lv_at hl 2 rfl) ?_
  refine lv_aload_n hx hb dl_192 rfl (lv_at hl 0 rfl) ?_
  refine lv_iload_n hx hb dl_193 rfl (lv_at hl 3 rfl) ?_
  refine lv_iconst (v := 1) hx hb dl_194 (by decide) ?_
  refine lv_iadd hx hb dl_195 ?_
  refine va_sld hx hb hX hbl hbA hS hi1 dl_196 ?_
  refine lv_aload_n hx hb dl_197 rfl (lv_at hl 0 rfl) ?_
  refine lv_iload_n hx hb dl_198 rfl (lv_at hl 3 rfl) ?_
  refine lv_iconst (v := 2) hx hb dl_199 (by decide) ?_
  refine lv_iadd hx hb dl_200 ?_
  refine va_sld hx hb hX hbl hbA hS hi2 dl_201 ?_
  refine mcallLZ (n := 2) (rest := []) hT hx hb hml hown hts hK hA hP hD hS hl gl_17 hdl_X9_yard ⟨Nat.le_of_ble_eq_true rfl, Nat.le_of_ble_eq_true rfl⟩ rfl rfl (Nat.le_of_ble_eq_true rfl) dl_202 (by rw [rm_c]; omega) (by rw [rm_s]; omega) (fun r2 M1 H locs hP hD hS hT => ?_)
  have hI := hT
  refine lv_pop hx hb dl_205 rfl ?_
  refine lv_goto (tgt := 1130) hx hb dl_206 (by decide) ?_
  exact kk _ _ _ _ _ _ _ hkc hks hI hP hD hS
def lop_1 (l : Launch) (Inv : Nat → Nat → Nat → CS → MS → Prop) (j kc ks : Nat) (S : CS) (M : MS) : Prop := ∀ (a1 : Int32) (a2 : Int32), cX_X8_kind l S a1 a2 (fun r1 S1 => mX_kind l M a1 a2 (fun r2 M1 => Inv (j + 1) kc ks S1 M1))
set_option maxHeartbeats 8000000 in
set_option maxRecDepth 100000 in
theorem lawc_1 {p : Program} {l : Launch} {e : Env} {s : State} {m : MethodId} {below : List Frame} {meth : Method} {c : Code} {b L : Nat} {xs : Nat → Int32} {D : va_G} {cI cZ cL cG : ClassId} {Q : State → Prop} (C0 : lw_At p s m meth c b L xs) (hK : va_K D vwCl (cTy cI cZ cL cG) s) (hZ : cZw s) {Inv : Nat → Nat → Nat → CS → MS → Prop} {j kc ks : Nat} {S : CS} {M : MS} (hkc : kc ≤ 599911) (hks : ks ≤ 6978994) (hop : lop_1 l Inv j kc ks S M) {x3 : Int32} (hi : ∀ k : Nat, k < 9 → vp_in (x3 + nI k) L) {ad vd am : Nat → Nat} {H : Heap} {locs : List Loc} {ls : Array Slot} (hP : va_P D vwCl (cW ad vd cI cZ cL cG S ++ mW am cI cZ cL M) H) (hD : va_D (fun q : Nat => s.heap.size ≤ q) (cW ad vd cI cZ cL cG S ++ mW am cI cZ cL M)) (hS : va_S (fun q : Nat => s.heap.size ≤ q) s.heap H locs) (hl : lv_has ls 4 [(0, .ref b), (1, .ref (ad 0)), (2, .ref (am 0)), (3, .int x3)]) (kk : ∀ (kc1 ks1 : Nat) (S1 : CS) (M1 : MS) (vd1 : Nat → Nat) (H1 : Heap) (locs1 : List Loc), kc1 ≤ 599911 → ks1 ≤ 6978994 → Inv (j + 1) kc1 ks1 S1 M1 → va_P D vwCl (cW ad vd1 cI cZ cL cG S1 ++ mW am cI cZ cL M1) H1 → va_D (fun q : Nat => s.heap.size ≤ q) (cW ad vd1 cI cZ cL cG S1 ++ mW am cI cZ cL M1) → va_S (fun q : Nat => s.heap.size ≤ q) s.heap H1 locs1 → W p l e room_1 s m #[Value.ref b] below meth c H1 locs1 (89 + kc1) (323256 + ks1) Q (F0 m 1130 ls [])) : W p l e room_1 s m #[Value.ref b] below meth c H locs (89 + kc) (323256 + ks) Q (F0 m 209 ls []) := by
  obtain ⟨hx, hb, hr, hml, hown, hts0, hX, hbl, hlocks, hgv⟩ := C0
  have hts : ∀ w ∈ gw, w.before #[Value.ref b] s = true := fun w h => hts0 w (List.mem_filter.mp h).1
  have hA : ∀ q : Nat, s.heap.size ≤ q → (fun q : Nat => s.heap.size ≤ q) q := fun _ h => h
  have hbA : ¬ (fun q : Nat => s.heap.size ≤ q) b := Nat.not_le.mpr hbl
  have hi1 : vp_in (x3 + 1) L := hi 1 (by decide)
  have hi2 : vp_in (x3 + 2) L := hi 2 (by decide)
  refine lv_aload_n hx hb dl_209 rfl (lv_at hl 1 rfl) ?_
  refine lv_aload_n hx hb dl_210 rfl (lv_at hl 0 rfl) ?_
  refine lv_iload_n hx hb dl_211 rfl (lv_at hl 3 rfl) ?_
  refine lv_iconst (v := 1) hx hb dl_212 (by decide) ?_
  refine lv_iadd hx hb dl_213 ?_
  refine va_sld hx hb hX hbl hbA hS hi1 dl_214 ?_
  refine lv_aload_n hx hb dl_215 rfl (lv_at hl 0 rfl) ?_
  refine lv_iload_n hx hb dl_216 rfl (lv_at hl 3 rfl) ?_
  refine lv_iconst (v := 2) hx hb dl_217 (by decide) ?_
  refine lv_iadd hx hb dl_218 ?_
  refine va_sld hx hb hX hbl hbA hS hi2 dl_219 ?_
  have hT := hop (xs (x3 + 1).toNatClampNeg) (xs (x3 + 2).toNatClampNeg)
  refine ccallVZ (n := 2) (b := ad 0) (C := RX8) (As := [.int (xs (x3 + 1).toNatClampNeg), .int (xs (x3 + 2).toNatClampNeg)]) (rest := []) hT hx hb hml hown hts hK hZ hA hP hD hS hl gl_18 hdl_X8_kind (va_recv hK hP rfl cob_0) ⟨Nat.le_of_ble_eq_true rfl, Nat.le_of_ble_eq_true rfl⟩ rfl rfl rfl (Nat.le_of_ble_eq_true rfl) dl_220 (by rw [rm_c]; omega) (by rw [rm_s]; omega) (fun r1 S1 vd H locs hP hD hS hT => ?_)
  refine lv_pop hx hb dl_223 rfl ?_
  refine lv_aload_n hx hb dl_224 rfl (lv_at hl 2 rfl) ?_
  refine lv_aload_n hx hb dl_225 rfl (lv_at hl 0 rfl) ?_
  refine lv_iload_n hx hb dl_226 rfl (lv_at hl 3 rfl) ?_
  refine lv_iconst (v := 1) hx hb dl_227 (by decide) ?_
  refine lv_iadd hx hb dl_228 ?_
  refine va_sld hx hb hX hbl hbA hS hi1 dl_229 ?_
  refine lv_aload_n hx hb dl_230 rfl (lv_at hl 0 rfl) ?_
  refine lv_iload_n hx hb dl_231 rfl (lv_at hl 3 rfl) ?_
  refine lv_iconst (v := 2) hx hb dl_232 (by decide) ?_
  refine lv_iadd hx hb dl_233 ?_
  refine va_sld hx hb hX hbl hbA hS hi2 dl_234 ?_
  refine mcallLZ (n := 2) (rest := []) hT hx hb hml hown hts hK hA hP hD hS hl gl_21 hdl_X9_kind ⟨Nat.le_of_ble_eq_true rfl, Nat.le_of_ble_eq_true rfl⟩ rfl rfl (Nat.le_of_ble_eq_true rfl) dl_235 (by rw [rm_c]; omega) (by rw [rm_s]; omega) (fun r2 M1 H locs hP hD hS hT => ?_)
  have hI := hT
  refine lv_pop hx hb dl_238 rfl ?_
  refine lv_goto (tgt := 1130) hx hb dl_239 (by decide) ?_
  exact kk _ _ _ _ _ _ _ hkc hks hI hP hD hS
def lop_2 (l : Launch) (Inv : Nat → Nat → Nat → CS → MS → Prop) (j kc ks : Nat) (S : CS) (M : MS) : Prop := ∀ (a1 : Int32) (a2 : Int32) (a3 : Int32) (a4 : Bool), cX_X8_lane l S a1 a2 a3 a4 (fun r1 S1 => mX_lane l M a1 a2 a3 a4 (fun r2 M1 => Inv (j + 1) kc ks S1 M1))
set_option maxHeartbeats 8000000 in
set_option maxRecDepth 100000 in
theorem lawc_2 {p : Program} {l : Launch} {e : Env} {s : State} {m : MethodId} {below : List Frame} {meth : Method} {c : Code} {b L : Nat} {xs : Nat → Int32} {D : va_G} {cI cZ cL cG : ClassId} {Q : State → Prop} (C0 : lw_At p s m meth c b L xs) (hK : va_K D vwCl (cTy cI cZ cL cG) s) (hZ : cZw s) {Inv : Nat → Nat → Nat → CS → MS → Prop} {j kc ks : Nat} {S : CS} {M : MS} (hkc : kc ≤ 599911) (hks : ks ≤ 6978994) (hop : lop_2 l Inv j kc ks S M) {x3 : Int32} (hi : ∀ k : Nat, k < 9 → vp_in (x3 + nI k) L) {ad vd am : Nat → Nat} {H : Heap} {locs : List Loc} {ls : Array Slot} (hP : va_P D vwCl (cW ad vd cI cZ cL cG S ++ mW am cI cZ cL M) H) (hD : va_D (fun q : Nat => s.heap.size ≤ q) (cW ad vd cI cZ cL cG S ++ mW am cI cZ cL M)) (hS : va_S (fun q : Nat => s.heap.size ≤ q) s.heap H locs) (hl : lv_has ls 4 [(0, .ref b), (1, .ref (ad 0)), (2, .ref (am 0)), (3, .int x3)]) (kk : ∀ (kc1 ks1 : Nat) (S1 : CS) (M1 : MS) (vd1 : Nat → Nat) (H1 : Heap) (locs1 : List Loc), kc1 ≤ 599911 → ks1 ≤ 6978994 → Inv (j + 1) kc1 ks1 S1 M1 → va_P D vwCl (cW ad vd1 cI cZ cL cG S1 ++ mW am cI cZ cL M1) H1 → va_D (fun q : Nat => s.heap.size ≤ q) (cW ad vd1 cI cZ cL cG S1 ++ mW am cI cZ cL M1) → va_S (fun q : Nat => s.heap.size ≤ q) s.heap H1 locs1 → W p l e room_1 s m #[Value.ref b] below meth c H1 locs1 (89 + kc1) (323256 + ks1) Q (F0 m 1130 ls [])) : W p l e room_1 s m #[Value.ref b] below meth c H locs (89 + kc) (323256 + ks) Q (F0 m 242 ls []) := by
  obtain ⟨hx, hb, hr, hml, hown, hts0, hX, hbl, hlocks, hgv⟩ := C0
  have hts : ∀ w ∈ gw, w.before #[Value.ref b] s = true := fun w h => hts0 w (List.mem_filter.mp h).1
  have hA : ∀ q : Nat, s.heap.size ≤ q → (fun q : Nat => s.heap.size ≤ q) q := fun _ h => h
  have hbA : ¬ (fun q : Nat => s.heap.size ≤ q) b := Nat.not_le.mpr hbl
  have hi1 : vp_in (x3 + 1) L := hi 1 (by decide)
  have hi2 : vp_in (x3 + 2) L := hi 2 (by decide)
  have hi3 : vp_in (x3 + 3) L := hi 3 (by decide)
  have hi4 : vp_in (x3 + 4) L := hi 4 (by decide)
  refine lv_aload_n hx hb dl_242 rfl (lv_at hl 1 rfl) ?_
  refine lv_aload_n hx hb dl_243 rfl (lv_at hl 0 rfl) ?_
  refine lv_iload_n hx hb dl_244 rfl (lv_at hl 3 rfl) ?_
  refine lv_iconst (v := 1) hx hb dl_245 (by decide) ?_
  refine lv_iadd hx hb dl_246 ?_
  refine va_sld hx hb hX hbl hbA hS hi1 dl_247 ?_
  refine lv_aload_n hx hb dl_248 rfl (lv_at hl 0 rfl) ?_
  refine lv_iload_n hx hb dl_249 rfl (lv_at hl 3 rfl) ?_
  refine lv_iconst (v := 2) hx hb dl_250 (by decide) ?_
  refine lv_iadd hx hb dl_251 ?_
  refine va_sld hx hb hX hbl hbA hS hi2 dl_252 ?_
  refine lv_aload_n hx hb dl_253 rfl (lv_at hl 0 rfl) ?_
  refine lv_iload_n hx hb dl_254 rfl (lv_at hl 3 rfl) ?_
  refine lv_iconst (v := 3) hx hb dl_255 (by decide) ?_
  refine lv_iadd hx hb dl_256 ?_
  refine va_sld hx hb hX hbl hbA hS hi3 dl_257 ?_
  refine lv_aload_n hx hb dl_258 rfl (lv_at hl 0 rfl) ?_
  refine lv_iload_n hx hb dl_259 rfl (lv_at hl 3 rfl) ?_
  refine lv_iconst (v := 4) hx hb dl_260 (by decide) ?_
  refine lv_iadd hx hb dl_261 ?_
  refine va_sld hx hb hX hbl hbA hS hi4 dl_262 ?_
  refine lv_if_eq (tgt := 270) hx hb dl_263 (by decide) (fun c1 => ?_) (fun c1 => ?_)
  · refine lv_iconst (v := 0) hx hb dl_270 (by decide) ?_
    have hT := hop (xs (x3 + 1).toNatClampNeg) (xs (x3 + 2).toNatClampNeg) (xs (x3 + 3).toNatClampNeg) false
    refine ccallVZ (n := 4) (b := ad 0) (C := RX8) (As := [.int (xs (x3 + 1).toNatClampNeg), .int (xs (x3 + 2).toNatClampNeg), .int (xs (x3 + 3).toNatClampNeg), .int (bI false)]) (rest := []) hT hx hb hml hown hts hK hZ hA hP hD hS hl gl_22 hdl_X8_lane (va_recv hK hP rfl cob_0) ⟨Nat.le_of_ble_eq_true rfl, Nat.le_of_ble_eq_true rfl⟩ rfl rfl rfl (Nat.le_of_ble_eq_true rfl) dl_271 (by rw [rm_c]; omega) (by rw [rm_s]; omega) (fun r1 S1 vd H locs hP hD hS hT => ?_)
    refine lv_pop hx hb dl_274 rfl ?_
    refine lv_aload_n hx hb dl_275 rfl (lv_at hl 2 rfl) ?_
    refine lv_aload_n hx hb dl_276 rfl (lv_at hl 0 rfl) ?_
    refine lv_iload_n hx hb dl_277 rfl (lv_at hl 3 rfl) ?_
    refine lv_iconst (v := 1) hx hb dl_278 (by decide) ?_
    refine lv_iadd hx hb dl_279 ?_
    refine va_sld hx hb hX hbl hbA hS hi1 dl_280 ?_
    refine lv_aload_n hx hb dl_281 rfl (lv_at hl 0 rfl) ?_
    refine lv_iload_n hx hb dl_282 rfl (lv_at hl 3 rfl) ?_
    refine lv_iconst (v := 2) hx hb dl_283 (by decide) ?_
    refine lv_iadd hx hb dl_284 ?_
    refine va_sld hx hb hX hbl hbA hS hi2 dl_285 ?_
    refine lv_aload_n hx hb dl_286 rfl (lv_at hl 0 rfl) ?_
    refine lv_iload_n hx hb dl_287 rfl (lv_at hl 3 rfl) ?_
    refine lv_iconst (v := 3) hx hb dl_288 (by decide) ?_
    refine lv_iadd hx hb dl_289 ?_
    refine va_sld hx hb hX hbl hbA hS hi3 dl_290 ?_
    refine lv_aload_n hx hb dl_291 rfl (lv_at hl 0 rfl) ?_
    refine lv_iload_n hx hb dl_292 rfl (lv_at hl 3 rfl) ?_
    refine lv_iconst (v := 4) hx hb dl_293 (by decide) ?_
    refine lv_iadd hx hb dl_294 ?_
    refine va_sld hx hb hX hbl hbA hS hi4 dl_295 ?_
    refine lv_if_eq (tgt := 303) hx hb dl_296 (by decide) (fun c2 => ?_) (fun c2 => absurd c1 c2)
    refine lv_iconst (v := 0) hx hb dl_303 (by decide) ?_
    refine mcallLZ (n := 4) (rest := []) hT hx hb hml hown hts hK hA hP hD hS hl gl_26 hdl_X9_lane ⟨Nat.le_of_ble_eq_true rfl, Nat.le_of_ble_eq_true rfl⟩ rfl rfl (Nat.le_of_ble_eq_true rfl) dl_304 (by rw [rm_c]; omega) (by rw [rm_s]; omega) (fun r2 M1 H locs hP hD hS hT => ?_)
    have hI := hT
    refine lv_pop hx hb dl_307 rfl ?_
    refine lv_goto (tgt := 1130) hx hb dl_308 (by decide) ?_
    exact kk _ _ _ _ _ _ _ hkc hks hI hP hD hS
  · refine lv_iconst (v := 1) hx hb dl_266 (by decide) ?_
    refine lv_goto (tgt := 271) hx hb dl_267 (by decide) ?_
    have hT := hop (xs (x3 + 1).toNatClampNeg) (xs (x3 + 2).toNatClampNeg) (xs (x3 + 3).toNatClampNeg) true
    refine ccallVZ (n := 4) (b := ad 0) (C := RX8) (As := [.int (xs (x3 + 1).toNatClampNeg), .int (xs (x3 + 2).toNatClampNeg), .int (xs (x3 + 3).toNatClampNeg), .int (bI true)]) (rest := []) hT hx hb hml hown hts hK hZ hA hP hD hS hl gl_22 hdl_X8_lane (va_recv hK hP rfl cob_0) ⟨Nat.le_of_ble_eq_true rfl, Nat.le_of_ble_eq_true rfl⟩ rfl rfl rfl (Nat.le_of_ble_eq_true rfl) dl_271 (by rw [rm_c]; omega) (by rw [rm_s]; omega) (fun r1 S1 vd H locs hP hD hS hT => ?_)
    refine lv_pop hx hb dl_274 rfl ?_
    refine lv_aload_n hx hb dl_275 rfl (lv_at hl 2 rfl) ?_
    refine lv_aload_n hx hb dl_276 rfl (lv_at hl 0 rfl) ?_
    refine lv_iload_n hx hb dl_277 rfl (lv_at hl 3 rfl) ?_
    refine lv_iconst (v := 1) hx hb dl_278 (by decide) ?_
    refine lv_iadd hx hb dl_279 ?_
    refine va_sld hx hb hX hbl hbA hS hi1 dl_280 ?_
    refine lv_aload_n hx hb dl_281 rfl (lv_at hl 0 rfl) ?_
    refine lv_iload_n hx hb dl_282 rfl (lv_at hl 3 rfl) ?_
    refine lv_iconst (v := 2) hx hb dl_283 (by decide) ?_
    refine lv_iadd hx hb dl_284 ?_
    refine va_sld hx hb hX hbl hbA hS hi2 dl_285 ?_
    refine lv_aload_n hx hb dl_286 rfl (lv_at hl 0 rfl) ?_
    refine lv_iload_n hx hb dl_287 rfl (lv_at hl 3 rfl) ?_
    refine lv_iconst (v := 3) hx hb dl_288 (by decide) ?_
    refine lv_iadd hx hb dl_289 ?_
    refine va_sld hx hb hX hbl hbA hS hi3 dl_290 ?_
    refine lv_aload_n hx hb dl_291 rfl (lv_at hl 0 rfl) ?_
    refine lv_iload_n hx hb dl_292 rfl (lv_at hl 3 rfl) ?_
    refine lv_iconst (v := 4) hx hb dl_293 (by decide) ?_
    refine lv_iadd hx hb dl_294 ?_
    refine va_sld hx hb hX hbl hbA hS hi4 dl_295 ?_
    refine lv_if_eq (tgt := 303) hx hb dl_296 (by decide) (fun c3 => absurd c3 c1) (fun c3 => ?_)
    refine lv_iconst (v := 1) hx hb dl_299 (by decide) ?_
    refine lv_goto (tgt := 304) hx hb dl_300 (by decide) ?_
    refine mcallLZ (n := 4) (rest := []) hT hx hb hml hown hts hK hA hP hD hS hl gl_26 hdl_X9_lane ⟨Nat.le_of_ble_eq_true rfl, Nat.le_of_ble_eq_true rfl⟩ rfl rfl (Nat.le_of_ble_eq_true rfl) dl_304 (by rw [rm_c]; omega) (by rw [rm_s]; omega) (fun r2 M1 H locs hP hD hS hT => ?_)
    have hI := hT
    refine lv_pop hx hb dl_307 rfl ?_
    refine lv_goto (tgt := 1130) hx hb dl_308 (by decide) ?_
    exact kk _ _ _ _ _ _ _ hkc hks hI hP hD hS
def lop_3 (l : Launch) (Inv : Nat → Nat → Nat → CS → MS → Prop) (j kc ks : Nat) (S : CS) (M : MS) : Prop := cX_X8_lanes l S (fun r1 S1 => mX_lanes l M (fun r2 M1 => Inv (j + 1) kc ks S1 M1))
set_option maxHeartbeats 8000000 in
set_option maxRecDepth 100000 in
theorem lawc_3 {p : Program} {l : Launch} {e : Env} {s : State} {m : MethodId} {below : List Frame} {meth : Method} {c : Code} {b L : Nat} {xs : Nat → Int32} {D : va_G} {cI cZ cL cG : ClassId} {Q : State → Prop} (C0 : lw_At p s m meth c b L xs) (hK : va_K D vwCl (cTy cI cZ cL cG) s) (hZ : cZw s) {Inv : Nat → Nat → Nat → CS → MS → Prop} {j kc ks : Nat} {S : CS} {M : MS} (hkc : kc ≤ 599911) (hks : ks ≤ 6978994) (hop : lop_3 l Inv j kc ks S M) {x3 : Int32} (hi : ∀ k : Nat, k < 9 → vp_in (x3 + nI k) L) {ad vd am : Nat → Nat} {H : Heap} {locs : List Loc} {ls : Array Slot} (hP : va_P D vwCl (cW ad vd cI cZ cL cG S ++ mW am cI cZ cL M) H) (hD : va_D (fun q : Nat => s.heap.size ≤ q) (cW ad vd cI cZ cL cG S ++ mW am cI cZ cL M)) (hS : va_S (fun q : Nat => s.heap.size ≤ q) s.heap H locs) (hl : lv_has ls 4 [(0, .ref b), (1, .ref (ad 0)), (2, .ref (am 0)), (3, .int x3)]) (kk : ∀ (kc1 ks1 : Nat) (S1 : CS) (M1 : MS) (vd1 : Nat → Nat) (H1 : Heap) (locs1 : List Loc), kc1 ≤ 599911 → ks1 ≤ 6978994 → Inv (j + 1) kc1 ks1 S1 M1 → va_P D vwCl (cW ad vd1 cI cZ cL cG S1 ++ mW am cI cZ cL M1) H1 → va_D (fun q : Nat => s.heap.size ≤ q) (cW ad vd1 cI cZ cL cG S1 ++ mW am cI cZ cL M1) → va_S (fun q : Nat => s.heap.size ≤ q) s.heap H1 locs1 → W p l e room_1 s m #[Value.ref b] below meth c H1 locs1 (89 + kc1) (323256 + ks1) Q (F0 m 1130 ls [])) : W p l e room_1 s m #[Value.ref b] below meth c H locs (89 + kc) (323256 + ks) Q (F0 m 311 ls []) := by
  obtain ⟨hx, hb, hr, hml, hown, hts0, hX, hbl, hlocks, hgv⟩ := C0
  have hts : ∀ w ∈ gw, w.before #[Value.ref b] s = true := fun w h => hts0 w (List.mem_filter.mp h).1
  have hA : ∀ q : Nat, s.heap.size ≤ q → (fun q : Nat => s.heap.size ≤ q) q := fun _ h => h
  have hbA : ¬ (fun q : Nat => s.heap.size ≤ q) b := Nat.not_le.mpr hbl
  refine lv_aload_n hx hb dl_311 rfl (lv_at hl 1 rfl) ?_
  have hT := hop
  refine ccallVI (n := 0) (b := ad 0) (C := RX8) (As := []) (rest := []) hT hx hb hml hown hts hK hZ hA hP hD hS hl gl_27 hdl_X8_lanes (va_recv hK hP rfl cob_0) ⟨Nat.le_of_ble_eq_true rfl, Nat.le_of_ble_eq_true rfl⟩ rfl rfl rfl (Nat.le_of_ble_eq_true rfl) dl_312 (by rw [rm_c]; omega) (by rw [rm_s]; omega) (fun r1 S1 vd H locs hP hD hS hT => ?_)
  refine lv_pop hx hb dl_315 rfl ?_
  refine lv_aload_n hx hb dl_316 rfl (lv_at hl 2 rfl) ?_
  refine mcallLI (n := 0) (rest := []) hT hx hb hml hown hts hK hA hP hD hS hl gl_31 hdl_X9_lanes ⟨Nat.le_of_ble_eq_true rfl, Nat.le_of_ble_eq_true rfl⟩ rfl rfl (Nat.le_of_ble_eq_true rfl) dl_317 (by rw [rm_c]; omega) (by rw [rm_s]; omega) (fun r2 M1 H locs hP hD hS hT => ?_)
  have hI := hT
  refine lv_pop hx hb dl_320 rfl ?_
  refine lv_goto (tgt := 1130) hx hb dl_321 (by decide) ?_
  exact kk _ _ _ _ _ _ _ hkc hks hI hP hD hS
def lop_4 (l : Launch) (Inv : Nat → Nat → Nat → CS → MS → Prop) (j kc ks : Nat) (S : CS) (M : MS) : Prop := ∀ (a1 : Int32) (a2 : Int32), cX_X8_cost l S a1 a2 (fun r1 S1 => mX_cost l M a1 a2 (fun r2 M1 => Inv (j + 1) kc ks S1 M1))
set_option maxHeartbeats 8000000 in
set_option maxRecDepth 100000 in
theorem lawc_4 {p : Program} {l : Launch} {e : Env} {s : State} {m : MethodId} {below : List Frame} {meth : Method} {c : Code} {b L : Nat} {xs : Nat → Int32} {D : va_G} {cI cZ cL cG : ClassId} {Q : State → Prop} (C0 : lw_At p s m meth c b L xs) (hK : va_K D vwCl (cTy cI cZ cL cG) s) (hZ : cZw s) {Inv : Nat → Nat → Nat → CS → MS → Prop} {j kc ks : Nat} {S : CS} {M : MS} (hkc : kc ≤ 599911) (hks : ks ≤ 6978994) (hop : lop_4 l Inv j kc ks S M) {x3 : Int32} (hi : ∀ k : Nat, k < 9 → vp_in (x3 + nI k) L) {ad vd am : Nat → Nat} {H : Heap} {locs : List Loc} {ls : Array Slot} (hP : va_P D vwCl (cW ad vd cI cZ cL cG S ++ mW am cI cZ cL M) H) (hD : va_D (fun q : Nat => s.heap.size ≤ q) (cW ad vd cI cZ cL cG S ++ mW am cI cZ cL M)) (hS : va_S (fun q : Nat => s.heap.size ≤ q) s.heap H locs) (hl : lv_has ls 4 [(0, .ref b), (1, .ref (ad 0)), (2, .ref (am 0)), (3, .int x3)]) (kk : ∀ (kc1 ks1 : Nat) (S1 : CS) (M1 : MS) (vd1 : Nat → Nat) (H1 : Heap) (locs1 : List Loc), kc1 ≤ 599911 → ks1 ≤ 6978994 → Inv (j + 1) kc1 ks1 S1 M1 → va_P D vwCl (cW ad vd1 cI cZ cL cG S1 ++ mW am cI cZ cL M1) H1 → va_D (fun q : Nat => s.heap.size ≤ q) (cW ad vd1 cI cZ cL cG S1 ++ mW am cI cZ cL M1) → va_S (fun q : Nat => s.heap.size ≤ q) s.heap H1 locs1 → W p l e room_1 s m #[Value.ref b] below meth c H1 locs1 (89 + kc1) (323256 + ks1) Q (F0 m 1130 ls [])) : W p l e room_1 s m #[Value.ref b] below meth c H locs (89 + kc) (323256 + ks) Q (F0 m 324 ls []) := by
  obtain ⟨hx, hb, hr, hml, hown, hts0, hX, hbl, hlocks, hgv⟩ := C0
  have hts : ∀ w ∈ gw, w.before #[Value.ref b] s = true := fun w h => hts0 w (List.mem_filter.mp h).1
  have hA : ∀ q : Nat, s.heap.size ≤ q → (fun q : Nat => s.heap.size ≤ q) q := fun _ h => h
  have hbA : ¬ (fun q : Nat => s.heap.size ≤ q) b := Nat.not_le.mpr hbl
  have hi1 : vp_in (x3 + 1) L := hi 1 (by decide)
  have hi2 : vp_in (x3 + 2) L := hi 2 (by decide)
  refine lv_aload_n hx hb dl_324 rfl (lv_at hl 1 rfl) ?_
  refine lv_aload_n hx hb dl_325 rfl (lv_at hl 0 rfl) ?_
  refine lv_iload_n hx hb dl_326 rfl (lv_at hl 3 rfl) ?_
  refine lv_iconst (v := 1) hx hb dl_327 (by decide) ?_
  refine lv_iadd hx hb dl_328 ?_
  refine va_sld hx hb hX hbl hbA hS hi1 dl_329 ?_
  refine lv_aload_n hx hb dl_330 rfl (lv_at hl 0 rfl) ?_
  refine lv_iload_n hx hb dl_331 rfl (lv_at hl 3 rfl) ?_
  refine lv_iconst (v := 2) hx hb dl_332 (by decide) ?_
  refine lv_iadd hx hb dl_333 ?_
  refine va_sld hx hb hX hbl hbA hS hi2 dl_334 ?_
  have hT := hop (xs (x3 + 1).toNatClampNeg) (xs (x3 + 2).toNatClampNeg)
  refine ccallVI (n := 2) (b := ad 0) (C := RX8) (As := [.int (xs (x3 + 1).toNatClampNeg), .int (xs (x3 + 2).toNatClampNeg)]) (rest := []) hT hx hb hml hown hts hK hZ hA hP hD hS hl gl_32 hdl_X8_cost (va_recv hK hP rfl cob_0) ⟨Nat.le_of_ble_eq_true rfl, Nat.le_of_ble_eq_true rfl⟩ rfl rfl rfl (Nat.le_of_ble_eq_true rfl) dl_335 (by rw [rm_c]; omega) (by rw [rm_s]; omega) (fun r1 S1 vd H locs hP hD hS hT => ?_)
  refine lv_pop hx hb dl_338 rfl ?_
  refine lv_aload_n hx hb dl_339 rfl (lv_at hl 2 rfl) ?_
  refine lv_aload_n hx hb dl_340 rfl (lv_at hl 0 rfl) ?_
  refine lv_iload_n hx hb dl_341 rfl (lv_at hl 3 rfl) ?_
  refine lv_iconst (v := 1) hx hb dl_342 (by decide) ?_
  refine lv_iadd hx hb dl_343 ?_
  refine va_sld hx hb hX hbl hbA hS hi1 dl_344 ?_
  refine lv_aload_n hx hb dl_345 rfl (lv_at hl 0 rfl) ?_
  refine lv_iload_n hx hb dl_346 rfl (lv_at hl 3 rfl) ?_
  refine lv_iconst (v := 2) hx hb dl_347 (by decide) ?_
  refine lv_iadd hx hb dl_348 ?_
  refine va_sld hx hb hX hbl hbA hS hi2 dl_349 ?_
  refine mcallLI (n := 2) (rest := []) hT hx hb hml hown hts hK hA hP hD hS hl gl_36 hdl_X9_cost ⟨Nat.le_of_ble_eq_true rfl, Nat.le_of_ble_eq_true rfl⟩ rfl rfl (Nat.le_of_ble_eq_true rfl) dl_350 (by rw [rm_c]; omega) (by rw [rm_s]; omega) (fun r2 M1 H locs hP hD hS hT => ?_)
  have hI := hT
  refine lv_pop hx hb dl_353 rfl ?_
  refine lv_goto (tgt := 1130) hx hb dl_354 (by decide) ?_
  exact kk _ _ _ _ _ _ _ hkc hks hI hP hD hS
def lop_5 (l : Launch) (Inv : Nat → Nat → Nat → CS → MS → Prop) (j kc ks : Nat) (S : CS) (M : MS) : Prop := ∀ (a1 : Int32) (a2 : Bool), cX_X8_stand l S a1 a2 (fun r1 S1 => mX_stand l M a1 a2 (fun r2 M1 => Inv (j + 1) kc ks S1 M1))
set_option maxHeartbeats 8000000 in
set_option maxRecDepth 100000 in
theorem lawc_5 {p : Program} {l : Launch} {e : Env} {s : State} {m : MethodId} {below : List Frame} {meth : Method} {c : Code} {b L : Nat} {xs : Nat → Int32} {D : va_G} {cI cZ cL cG : ClassId} {Q : State → Prop} (C0 : lw_At p s m meth c b L xs) (hK : va_K D vwCl (cTy cI cZ cL cG) s) (hZ : cZw s) {Inv : Nat → Nat → Nat → CS → MS → Prop} {j kc ks : Nat} {S : CS} {M : MS} (hkc : kc ≤ 599911) (hks : ks ≤ 6978994) (hop : lop_5 l Inv j kc ks S M) {x3 : Int32} (hi : ∀ k : Nat, k < 9 → vp_in (x3 + nI k) L) {ad vd am : Nat → Nat} {H : Heap} {locs : List Loc} {ls : Array Slot} (hP : va_P D vwCl (cW ad vd cI cZ cL cG S ++ mW am cI cZ cL M) H) (hD : va_D (fun q : Nat => s.heap.size ≤ q) (cW ad vd cI cZ cL cG S ++ mW am cI cZ cL M)) (hS : va_S (fun q : Nat => s.heap.size ≤ q) s.heap H locs) (hl : lv_has ls 4 [(0, .ref b), (1, .ref (ad 0)), (2, .ref (am 0)), (3, .int x3)]) (kk : ∀ (kc1 ks1 : Nat) (S1 : CS) (M1 : MS) (vd1 : Nat → Nat) (H1 : Heap) (locs1 : List Loc), kc1 ≤ 599911 → ks1 ≤ 6978994 → Inv (j + 1) kc1 ks1 S1 M1 → va_P D vwCl (cW ad vd1 cI cZ cL cG S1 ++ mW am cI cZ cL M1) H1 → va_D (fun q : Nat => s.heap.size ≤ q) (cW ad vd1 cI cZ cL cG S1 ++ mW am cI cZ cL M1) → va_S (fun q : Nat => s.heap.size ≤ q) s.heap H1 locs1 → W p l e room_1 s m #[Value.ref b] below meth c H1 locs1 (89 + kc1) (323256 + ks1) Q (F0 m 1130 ls [])) : W p l e room_1 s m #[Value.ref b] below meth c H locs (89 + kc) (323256 + ks) Q (F0 m 357 ls []) := by
  obtain ⟨hx, hb, hr, hml, hown, hts0, hX, hbl, hlocks, hgv⟩ := C0
  have hts : ∀ w ∈ gw, w.before #[Value.ref b] s = true := fun w h => hts0 w (List.mem_filter.mp h).1
  have hA : ∀ q : Nat, s.heap.size ≤ q → (fun q : Nat => s.heap.size ≤ q) q := fun _ h => h
  have hbA : ¬ (fun q : Nat => s.heap.size ≤ q) b := Nat.not_le.mpr hbl
  have hi1 : vp_in (x3 + 1) L := hi 1 (by decide)
  have hi2 : vp_in (x3 + 2) L := hi 2 (by decide)
  refine lv_aload_n hx hb dl_357 rfl (lv_at hl 1 rfl) ?_
  refine lv_aload_n hx hb dl_358 rfl (lv_at hl 0 rfl) ?_
  refine lv_iload_n hx hb dl_359 rfl (lv_at hl 3 rfl) ?_
  refine lv_iconst (v := 1) hx hb dl_360 (by decide) ?_
  refine lv_iadd hx hb dl_361 ?_
  refine va_sld hx hb hX hbl hbA hS hi1 dl_362 ?_
  refine lv_aload_n hx hb dl_363 rfl (lv_at hl 0 rfl) ?_
  refine lv_iload_n hx hb dl_364 rfl (lv_at hl 3 rfl) ?_
  refine lv_iconst (v := 2) hx hb dl_365 (by decide) ?_
  refine lv_iadd hx hb dl_366 ?_
  refine va_sld hx hb hX hbl hbA hS hi2 dl_367 ?_
  refine lv_if_eq (tgt := 375) hx hb dl_368 (by decide) (fun c1 => ?_) (fun c1 => ?_)
  · refine lv_iconst (v := 0) hx hb dl_375 (by decide) ?_
    have hT := hop (xs (x3 + 1).toNatClampNeg) false
    refine ccallVZ (n := 2) (b := ad 0) (C := RX8) (As := [.int (xs (x3 + 1).toNatClampNeg), .int (bI false)]) (rest := []) hT hx hb hml hown hts hK hZ hA hP hD hS hl gl_37 hdl_X8_stand (va_recv hK hP rfl cob_0) ⟨Nat.le_of_ble_eq_true rfl, Nat.le_of_ble_eq_true rfl⟩ rfl rfl rfl (Nat.le_of_ble_eq_true rfl) dl_376 (by rw [rm_c]; omega) (by rw [rm_s]; omega) (fun r1 S1 vd H locs hP hD hS hT => ?_)
    refine lv_pop hx hb dl_379 rfl ?_
    refine lv_aload_n hx hb dl_380 rfl (lv_at hl 2 rfl) ?_
    refine lv_aload_n hx hb dl_381 rfl (lv_at hl 0 rfl) ?_
    refine lv_iload_n hx hb dl_382 rfl (lv_at hl 3 rfl) ?_
    refine lv_iconst (v := 1) hx hb dl_383 (by decide) ?_
    refine lv_iadd hx hb dl_384 ?_
    refine va_sld hx hb hX hbl hbA hS hi1 dl_385 ?_
    refine lv_aload_n hx hb dl_386 rfl (lv_at hl 0 rfl) ?_
    refine lv_iload_n hx hb dl_387 rfl (lv_at hl 3 rfl) ?_
    refine lv_iconst (v := 2) hx hb dl_388 (by decide) ?_
    refine lv_iadd hx hb dl_389 ?_
    refine va_sld hx hb hX hbl hbA hS hi2 dl_390 ?_
    refine lv_if_eq (tgt := 398) hx hb dl_391 (by decide) (fun c2 => ?_) (fun c2 => absurd c1 c2)
    refine lv_iconst (v := 0) hx hb dl_398 (by decide) ?_
    refine mcallLZ (n := 2) (rest := []) hT hx hb hml hown hts hK hA hP hD hS hl gl_41 hdl_X9_stand ⟨Nat.le_of_ble_eq_true rfl, Nat.le_of_ble_eq_true rfl⟩ rfl rfl (Nat.le_of_ble_eq_true rfl) dl_399 (by rw [rm_c]; omega) (by rw [rm_s]; omega) (fun r2 M1 H locs hP hD hS hT => ?_)
    have hI := hT
    refine lv_pop hx hb dl_402 rfl ?_
    refine lv_goto (tgt := 1130) hx hb dl_403 (by decide) ?_
    exact kk _ _ _ _ _ _ _ hkc hks hI hP hD hS
  · refine lv_iconst (v := 1) hx hb dl_371 (by decide) ?_
    refine lv_goto (tgt := 376) hx hb dl_372 (by decide) ?_
    have hT := hop (xs (x3 + 1).toNatClampNeg) true
    refine ccallVZ (n := 2) (b := ad 0) (C := RX8) (As := [.int (xs (x3 + 1).toNatClampNeg), .int (bI true)]) (rest := []) hT hx hb hml hown hts hK hZ hA hP hD hS hl gl_37 hdl_X8_stand (va_recv hK hP rfl cob_0) ⟨Nat.le_of_ble_eq_true rfl, Nat.le_of_ble_eq_true rfl⟩ rfl rfl rfl (Nat.le_of_ble_eq_true rfl) dl_376 (by rw [rm_c]; omega) (by rw [rm_s]; omega) (fun r1 S1 vd H locs hP hD hS hT => ?_)
    refine lv_pop hx hb dl_379 rfl ?_
    refine lv_aload_n hx hb dl_380 rfl (lv_at hl 2 rfl) ?_
    refine lv_aload_n hx hb dl_381 rfl (lv_at hl 0 rfl) ?_
    refine lv_iload_n hx hb dl_382 rfl (lv_at hl 3 rfl) ?_
    refine lv_iconst (v := 1) hx hb dl_383 (by decide) ?_
    refine lv_iadd hx hb dl_384 ?_
    refine va_sld hx hb hX hbl hbA hS hi1 dl_385 ?_
    refine lv_aload_n hx hb dl_386 rfl (lv_at hl 0 rfl) ?_
    refine lv_iload_n hx hb dl_387 rfl (lv_at hl 3 rfl) ?_
    refine lv_iconst (v := 2) hx hb dl_388 (by decide) ?_
    refine lv_iadd hx hb dl_389 ?_
    refine va_sld hx hb hX hbl hbA hS hi2 dl_390 ?_
    refine lv_if_eq (tgt := 398) hx hb dl_391 (by decide) (fun c3 => absurd c3 c1) (fun c3 => ?_)
    refine lv_iconst (v := 1) hx hb dl_394 (by decide) ?_
    refine lv_goto (tgt := 399) hx hb dl_395 (by decide) ?_
    refine mcallLZ (n := 2) (rest := []) hT hx hb hml hown hts hK hA hP hD hS hl gl_41 hdl_X9_stand ⟨Nat.le_of_ble_eq_true rfl, Nat.le_of_ble_eq_true rfl⟩ rfl rfl (Nat.le_of_ble_eq_true rfl) dl_399 (by rw [rm_c]; omega) (by rw [rm_s]; omega) (fun r2 M1 H locs hP hD hS hT => ?_)
    have hI := hT
    refine lv_pop hx hb dl_402 rfl ?_
    refine lv_goto (tgt := 1130) hx hb dl_403 (by decide) ?_
    exact kk _ _ _ _ _ _ _ hkc hks hI hP hD hS
def lop_6 (l : Launch) (Inv : Nat → Nat → Nat → CS → MS → Prop) (j kc ks : Nat) (S : CS) (M : MS) : Prop := ∀ (a1 : Bool), cX_X8_number l S a1 (fun r1 S1 => mX_number l M a1 (fun r2 M1 => Inv (j + 1) kc ks S1 M1))
set_option maxHeartbeats 8000000 in
set_option maxRecDepth 100000 in
theorem lawc_6 {p : Program} {l : Launch} {e : Env} {s : State} {m : MethodId} {below : List Frame} {meth : Method} {c : Code} {b L : Nat} {xs : Nat → Int32} {D : va_G} {cI cZ cL cG : ClassId} {Q : State → Prop} (C0 : lw_At p s m meth c b L xs) (hK : va_K D vwCl (cTy cI cZ cL cG) s) (hZ : cZw s) {Inv : Nat → Nat → Nat → CS → MS → Prop} {j kc ks : Nat} {S : CS} {M : MS} (hkc : kc ≤ 599911) (hks : ks ≤ 6978994) (hop : lop_6 l Inv j kc ks S M) {x3 : Int32} (hi : ∀ k : Nat, k < 9 → vp_in (x3 + nI k) L) {ad vd am : Nat → Nat} {H : Heap} {locs : List Loc} {ls : Array Slot} (hP : va_P D vwCl (cW ad vd cI cZ cL cG S ++ mW am cI cZ cL M) H) (hD : va_D (fun q : Nat => s.heap.size ≤ q) (cW ad vd cI cZ cL cG S ++ mW am cI cZ cL M)) (hS : va_S (fun q : Nat => s.heap.size ≤ q) s.heap H locs) (hl : lv_has ls 4 [(0, .ref b), (1, .ref (ad 0)), (2, .ref (am 0)), (3, .int x3)]) (kk : ∀ (kc1 ks1 : Nat) (S1 : CS) (M1 : MS) (vd1 : Nat → Nat) (H1 : Heap) (locs1 : List Loc), kc1 ≤ 599911 → ks1 ≤ 6978994 → Inv (j + 1) kc1 ks1 S1 M1 → va_P D vwCl (cW ad vd1 cI cZ cL cG S1 ++ mW am cI cZ cL M1) H1 → va_D (fun q : Nat => s.heap.size ≤ q) (cW ad vd1 cI cZ cL cG S1 ++ mW am cI cZ cL M1) → va_S (fun q : Nat => s.heap.size ≤ q) s.heap H1 locs1 → W p l e room_1 s m #[Value.ref b] below meth c H1 locs1 (89 + kc1) (323256 + ks1) Q (F0 m 1130 ls [])) : W p l e room_1 s m #[Value.ref b] below meth c H locs (89 + kc) (323256 + ks) Q (F0 m 406 ls []) := by
  obtain ⟨hx, hb, hr, hml, hown, hts0, hX, hbl, hlocks, hgv⟩ := C0
  have hts : ∀ w ∈ gw, w.before #[Value.ref b] s = true := fun w h => hts0 w (List.mem_filter.mp h).1
  have hA : ∀ q : Nat, s.heap.size ≤ q → (fun q : Nat => s.heap.size ≤ q) q := fun _ h => h
  have hbA : ¬ (fun q : Nat => s.heap.size ≤ q) b := Nat.not_le.mpr hbl
  have hi1 : vp_in (x3 + 1) L := hi 1 (by decide)
  refine lv_aload_n hx hb dl_406 rfl (lv_at hl 1 rfl) ?_
  refine lv_aload_n hx hb dl_407 rfl (lv_at hl 0 rfl) ?_
  refine lv_iload_n hx hb dl_408 rfl (lv_at hl 3 rfl) ?_
  refine lv_iconst (v := 1) hx hb dl_409 (by decide) ?_
  refine lv_iadd hx hb dl_410 ?_
  refine va_sld hx hb hX hbl hbA hS hi1 dl_411 ?_
  refine lv_if_eq (tgt := 419) hx hb dl_412 (by decide) (fun c1 => ?_) (fun c1 => ?_)
  · refine lv_iconst (v := 0) hx hb dl_419 (by decide) ?_
    have hT := hop false
    refine ccallVI (n := 1) (b := ad 0) (C := RX8) (As := [.int (bI false)]) (rest := []) hT hx hb hml hown hts hK hZ hA hP hD hS hl gl_42 hdl_X8_number (va_recv hK hP rfl cob_0) ⟨Nat.le_of_ble_eq_true rfl, Nat.le_of_ble_eq_true rfl⟩ rfl rfl rfl (Nat.le_of_ble_eq_true rfl) dl_420 (by rw [rm_c]; omega) (by rw [rm_s]; omega) (fun r1 S1 vd H locs hP hD hS hT => ?_)
    refine lv_pop hx hb dl_423 rfl ?_
    refine lv_aload_n hx hb dl_424 rfl (lv_at hl 2 rfl) ?_
    refine lv_aload_n hx hb dl_425 rfl (lv_at hl 0 rfl) ?_
    refine lv_iload_n hx hb dl_426 rfl (lv_at hl 3 rfl) ?_
    refine lv_iconst (v := 1) hx hb dl_427 (by decide) ?_
    refine lv_iadd hx hb dl_428 ?_
    refine va_sld hx hb hX hbl hbA hS hi1 dl_429 ?_
    refine lv_if_eq (tgt := 437) hx hb dl_430 (by decide) (fun c2 => ?_) (fun c2 => absurd c1 c2)
    refine lv_iconst (v := 0) hx hb dl_437 (by decide) ?_
    refine mcallLI (n := 1) (rest := []) hT hx hb hml hown hts hK hA hP hD hS hl gl_46 hdl_X9_number ⟨Nat.le_of_ble_eq_true rfl, Nat.le_of_ble_eq_true rfl⟩ rfl rfl (Nat.le_of_ble_eq_true rfl) dl_438 (by rw [rm_c]; omega) (by rw [rm_s]; omega) (fun r2 M1 H locs hP hD hS hT => ?_)
    have hI := hT
    refine lv_pop hx hb dl_441 rfl ?_
    refine lv_goto (tgt := 1130) hx hb dl_442 (by decide) ?_
    exact kk _ _ _ _ _ _ _ hkc hks hI hP hD hS
  · refine lv_iconst (v := 1) hx hb dl_415 (by decide) ?_
    refine lv_goto (tgt := 420) hx hb dl_416 (by decide) ?_
    have hT := hop true
    refine ccallVI (n := 1) (b := ad 0) (C := RX8) (As := [.int (bI true)]) (rest := []) hT hx hb hml hown hts hK hZ hA hP hD hS hl gl_42 hdl_X8_number (va_recv hK hP rfl cob_0) ⟨Nat.le_of_ble_eq_true rfl, Nat.le_of_ble_eq_true rfl⟩ rfl rfl rfl (Nat.le_of_ble_eq_true rfl) dl_420 (by rw [rm_c]; omega) (by rw [rm_s]; omega) (fun r1 S1 vd H locs hP hD hS hT => ?_)
    refine lv_pop hx hb dl_423 rfl ?_
    refine lv_aload_n hx hb dl_424 rfl (lv_at hl 2 rfl) ?_
    refine lv_aload_n hx hb dl_425 rfl (lv_at hl 0 rfl) ?_
    refine lv_iload_n hx hb dl_426 rfl (lv_at hl 3 rfl) ?_
    refine lv_iconst (v := 1) hx hb dl_427 (by decide) ?_
    refine lv_iadd hx hb dl_428 ?_
    refine va_sld hx hb hX hbl hbA hS hi1 dl_429 ?_
    refine lv_if_eq (tgt := 437) hx hb dl_430 (by decide) (fun c3 => absurd c3 c1) (fun c3 => ?_)
    refine lv_iconst (v := 1) hx hb dl_433 (by decide) ?_
    refine lv_goto (tgt := 438) hx hb dl_434 (by decide) ?_
    refine mcallLI (n := 1) (rest := []) hT hx hb hml hown hts hK hA hP hD hS hl gl_46 hdl_X9_number ⟨Nat.le_of_ble_eq_true rfl, Nat.le_of_ble_eq_true rfl⟩ rfl rfl (Nat.le_of_ble_eq_true rfl) dl_438 (by rw [rm_c]; omega) (by rw [rm_s]; omega) (fun r2 M1 H locs hP hD hS hT => ?_)
    have hI := hT
    refine lv_pop hx hb dl_441 rfl ?_
    refine lv_goto (tgt := 1130) hx hb dl_442 (by decide) ?_
    exact kk _ _ _ _ _ _ _ hkc hks hI hP hD hS
def lop_7 (l : Launch) (Inv : Nat → Nat → Nat → CS → MS → Prop) (j kc ks : Nat) (S : CS) (M : MS) : Prop := ∀ (a1 : Int32), cX_X8_peg l S a1 (fun r1 S1 => mX_peg l M a1 (fun r2 M1 => Inv (j + 1) kc ks S1 M1))
set_option maxHeartbeats 8000000 in
set_option maxRecDepth 100000 in
theorem lawc_7 {p : Program} {l : Launch} {e : Env} {s : State} {m : MethodId} {below : List Frame} {meth : Method} {c : Code} {b L : Nat} {xs : Nat → Int32} {D : va_G} {cI cZ cL cG : ClassId} {Q : State → Prop} (C0 : lw_At p s m meth c b L xs) (hK : va_K D vwCl (cTy cI cZ cL cG) s) (hZ : cZw s) {Inv : Nat → Nat → Nat → CS → MS → Prop} {j kc ks : Nat} {S : CS} {M : MS} (hkc : kc ≤ 599911) (hks : ks ≤ 6978994) (hop : lop_7 l Inv j kc ks S M) {x3 : Int32} (hi : ∀ k : Nat, k < 9 → vp_in (x3 + nI k) L) {ad vd am : Nat → Nat} {H : Heap} {locs : List Loc} {ls : Array Slot} (hP : va_P D vwCl (cW ad vd cI cZ cL cG S ++ mW am cI cZ cL M) H) (hD : va_D (fun q : Nat => s.heap.size ≤ q) (cW ad vd cI cZ cL cG S ++ mW am cI cZ cL M)) (hS : va_S (fun q : Nat => s.heap.size ≤ q) s.heap H locs) (hl : lv_has ls 4 [(0, .ref b), (1, .ref (ad 0)), (2, .ref (am 0)), (3, .int x3)]) (kk : ∀ (kc1 ks1 : Nat) (S1 : CS) (M1 : MS) (vd1 : Nat → Nat) (H1 : Heap) (locs1 : List Loc), kc1 ≤ 599911 → ks1 ≤ 6978994 → Inv (j + 1) kc1 ks1 S1 M1 → va_P D vwCl (cW ad vd1 cI cZ cL cG S1 ++ mW am cI cZ cL M1) H1 → va_D (fun q : Nat => s.heap.size ≤ q) (cW ad vd1 cI cZ cL cG S1 ++ mW am cI cZ cL M1) → va_S (fun q : Nat => s.heap.size ≤ q) s.heap H1 locs1 → W p l e room_1 s m #[Value.ref b] below meth c H1 locs1 (89 + kc1) (323256 + ks1) Q (F0 m 1130 ls [])) : W p l e room_1 s m #[Value.ref b] below meth c H locs (89 + kc) (323256 + ks) Q (F0 m 445 ls []) := by
  obtain ⟨hx, hb, hr, hml, hown, hts0, hX, hbl, hlocks, hgv⟩ := C0
  have hts : ∀ w ∈ gw, w.before #[Value.ref b] s = true := fun w h => hts0 w (List.mem_filter.mp h).1
  have hA : ∀ q : Nat, s.heap.size ≤ q → (fun q : Nat => s.heap.size ≤ q) q := fun _ h => h
  have hbA : ¬ (fun q : Nat => s.heap.size ≤ q) b := Nat.not_le.mpr hbl
  have hi1 : vp_in (x3 + 1) L := hi 1 (by decide)
  refine lv_aload_n hx hb dl_445 rfl (lv_at hl 1 rfl) ?_
  refine lv_aload_n hx hb dl_446 rfl (lv_at hl 0 rfl) ?_
  refine lv_iload_n hx hb dl_447 rfl (lv_at hl 3 rfl) ?_
  refine lv_iconst (v := 1) hx hb dl_448 (by decide) ?_
  refine lv_iadd hx hb dl_449 ?_
  refine va_sld hx hb hX hbl hbA hS hi1 dl_450 ?_
  have hT := hop (xs (x3 + 1).toNatClampNeg)
  refine ccallVI (n := 1) (b := ad 0) (C := RX8) (As := [.int (xs (x3 + 1).toNatClampNeg)]) (rest := []) hT hx hb hml hown hts hK hZ hA hP hD hS hl gl_47 hdl_X8_peg (va_recv hK hP rfl cob_0) ⟨Nat.le_of_ble_eq_true rfl, Nat.le_of_ble_eq_true rfl⟩ rfl rfl rfl (Nat.le_of_ble_eq_true rfl) dl_451 (by rw [rm_c]; omega) (by rw [rm_s]; omega) (fun r1 S1 vd H locs hP hD hS hT => ?_)
  refine lv_pop hx hb dl_454 rfl ?_
  refine lv_aload_n hx hb dl_455 rfl (lv_at hl 2 rfl) ?_
  refine lv_aload_n hx hb dl_456 rfl (lv_at hl 0 rfl) ?_
  refine lv_iload_n hx hb dl_457 rfl (lv_at hl 3 rfl) ?_
  refine lv_iconst (v := 1) hx hb dl_458 (by decide) ?_
  refine lv_iadd hx hb dl_459 ?_
  refine va_sld hx hb hX hbl hbA hS hi1 dl_460 ?_
  refine mcallLI (n := 1) (rest := []) hT hx hb hml hown hts hK hA hP hD hS hl gl_51 hdl_X9_peg ⟨Nat.le_of_ble_eq_true rfl, Nat.le_of_ble_eq_true rfl⟩ rfl rfl (Nat.le_of_ble_eq_true rfl) dl_461 (by rw [rm_c]; omega) (by rw [rm_s]; omega) (fun r2 M1 H locs hP hD hS hT => ?_)
  have hI := hT
  refine lv_pop hx hb dl_464 rfl ?_
  refine lv_goto (tgt := 1130) hx hb dl_465 (by decide) ?_
  exact kk _ _ _ _ _ _ _ hkc hks hI hP hD hS
