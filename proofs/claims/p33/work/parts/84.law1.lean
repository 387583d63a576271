def lop_8 (l : Launch) (Inv : Nat → Nat → Nat → CS → MS → Prop) (j kc ks : Nat) (S : CS) (M : MS) : Prop := ∀ (a1 : Int32) (a2 : Int32), cX_X8_disc l S a1 a2 (fun r1 S1 => mX_disc l M a1 a2 (fun r2 M1 => Inv (j + 1) kc ks S1 M1))
set_option maxHeartbeats 8000000 in
set_option maxRecDepth 100000 in
theorem lawc_8 {p : Program} {l : Launch} {e : Env} {s : State} {m : MethodId} {below : List Frame} {meth : Method} {c : Code} {b L : Nat} {xs : Nat → Int32} {D : va_G} {cI cZ cL cG : ClassId} {Q : State → Prop} (C0 : lw_At p s m meth c b L xs) (hK : va_K D vwCl (cTy cI cZ cL cG) s) (hZ : cZw s) {Inv : Nat → Nat → Nat → CS → MS → Prop} {j kc ks : Nat} {S : CS} {M : MS} (hkc : kc ≤ 599911) (hks : ks ≤ 6978994) (hop : lop_8 l Inv j kc ks S M) {x3 : Int32} (hi : ∀ k : Nat, k < 9 → vp_in (x3 + nI k) L) {ad vd am : Nat → Nat} {H : Heap} {locs : List Loc} {ls : Array Slot} (hP : va_P D vwCl (cW ad vd cI cZ cL cG S ++ mW am cI cZ cL M) H) (hD : va_D (fun q : Nat => s.heap.size ≤ q) (cW ad vd cI cZ cL cG S ++ mW am cI cZ cL M)) (hS : va_S (fun q : Nat => s.heap.size ≤ q) s.heap H locs) (hl : lv_has ls 4 [(0, .ref b), (1, .ref (ad 0)), (2, .ref (am 0)), (3, .int x3)]) (kk : ∀ (kc1 ks1 : Nat) (S1 : CS) (M1 : MS) (vd1 : Nat → Nat) (H1 : Heap) (locs1 : List Loc), kc1 ≤ 599911 → ks1 ≤ 6978994 → Inv (j + 1) kc1 ks1 S1 M1 → va_P D vwCl (cW ad vd1 cI cZ cL cG S1 ++ mW am cI cZ cL M1) H1 → va_D (fun q : Nat => s.heap.size ≤ q) (cW ad vd1 cI cZ cL cG S1 ++ mW am cI cZ cL M1) → va_S (fun q : Nat => s.heap.size ≤ q) s.heap H1 locs1 → W p l e room_1 s m #[Value.ref b] below meth c H1 locs1 (89 + kc1) (323256 + ks1) Q (F0 m 1130 ls [])) : W p l e room_1 s m #[Value.ref b] below meth c H locs (89 + kc) (323256 + ks) Q (F0 m 468 ls []) := by
  obtain ⟨hx, hb, hr, hml, hown, hts0, hX, hbl, hlocks, hgv⟩ := C0
  have hts : ∀ w ∈ gw, w.before #[Value.ref b] s = true := fun w h => hts0 w (List.mem_filter.mp h).1
  have hA : ∀ q : Nat, s.heap.size ≤ q → (fun q : Nat => s.heap.size ≤ q) q := fun _ h => h
  have hbA : ¬ (fun q : Nat => s.heap.size ≤ q) b := Nat.not_le.mpr hbl
  have hi1 : vp_in (x3 + 1) L := hi 1 (by decide)
  have hi2 : vp_in (x3 + 2) L := hi 2 (by decide)
  refine lv_aload_n hx hb dl_468 rfl (lv_at hl 1 rfl) ?_
  refine lv_aload_n hx hb dl_469 rfl (lv_at hl 0 rfl) ?_
  refine lv_iload_n hx hb dl_470 rfl (lv_at hl 3 rfl) ?_
  refine lv_iconst (v := 1) hx hb dl_471 (by decide) ?_
  refine lv_iadd hx hb dl_472 ?_
  refine va_sld hx hb hX hbl hbA hS hi1 dl_473 ?_
  refine lv_aload_n hx hb dl_474 rfl (lv_at hl 0 rfl) ?_
  refine lv_iload_n hx hb dl_475 rfl (lv_at hl 3 rfl) ?_
  refine lv_iconst (v := 2) hx hb dl_476 (by decide) ?_
  refine lv_iadd hx hb dl_477 ?_
  refine va_sld hx hb hX hbl hbA hS hi2 dl_478 ?_
  have hT := hop (xs (x3 + 1).toNatClampNeg) (xs (x3 + 2).toNatClampNeg)
  refine ccallVI (n := 2) (b := ad 0) (C := RX8) (As := [.int (xs (x3 + 1).toNatClampNeg), .int (xs (x3 + 2).toNatClampNeg)]) (rest := []) hT hx hb hml hown hts hK hZ hA hP hD hS hl gl_52 hdl_X8_disc (va_recv hK hP rfl cob_0) ⟨Nat.le_of_ble_eq_true rfl, Nat.le_of_ble_eq_true rfl⟩ rfl rfl rfl (Nat.le_of_ble_eq_true rfl) dl_479 (by rw [rm_c]; omega) (by rw [rm_s]; omega) (fun r1 S1 vd H locs hP hD hS hT => ?_)
  refine lv_pop hx hb dl_482 rfl ?_
  refine lv_aload_n hx hb dl_483 rfl (lv_at hl 2 rfl) ?_
  refine lv_aload_n hx hb dl_484 rfl (lv_at hl 0 rfl) ?_
  refine lv_iload_n hx hb dl_485 rfl (lv_at hl 3 rfl) ?_
  refine lv_iconst (v := 1) hx hb dl_486 (by decide) ?_
  refine lv_iadd hx hb dl_487 ?_
  refine va_sld hx hb hX hbl hbA hS hi1 dl_488 ?_
  refine lv_aload_n hx hb dl_489 rfl (lv_at hl 0 rfl) ?_
  refine lv_iload_n hx hb dl_490 rfl (lv_at hl 3 rfl) ?_
  refine lv_iconst (v := 2) hx hb dl_491 (by decide) ?_
  refine lv_iadd hx hb dl_492 ?_
  refine va_sld hx hb hX hbl hbA hS hi2 dl_493 ?_
  refine mcallLI (n := 2) (rest := []) hT hx hb hml hown hts hK hA hP hD hS hl gl_55 hdl_X9_disc ⟨Nat.le_of_ble_eq_true rfl, Nat.le_of_ble_eq_true rfl⟩ rfl rfl (Nat.le_of_ble_eq_true rfl) dl_494 (by rw [rm_c]; omega) (by rw [rm_s]; omega) (fun r2 M1 H locs hP hD hS hT => ?_)
  have hI := hT
  refine lv_pop hx hb dl_497 rfl ?_
  refine lv_goto (tgt := 1130) hx hb dl_498 (by decide) ?_
  exact kk _ _ _ _ _ _ _ hkc hks hI hP hD hS
def lop_9 (l : Launch) (Inv : Nat → Nat → Nat → CS → MS → Prop) (j kc ks : Nat) (S : CS) (M : MS) : Prop := ∀ (a1 : Int32) (a2 : Int32), cX_X8_why l S a1 a2 (fun r1 S1 => mX_why l M a1 a2 (fun r2 M1 => Inv (j + 1) kc ks S1 M1))
set_option maxHeartbeats 8000000 in
set_option maxRecDepth 100000 in
theorem lawc_9 {p : Program} {l : Launch} {e : Env} {s : State} {m : MethodId} {below : List Frame} {meth : Method} {c : Code} {b L : Nat} {xs : Nat → Int32} {D : va_G} {cI cZ cL cG : ClassId} {Q : State → Prop} (C0 : lw_At p s m meth c b L xs) (hK : va_K D vwCl (cTy cI cZ cL cG) s) (hZ : cZw s) {Inv : Nat → Nat → Nat → CS → MS → Prop} {j kc ks : Nat} {S : CS} {M : MS} (hkc : kc ≤ 599911) (hks : ks ≤ 6978994) (hop : lop_9 l Inv j kc ks S M) {x3 : Int32} (hi : ∀ k : Nat, k < 9 → vp_in (x3 + nI k) L) {ad vd am : Nat → Nat} {H : Heap} {locs : List Loc} {ls : Array Slot} (hP : va_P D vwCl (cW ad vd cI cZ cL cG S ++ mW am cI cZ cL M) H) (hD : va_D (fun q : Nat => s.heap.size ≤ q) (cW ad vd cI cZ cL cG S ++ mW am cI cZ cL M)) (hS : va_S (fun q : Nat => s.heap.size ≤ q) s.heap H locs) (hl : lv_has ls 4 [(0, .ref b), (1, .ref (ad 0)), (2, .ref (am 0)), (3, .int x3)]) (kk : ∀ (kc1 ks1 : Nat) (S1 : CS) (M1 : MS) (vd1 : Nat → Nat) (H1 : Heap) (locs1 : List Loc), kc1 ≤ 599911 → ks1 ≤ 6978994 → Inv (j + 1) kc1 ks1 S1 M1 → va_P D vwCl (cW ad vd1 cI cZ cL cG S1 ++ mW am cI cZ cL M1) H1 → va_D (fun q : Nat => s.heap.size ≤ q) (cW ad vd1 cI cZ cL cG S1 ++ mW am cI cZ cL M1) → va_S (fun q : Nat => s.heap.size ≤ q) s.heap H1 locs1 → W p l e room_1 s m #[Value.ref b] below meth c H1 locs1 (89 + kc1) (323256 + ks1) Q (F0 m 1130 ls [])) : W p l e room_1 s m #[Value.ref b] below meth c H locs (89 + kc) (323256 + ks) Q (F0 m 501 ls []) := by
  obtain ⟨hx, hb, hr, hml, hown, hts0, hX, hbl, hlocks, hgv⟩ := C0
  have hts : ∀ w ∈ gw, w.before #[Value.ref b] s = true := fun w h => hts0 w (List.mem_filter.mp h).1
  have hA : ∀ q : Nat, s.heap.size ≤ q → (fun q : Nat => s.heap.size ≤ q) q := fun _ h => h
  have hbA : ¬ (fun q : Nat => s.heap.size ≤ q) b := Nat.not_le.mpr hbl
  have hi1 : vp_in (x3 + 1) L := hi 1 (by decide)
  have hi2 : vp_in (x3 + 2) L := hi 2 (by decide)
  refine lv_aload_n hx hb dl_501 rfl (lv_at hl 1 rfl) ?_
  refine lv_aload_n hx hb dl_502 rfl (lv_at hl 0 rfl) ?_
  refine lv_iload_n hx hb dl_503 rfl (lv_at hl 3 rfl) ?_
  refine lv_iconst (v := 1) hx hb dl_504 (by decide) ?_
  refine lv_iadd hx hb dl_505 ?_
  refine va_sld hx hb hX hbl hbA hS hi1 dl_506 ?_
  refine lv_aload_n hx hb dl_507 rfl (lv_at hl 0 rfl) ?_
  refine lv_iload_n hx hb dl_508 rfl (lv_at hl 3 rfl) ?_
  refine lv_iconst (v := 2) hx hb dl_509 (by decide) ?_
  refine lv_iadd hx hb dl_510 ?_
  refine va_sld hx hb hX hbl hbA hS hi2 dl_511 ?_
  have hT := hop (xs (x3 + 1).toNatClampNeg) (xs (x3 + 2).toNatClampNeg)
  refine ccallVI (n := 2) (b := ad 0) (C := RX8) (As := [.int (xs (x3 + 1).toNatClampNeg), .int (xs (x3 + 2).toNatClampNeg)]) (rest := []) hT hx hb hml hown hts hK hZ hA hP hD hS hl gl_56 hdl_X8_why (va_recv hK hP rfl cob_0) ⟨Nat.le_of_ble_eq_true rfl, Nat.le_of_ble_eq_true rfl⟩ rfl rfl rfl (Nat.le_of_ble_eq_true rfl) dl_512 (by rw [rm_c]; omega) (by rw [rm_s]; omega) (fun r1 S1 vd H locs hP hD hS hT => ?_)
  refine lv_pop hx hb dl_515 rfl ?_
  refine lv_aload_n hx hb dl_516 rfl (lv_at hl 2 rfl) ?_
  refine lv_aload_n hx hb dl_517 rfl (lv_at hl 0 rfl) ?_
  refine lv_iload_n hx hb dl_518 rfl (lv_at hl 3 rfl) ?_
  refine lv_iconst (v := 1) hx hb dl_519 (by decide) ?_
  refine lv_iadd hx hb dl_520 ?_
  refine va_sld hx hb hX hbl hbA hS hi1 dl_521 ?_
  refine lv_aload_n hx hb dl_522 rfl (lv_at hl 0 rfl) ?_
  refine lv_iload_n hx hb dl_523 rfl (lv_at hl 3 rfl) ?_
  refine lv_iconst (v := 2) hx hb dl_524 (by decide) ?_
  refine lv_iadd hx hb dl_525 ?_
  refine va_sld hx hb hX hbl hbA hS hi2 dl_526 ?_
  refine mcallLI (n := 2) (rest := []) hT hx hb hml hown hts hK hA hP hD hS hl gl_59 hdl_X9_why ⟨Nat.le_of_ble_eq_true rfl, Nat.le_of_ble_eq_true rfl⟩ rfl rfl (Nat.le_of_ble_eq_true rfl) dl_527 (by rw [rm_c]; omega) (by rw [rm_s]; omega) (fun r2 M1 H locs hP hD hS hT => ?_)
  have hI := hT
  refine lv_pop hx hb dl_530 rfl ?_
  refine lv_goto (tgt := 1130) hx hb dl_531 (by decide) ?_
  exact kk _ _ _ _ _ _ _ hkc hks hI hP hD hS
def lop_10 (l : Launch) (Inv : Nat → Nat → Nat → CS → MS → Prop) (j kc ks : Nat) (S : CS) (M : MS) : Prop := ∀ (a1 : Int32) (a2 : Int32), cX_X8_move l S a1 a2 (fun r1 S1 => mX_move l M a1 a2 (fun r2 M1 => Inv (j + 1) kc ks S1 M1))
set_option maxHeartbeats 8000000 in
set_option maxRecDepth 100000 in
theorem lawc_10 {p : Program} {l : Launch} {e : Env} {s : State} {m : MethodId} {below : List Frame} {meth : Method} {c : Code} {b L : Nat} {xs : Nat → Int32} {D : va_G} {cI cZ cL cG : ClassId} {Q : State → Prop} (C0 : lw_At p s m meth c b L xs) (hK : va_K D vwCl (cTy cI cZ cL cG) s) (hZ : cZw s) {Inv : Nat → Nat → Nat → CS → MS → Prop} {j kc ks : Nat} {S : CS} {M : MS} (hkc : kc ≤ 599911) (hks : ks ≤ 6978994) (hop : lop_10 l Inv j kc ks S M) {x3 : Int32} (hi : ∀ k : Nat, k < 9 → vp_in (x3 + nI k) L) {ad vd am : Nat → Nat} {H : Heap} {locs : List Loc} {ls : Array Slot} (hP : va_P D vwCl (cW ad vd cI cZ cL cG S ++ mW am cI cZ cL M) H) (hD : va_D (fun q : Nat => s.heap.size ≤ q) (cW ad vd cI cZ cL cG S ++ mW am cI cZ cL M)) (hS : va_S (fun q : Nat => s.heap.size ≤ q) s.heap H locs) (hl : lv_has ls 4 [(0, .ref b), (1, .ref (ad 0)), (2, .ref (am 0)), (3, .int x3)]) (kk : ∀ (kc1 ks1 : Nat) (S1 : CS) (M1 : MS) (vd1 : Nat → Nat) (H1 : Heap) (locs1 : List Loc), kc1 ≤ 599911 → ks1 ≤ 6978994 → Inv (j + 1) kc1 ks1 S1 M1 → va_P D vwCl (cW ad vd1 cI cZ cL cG S1 ++ mW am cI cZ cL M1) H1 → va_D (fun q : Nat => s.heap.size ≤ q) (cW ad vd1 cI cZ cL cG S1 ++ mW am cI cZ cL M1) → va_S (fun q : Nat => s.heap.size ≤ q) s.heap H1 locs1 → W p l e room_1 s m #[Value.ref b] below meth c H1 locs1 (89 + kc1) (323256 + ks1) Q (F0 m 1130 ls [])) : W p l e room_1 s m #[Value.ref b] below meth c H locs (89 + kc) (323256 + ks) Q (F0 m 534 ls []) := by
  obtain ⟨hx, hb, hr, hml, hown, hts0, hX, hbl, hlocks, hgv⟩ := C0
  have hts : ∀ w ∈ gw, w.before #[Value.ref b] s = true := fun w h => hts0 w (List.mem_filter.mp h).1
  have hA : ∀ q : Nat, s.heap.size ≤ q → (fun q : Nat => s.heap.size ≤ q) q := fun _ h => h
  have hbA : ¬ (fun q : Nat => s.heap.size ≤ q) b := Nat.not_le.mpr hbl
  have hi1 : vp_in (x3 + 1) L := hi 1 (by decide)
  have hi2 : vp_in (x3 + 2) L := hi 2 (by decide)
  refine lv_aload_n hx hb dl_534 rfl (lv_at hl 1 rfl) ?_
  refine lv_aload_n hx hb dl_535 rfl (lv_at hl 0 rfl) ?_
  refine lv_iload_n hx hb dl_536 rfl (lv_at hl 3 rfl) ?_
  refine lv_iconst (v := 1) hx hb dl_537 (by decide) ?_
  refine lv_iadd hx hb dl_538 ?_
  refine va_sld hx hb hX hbl hbA hS hi1 dl_539 ?_
  refine lv_aload_n hx hb dl_540 rfl (lv_at hl 0 rfl) ?_
  refine lv_iload_n hx hb dl_541 rfl (lv_at hl 3 rfl) ?_
  refine lv_iconst (v := 2) hx hb dl_542 (by decide) ?_
  refine lv_iadd hx hb dl_543 ?_
  refine va_sld hx hb hX hbl hbA hS hi2 dl_544 ?_
  have hT := hop (xs (x3 + 1).toNatClampNeg) (xs (x3 + 2).toNatClampNeg)
  refine ccallVI (n := 2) (b := ad 0) (C := RX8) (As := [.int (xs (x3 + 1).toNatClampNeg), .int (xs (x3 + 2).toNatClampNeg)]) (rest := []) hT hx hb hml hown hts hK hZ hA hP hD hS hl gl_60 hdl_X8_move (va_recv hK hP rfl cob_0) ⟨Nat.le_of_ble_eq_true rfl, Nat.le_of_ble_eq_true rfl⟩ rfl rfl rfl (Nat.le_of_ble_eq_true rfl) dl_545 (by rw [rm_c]; omega) (by rw [rm_s]; omega) (fun r1 S1 vd H locs hP hD hS hT => ?_)
  refine lv_pop hx hb dl_548 rfl ?_
  refine lv_aload_n hx hb dl_549 rfl (lv_at hl 2 rfl) ?_
  refine lv_aload_n hx hb dl_550 rfl (lv_at hl 0 rfl) ?_
  refine lv_iload_n hx hb dl_551 rfl (lv_at hl 3 rfl) ?_
  refine lv_iconst (v := 1) hx hb dl_552 (by decide) ?_
  refine lv_iadd hx hb dl_553 ?_
  refine va_sld hx hb hX hbl hbA hS hi1 dl_554 ?_
  refine lv_aload_n hx hb dl_555 rfl (lv_at hl 0 rfl) ?_
  refine lv_iload_n hx hb dl_556 rfl (lv_at hl 3 rfl) ?_
  refine lv_iconst (v := 2) hx hb dl_557 (by decide) ?_
  refine lv_iadd hx hb dl_558 ?_
  refine va_sld hx hb hX hbl hbA hS hi2 dl_559 ?_
  refine mcallLI (n := 2) (rest := []) hT hx hb hml hown hts hK hA hP hD hS hl gl_63 hdl_X9_move ⟨Nat.le_of_ble_eq_true rfl, Nat.le_of_ble_eq_true rfl⟩ rfl rfl (Nat.le_of_ble_eq_true rfl) dl_560 (by rw [rm_c]; omega) (by rw [rm_s]; omega) (fun r2 M1 H locs hP hD hS hT => ?_)
  have hI := hT
  refine lv_pop hx hb dl_563 rfl ?_
  refine lv_goto (tgt := 1130) hx hb dl_564 (by decide) ?_
  exact kk _ _ _ _ _ _ _ hkc hks hI hP hD hS
def lop_11 (l : Launch) (Inv : Nat → Nat → Nat → CS → MS → Prop) (j kc ks : Nat) (S : CS) (M : MS) : Prop := cX_X8_undo l S (fun r1 S1 => mX_undo l M (fun r2 M1 => Inv (j + 1) kc ks S1 M1))
set_option maxHeartbeats 8000000 in
set_option maxRecDepth 100000 in
theorem lawc_11 {p : Program} {l : Launch} {e : Env} {s : State} {m : MethodId} {below : List Frame} {meth : Method} {c : Code} {b L : Nat} {xs : Nat → Int32} {D : va_G} {cI cZ cL cG : ClassId} {Q : State → Prop} (C0 : lw_At p s m meth c b L xs) (hK : va_K D vwCl (cTy cI cZ cL cG) s) (hZ : cZw s) {Inv : Nat → Nat → Nat → CS → MS → Prop} {j kc ks : Nat} {S : CS} {M : MS} (hkc : kc ≤ 599911) (hks : ks ≤ 6978994) (hop : lop_11 l Inv j kc ks S M) {x3 : Int32} (hi : ∀ k : Nat, k < 9 → vp_in (x3 + nI k) L) {ad vd am : Nat → Nat} {H : Heap} {locs : List Loc} {ls : Array Slot} (hP : va_P D vwCl (cW ad vd cI cZ cL cG S ++ mW am cI cZ cL M) H) (hD : va_D (fun q : Nat => s.heap.size ≤ q) (cW ad vd cI cZ cL cG S ++ mW am cI cZ cL M)) (hS : va_S (fun q : Nat => s.heap.size ≤ q) s.heap H locs) (hl : lv_has ls 4 [(0, .ref b), (1, .ref (ad 0)), (2, .ref (am 0)), (3, .int x3)]) (kk : ∀ (kc1 ks1 : Nat) (S1 : CS) (M1 : MS) (vd1 : Nat → Nat) (H1 : Heap) (locs1 : List Loc), kc1 ≤ 599911 → ks1 ≤ 6978994 → Inv (j + 1) kc1 ks1 S1 M1 → va_P D vwCl (cW ad vd1 cI cZ cL cG S1 ++ mW am cI cZ cL M1) H1 → va_D (fun q : Nat => s.heap.size ≤ q) (cW ad vd1 cI cZ cL cG S1 ++ mW am cI cZ cL M1) → va_S (fun q : Nat => s.heap.size ≤ q) s.heap H1 locs1 → W p l e room_1 s m #[Value.ref b] below meth c H1 locs1 (89 + kc1) (323256 + ks1) Q (F0 m 1130 ls [])) : W p l e room_1 s m #[Value.ref b] below meth c H locs (89 + kc) (323256 + ks) Q (F0 m 567 ls []) := by
  obtain ⟨hx, hb, hr, hml, hown, hts0, hX, hbl, hlocks, hgv⟩ := C0
  have hts : ∀ w ∈ gw, w.before #[Value.ref b] s = true := fun w h => hts0 w (List.mem_filter.mp h).1
  have hA : ∀ q : Nat, s.heap.size ≤ q → (fun q : Nat => s.heap.size ≤ q) q := fun _ h => h
  have hbA : ¬ (fun q : Nat => s.heap.size ≤ q) b := Nat.not_le.mpr hbl
  refine lv_aload_n hx hb dl_567 rfl (lv_at hl 1 rfl) ?_
  have hT := hop
  refine ccallVI (n := 0) (b := ad 0) (C := RX8) (As := []) (rest := []) hT hx hb hml hown hts hK hZ hA hP hD hS hl gl_64 hdl_X8_undo (va_recv hK hP rfl cob_0) ⟨Nat.le_of_ble_eq_true rfl, Nat.le_of_ble_eq_true rfl⟩ rfl rfl rfl (Nat.le_of_ble_eq_true rfl) dl_568 (by rw [rm_c]; omega) (by rw [rm_s]; omega) (fun r1 S1 vd H locs hP hD hS hT => ?_)
  refine lv_pop hx hb dl_571 rfl ?_
  refine lv_aload_n hx hb dl_572 rfl (lv_at hl 2 rfl) ?_
  refine mcallLI (n := 0) (rest := []) hT hx hb hml hown hts hK hA hP hD hS hl gl_67 hdl_X9_undo ⟨Nat.le_of_ble_eq_true rfl, Nat.le_of_ble_eq_true rfl⟩ rfl rfl (Nat.le_of_ble_eq_true rfl) dl_573 (by rw [rm_c]; omega) (by rw [rm_s]; omega) (fun r2 M1 H locs hP hD hS hT => ?_)
  have hI := hT
  refine lv_pop hx hb dl_576 rfl ?_
  refine lv_goto (tgt := 1130) hx hb dl_577 (by decide) ?_
  exact kk _ _ _ _ _ _ _ hkc hks hI hP hD hS
def lop_12 (l : Launch) (Inv : Nat → Nat → Nat → CS → MS → Prop) (j kc ks : Nat) (S : CS) (M : MS) : Prop := cX_X8_redo l S (fun r1 S1 => mX_redo l M (fun r2 M1 => Inv (j + 1) kc ks S1 M1))
set_option maxHeartbeats 8000000 in
set_option maxRecDepth 100000 in
theorem lawc_12 {p : Program} {l : Launch} {e : Env} {s : State} {m : MethodId} {below : List Frame} {meth : Method} {c : Code} {b L : Nat} {xs : Nat → Int32} {D : va_G} {cI cZ cL cG : ClassId} {Q : State → Prop} (C0 : lw_At p s m meth c b L xs) (hK : va_K D vwCl (cTy cI cZ cL cG) s) (hZ : cZw s) {Inv : Nat → Nat → Nat → CS → MS → Prop} {j kc ks : Nat} {S : CS} {M : MS} (hkc : kc ≤ 599911) (hks : ks ≤ 6978994) (hop : lop_12 l Inv j kc ks S M) {x3 : Int32} (hi : ∀ k : Nat, k < 9 → vp_in (x3 + nI k) L) {ad vd am : Nat → Nat} {H : Heap} {locs : List Loc} {ls : Array Slot} (hP : va_P D vwCl (cW ad vd cI cZ cL cG S ++ mW am cI cZ cL M) H) (hD : va_D (fun q : Nat => s.heap.size ≤ q) (cW ad vd cI cZ cL cG S ++ mW am cI cZ cL M)) (hS : va_S (fun q : Nat => s.heap.size ≤ q) s.heap H locs) (hl : lv_has ls 4 [(0, .ref b), (1, .ref (ad 0)), (2, .ref (am 0)), (3, .int x3)]) (kk : ∀ (kc1 ks1 : Nat) (S1 : CS) (M1 : MS) (vd1 : Nat → Nat) (H1 : Heap) (locs1 : List Loc), kc1 ≤ 599911 → ks1 ≤ 6978994 → Inv (j + 1) kc1 ks1 S1 M1 → va_P D vwCl (cW ad vd1 cI cZ cL cG S1 ++ mW am cI cZ cL M1) H1 → va_D (fun q : Nat => s.heap.size ≤ q) (cW ad vd1 cI cZ cL cG S1 ++ mW am cI cZ cL M1) → va_S (fun q : Nat => s.heap.size ≤ q) s.heap H1 locs1 → W p l e room_1 s m #[Value.ref b] below meth c H1 locs1 (89 + kc1) (323256 + ks1) Q (F0 m 1130 ls [])) : W p l e room_1 s m #[Value.ref b] below meth c H locs (89 + kc) (323256 + ks) Q (F0 m 580 ls []) := by
  obtain ⟨hx, hb, hr, hml, hown, hts0, hX, hbl, hlocks, hgv⟩ := C0
  have hts : ∀ w ∈ gw, w.before #[Value.ref b] s = true := fun w h => hts0 w (List.mem_filter.mp h).1
  have hA : ∀ q : Nat, s.heap.size ≤ q → (fun q : Nat => s.heap.size ≤ q) q := fun _ h => h
  have hbA : ¬ (fun q : Nat => s.heap.size ≤ q) b := Nat.not_le.mpr hbl
  refine lv_aload_n hx hb dl_580 rfl (lv_at hl 1 rfl) ?_
  have hT := hop
  refine ccallVI (n := 0) (b := ad 0) (C := RX8) (As := []) (rest := []) hT hx hb hml hown hts hK hZ hA hP hD hS hl gl_68 hdl_X8_redo (va_recv hK hP rfl cob_0) ⟨Nat.le_of_ble_eq_true rfl, Nat.le_of_ble_eq_true rfl⟩ rfl rfl rfl (Nat.le_of_ble_eq_true rfl) dl_581 (by rw [rm_c]; omega) (by rw [rm_s]; omega) (fun r1 S1 vd H locs hP hD hS hT => ?_)
  refine lv_pop hx hb dl_584 rfl ?_
  refine lv_aload_n hx hb dl_585 rfl (lv_at hl 2 rfl) ?_
  refine mcallLI (n := 0) (rest := []) hT hx hb hml hown hts hK hA hP hD hS hl gl_71 hdl_X9_redo ⟨Nat.le_of_ble_eq_true rfl, Nat.le_of_ble_eq_true rfl⟩ rfl rfl (Nat.le_of_ble_eq_true rfl) dl_586 (by rw [rm_c]; omega) (by rw [rm_s]; omega) (fun r2 M1 H locs hP hD hS hT => ?_)
  have hI := hT
  refine lv_pop hx hb dl_589 rfl ?_
  refine lv_goto (tgt := 1130) hx hb dl_590 (by decide) ?_
  exact kk _ _ _ _ _ _ _ hkc hks hI hP hD hS
def lop_13 (l : Launch) (Inv : Nat → Nat → Nat → CS → MS → Prop) (j kc ks : Nat) (S : CS) (M : MS) : Prop := cX_X8_moves l S (fun r1 S1 => mX_moves l M (fun r2 M1 => Inv (j + 1) kc ks S1 M1))
set_option maxHeartbeats 8000000 in
set_option maxRecDepth 100000 in
theorem lawc_13 {p : Program} {l : Launch} {e : Env} {s : State} {m : MethodId} {below : List Frame} {meth : Method} {c : Code} {b L : Nat} {xs : Nat → Int32} {D : va_G} {cI cZ cL cG : ClassId} {Q : State → Prop} (C0 : lw_At p s m meth c b L xs) (hK : va_K D vwCl (cTy cI cZ cL cG) s) (hZ : cZw s) {Inv : Nat → Nat → Nat → CS → MS → Prop} {j kc ks : Nat} {S : CS} {M : MS} (hkc : kc ≤ 599911) (hks : ks ≤ 6978994) (hop : lop_13 l Inv j kc ks S M) {x3 : Int32} (hi : ∀ k : Nat, k < 9 → vp_in (x3 + nI k) L) {ad vd am : Nat → Nat} {H : Heap} {locs : List Loc} {ls : Array Slot} (hP : va_P D vwCl (cW ad vd cI cZ cL cG S ++ mW am cI cZ cL M) H) (hD : va_D (fun q : Nat => s.heap.size ≤ q) (cW ad vd cI cZ cL cG S ++ mW am cI cZ cL M)) (hS : va_S (fun q : Nat => s.heap.size ≤ q) s.heap H locs) (hl : lv_has ls 4 [(0, .ref b), (1, .ref (ad 0)), (2, .ref (am 0)), (3, .int x3)]) (kk : ∀ (kc1 ks1 : Nat) (S1 : CS) (M1 : MS) (vd1 : Nat → Nat) (H1 : Heap) (locs1 : List Loc), kc1 ≤ 599911 → ks1 ≤ 6978994 → Inv (j + 1) kc1 ks1 S1 M1 → va_P D vwCl (cW ad vd1 cI cZ cL cG S1 ++ mW am cI cZ cL M1) H1 → va_D (fun q : Nat => s.heap.size ≤ q) (cW ad vd1 cI cZ cL cG S1 ++ mW am cI cZ cL M1) → va_S (fun q : Nat => s.heap.size ≤ q) s.heap H1 locs1 → W p l e room_1 s m #[Value.ref b] below meth c H1 locs1 (89 + kc1) (323256 + ks1) Q (F0 m 1130 ls [])) : W p l e room_1 s m #[Value.ref b] below meth c H locs (89 + kc) (323256 + ks) Q (F0 m 593 ls []) := by
  obtain ⟨hx, hb, hr, hml, hown, hts0, hX, hbl, hlocks, hgv⟩ := C0
  have hts : ∀ w ∈ gw, w.before #[Value.ref b] s = true := fun w h => hts0 w (List.mem_filter.mp h).1
  have hA : ∀ q : Nat, s.heap.size ≤ q → (fun q : Nat => s.heap.size ≤ q) q := fun _ h => h
  have hbA : ¬ (fun q : Nat => s.heap.size ≤ q) b := Nat.not_le.mpr hbl
  refine lv_aload_n hx hb dl_593 rfl (lv_at hl 1 rfl) ?_
  have hT := hop
  refine ccallVI (n := 0) (b := ad 0) (C := RX8) (As := []) (rest := []) hT hx hb hml hown hts hK hZ hA hP hD hS hl gl_72 hdl_X8_moves (va_recv hK hP rfl cob_0) ⟨Nat.le_of_ble_eq_true rfl, Nat.le_of_ble_eq_true rfl⟩ rfl rfl rfl (Nat.le_of_ble_eq_true rfl) dl_594 (by rw [rm_c]; omega) (by rw [rm_s]; omega) (fun r1 S1 vd H locs hP hD hS hT => ?_)
  refine lv_pop hx hb dl_597 rfl ?_
  refine lv_aload_n hx hb dl_598 rfl (lv_at hl 2 rfl) ?_
  refine mcallLI (n := 0) (rest := []) hT hx hb hml hown hts hK hA hP hD hS hl gl_75 hdl_X9_moves ⟨Nat.le_of_ble_eq_true rfl, Nat.le_of_ble_eq_true rfl⟩ rfl rfl (Nat.le_of_ble_eq_true rfl) dl_599 (by rw [rm_c]; omega) (by rw [rm_s]; omega) (fun r2 M1 H locs hP hD hS hT => ?_)
  have hI := hT
  refine lv_pop hx hb dl_602 rfl ?_
  refine lv_goto (tgt := 1130) hx hb dl_603 (by decide) ?_
  exact kk _ _ _ _ _ _ _ hkc hks hI hP hD hS
def lop_14 (l : Launch) (Inv : Nat → Nat → Nat → CS → MS → Prop) (j kc ks : Nat) (S : CS) (M : MS) : Prop := ∃ mc ms : Nat, kc + mc ≤ 599911 ∧ ks + ms ≤ 6978994 ∧ cX_X8_fewest l mc ms S (fun r1 S1 => mX_fewest l M (fun r2 M1 => Inv (j + 1) (kc + mc) (ks + ms) S1 M1))
set_option maxHeartbeats 8000000 in
set_option maxRecDepth 100000 in
theorem lawc_14 {p : Program} {l : Launch} {e : Env} {s : State} {m : MethodId} {below : List Frame} {meth : Method} {c : Code} {b L : Nat} {xs : Nat → Int32} {D : va_G} {cI cZ cL cG : ClassId} {Q : State → Prop} (C0 : lw_At p s m meth c b L xs) (hK : va_K D vwCl (cTy cI cZ cL cG) s) (hZ : cZw s) {Inv : Nat → Nat → Nat → CS → MS → Prop} {j kc ks : Nat} {S : CS} {M : MS} (hkc : kc ≤ 599911) (hks : ks ≤ 6978994) (hop : lop_14 l Inv j kc ks S M) {x3 : Int32} (hi : ∀ k : Nat, k < 9 → vp_in (x3 + nI k) L) {ad vd am : Nat → Nat} {H : Heap} {locs : List Loc} {ls : Array Slot} (hP : va_P D vwCl (cW ad vd cI cZ cL cG S ++ mW am cI cZ cL M) H) (hD : va_D (fun q : Nat => s.heap.size ≤ q) (cW ad vd cI cZ cL cG S ++ mW am cI cZ cL M)) (hS : va_S (fun q : Nat => s.heap.size ≤ q) s.heap H locs) (hl : lv_has ls 4 [(0, .ref b), (1, .ref (ad 0)), (2, .ref (am 0)), (3, .int x3)]) (kk : ∀ (kc1 ks1 : Nat) (S1 : CS) (M1 : MS) (vd1 : Nat → Nat) (H1 : Heap) (locs1 : List Loc), kc1 ≤ 599911 → ks1 ≤ 6978994 → Inv (j + 1) kc1 ks1 S1 M1 → va_P D vwCl (cW ad vd1 cI cZ cL cG S1 ++ mW am cI cZ cL M1) H1 → va_D (fun q : Nat => s.heap.size ≤ q) (cW ad vd1 cI cZ cL cG S1 ++ mW am cI cZ cL M1) → va_S (fun q : Nat => s.heap.size ≤ q) s.heap H1 locs1 → W p l e room_1 s m #[Value.ref b] below meth c H1 locs1 (89 + kc1) (323256 + ks1) Q (F0 m 1130 ls [])) : W p l e room_1 s m #[Value.ref b] below meth c H locs (89 + kc) (323256 + ks) Q (F0 m 606 ls []) := by
  obtain ⟨hx, hb, hr, hml, hown, hts0, hX, hbl, hlocks, hgv⟩ := C0
  have hts : ∀ w ∈ gw, w.before #[Value.ref b] s = true := fun w h => hts0 w (List.mem_filter.mp h).1
  have hA : ∀ q : Nat, s.heap.size ≤ q → (fun q : Nat => s.heap.size ≤ q) q := fun _ h => h
  have hbA : ¬ (fun q : Nat => s.heap.size ≤ q) b := Nat.not_le.mpr hbl
  refine lv_aload_n hx hb dl_606 rfl (lv_at hl 1 rfl) ?_
  obtain ⟨mc, ms, hkc, hks, hT⟩ := hop
  refine ccallVI (n := 0) (b := ad 0) (C := RX8) (As := []) (rest := []) hT hx hb hml hown hts hK hZ hA hP hD hS hl gl_76 hdl_X8_fewest (va_recv hK hP rfl cob_0) ⟨Nat.le_of_ble_eq_true rfl, Nat.le_of_ble_eq_true rfl⟩ rfl rfl rfl (Nat.le_of_ble_eq_true rfl) dl_607 (by rw [rm_c]; omega) (by rw [rm_s]; omega) (fun r1 S1 vd H locs hP hD hS hT => ?_)
  refine W.widen (k := 89 + (kc + mc)) (n := 323256 + (ks + ms)) (by omega) (by omega) ?_
  refine lv_pop hx hb dl_610 rfl ?_
  refine lv_aload_n hx hb dl_611 rfl (lv_at hl 2 rfl) ?_
  refine mcallLI (n := 0) (rest := []) hT hx hb hml hown hts hK hA hP hD hS hl gl_79 hdl_X9_fewest ⟨Nat.le_of_ble_eq_true rfl, Nat.le_of_ble_eq_true rfl⟩ rfl rfl (Nat.le_of_ble_eq_true rfl) dl_612 (by rw [rm_c]; omega) (by rw [rm_s]; omega) (fun r2 M1 H locs hP hD hS hT => ?_)
  have hI := hT
  refine lv_pop hx hb dl_615 rfl ?_
  refine lv_goto (tgt := 1130) hx hb dl_616 (by decide) ?_
  exact kk _ _ _ _ _ _ _ hkc hks hI hP hD hS
def lop_15 (l : Launch) (Inv : Nat → Nat → Nat → CS → MS → Prop) (j kc ks : Nat) (S : CS) (M : MS) : Prop := ∃ mc ms : Nat, kc + mc ≤ 599911 ∧ ks + ms ≤ 6978994 ∧ cX_X8_plan l mc ms S (fun r1 S1 => mX_plan l M (fun r2 M1 => Inv (j + 1) (kc + mc) (ks + ms) S1 M1))
set_option maxHeartbeats 8000000 in
set_option maxRecDepth 100000 in
theorem lawc_15 {p : Program} {l : Launch} {e : Env} {s : State} {m : MethodId} {below : List Frame} {meth : Method} {c : Code} {b L : Nat} {xs : Nat → Int32} {D : va_G} {cI cZ cL cG : ClassId} {Q : State → Prop} (C0 : lw_At p s m meth c b L xs) (hK : va_K D vwCl (cTy cI cZ cL cG) s) (hZ : cZw s) {Inv : Nat → Nat → Nat → CS → MS → Prop} {j kc ks : Nat} {S : CS} {M : MS} (hkc : kc ≤ 599911) (hks : ks ≤ 6978994) (hop : lop_15 l Inv j kc ks S M) {x3 : Int32} (hi : ∀ k : Nat, k < 9 → vp_in (x3 + nI k) L) {ad vd am : Nat → Nat} {H : Heap} {locs : List Loc} {ls : Array Slot} (hP : va_P D vwCl (cW ad vd cI cZ cL cG S ++ mW am cI cZ cL M) H) (hD : va_D (fun q : Nat => s.heap.size ≤ q) (cW ad vd cI cZ cL cG S ++ mW am cI cZ cL M)) (hS : va_S (fun q : Nat => s.heap.size ≤ q) s.heap H locs) (hl : lv_has ls 4 [(0, .ref b), (1, .ref (ad 0)), (2, .ref (am 0)), (3, .int x3)]) (kk : ∀ (kc1 ks1 : Nat) (S1 : CS) (M1 : MS) (vd1 : Nat → Nat) (H1 : Heap) (locs1 : List Loc), kc1 ≤ 599911 → ks1 ≤ 6978994 → Inv (j + 1) kc1 ks1 S1 M1 → va_P D vwCl (cW ad vd1 cI cZ cL cG S1 ++ mW am cI cZ cL M1) H1 → va_D (fun q : Nat => s.heap.size ≤ q) (cW ad vd1 cI cZ cL cG S1 ++ mW am cI cZ cL M1) → va_S (fun q : Nat => s.heap.size ≤ q) s.heap H1 locs1 → W p l e room_1 s m #[Value.ref b] below meth c H1 locs1 (89 + kc1) (323256 + ks1) Q (F0 m 1130 ls [])) : W p l e room_1 s m #[Value.ref b] below meth c H locs (89 + kc) (323256 + ks) Q (F0 m 619 ls []) := by
  obtain ⟨hx, hb, hr, hml, hown, hts0, hX, hbl, hlocks, hgv⟩ := C0
  have hts : ∀ w ∈ gw, w.before #[Value.ref b] s = true := fun w h => hts0 w (List.mem_filter.mp h).1
  have hA : ∀ q : Nat, s.heap.size ≤ q → (fun q : Nat => s.heap.size ≤ q) q := fun _ h => h
  have hbA : ¬ (fun q : Nat => s.heap.size ≤ q) b := Nat.not_le.mpr hbl
  refine lv_aload_n hx hb dl_619 rfl (lv_at hl 1 rfl) ?_
  obtain ⟨mc, ms, hkc, hks, hT⟩ := hop
  refine ccallVI (n := 0) (b := ad 0) (C := RX8) (As := []) (rest := []) hT hx hb hml hown hts hK hZ hA hP hD hS hl gl_80 hdl_X8_plan (va_recv hK hP rfl cob_0) ⟨Nat.le_of_ble_eq_true rfl, Nat.le_of_ble_eq_true rfl⟩ rfl rfl rfl (Nat.le_of_ble_eq_true rfl) dl_620 (by rw [rm_c]; omega) (by rw [rm_s]; omega) (fun r1 S1 vd H locs hP hD hS hT => ?_)
  refine W.widen (k := 89 + (kc + mc)) (n := 323256 + (ks + ms)) (by omega) (by omega) ?_
  refine lv_pop hx hb dl_623 rfl ?_
  refine lv_aload_n hx hb dl_624 rfl (lv_at hl 2 rfl) ?_
  refine mcallLI (n := 0) (rest := []) hT hx hb hml hown hts hK hA hP hD hS hl gl_83 hdl_X9_plan ⟨Nat.le_of_ble_eq_true rfl, Nat.le_of_ble_eq_true rfl⟩ rfl rfl (Nat.le_of_ble_eq_true rfl) dl_625 (by rw [rm_c]; omega) (by rw [rm_s]; omega) (fun r2 M1 H locs hP hD hS hT => ?_)
  have hI := hT
  refine lv_pop hx hb dl_628 rfl ?_
  refine lv_goto (tgt := 1130) hx hb dl_629 (by decide) ?_
  exact kk _ _ _ _ _ _ _ hkc hks hI hP hD hS
