def lop_16 (l : Launch) (Inv : Nat → Nat → Nat → CS → MS → Prop) (j kc ks : Nat) (S : CS) (M : MS) : Prop := ∀ (a1 : Int32), cX_X8_planned l S a1 (fun r1 S1 => mX_planned l M a1 (fun r2 M1 => Inv (j + 1) kc ks S1 M1))
set_option maxHeartbeats 8000000 in
set_option maxRecDepth 100000 in
theorem lawc_16 {p : Program} {l : Launch} {e : Env} {s : State} {m : MethodId} {below : List Frame} {meth : Method} {c : Code} {b L : Nat} {xs : Nat → Int32} {D : va_G} {cI cZ cL cG : ClassId} {Q : State → Prop} (C0 : lw_At p s m meth c b L xs) (hK : va_K D vwCl (cTy cI cZ cL cG) s) (hZ : cZw s) {Inv : Nat → Nat → Nat → CS → MS → Prop} {j kc ks : Nat} {S : CS} {M : MS} (hkc : kc ≤ 599911) (hks : ks ≤ 6978994) (hop : lop_16 l Inv j kc ks S M) {x3 : Int32} (hi : ∀ k : Nat, k < 9 → vp_in (x3 + nI k) L) {ad vd am : Nat → Nat} {H : Heap} {locs : List Loc} {ls : Array Slot} (hP : va_P D vwCl (cW ad vd cI cZ cL cG S ++ mW am cI cZ cL M) H) (hD : va_D (fun q : Nat => s.heap.size ≤ q) (cW ad vd cI cZ cL cG S ++ mW am cI cZ cL M)) (hS : va_S (fun q : Nat => s.heap.size ≤ q) s.heap H locs) (hl : lv_has ls 4 [(0, .ref b), (1, .ref (ad 0)), (2, .ref (am 0)), (3, .int x3)]) (kk : ∀ (kc1 ks1 : Nat) (S1 : CS) (M1 : MS) (vd1 : Nat → Nat) (H1 : Heap) (locs1 : List Loc), kc1 ≤ 599911 → ks1 ≤ 6978994 → Inv (j + 1) kc1 ks1 S1 M1 → va_P D vwCl (cW ad vd1 cI cZ cL cG S1 ++ mW am cI cZ cL M1) H1 → va_D (fun q : Nat => s.heap.size ≤ q) (cW ad vd1 cI cZ cL cG S1 ++ mW am cI cZ cL M1) → va_S (fun q : Nat => s.heap.size ≤ q) s.heap H1 locs1 → W p l e room_1 s m #[Value.ref b] below meth c H1 locs1 (89 + kc1) (323256 + ks1) Q (F0 m 1130 ls [])) : W p l e room_1 s m #[Value.ref b] below meth c H locs (89 + kc) (323256 + ks) Q (F0 m 632 ls []) := by
  obtain ⟨hx, hb, hr, hml, hown, hts0, hX, hbl, hlocks, hgv⟩ := C0
  have hts : ∀ w ∈ gw, w.before #[Value.ref b] s = true := fun w h => hts0 w (List.mem_filter.mp h).1
  have hA : ∀ q : Nat, s.heap.size ≤ q → (fun q : Nat => s.heap.size ≤ q) q := fun _ h => h
  have hbA : ¬ (fun q : Nat => s.heap.size ≤ q) b := Nat.not_le.mpr hbl
  have hi1 : vp_in (x3 + 1) L := hi 1 (by decide)
  refine lv_aload_n hx hb dl_632 rfl (lv_at hl 1 rfl) ?_
  refine lv_aload_n hx hb dl_633 rfl (lv_at hl 0 rfl) ?_
  refine lv_iload_n hx hb dl_634 rfl (lv_at hl 3 rfl) ?_
  refine lv_iconst (v := 1) hx hb dl_635 (by decide) ?_
  refine lv_iadd hx hb dl_636 ?_
  refine va_sld hx hb hX hbl hbA hS hi1 dl_637 ?_
  have hT := hop (xs (x3 + 1).toNatClampNeg)
  refine ccallVI (n := 1) (b := ad 0) (C := RX8) (As := [.int (xs (x3 + 1).toNatClampNeg)]) (rest := []) hT hx hb hml hown hts hK hZ hA hP hD hS hl gl_84 hdl_X8_planned (va_recv hK hP rfl cob_0) ⟨Nat.le_of_ble_eq_true rfl, Nat.le_of_ble_eq_true rfl⟩ rfl rfl rfl (Nat.le_of_ble_eq_true rfl) dl_638 (by rw [rm_c]; omega) (by rw [rm_s]; omega) (fun r1 S1 vd H locs hP hD hS hT => ?_)
  refine lv_pop hx hb dl_641 rfl ?_
  refine lv_aload_n hx hb dl_642 rfl (lv_at hl 2 rfl) ?_
  refine lv_aload_n hx hb dl_643 rfl (lv_at hl 0 rfl) ?_
  refine lv_iload_n hx hb dl_644 rfl (lv_at hl 3 rfl) ?_
  refine lv_iconst (v := 1) hx hb dl_645 (by decide) ?_
  refine lv_iadd hx hb dl_646 ?_
  refine va_sld hx hb hX hbl hbA hS hi1 dl_647 ?_
  refine mcallLI (n := 1) (rest := []) hT hx hb hml hown hts hK hA hP hD hS hl gl_87 hdl_X9_planned ⟨Nat.le_of_ble_eq_true rfl, Nat.le_of_ble_eq_true rfl⟩ rfl rfl (Nat.le_of_ble_eq_true rfl) dl_648 (by rw [rm_c]; omega) (by rw [rm_s]; omega) (fun r2 M1 H locs hP hD hS hT => ?_)
  have hI := hT
  refine lv_pop hx hb dl_651 rfl ?_
  refine lv_goto (tgt := 1130) hx hb dl_652 (by decide) ?_
  exact kk _ _ _ _ _ _ _ hkc hks hI hP hD hS
def lop_17 (l : Launch) (Inv : Nat → Nat → Nat → CS → MS → Prop) (j kc ks : Nat) (S : CS) (M : MS) : Prop := ∃ mc ms : Nat, kc + mc ≤ 599911 ∧ ks + ms ≤ 6978994 ∧ cX_X8_ways l mc ms S (fun r1 S1 => mX_ways l M (fun r2 M1 => Inv (j + 1) (kc + mc) (ks + ms) S1 M1))
set_option maxHeartbeats 8000000 in
set_option maxRecDepth 100000 in
theorem lawc_17 {p : Program} {l : Launch} {e : Env} {s : State} {m : MethodId} {below : List Frame} {meth : Method} {c : Code} {b L : Nat} {xs : Nat → Int32} {D : va_G} {cI cZ cL cG : ClassId} {Q : State → Prop} (C0 : lw_At p s m meth c b L xs) (hK : va_K D vwCl (cTy cI cZ cL cG) s) (hZ : cZw s) {Inv : Nat → Nat → Nat → CS → MS → Prop} {j kc ks : Nat} {S : CS} {M : MS} (hkc : kc ≤ 599911) (hks : ks ≤ 6978994) (hop : lop_17 l Inv j kc ks S M) {x3 : Int32} (hi : ∀ k : Nat, k < 9 → vp_in (x3 + nI k) L) {ad vd am : Nat → Nat} {H : Heap} {locs : List Loc} {ls : Array Slot} (hP : va_P D vwCl (cW ad vd cI cZ cL cG S ++ mW am cI cZ cL M) H) (hD : va_D (fun q : Nat => s.heap.size ≤ q) (cW ad vd cI cZ cL cG S ++ mW am cI cZ cL M)) (hS : va_S (fun q : Nat => s.heap.size ≤ q) s.heap H locs) (hl : lv_has ls 4 [(0, .ref b), (1, .ref (ad 0)), (2, .ref (am 0)), (3, .int x3)]) (kk : ∀ (kc1 ks1 : Nat) (S1 : CS) (M1 : MS) (vd1 : Nat → Nat) (H1 : Heap) (locs1 : List Loc), kc1 ≤ 599911 → ks1 ≤ 6978994 → Inv (j + 1) kc1 ks1 S1 M1 → va_P D vwCl (cW ad vd1 cI cZ cL cG S1 ++ mW am cI cZ cL M1) H1 → va_D (fun q : Nat => s.heap.size ≤ q) (cW ad vd1 cI cZ cL cG S1 ++ mW am cI cZ cL M1) → va_S (fun q : Nat => s.heap.size ≤ q) s.heap H1 locs1 → W p l e room_1 s m #[Value.ref b] below meth c H1 locs1 (89 + kc1) (323256 + ks1) Q (F0 m 1130 ls [])) : W p l e room_1 s m #[Value.ref b] below meth c H locs (89 + kc) (323256 + ks) Q (F0 m 655 ls []) := by
  obtain ⟨hx, hb, hr, hml, hown, hts0, hX, hbl, hlocks, hgv⟩ := C0
  have hts : ∀ w ∈ gw, w.before #[Value.ref b] s = true := fun w h => hts0 w (List.mem_filter.mp h).1
  have hA : ∀ q : Nat, s.heap.size ≤ q → (fun q : Nat => s.heap.size ≤ q) q := fun _ h => h
  have hbA : ¬ (fun q : Nat => s.heap.size ≤ q) b := Nat.not_le.mpr hbl
  refine lv_aload_n hx hb dl_655 rfl (lv_at hl 1 rfl) ?_
  obtain ⟨mc, ms, hkc, hks, hT⟩ := hop
  refine ccallVJ (n := 0) (b := ad 0) (C := RX8) (As := []) (rest := []) hT hx hb hml hown hts hK hZ hA hP hD hS hl gl_88 hdl_X8_ways (va_recv hK hP rfl cob_0) ⟨Nat.le_of_ble_eq_true rfl, Nat.le_of_ble_eq_true rfl⟩ rfl rfl rfl (Nat.le_of_ble_eq_true rfl) dl_656 (by rw [rm_c]; omega) (by rw [rm_s]; omega) (fun r1 S1 vd H locs hP hD hS hT => ?_)
  refine W.widen (k := 89 + (kc + mc)) (n := 323256 + (ks + ms)) (by omega) (by omega) ?_
  refine lv_pop2_2 hx hb dl_659 rfl ?_
  refine lv_aload_n hx hb dl_660 rfl (lv_at hl 2 rfl) ?_
  refine mcallLJ (n := 0) (rest := []) hT hx hb hml hown hts hK hA hP hD hS hl gl_92 hdl_X9_ways ⟨Nat.le_of_ble_eq_true rfl, Nat.le_of_ble_eq_true rfl⟩ rfl rfl (Nat.le_of_ble_eq_true rfl) dl_661 (by rw [rm_c]; omega) (by rw [rm_s]; omega) (fun r2 M1 H locs hP hD hS hT => ?_)
  have hI := hT
  refine lv_pop2_2 hx hb dl_664 rfl ?_
  refine lv_goto (tgt := 1130) hx hb dl_665 (by decide) ?_
  exact kk _ _ _ _ _ _ _ hkc hks hI hP hD hS
def lop_18 (l : Launch) (Inv : Nat → Nat → Nat → CS → MS → Prop) (j kc ks : Nat) (S : CS) (M : MS) : Prop := ∃ mc ms : Nat, kc + mc ≤ 599911 ∧ ks + ms ≤ 6978994 ∧ cX_X8_reach l mc ms S (fun r1 S1 => mX_reach l M (fun r2 M1 => Inv (j + 1) (kc + mc) (ks + ms) S1 M1))
set_option maxHeartbeats 8000000 in
set_option maxRecDepth 100000 in
theorem lawc_18 {p : Program} {l : Launch} {e : Env} {s : State} {m : MethodId} {below : List Frame} {meth : Method} {c : Code} {b L : Nat} {xs : Nat → Int32} {D : va_G} {cI cZ cL cG : ClassId} {Q : State → Prop} (C0 : lw_At p s m meth c b L xs) (hK : va_K D vwCl (cTy cI cZ cL cG) s) (hZ : cZw s) {Inv : Nat → Nat → Nat → CS → MS → Prop} {j kc ks : Nat} {S : CS} {M : MS} (hkc : kc ≤ 599911) (hks : ks ≤ 6978994) (hop : lop_18 l Inv j kc ks S M) {x3 : Int32} (hi : ∀ k : Nat, k < 9 → vp_in (x3 + nI k) L) {ad vd am : Nat → Nat} {H : Heap} {locs : List Loc} {ls : Array Slot} (hP : va_P D vwCl (cW ad vd cI cZ cL cG S ++ mW am cI cZ cL M) H) (hD : va_D (fun q : Nat => s.heap.size ≤ q) (cW ad vd cI cZ cL cG S ++ mW am cI cZ cL M)) (hS : va_S (fun q : Nat => s.heap.size ≤ q) s.heap H locs) (hl : lv_has ls 4 [(0, .ref b), (1, .ref (ad 0)), (2, .ref (am 0)), (3, .int x3)]) (kk : ∀ (kc1 ks1 : Nat) (S1 : CS) (M1 : MS) (vd1 : Nat → Nat) (H1 : Heap) (locs1 : List Loc), kc1 ≤ 599911 → ks1 ≤ 6978994 → Inv (j + 1) kc1 ks1 S1 M1 → va_P D vwCl (cW ad vd1 cI cZ cL cG S1 ++ mW am cI cZ cL M1) H1 → va_D (fun q : Nat => s.heap.size ≤ q) (cW ad vd1 cI cZ cL cG S1 ++ mW am cI cZ cL M1) → va_S (fun q : Nat => s.heap.size ≤ q) s.heap H1 locs1 → W p l e room_1 s m #[Value.ref b] below meth c H1 locs1 (89 + kc1) (323256 + ks1) Q (F0 m 1130 ls [])) : W p l e room_1 s m #[Value.ref b] below meth c H locs (89 + kc) (323256 + ks) Q (F0 m 668 ls []) := by
  obtain ⟨hx, hb, hr, hml, hown, hts0, hX, hbl, hlocks, hgv⟩ := C0
  have hts : ∀ w ∈ gw, w.before #[Value.ref b] s = true := fun w h => hts0 w (List.mem_filter.mp h).1
  have hA : ∀ q : Nat, s.heap.size ≤ q → (fun q : Nat => s.heap.size ≤ q) q := fun _ h => h
  have hbA : ¬ (fun q : Nat => s.heap.size ≤ q) b := Nat.not_le.mpr hbl
  refine lv_aload_n hx hb dl_668 rfl (lv_at hl 1 rfl) ?_
  obtain ⟨mc, ms, hkc, hks, hT⟩ := hop
  refine ccallVI (n := 0) (b := ad 0) (C := RX8) (As := []) (rest := []) hT hx hb hml hown hts hK hZ hA hP hD hS hl gl_93 hdl_X8_reach (va_recv hK hP rfl cob_0) ⟨Nat.le_of_ble_eq_true rfl, Nat.le_of_ble_eq_true rfl⟩ rfl rfl rfl (Nat.le_of_ble_eq_true rfl) dl_669 (by rw [rm_c]; omega) (by rw [rm_s]; omega) (fun r1 S1 vd H locs hP hD hS hT => ?_)
  refine W.widen (k := 89 + (kc + mc)) (n := 323256 + (ks + ms)) (by omega) (by omega) ?_
  refine lv_pop hx hb dl_672 rfl ?_
  refine lv_aload_n hx hb dl_673 rfl (lv_at hl 2 rfl) ?_
  refine mcallLI (n := 0) (rest := []) hT hx hb hml hown hts hK hA hP hD hS hl gl_96 hdl_X9_reach ⟨Nat.le_of_ble_eq_true rfl, Nat.le_of_ble_eq_true rfl⟩ rfl rfl (Nat.le_of_ble_eq_true rfl) dl_674 (by rw [rm_c]; omega) (by rw [rm_s]; omega) (fun r2 M1 H locs hP hD hS hT => ?_)
  have hI := hT
  refine lv_pop hx hb dl_677 rfl ?_
  refine lv_goto (tgt := 1130) hx hb dl_678 (by decide) ?_
  exact kk _ _ _ _ _ _ _ hkc hks hI hP hD hS
def lop_19 (l : Launch) (Inv : Nat → Nat → Nat → CS → MS → Prop) (j kc ks : Nat) (S : CS) (M : MS) : Prop := ∃ mc ms : Nat, kc + mc ≤ 599911 ∧ ks + ms ≤ 6978994 ∧ cX_X8_far l mc ms S (fun r1 S1 => mX_far l M (fun r2 M1 => Inv (j + 1) (kc + mc) (ks + ms) S1 M1))
set_option maxHeartbeats 8000000 in
set_option maxRecDepth 100000 in
theorem lawc_19 {p : Program} {l : Launch} {e : Env} {s : State} {m : MethodId} {below : List Frame} {meth : Method} {c : Code} {b L : Nat} {xs : Nat → Int32} {D : va_G} {cI cZ cL cG : ClassId} {Q : State → Prop} (C0 : lw_At p s m meth c b L xs) (hK : va_K D vwCl (cTy cI cZ cL cG) s) (hZ : cZw s) {Inv : Nat → Nat → Nat → CS → MS → Prop} {j kc ks : Nat} {S : CS} {M : MS} (hkc : kc ≤ 599911) (hks : ks ≤ 6978994) (hop : lop_19 l Inv j kc ks S M) {x3 : Int32} (hi : ∀ k : Nat, k < 9 → vp_in (x3 + nI k) L) {ad vd am : Nat → Nat} {H : Heap} {locs : List Loc} {ls : Array Slot} (hP : va_P D vwCl (cW ad vd cI cZ cL cG S ++ mW am cI cZ cL M) H) (hD : va_D (fun q : Nat => s.heap.size ≤ q) (cW ad vd cI cZ cL cG S ++ mW am cI cZ cL M)) (hS : va_S (fun q : Nat => s.heap.size ≤ q) s.heap H locs) (hl : lv_has ls 4 [(0, .ref b), (1, .ref (ad 0)), (2, .ref (am 0)), (3, .int x3)]) (kk : ∀ (kc1 ks1 : Nat) (S1 : CS) (M1 : MS) (vd1 : Nat → Nat) (H1 : Heap) (locs1 : List Loc), kc1 ≤ 599911 → ks1 ≤ 6978994 → Inv (j + 1) kc1 ks1 S1 M1 → va_P D vwCl (cW ad vd1 cI cZ cL cG S1 ++ mW am cI cZ cL M1) H1 → va_D (fun q : Nat => s.heap.size ≤ q) (cW ad vd1 cI cZ cL cG S1 ++ mW am cI cZ cL M1) → va_S (fun q : Nat => s.heap.size ≤ q) s.heap H1 locs1 → W p l e room_1 s m #[Value.ref b] below meth c H1 locs1 (89 + kc1) (323256 + ks1) Q (F0 m 1130 ls [])) : W p l e room_1 s m #[Value.ref b] below meth c H locs (89 + kc) (323256 + ks) Q (F0 m 681 ls []) := by
  obtain ⟨hx, hb, hr, hml, hown, hts0, hX, hbl, hlocks, hgv⟩ := C0
  have hts : ∀ w ∈ gw, w.before #[Value.ref b] s = true := fun w h => hts0 w (List.mem_filter.mp h).1
  have hA : ∀ q : Nat, s.heap.size ≤ q → (fun q : Nat => s.heap.size ≤ q) q := fun _ h => h
  have hbA : ¬ (fun q : Nat => s.heap.size ≤ q) b := Nat.not_le.mpr hbl
  refine lv_aload_n hx hb dl_681 rfl (lv_at hl 1 rfl) ?_
  obtain ⟨mc, ms, hkc, hks, hT⟩ := hop
  refine ccallVI (n := 0) (b := ad 0) (C := RX8) (As := []) (rest := []) hT hx hb hml hown hts hK hZ hA hP hD hS hl gl_97 hdl_X8_far (va_recv hK hP rfl cob_0) ⟨Nat.le_of_ble_eq_true rfl, Nat.le_of_ble_eq_true rfl⟩ rfl rfl rfl (Nat.le_of_ble_eq_true rfl) dl_682 (by rw [rm_c]; omega) (by rw [rm_s]; omega) (fun r1 S1 vd H locs hP hD hS hT => ?_)
  refine W.widen (k := 89 + (kc + mc)) (n := 323256 + (ks + ms)) (by omega) (by omega) ?_
  refine lv_pop hx hb dl_685 rfl ?_
  refine lv_aload_n hx hb dl_686 rfl (lv_at hl 2 rfl) ?_
  refine mcallLI (n := 0) (rest := []) hT hx hb hml hown hts hK hA hP hD hS hl gl_100 hdl_X9_far ⟨Nat.le_of_ble_eq_true rfl, Nat.le_of_ble_eq_true rfl⟩ rfl rfl (Nat.le_of_ble_eq_true rfl) dl_687 (by rw [rm_c]; omega) (by rw [rm_s]; omega) (fun r2 M1 H locs hP hD hS hT => ?_)
  have hI := hT
  refine lv_pop hx hb dl_690 rfl ?_
  refine lv_goto (tgt := 1130) hx hb dl_691 (by decide) ?_
  exact kk _ _ _ _ _ _ _ hkc hks hI hP hD hS
def lop_20 (l : Launch) (Inv : Nat → Nat → Nat → CS → MS → Prop) (j kc ks : Nat) (S : CS) (M : MS) : Prop := ∃ mc ms : Nat, kc + mc ≤ 599911 ∧ ks + ms ≤ 6978994 ∧ cX_X8_farthest l mc ms S (fun r1 S1 => mX_farthest l M (fun r2 M1 => Inv (j + 1) (kc + mc) (ks + ms) S1 M1))
set_option maxHeartbeats 8000000 in
set_option maxRecDepth 100000 in
theorem lawc_20 {p : Program} {l : Launch} {e : Env} {s : State} {m : MethodId} {below : List Frame} {meth : Method} {c : Code} {b L : Nat} {xs : Nat → Int32} {D : va_G} {cI cZ cL cG : ClassId} {Q : State → Prop} (C0 : lw_At p s m meth c b L xs) (hK : va_K D vwCl (cTy cI cZ cL cG) s) (hZ : cZw s) {Inv : Nat → Nat → Nat → CS → MS → Prop} {j kc ks : Nat} {S : CS} {M : MS} (hkc : kc ≤ 599911) (hks : ks ≤ 6978994) (hop : lop_20 l Inv j kc ks S M) {x3 : Int32} (hi : ∀ k : Nat, k < 9 → vp_in (x3 + nI k) L) {ad vd am : Nat → Nat} {H : Heap} {locs : List Loc} {ls : Array Slot} (hP : va_P D vwCl (cW ad vd cI cZ cL cG S ++ mW am cI cZ cL M) H) (hD : va_D (fun q : Nat => s.heap.size ≤ q) (cW ad vd cI cZ cL cG S ++ mW am cI cZ cL M)) (hS : va_S (fun q : Nat => s.heap.size ≤ q) s.heap H locs) (hl : lv_has ls 4 [(0, .ref b), (1, .ref (ad 0)), (2, .ref (am 0)), (3, .int x3)]) (kk : ∀ (kc1 ks1 : Nat) (S1 : CS) (M1 : MS) (vd1 : Nat → Nat) (H1 : Heap) (locs1 : List Loc), kc1 ≤ 599911 → ks1 ≤ 6978994 → Inv (j + 1) kc1 ks1 S1 M1 → va_P D vwCl (cW ad vd1 cI cZ cL cG S1 ++ mW am cI cZ cL M1) H1 → va_D (fun q : Nat => s.heap.size ≤ q) (cW ad vd1 cI cZ cL cG S1 ++ mW am cI cZ cL M1) → va_S (fun q : Nat => s.heap.size ≤ q) s.heap H1 locs1 → W p l e room_1 s m #[Value.ref b] below meth c H1 locs1 (89 + kc1) (323256 + ks1) Q (F0 m 1130 ls [])) : W p l e room_1 s m #[Value.ref b] below meth c H locs (89 + kc) (323256 + ks) Q (F0 m 694 ls []) := by
  obtain ⟨hx, hb, hr, hml, hown, hts0, hX, hbl, hlocks, hgv⟩ := C0
  have hts : ∀ w ∈ gw, w.before #[Value.ref b] s = true := fun w h => hts0 w (List.mem_filter.mp h).1
  have hA : ∀ q : Nat, s.heap.size ≤ q → (fun q : Nat => s.heap.size ≤ q) q := fun _ h => h
  have hbA : ¬ (fun q : Nat => s.heap.size ≤ q) b := Nat.not_le.mpr hbl
  refine lv_aload_n hx hb dl_694 rfl (lv_at hl 1 rfl) ?_
  obtain ⟨mc, ms, hkc, hks, hT⟩ := hop
  refine ccallVI (n := 0) (b := ad 0) (C := RX8) (As := []) (rest := []) hT hx hb hml hown hts hK hZ hA hP hD hS hl gl_101 hdl_X8_farthest (va_recv hK hP rfl cob_0) ⟨Nat.le_of_ble_eq_true rfl, Nat.le_of_ble_eq_true rfl⟩ rfl rfl rfl (Nat.le_of_ble_eq_true rfl) dl_695 (by rw [rm_c]; omega) (by rw [rm_s]; omega) (fun r1 S1 vd H locs hP hD hS hT => ?_)
  refine W.widen (k := 89 + (kc + mc)) (n := 323256 + (ks + ms)) (by omega) (by omega) ?_
  refine lv_pop hx hb dl_698 rfl ?_
  refine lv_aload_n hx hb dl_699 rfl (lv_at hl 2 rfl) ?_
  refine mcallLI (n := 0) (rest := []) hT hx hb hml hown hts hK hA hP hD hS hl gl_104 hdl_X9_farthest ⟨Nat.le_of_ble_eq_true rfl, Nat.le_of_ble_eq_true rfl⟩ rfl rfl (Nat.le_of_ble_eq_true rfl) dl_700 (by rw [rm_c]; omega) (by rw [rm_s]; omega) (fun r2 M1 H locs hP hD hS hT => ?_)
  have hI := hT
  refine lv_pop hx hb dl_703 rfl ?_
  refine lv_goto (tgt := 1130) hx hb dl_704 (by decide) ?_
  exact kk _ _ _ _ _ _ _ hkc hks hI hP hD hS
def lop_21 (l : Launch) (Inv : Nat → Nat → Nat → CS → MS → Prop) (j kc ks : Nat) (S : CS) (M : MS) : Prop := ∀ (a1 : Int32), ∃ mc ms : Nat, kc + mc ≤ 599911 ∧ ks + ms ≤ 6978994 ∧ cX_X8_joined l mc ms S a1 (fun r1 S1 => mX_joined l M a1 (fun r2 M1 => Inv (j + 1) (kc + mc) (ks + ms) S1 M1))
set_option maxHeartbeats 8000000 in
set_option maxRecDepth 100000 in
theorem lawc_21 {p : Program} {l : Launch} {e : Env} {s : State} {m : MethodId} {below : List Frame} {meth : Method} {c : Code} {b L : Nat} {xs : Nat → Int32} {D : va_G} {cI cZ cL cG : ClassId} {Q : State → Prop} (C0 : lw_At p s m meth c b L xs) (hK : va_K D vwCl (cTy cI cZ cL cG) s) (hZ : cZw s) {Inv : Nat → Nat → Nat → CS → MS → Prop} {j kc ks : Nat} {S : CS} {M : MS} (hkc : kc ≤ 599911) (hks : ks ≤ 6978994) (hop : lop_21 l Inv j kc ks S M) {x3 : Int32} (hi : ∀ k : Nat, k < 9 → vp_in (x3 + nI k) L) {ad vd am : Nat → Nat} {H : Heap} {locs : List Loc} {ls : Array Slot} (hP : va_P D vwCl (cW ad vd cI cZ cL cG S ++ mW am cI cZ cL M) H) (hD : va_D (fun q : Nat => s.heap.size ≤ q) (cW ad vd cI cZ cL cG S ++ mW am cI cZ cL M)) (hS : va_S (fun q : Nat => s.heap.size ≤ q) s.heap H locs) (hl : lv_has ls 4 [(0, .ref b), (1, .ref (ad 0)), (2, .ref (am 0)), (3, .int x3)]) (kk : ∀ (kc1 ks1 : Nat) (S1 : CS) (M1 : MS) (vd1 : Nat → Nat) (H1 : Heap) (locs1 : List Loc), kc1 ≤ 599911 → ks1 ≤ 6978994 → Inv (j + 1) kc1 ks1 S1 M1 → va_P D vwCl (cW ad vd1 cI cZ cL cG S1 ++ mW am cI cZ cL M1) H1 → va_D (fun q : Nat => s.heap.size ≤ q) (cW ad vd1 cI cZ cL cG S1 ++ mW am cI cZ cL M1) → va_S (fun q : Nat => s.heap.size ≤ q) s.heap H1 locs1 → W p l e room_1 s m #[Value.ref b] below meth c H1 locs1 (89 + kc1) (323256 + ks1) Q (F0 m 1130 ls [])) : W p l e room_1 s m #[Value.ref b] below meth c H locs (89 + kc) (323256 + ks) Q (F0 m 707 ls []) := by
  obtain ⟨hx, hb, hr, hml, hown, hts0, hX, hbl, hlocks, hgv⟩ := C0
  have hts : ∀ w ∈ gw, w.before #[Value.ref b] s = true := fun w h => hts0 w (List.mem_filter.mp h).1
  have hA : ∀ q : Nat, s.heap.size ≤ q → (fun q : Nat => s.heap.size ≤ q) q := fun _ h => h
  have hbA : ¬ (fun q : Nat => s.heap.size ≤ q) b := Nat.not_le.mpr hbl
  have hi1 : vp_in (x3 + 1) L := hi 1 (by decide)
  refine lv_aload_n hx hb dl_707 rfl (lv_at hl 1 rfl) ?_
  refine lv_aload_n hx hb dl_708 rfl (lv_at hl 0 rfl) ?_
  refine lv_iload_n hx hb dl_709 rfl (lv_at hl 3 rfl) ?_
  refine lv_iconst (v := 1) hx hb dl_710 (by decide) ?_
  refine lv_iadd hx hb dl_711 ?_
  refine va_sld hx hb hX hbl hbA hS hi1 dl_712 ?_
  obtain ⟨mc, ms, hkc, hks, hT⟩ := hop (xs (x3 + 1).toNatClampNeg)
  refine ccallVI (n := 1) (b := ad 0) (C := RX8) (As := [.int (xs (x3 + 1).toNatClampNeg)]) (rest := []) hT hx hb hml hown hts hK hZ hA hP hD hS hl gl_105 hdl_X8_joined (va_recv hK hP rfl cob_0) ⟨Nat.le_of_ble_eq_true rfl, Nat.le_of_ble_eq_true rfl⟩ rfl rfl rfl (Nat.le_of_ble_eq_true rfl) dl_713 (by rw [rm_c]; omega) (by rw [rm_s]; omega) (fun r1 S1 vd H locs hP hD hS hT => ?_)
  refine W.widen (k := 89 + (kc + mc)) (n := 323256 + (ks + ms)) (by omega) (by omega) ?_
  refine lv_pop hx hb dl_716 rfl ?_
  refine lv_aload_n hx hb dl_717 rfl (lv_at hl 2 rfl) ?_
  refine lv_aload_n hx hb dl_718 rfl (lv_at hl 0 rfl) ?_
  refine lv_iload_n hx hb dl_719 rfl (lv_at hl 3 rfl) ?_
  refine lv_iconst (v := 1) hx hb dl_720 (by decide) ?_
  refine lv_iadd hx hb dl_721 ?_
  refine va_sld hx hb hX hbl hbA hS hi1 dl_722 ?_
  refine mcallLI (n := 1) (rest := []) hT hx hb hml hown hts hK hA hP hD hS hl gl_108 hdl_X9_joined ⟨Nat.le_of_ble_eq_true rfl, Nat.le_of_ble_eq_true rfl⟩ rfl rfl (Nat.le_of_ble_eq_true rfl) dl_723 (by rw [rm_c]; omega) (by rw [rm_s]; omega) (fun r2 M1 H locs hP hD hS hT => ?_)
  have hI := hT
  refine lv_pop hx hb dl_726 rfl ?_
  refine lv_goto (tgt := 1130) hx hb dl_727 (by decide) ?_
  exact kk _ _ _ _ _ _ _ hkc hks hI hP hD hS
def lop_22 (l : Launch) (Inv : Nat → Nat → Nat → CS → MS → Prop) (j kc ks : Nat) (S : CS) (M : MS) : Prop := ∀ (a1 : Int32) (a2 : Int32) (a3 : Int32) (a4 : Int32) (a5 : Int32), ∃ mc ms : Nat, kc + mc ≤ 599911 ∧ ks + ms ≤ 6978994 ∧ cX_X8_rename l mc ms S a1 a2 a3 a4 a5 (fun r1 S1 => mX_rename l M a1 a2 a3 a4 a5 (fun r2 M1 => Inv (j + 1) (kc + mc) (ks + ms) S1 M1))
set_option maxHeartbeats 8000000 in
set_option maxRecDepth 100000 in
theorem lawc_22 {p : Program} {l : Launch} {e : Env} {s : State} {m : MethodId} {below : List Frame} {meth : Method} {c : Code} {b L : Nat} {xs : Nat → Int32} {D : va_G} {cI cZ cL cG : ClassId} {Q : State → Prop} (C0 : lw_At p s m meth c b L xs) (hK : va_K D vwCl (cTy cI cZ cL cG) s) (hZ : cZw s) {Inv : Nat → Nat → Nat → CS → MS → Prop} {j kc ks : Nat} {S : CS} {M : MS} (hkc : kc ≤ 599911) (hks : ks ≤ 6978994) (hop : lop_22 l Inv j kc ks S M) {x3 : Int32} (hi : ∀ k : Nat, k < 9 → vp_in (x3 + nI k) L) {ad vd am : Nat → Nat} {H : Heap} {locs : List Loc} {ls : Array Slot} (hP : va_P D vwCl (cW ad vd cI cZ cL cG S ++ mW am cI cZ cL M) H) (hD : va_D (fun q : Nat => s.heap.size ≤ q) (cW ad vd cI cZ cL cG S ++ mW am cI cZ cL M)) (hS : va_S (fun q : Nat => s.heap.size ≤ q) s.heap H locs) (hl : lv_has ls 4 [(0, .ref b), (1, .ref (ad 0)), (2, .ref (am 0)), (3, .int x3)]) (kk : ∀ (kc1 ks1 : Nat) (S1 : CS) (M1 : MS) (vd1 : Nat → Nat) (H1 : Heap) (locs1 : List Loc), kc1 ≤ 599911 → ks1 ≤ 6978994 → Inv (j + 1) kc1 ks1 S1 M1 → va_P D vwCl (cW ad vd1 cI cZ cL cG S1 ++ mW am cI cZ cL M1) H1 → va_D (fun q : Nat => s.heap.size ≤ q) (cW ad vd1 cI cZ cL cG S1 ++ mW am cI cZ cL M1) → va_S (fun q : Nat => s.heap.size ≤ q) s.heap H1 locs1 → W p l e room_1 s m #[Value.ref b] below meth c H1 locs1 (89 + kc1) (323256 + ks1) Q (F0 m 1130 ls [])) : W p l e room_1 s m #[Value.ref b] below meth c H locs (89 + kc) (323256 + ks) Q (F0 m 730 ls []) := by
  obtain ⟨hx, hb, hr, hml, hown, hts0, hX, hbl, hlocks, hgv⟩ := C0
  have hts : ∀ w ∈ gw, w.before #[Value.ref b] s = true := fun w h => hts0 w (List.mem_filter.mp h).1
  have hA : ∀ q : Nat, s.heap.size ≤ q → (fun q : Nat => s.heap.size ≤ q) q := fun _ h => h
  have hbA : ¬ (fun q : Nat => s.heap.size ≤ q) b := Nat.not_le.mpr hbl
  have hi1 : vp_in (x3 + 1) L := hi 1 (by decide)
  have hi2 : vp_in (x3 + 2) L := hi 2 (by decide)
  have hi3 : vp_in (x3 + 3) L := hi 3 (by decide)
  have hi4 : vp_in (x3 + 4) L := hi 4 (by decide)
  have hi5 : vp_in (x3 + 5) L := hi 5 (by decide)
  refine lv_aload_n hx hb dl_730 rfl (lv_at hl 1 rfl) ?_
  refine lv_aload_n hx hb dl_731 rfl (lv_at hl 0 rfl) ?_
  refine lv_iload_n hx hb dl_732 rfl (lv_at hl 3 rfl) ?_
  refine lv_iconst (v := 1) hx hb dl_733 (by decide) ?_
  refine lv_iadd hx hb dl_734 ?_
  refine va_sld hx hb hX hbl hbA hS hi1 dl_735 ?_
  refine lv_aload_n hx hb dl_736 rfl (lv_at hl 0 rfl) ?_
  refine lv_iload_n hx hb dl_737 rfl (lv_at hl 3 rfl) ?_
  refine lv_iconst (v := 2) hx hb dl_738 (by decide) ?_
  refine lv_iadd hx hb dl_739 ?_
  refine va_sld hx hb hX hbl hbA hS hi2 dl_740 ?_
  refine lv_aload_n hx hb dl_741 rfl (lv_at hl 0 rfl) ?_
  refine lv_iload_n hx hb dl_742 rfl (lv_at hl 3 rfl) ?_
  refine lv_iconst (v := 3) hx hb dl_743 (by decide) ?_
  refine lv_iadd hx hb dl_744 ?_
  refine va_sld hx hb hX hbl hbA hS hi3 dl_745 ?_
  refine lv_aload_n hx hb dl_746 rfl (lv_at hl 0 rfl) ?_
  refine lv_iload_n hx hb dl_747 rfl (lv_at hl 3 rfl) ?_
  refine lv_iconst (v := 4) hx hb dl_748 (by decide) ?_
  refine lv_iadd hx hb dl_749 ?_
  refine va_sld hx hb hX hbl hbA hS hi4 dl_750 ?_
  refine lv_aload_n hx hb dl_751 rfl (lv_at hl 0 rfl) ?_
  refine lv_iload_n hx hb dl_752 rfl (lv_at hl 3 rfl) ?_
  refine lv_iconst (v := 5) hx hb dl_753 (by decide) ?_
  refine lv_iadd hx hb dl_754 ?_
  refine va_sld hx hb hX hbl hbA hS hi5 dl_755 ?_
  obtain ⟨mc, ms, hkc, hks, hT⟩ := hop (xs (x3 + 1).toNatClampNeg) (xs (x3 + 2).toNatClampNeg) (xs (x3 + 3).toNatClampNeg) (xs (x3 + 4).toNatClampNeg) (xs (x3 + 5).toNatClampNeg)
  refine ccallVZ (n := 5) (b := ad 0) (C := RX8) (As := [.int (xs (x3 + 1).toNatClampNeg), .int (xs (x3 + 2).toNatClampNeg), .int (xs (x3 + 3).toNatClampNeg), .int (xs (x3 + 4).toNatClampNeg), .int (xs (x3 + 5).toNatClampNeg)]) (rest := []) hT hx hb hml hown hts hK hZ hA hP hD hS hl gl_109 hdl_X8_rename (va_recv hK hP rfl cob_0) ⟨Nat.le_of_ble_eq_true rfl, Nat.le_of_ble_eq_true rfl⟩ rfl rfl rfl (Nat.le_of_ble_eq_true rfl) dl_756 (by rw [rm_c]; omega) (by rw [rm_s]; omega) (fun r1 S1 vd H locs hP hD hS hT => ?_)
  refine W.widen (k := 89 + (kc + mc)) (n := 323256 + (ks + ms)) (by omega) (by omega) ?_
  refine lv_pop hx hb dl_759 rfl ?_
  refine lv_aload_n hx hb dl_760 rfl (lv_at hl 2 rfl) ?_
  refine lv_aload_n hx hb dl_761 rfl (lv_at hl 0 rfl) ?_
  refine lv_iload_n hx hb dl_762 rfl (lv_at hl 3 rfl) ?_
  refine lv_iconst (v := 1) hx hb dl_763 (by decide) ?_
  refine lv_iadd hx hb dl_764 ?_
  refine va_sld hx hb hX hbl hbA hS hi1 dl_765 ?_
  refine lv_aload_n hx hb dl_766 rfl (lv_at hl 0 rfl) ?_
  refine lv_iload_n hx hb dl_767 rfl (lv_at hl 3 rfl) ?_
  refine lv_iconst (v := 2) hx hb dl_768 (by decide) ?_
  refine lv_iadd hx hb dl_769 ?_
  refine va_sld hx hb hX hbl hbA hS hi2 dl_770 ?_
  refine lv_aload_n hx hb dl_771 rfl (lv_at hl 0 rfl) ?_
  refine lv_iload_n hx hb dl_772 rfl (lv_at hl 3 rfl) ?_
  refine lv_iconst (v := 3) hx hb dl_773 (by decide) ?_
  refine lv_iadd hx hb dl_774 ?_
  refine va_sld hx hb hX hbl hbA hS hi3 dl_775 ?_
  refine lv_aload_n hx hb dl_776 rfl (lv_at hl 0 rfl) ?_
  refine lv_iload_n hx hb dl_777 rfl (lv_at hl 3 rfl) ?_
  refine lv_iconst (v := 4) hx hb dl_778 (by decide) ?_
  refine lv_iadd hx hb dl_779 ?_
  refine va_sld hx hb hX hbl hbA hS hi4 dl_780 ?_
  refine lv_aload_n hx hb dl_781 rfl (lv_at hl 0 rfl) ?_
  refine lv_iload_n hx hb dl_782 rfl (lv_at hl 3 rfl) ?_
  refine lv_iconst (v := 5) hx hb dl_783 (by decide) ?_
  refine lv_iadd hx hb dl_784 ?_
  refine va_sld hx hb hX hbl hbA hS hi5 dl_785 ?_
  refine mcallLZ (n := 5) (rest := []) hT hx hb hml hown hts hK hA hP hD hS hl gl_113 hdl_X9_rename ⟨Nat.le_of_ble_eq_true rfl, Nat.le_of_ble_eq_true rfl⟩ rfl rfl (Nat.le_of_ble_eq_true rfl) dl_786 (by rw [rm_c]; omega) (by rw [rm_s]; omega) (fun r2 M1 H locs hP hD hS hT => ?_)
  have hI := hT
  refine lv_pop hx hb dl_789 rfl ?_
  refine lv_goto (tgt := 1130) hx hb dl_790 (by decide) ?_
  exact kk _ _ _ _ _ _ _ hkc hks hI hP hD hS
def lop_23 (l : Launch) (Inv : Nat → Nat → Nat → CS → MS → Prop) (j kc ks : Nat) (S : CS) (M : MS) : Prop := cX_X8_about l S (fun r1 S1 => mX_about l M (fun r2 M1 => Inv (j + 1) kc ks S1 M1))
set_option maxHeartbeats 8000000 in
set_option maxRecDepth 100000 in
theorem lawc_23 {p : Program} {l : Launch} {e : Env} {s : State} {m : MethodId} {below : List Frame} {meth : Method} {c : Code} {b L : Nat} {xs : Nat → Int32} {D : va_G} {cI cZ cL cG : ClassId} {Q : State → Prop} (C0 : lw_At p s m meth c b L xs) (hK : va_K D vwCl (cTy cI cZ cL cG) s) (hZ : cZw s) {Inv : Nat → Nat → Nat → CS → MS → Prop} {j kc ks : Nat} {S : CS} {M : MS} (hkc : kc ≤ 599911) (hks : ks ≤ 6978994) (hop : lop_23 l Inv j kc ks S M) {x3 : Int32} (hi : ∀ k : Nat, k < 9 → vp_in (x3 + nI k) L) {ad vd am : Nat → Nat} {H : Heap} {locs : List Loc} {ls : Array Slot} (hP : va_P D vwCl (cW ad vd cI cZ cL cG S ++ mW am cI cZ cL M) H) (hD : va_D (fun q : Nat => s.heap.size ≤ q) (cW ad vd cI cZ cL cG S ++ mW am cI cZ cL M)) (hS : va_S (fun q : Nat => s.heap.size ≤ q) s.heap H locs) (hl : lv_has ls 4 [(0, .ref b), (1, .ref (ad 0)), (2, .ref (am 0)), (3, .int x3)]) (kk : ∀ (kc1 ks1 : Nat) (S1 : CS) (M1 : MS) (vd1 : Nat → Nat) (H1 : Heap) (locs1 : List Loc), kc1 ≤ 599911 → ks1 ≤ 6978994 → Inv (j + 1) kc1 ks1 S1 M1 → va_P D vwCl (cW ad vd1 cI cZ cL cG S1 ++ mW am cI cZ cL M1) H1 → va_D (fun q : Nat => s.heap.size ≤ q) (cW ad vd1 cI cZ cL cG S1 ++ mW am cI cZ cL M1) → va_S (fun q : Nat => s.heap.size ≤ q) s.heap H1 locs1 → W p l e room_1 s m #[Value.ref b] below meth c H1 locs1 (89 + kc1) (323256 + ks1) Q (F0 m 1130 ls [])) : W p l e room_1 s m #[Value.ref b] below meth c H locs (89 + kc) (323256 + ks) Q (F0 m 793 ls []) := by
  obtain ⟨hx, hb, hr, hml, hown, hts0, hX, hbl, hlocks, hgv⟩ := C0
  have hts : ∀ w ∈ gw, w.before #[Value.ref b] s = true := fun w h => hts0 w (List.mem_filter.mp h).1
  have hA : ∀ q : Nat, s.heap.size ≤ q → (fun q : Nat => s.heap.size ≤ q) q := fun _ h => h
  have hbA : ¬ (fun q : Nat => s.heap.size ≤ q) b := Nat.not_le.mpr hbl
  refine lv_aload_n hx hb dl_793 rfl (lv_at hl 1 rfl) ?_
  have hT := hop
  refine ccallVI (n := 0) (b := ad 0) (C := RX8) (As := []) (rest := []) hT hx hb hml hown hts hK hZ hA hP hD hS hl gl_114 hdl_X8_about (va_recv hK hP rfl cob_0) ⟨Nat.le_of_ble_eq_true rfl, Nat.le_of_ble_eq_true rfl⟩ rfl rfl rfl (Nat.le_of_ble_eq_true rfl) dl_794 (by rw [rm_c]; omega) (by rw [rm_s]; omega) (fun r1 S1 vd H locs hP hD hS hT => ?_)
  refine lv_pop hx hb dl_797 rfl ?_
  refine lv_aload_n hx hb dl_798 rfl (lv_at hl 2 rfl) ?_
  refine mcallLI (n := 0) (rest := []) hT hx hb hml hown hts hK hA hP hD hS hl gl_117 hdl_X9_about ⟨Nat.le_of_ble_eq_true rfl, Nat.le_of_ble_eq_true rfl⟩ rfl rfl (Nat.le_of_ble_eq_true rfl) dl_799 (by rw [rm_c]; omega) (by rw [rm_s]; omega) (fun r2 M1 H locs hP hD hS hT => ?_)
  have hI := hT
  refine lv_pop hx hb dl_802 rfl ?_
  refine lv_goto (tgt := 1130) hx hb dl_803 (by decide) ?_
  exact kk _ _ _ _ _ _ _ hkc hks hI hP hD hS
