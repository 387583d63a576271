def lop_24 (l : Launch) (Inv : Nat → Nat → Nat → CS → MS → Prop) (j kc ks : Nat) (S : CS) (M : MS) : Prop := cX_X8_scheme l S (fun r1 S1 => mX_scheme l M (fun r2 M1 => Inv (j + 1) kc ks S1 M1))
set_option maxHeartbeats 8000000 in
set_option maxRecDepth 100000 in
theorem lawc_24 {p : Program} {l : Launch} {e : Env} {s : State} {m : MethodId} {below : List Frame} {meth : Method} {c : Code} {b L : Nat} {xs : Nat → Int32} {D : va_G} {cI cZ cL cG : ClassId} {Q : State → Prop} (C0 : lw_At p s m meth c b L xs) (hK : va_K D vwCl (cTy cI cZ cL cG) s) (hZ : cZw s) {Inv : Nat → Nat → Nat → CS → MS → Prop} {j kc ks : Nat} {S : CS} {M : MS} (hkc : kc ≤ 599911) (hks : ks ≤ 6978994) (hop : lop_24 l Inv j kc ks S M) {x3 : Int32} (hi : ∀ k : Nat, k < 9 → vp_in (x3 + nI k) L) {ad vd am : Nat → Nat} {H : Heap} {locs : List Loc} {ls : Array Slot} (hP : va_P D vwCl (cW ad vd cI cZ cL cG S ++ mW am cI cZ cL M) H) (hD : va_D (fun q : Nat => s.heap.size ≤ q) (cW ad vd cI cZ cL cG S ++ mW am cI cZ cL M)) (hS : va_S (fun q : Nat => s.heap.size ≤ q) s.heap H locs) (hl : lv_has ls 4 [(0, .ref b), (1, .ref (ad 0)), (2, .ref (am 0)), (3, .int x3)]) (kk : ∀ (kc1 ks1 : Nat) (S1 : CS) (M1 : MS) (vd1 : Nat → Nat) (H1 : Heap) (locs1 : List Loc), kc1 ≤ 599911 → ks1 ≤ 6978994 → Inv (j + 1) kc1 ks1 S1 M1 → va_P D vwCl (cW ad vd1 cI cZ cL cG S1 ++ mW am cI cZ cL M1) H1 → va_D (fun q : Nat => s.heap.size ≤ q) (cW ad vd1 cI cZ cL cG S1 ++ mW am cI cZ cL M1) → va_S (fun q : Nat => s.heap.size ≤ q) s.heap H1 locs1 → W p l e room_1 s m #[Value.ref b] below meth c H1 locs1 (89 + kc1) (323256 + ks1) Q (F0 m 1130 ls [])) : W p l e room_1 s m #[Value.ref b] below meth c H locs (89 + kc) (323256 + ks) Q (F0 m 806 ls []) := by
  obtain ⟨hx, hb, hr, hml, hown, hts0, hX, hbl, hlocks, hgv⟩ := C0
  have hts : ∀ w ∈ gw, w.before #[Value.ref b] s = true := fun w h => hts0 w (List.mem_filter.mp h).1
  have hA : ∀ q : Nat, s.heap.size ≤ q → (fun q : Nat => s.heap.size ≤ q) q := fun _ h => h
  have hbA : ¬ (fun q : Nat => s.heap.size ≤ q) b := Nat.not_le.mpr hbl
  refine lv_aload_n hx hb dl_806 rfl (lv_at hl 1 rfl) ?_
  have hT := hop
  refine ccallVI (n := 0) (b := ad 0) (C := RX8) (As := []) (rest := []) hT hx hb hml hown hts hK hZ hA hP hD hS hl gl_118 hdl_X8_scheme (va_recv hK hP rfl cob_0) ⟨Nat.le_of_ble_eq_true rfl, Nat.le_of_ble_eq_true rfl⟩ rfl rfl rfl (Nat.le_of_ble_eq_true rfl) dl_807 (by rw [rm_c]; omega) (by rw [rm_s]; omega) (fun r1 S1 vd H locs hP hD hS hT => ?_)
  refine lv_pop hx hb dl_810 rfl ?_
  refine lv_aload_n hx hb dl_811 rfl (lv_at hl 2 rfl) ?_
  refine mcallLI (n := 0) (rest := []) hT hx hb hml hown hts hK hA hP hD hS hl gl_121 hdl_X9_scheme ⟨Nat.le_of_ble_eq_true rfl, Nat.le_of_ble_eq_true rfl⟩ rfl rfl (Nat.le_of_ble_eq_true rfl) dl_812 (by rw [rm_c]; omega) (by rw [rm_s]; omega) (fun r2 M1 H locs hP hD hS hT => ?_)
  have hI := hT
  refine lv_pop hx hb dl_815 rfl ?_
  refine lv_goto (tgt := 1130) hx hb dl_816 (by decide) ?_
  exact kk _ _ _ _ _ _ _ hkc hks hI hP hD hS
def lop_25 (l : Launch) (Inv : Nat → Nat → Nat → CS → MS → Prop) (j kc ks : Nat) (S : CS) (M : MS) : Prop := ∀ (a1 : Int32) (a2 : Int32) (a3 : Int32), ∃ mc ms : Nat, kc + mc ≤ 599911 ∧ ks + ms ≤ 6978994 ∧ cX_X8_single l mc ms S a1 a2 a3 (fun r1 S1 => mX_single l M a1 a2 a3 (fun r2 M1 => Inv (j + 1) (kc + mc) (ks + ms) S1 M1))
set_option maxHeartbeats 8000000 in
set_option maxRecDepth 100000 in
theorem lawc_25 {p : Program} {l : Launch} {e : Env} {s : State} {m : MethodId} {below : List Frame} {meth : Method} {c : Code} {b L : Nat} {xs : Nat → Int32} {D : va_G} {cI cZ cL cG : ClassId} {Q : State → Prop} (C0 : lw_At p s m meth c b L xs) (hK : va_K D vwCl (cTy cI cZ cL cG) s) (hZ : cZw s) {Inv : Nat → Nat → Nat → CS → MS → Prop} {j kc ks : Nat} {S : CS} {M : MS} (hkc : kc ≤ 599911) (hks : ks ≤ 6978994) (hop : lop_25 l Inv j kc ks S M) {x3 : Int32} (hi : ∀ k : Nat, k < 9 → vp_in (x3 + nI k) L) {ad vd am : Nat → Nat} {H : Heap} {locs : List Loc} {ls : Array Slot} (hP : va_P D vwCl (cW ad vd cI cZ cL cG S ++ mW am cI cZ cL M) H) (hD : va_D (fun q : Nat => s.heap.size ≤ q) (cW ad vd cI cZ cL cG S ++ mW am cI cZ cL M)) (hS : va_S (fun q : Nat => s.heap.size ≤ q) s.heap H locs) (hl : lv_has ls 4 [(0, .ref b), (1, .ref (ad 0)), (2, .ref (am 0)), (3, .int x3)]) (kk : ∀ (kc1 ks1 : Nat) (S1 : CS) (M1 : MS) (vd1 : Nat → Nat) (H1 : Heap) (locs1 : List Loc), kc1 ≤ 599911 → ks1 ≤ 6978994 → Inv (j + 1) kc1 ks1 S1 M1 → va_P D vwCl (cW ad vd1 cI cZ cL cG S1 ++ mW am cI cZ cL M1) H1 → va_D (fun q : Nat => s.heap.size ≤ q) (cW ad vd1 cI cZ cL cG S1 ++ mW am cI cZ cL M1) → va_S (fun q : Nat => s.heap.size ≤ q) s.heap H1 locs1 → W p l e room_1 s m #[Value.ref b] below meth c H1 locs1 (89 + kc1) (323256 + ks1) Q (F0 m 1130 ls [])) : W p l e room_1 s m #[Value.ref b] below meth c H locs (89 + kc) (323256 + ks) Q (F0 m 819 ls []) := by
  obtain ⟨hx, hb, hr, hml, hown, hts0, hX, hbl, hlocks, hgv⟩ := C0
  have hts : ∀ w ∈ gw, w.before #[Value.ref b] s = true := fun w h => hts0 w (List.mem_filter.mp h).1
  have hA : ∀ q : Nat, s.heap.size ≤ q → (fun q : Nat => s.heap.size ≤ q) q := fun _ h => h
  have hbA : ¬ (fun q : Nat => s.heap.size ≤ q) b := Nat.not_le.mpr hbl
  have hi1 : vp_in (x3 + 1) L := hi 1 (by decide)
  have hi2 : vp_in (x3 + 2) L := hi 2 (by decide)
  have hi3 : vp_in (x3 + 3) L := hi 3 (by decide)
  refine lv_aload_n hx hb dl_819 rfl (lv_at hl 1 rfl) ?_
  refine lv_aload_n hx hb dl_820 rfl (lv_at hl 0 rfl) ?_
  refine lv_iload_n hx hb dl_821 rfl (lv_at hl 3 rfl) ?_
  refine lv_iconst (v := 1) hx hb dl_822 (by decide) ?_
  refine lv_iadd hx hb dl_823 ?_
  refine va_sld hx hb hX hbl hbA hS hi1 dl_824 ?_
  refine lv_aload_n hx hb dl_825 rfl (lv_at hl 0 rfl) ?_
  refine lv_iload_n hx hb dl_826 rfl (lv_at hl 3 rfl) ?_
  refine lv_iconst (v := 2) hx hb dl_827 (by decide) ?_
  refine lv_iadd hx hb dl_828 ?_
  refine va_sld hx hb hX hbl hbA hS hi2 dl_829 ?_
  refine lv_aload_n hx hb dl_830 rfl (lv_at hl 0 rfl) ?_
  refine lv_iload_n hx hb dl_831 rfl (lv_at hl 3 rfl) ?_
  refine lv_iconst (v := 3) hx hb dl_832 (by decide) ?_
  refine lv_iadd hx hb dl_833 ?_
  refine va_sld hx hb hX hbl hbA hS hi3 dl_834 ?_
  obtain ⟨mc, ms, hkc, hks, hT⟩ := hop (xs (x3 + 1).toNatClampNeg) (xs (x3 + 2).toNatClampNeg) (xs (x3 + 3).toNatClampNeg)
  refine ccallVI (n := 3) (b := ad 0) (C := RX8) (As := [.int (xs (x3 + 1).toNatClampNeg), .int (xs (x3 + 2).toNatClampNeg), .int (xs (x3 + 3).toNatClampNeg)]) (rest := []) hT hx hb hml hown hts hK hZ hA hP hD hS hl gl_122 hdl_X8_single (va_recv hK hP rfl cob_0) ⟨Nat.le_of_ble_eq_true rfl, Nat.le_of_ble_eq_true rfl⟩ rfl rfl rfl (Nat.le_of_ble_eq_true rfl) dl_835 (by rw [rm_c]; omega) (by rw [rm_s]; omega) (fun r1 S1 vd H locs hP hD hS hT => ?_)
  refine W.widen (k := 89 + (kc + mc)) (n := 323256 + (ks + ms)) (by omega) (by omega) ?_
  refine lv_pop hx hb dl_838 rfl ?_
  refine lv_aload_n hx hb dl_839 rfl (lv_at hl 2 rfl) ?_
  refine lv_aload_n hx hb dl_840 rfl (lv_at hl 0 rfl) ?_
  refine lv_iload_n hx hb dl_841 rfl (lv_at hl 3 rfl) ?_
  refine lv_iconst (v := 1) hx hb dl_842 (by decide) ?_
  refine lv_iadd hx hb dl_843 ?_
  refine va_sld hx hb hX hbl hbA hS hi1 dl_844 ?_
  refine lv_aload_n hx hb dl_845 rfl (lv_at hl 0 rfl) ?_
  refine lv_iload_n hx hb dl_846 rfl (lv_at hl 3 rfl) ?_
  refine lv_iconst (v := 2) hx hb dl_847 (by decide) ?_
  refine lv_iadd hx hb dl_848 ?_
  refine va_sld hx hb hX hbl hbA hS hi2 dl_849 ?_
  refine lv_aload_n hx hb dl_850 rfl (lv_at hl 0 rfl) ?_
  refine lv_iload_n hx hb dl_851 rfl (lv_at hl 3 rfl) ?_
  refine lv_iconst (v := 3) hx hb dl_852 (by decide) ?_
  refine lv_iadd hx hb dl_853 ?_
  refine va_sld hx hb hX hbl hbA hS hi3 dl_854 ?_
  refine mcallLI (n := 3) (rest := []) hT hx hb hml hown hts hK hA hP hD hS hl gl_126 hdl_X9_single ⟨Nat.le_of_ble_eq_true rfl, Nat.le_of_ble_eq_true rfl⟩ rfl rfl (Nat.le_of_ble_eq_true rfl) dl_855 (by rw [rm_c]; omega) (by rw [rm_s]; omega) (fun r2 M1 H locs hP hD hS hT => ?_)
  have hI := hT
  refine lv_pop hx hb dl_858 rfl ?_
  refine lv_goto (tgt := 1130) hx hb dl_859 (by decide) ?_
  exact kk _ _ _ _ _ _ _ hkc hks hI hP hD hS
def lop_26 (l : Launch) (Inv : Nat → Nat → Nat → CS → MS → Prop) (j kc ks : Nat) (S : CS) (M : MS) : Prop := ∀ (a1 : Int32) (a2 : Int32) (a3 : Int32) (a4 : Int32) (a5 : Int32) (a6 : Int32) (a7 : Int32) (a8 : Int32), ∃ mc ms : Nat, kc + mc ≤ 599911 ∧ ks + ms ≤ 6978994 ∧ cX_X8_call l mc ms S a1 a2 a3 a4 a5 a6 a7 a8 (fun r1 S1 => mX_call l M a1 a2 a3 a4 a5 a6 a7 a8 (fun r2 M1 => Inv (j + 1) (kc + mc) (ks + ms) S1 M1))
set_option maxHeartbeats 8000000 in
set_option maxRecDepth 100000 in
theorem lawc_26 {p : Program} {l : Launch} {e : Env} {s : State} {m : MethodId} {below : List Frame} {meth : Method} {c : Code} {b L : Nat} {xs : Nat → Int32} {D : va_G} {cI cZ cL cG : ClassId} {Q : State → Prop} (C0 : lw_At p s m meth c b L xs) (hK : va_K D vwCl (cTy cI cZ cL cG) s) (hZ : cZw s) {Inv : Nat → Nat → Nat → CS → MS → Prop} {j kc ks : Nat} {S : CS} {M : MS} (hkc : kc ≤ 599911) (hks : ks ≤ 6978994) (hop : lop_26 l Inv j kc ks S M) {x3 : Int32} (hi : ∀ k : Nat, k < 9 → vp_in (x3 + nI k) L) {ad vd am : Nat → Nat} {H : Heap} {locs : List Loc} {ls : Array Slot} (hP : va_P D vwCl (cW ad vd cI cZ cL cG S ++ mW am cI cZ cL M) H) (hD : va_D (fun q : Nat => s.heap.size ≤ q) (cW ad vd cI cZ cL cG S ++ mW am cI cZ cL M)) (hS : va_S (fun q : Nat => s.heap.size ≤ q) s.heap H locs) (hl : lv_has ls 4 [(0, .ref b), (1, .ref (ad 0)), (2, .ref (am 0)), (3, .int x3)]) (kk : ∀ (kc1 ks1 : Nat) (S1 : CS) (M1 : MS) (vd1 : Nat → Nat) (H1 : Heap) (locs1 : List Loc), kc1 ≤ 599911 → ks1 ≤ 6978994 → Inv (j + 1) kc1 ks1 S1 M1 → va_P D vwCl (cW ad vd1 cI cZ cL cG S1 ++ mW am cI cZ cL M1) H1 → va_D (fun q : Nat => s.heap.size ≤ q) (cW ad vd1 cI cZ cL cG S1 ++ mW am cI cZ cL M1) → va_S (fun q : Nat => s.heap.size ≤ q) s.heap H1 locs1 → W p l e room_1 s m #[Value.ref b] below meth c H1 locs1 (89 + kc1) (323256 + ks1) Q (F0 m 1130 ls [])) : W p l e room_1 s m #[Value.ref b] below meth c H locs (89 + kc) (323256 + ks) Q (F0 m 862 ls []) := by
  obtain ⟨hx, hb, hr, hml, hown, hts0, hX, hbl, hlocks, hgv⟩ := C0
  have hts : ∀ w ∈ gw, w.before #[Value.ref b] s = true := fun w h => hts0 w (List.mem_filter.mp h).1
  have hA : ∀ q : Nat, s.heap.size ≤ q → (fun q : Nat => s.heap.size ≤ q) q := fun _ h => h
  have hbA : ¬ (fun q : Nat => s.heap.size ≤ q) b := Nat.not_le.mpr hbl
  have hi1 : vp_in (x3 + 1) L := hi 1 (by decide)
  have hi2 : vp_in (x3 + 2) L := hi 2 (by decide)
  have hi3 : vp_in (x3 + 3) L := hi 3 (by decide)
  have hi4 : vp_in (x3 + 4) L := hi 4 (by decide)
  have hi5 : vp_in (x3 + 5) L := hi 5 (by decide)
  have hi6 : vp_in (x3 + 6) L := hi 6 (by decide)
  have hi7 : vp_in (x3 + 7) L := hi 7 (by decide)
  have hi8 : vp_in (x3 + 8) L := hi 8 (by decide)
  refine lv_aload_n hx hb dl_862 rfl (lv_at hl 1 rfl) ?_
  refine lv_aload_n hx hb dl_863 rfl (lv_at hl 0 rfl) ?_
  refine lv_iload_n hx hb dl_864 rfl (lv_at hl 3 rfl) ?_
  refine lv_iconst (v := 1) hx hb dl_865 (by decide) ?_
  refine lv_iadd hx hb dl_866 ?_
  refine va_sld hx hb hX hbl hbA hS hi1 dl_867 ?_
  refine lv_aload_n hx hb dl_868 rfl (lv_at hl 0 rfl) ?_
  refine lv_iload_n hx hb dl_869 rfl (lv_at hl 3 rfl) ?_
  refine lv_iconst (v := 2) hx hb dl_870 (by decide) ?_
  refine lv_iadd hx hb dl_871 ?_
  refine va_sld hx hb hX hbl hbA hS hi2 dl_872 ?_
  refine lv_aload_n hx hb dl_873 rfl (lv_at hl 0 rfl) ?_
  refine lv_iload_n hx hb dl_874 rfl (lv_at hl 3 rfl) ?_
  refine lv_iconst (v := 3) hx hb dl_875 (by decide) ?_
  refine lv_iadd hx hb dl_876 ?_
  refine va_sld hx hb hX hbl hbA hS hi3 dl_877 ?_
  refine lv_aload_n hx hb dl_878 rfl (lv_at hl 0 rfl) ?_
  refine lv_iload_n hx hb dl_879 rfl (lv_at hl 3 rfl) ?_
  refine lv_iconst (v := 4) hx hb dl_880 (by decide) ?_
  refine lv_iadd hx hb dl_881 ?_
  refine va_sld hx hb hX hbl hbA hS hi4 dl_882 ?_
  refine lv_aload_n hx hb dl_883 rfl (lv_at hl 0 rfl) ?_
  refine lv_iload_n hx hb dl_884 rfl (lv_at hl 3 rfl) ?_
  refine lv_iconst (v := 5) hx hb dl_885 (by decide) ?_
  refine lv_iadd hx hb dl_886 ?_
  refine va_sld hx hb hX hbl hbA hS hi5 dl_887 ?_
  refine lv_aload_n hx hb dl_888 rfl (lv_at hl 0 rfl) ?_
  refine lv_iload_n hx hb dl_889 rfl (lv_at hl 3 rfl) ?_
  refine lv_bipush (v := 6) hx hb dl_890 (by decide) ?_
  refine lv_iadd hx hb dl_892 ?_
  refine va_sld hx hb hX hbl hbA hS hi6 dl_893 ?_
  refine lv_aload_n hx hb dl_894 rfl (lv_at hl 0 rfl) ?_
  refine lv_iload_n hx hb dl_895 rfl (lv_at hl 3 rfl) ?_
  refine lv_bipush (v := 7) hx hb dl_896 (by decide) ?_
  refine lv_iadd hx hb dl_898 ?_
  refine va_sld hx hb hX hbl hbA hS hi7 dl_899 ?_
  refine lv_aload_n hx hb dl_900 rfl (lv_at hl 0 rfl) ?_
  refine lv_iload_n hx hb dl_901 rfl (lv_at hl 3 rfl) ?_
  refine lv_bipush (v := 8) hx hb dl_902 (by decide) ?_
  refine lv_iadd hx hb dl_904 ?_
  refine va_sld hx hb hX hbl hbA hS hi8 dl_905 ?_
  obtain ⟨mc, ms, hkc, hks, hT⟩ := hop (xs (x3 + 1).toNatClampNeg) (xs (x3 + 2).toNatClampNeg) (xs (x3 + 3).toNatClampNeg) (xs (x3 + 4).toNatClampNeg) (xs (x3 + 5).toNatClampNeg) (xs (x3 + 6).toNatClampNeg) (xs (x3 + 7).toNatClampNeg) (xs (x3 + 8).toNatClampNeg)
  refine ccallVI (n := 8) (b := ad 0) (C := RX8) (As := [.int (xs (x3 + 1).toNatClampNeg), .int (xs (x3 + 2).toNatClampNeg), .int (xs (x3 + 3).toNatClampNeg), .int (xs (x3 + 4).toNatClampNeg), .int (xs (x3 + 5).toNatClampNeg), .int (xs (x3 + 6).toNatClampNeg), .int (xs (x3 + 7).toNatClampNeg), .int (xs (x3 + 8).toNatClampNeg)]) (rest := []) hT hx hb hml hown hts hK hZ hA hP hD hS hl gl_127 hdl_X8_call (va_recv hK hP rfl cob_0) ⟨Nat.le_of_ble_eq_true rfl, Nat.le_of_ble_eq_true rfl⟩ rfl rfl rfl (Nat.le_of_ble_eq_true rfl) dl_906 (by rw [rm_c]; omega) (by rw [rm_s]; omega) (fun r1 S1 vd H locs hP hD hS hT => ?_)
  refine W.widen (k := 89 + (kc + mc)) (n := 323256 + (ks + ms)) (by omega) (by omega) ?_
  refine lv_pop hx hb dl_909 rfl ?_
  refine lv_aload_n hx hb dl_910 rfl (lv_at hl 2 rfl) ?_
  refine lv_aload_n hx hb dl_911 rfl (lv_at hl 0 rfl) ?_
  refine lv_iload_n hx hb dl_912 rfl (lv_at hl 3 rfl) ?_
  refine lv_iconst (v := 1) hx hb dl_913 (by decide) ?_
  refine lv_iadd hx hb dl_914 ?_
  refine va_sld hx hb hX hbl hbA hS hi1 dl_915 ?_
  refine lv_aload_n hx hb dl_916 rfl (lv_at hl 0 rfl) ?_
  refine lv_iload_n hx hb dl_917 rfl (lv_at hl 3 rfl) ?_
  refine lv_iconst (v := 2) hx hb dl_918 (by decide) ?_
  refine lv_iadd hx hb dl_919 ?_
  refine va_sld hx hb hX hbl hbA hS hi2 dl_920 ?_
  refine lv_aload_n hx hb dl_921 rfl (lv_at hl 0 rfl) ?_
  refine lv_iload_n hx hb dl_922 rfl (lv_at hl 3 rfl) ?_
  refine lv_iconst (v := 3) hx hb dl_923 (by decide) ?_
  refine lv_iadd hx hb dl_924 ?_
  refine va_sld hx hb hX hbl hbA hS hi3 dl_925 ?_
  refine lv_aload_n hx hb dl_926 rfl (lv_at hl 0 rfl) ?_
  refine lv_iload_n hx hb dl_927 rfl (lv_at hl 3 rfl) ?_
  refine lv_iconst (v := 4) hx hb dl_928 (by decide) ?_
  refine lv_iadd hx hb dl_929 ?_
  refine va_sld hx hb hX hbl hbA hS hi4 dl_930 ?_
  refine lv_aload_n hx hb dl_931 rfl (lv_at hl 0 rfl) ?_
  refine lv_iload_n hx hb dl_932 rfl (lv_at hl 3 rfl) ?_
  refine lv_iconst (v := 5) hx hb dl_933 (by decide) ?_
  refine lv_iadd hx hb dl_934 ?_
  refine va_sld hx hb hX hbl hbA hS hi5 dl_935 ?_
  refine lv_aload_n hx hb dl_936 rfl (lv_at hl 0 rfl) ?_
  refine lv_iload_n hx hb dl_937 rfl (lv_at hl 3 rfl) ?_
  refine lv_bipush (v := 6) hx hb dl_938 (by decide) ?_
  refine lv_iadd hx hb dl_940 ?_
  refine va_sld hx hb hX hbl hbA hS hi6 dl_941 ?_
  refine lv_aload_n hx hb dl_942 rfl (lv_at hl 0 rfl) ?_
  refine lv_iload_n hx hb dl_943 rfl (lv_at hl 3 rfl) ?_
  refine lv_bipush (v := 7) hx hb dl_944 (by decide) ?_
  refine lv_iadd hx hb dl_946 ?_
  refine va_sld hx hb hX hbl hbA hS hi7 dl_947 ?_
  refine lv_aload_n hx hb dl_948 rfl (lv_at hl 0 rfl) ?_
  refine lv_iload_n hx hb dl_949 rfl (lv_at hl 3 rfl) ?_
  refine lv_bipush (v := 8) hx hb dl_950 (by decide) ?_
  refine lv_iadd hx hb dl_952 ?_
  refine va_sld hx hb hX hbl hbA hS hi8 dl_953 ?_
  refine mcallLI (n := 8) (rest := []) hT hx hb hml hown hts hK hA hP hD hS hl gl_131 hdl_X9_call ⟨Nat.le_of_ble_eq_true rfl, Nat.le_of_ble_eq_true rfl⟩ rfl rfl (Nat.le_of_ble_eq_true rfl) dl_954 (by rw [rm_c]; omega) (by rw [rm_s]; omega) (fun r2 M1 H locs hP hD hS hT => ?_)
  have hI := hT
  refine lv_pop hx hb dl_957 rfl ?_
  refine lv_goto (tgt := 1130) hx hb dl_958 (by decide) ?_
  exact kk _ _ _ _ _ _ _ hkc hks hI hP hD hS
def lop_27 (l : Launch) (Inv : Nat → Nat → Nat → CS → MS → Prop) (j kc ks : Nat) (S : CS) (M : MS) : Prop := ∀ (a1 : Int32) (a2 : Int32), cX_X8_count l S a1 a2 (fun r1 S1 => mX_count l M a1 a2 (fun r2 M1 => Inv (j + 1) kc ks S1 M1))
set_option maxHeartbeats 8000000 in
set_option maxRecDepth 100000 in
theorem lawc_27 {p : Program} {l : Launch} {e : Env} {s : State} {m : MethodId} {below : List Frame} {meth : Method} {c : Code} {b L : Nat} {xs : Nat → Int32} {D : va_G} {cI cZ cL cG : ClassId} {Q : State → Prop} (C0 : lw_At p s m meth c b L xs) (hK : va_K D vwCl (cTy cI cZ cL cG) s) (hZ : cZw s) {Inv : Nat → Nat → Nat → CS → MS → Prop} {j kc ks : Nat} {S : CS} {M : MS} (hkc : kc ≤ 599911) (hks : ks ≤ 6978994) (hop : lop_27 l Inv j kc ks S M) {x3 : Int32} (hi : ∀ k : Nat, k < 9 → vp_in (x3 + nI k) L) {ad vd am : Nat → Nat} {H : Heap} {locs : List Loc} {ls : Array Slot} (hP : va_P D vwCl (cW ad vd cI cZ cL cG S ++ mW am cI cZ cL M) H) (hD : va_D (fun q : Nat => s.heap.size ≤ q) (cW ad vd cI cZ cL cG S ++ mW am cI cZ cL M)) (hS : va_S (fun q : Nat => s.heap.size ≤ q) s.heap H locs) (hl : lv_has ls 4 [(0, .ref b), (1, .ref (ad 0)), (2, .ref (am 0)), (3, .int x3)]) (kk : ∀ (kc1 ks1 : Nat) (S1 : CS) (M1 : MS) (vd1 : Nat → Nat) (H1 : Heap) (locs1 : List Loc), kc1 ≤ 599911 → ks1 ≤ 6978994 → Inv (j + 1) kc1 ks1 S1 M1 → va_P D vwCl (cW ad vd1 cI cZ cL cG S1 ++ mW am cI cZ cL M1) H1 → va_D (fun q : Nat => s.heap.size ≤ q) (cW ad vd1 cI cZ cL cG S1 ++ mW am cI cZ cL M1) → va_S (fun q : Nat => s.heap.size ≤ q) s.heap H1 locs1 → W p l e room_1 s m #[Value.ref b] below meth c H1 locs1 (89 + kc1) (323256 + ks1) Q (F0 m 1130 ls [])) : W p l e room_1 s m #[Value.ref b] below meth c H locs (89 + kc) (323256 + ks) Q (F0 m 961 ls []) := by
  obtain ⟨hx, hb, hr, hml, hown, hts0, hX, hbl, hlocks, hgv⟩ := C0
  have hts : ∀ w ∈ gw, w.before #[Value.ref b] s = true := fun w h => hts0 w (List.mem_filter.mp h).1
  have hA : ∀ q : Nat, s.heap.size ≤ q → (fun q : Nat => s.heap.size ≤ q) q := fun _ h => h
  have hbA : ¬ (fun q : Nat => s.heap.size ≤ q) b := Nat.not_le.mpr hbl
  have hi1 : vp_in (x3 + 1) L := hi 1 (by decide)
  have hi2 : vp_in (x3 + 2) L := hi 2 (by decide)
  refine lv_aload_n hx hb dl_961 rfl (lv_at hl 1 rfl) ?_
  refine lv_aload_n hx hb dl_962 rfl (lv_at hl 0 rfl) ?_
  refine lv_iload_n hx hb dl_963 rfl (lv_at hl 3 rfl) ?_
  refine lv_iconst (v := 1) hx hb dl_964 (by decide) ?_
  refine lv_iadd hx hb dl_965 ?_
  refine va_sld hx hb hX hbl hbA hS hi1 dl_966 ?_
  refine lv_aload_n hx hb dl_967 rfl (lv_at hl 0 rfl) ?_
  refine lv_iload_n hx hb dl_968 rfl (lv_at hl 3 rfl) ?_
  refine lv_iconst (v := 2) hx hb dl_969 (by decide) ?_
  refine lv_iadd hx hb dl_970 ?_
  refine va_sld hx hb hX hbl hbA hS hi2 dl_971 ?_
  have hT := hop (xs (x3 + 1).toNatClampNeg) (xs (x3 + 2).toNatClampNeg)
  refine ccallVJ (n := 2) (b := ad 0) (C := RX8) (As := [.int (xs (x3 + 1).toNatClampNeg), .int (xs (x3 + 2).toNatClampNeg)]) (rest := []) hT hx hb hml hown hts hK hZ hA hP hD hS hl gl_132 hdl_X8_count (va_recv hK hP rfl cob_0) ⟨Nat.le_of_ble_eq_true rfl, Nat.le_of_ble_eq_true rfl⟩ rfl rfl rfl (Nat.le_of_ble_eq_true rfl) dl_972 (by rw [rm_c]; omega) (by rw [rm_s]; omega) (fun r1 S1 vd H locs hP hD hS hT => ?_)
  refine lv_pop2_2 hx hb dl_975 rfl ?_
  refine lv_aload_n hx hb dl_976 rfl (lv_at hl 2 rfl) ?_
  refine lv_aload_n hx hb dl_977 rfl (lv_at hl 0 rfl) ?_
  refine lv_iload_n hx hb dl_978 rfl (lv_at hl 3 rfl) ?_
  refine lv_iconst (v := 1) hx hb dl_979 (by decide) ?_
  refine lv_iadd hx hb dl_980 ?_
  refine va_sld hx hb hX hbl hbA hS hi1 dl_981 ?_
  refine lv_aload_n hx hb dl_982 rfl (lv_at hl 0 rfl) ?_
  refine lv_iload_n hx hb dl_983 rfl (lv_at hl 3 rfl) ?_
  refine lv_iconst (v := 2) hx hb dl_984 (by decide) ?_
  refine lv_iadd hx hb dl_985 ?_
  refine va_sld hx hb hX hbl hbA hS hi2 dl_986 ?_
  refine mcallLJ (n := 2) (rest := []) hT hx hb hml hown hts hK hA hP hD hS hl gl_136 hdl_X9_count ⟨Nat.le_of_ble_eq_true rfl, Nat.le_of_ble_eq_true rfl⟩ rfl rfl (Nat.le_of_ble_eq_true rfl) dl_987 (by rw [rm_c]; omega) (by rw [rm_s]; omega) (fun r2 M1 H locs hP hD hS hT => ?_)
  have hI := hT
  refine lv_pop2_2 hx hb dl_990 rfl ?_
  refine lv_goto (tgt := 1130) hx hb dl_991 (by decide) ?_
  exact kk _ _ _ _ _ _ _ hkc hks hI hP hD hS
def lop_28 (l : Launch) (Inv : Nat → Nat → Nat → CS → MS → Prop) (j kc ks : Nat) (S : CS) (M : MS) : Prop := ∀ (a1 : Int32) (a2 : Int32) (a3 : Int32) (a4 : Int32) (a5 : Int32) (a6 : Int32) (a7 : Int32), ∃ mc ms : Nat, kc + mc ≤ 599911 ∧ ks + ms ≤ 6978994 ∧ cX_X8_tried l mc ms S a1 a2 a3 a4 a5 a6 a7 (fun r1 S1 => mX_tried l M a1 a2 a3 a4 a5 a6 a7 (fun r2 M1 => Inv (j + 1) (kc + mc) (ks + ms) S1 M1))
set_option maxHeartbeats 8000000 in
set_option maxRecDepth 100000 in
theorem lawc_28 {p : Program} {l : Launch} {e : Env} {s : State} {m : MethodId} {below : List Frame} {meth : Method} {c : Code} {b L : Nat} {xs : Nat → Int32} {D : va_G} {cI cZ cL cG : ClassId} {Q : State → Prop} (C0 : lw_At p s m meth c b L xs) (hK : va_K D vwCl (cTy cI cZ cL cG) s) (hZ : cZw s) {Inv : Nat → Nat → Nat → CS → MS → Prop} {j kc ks : Nat} {S : CS} {M : MS} (hkc : kc ≤ 599911) (hks : ks ≤ 6978994) (hop : lop_28 l Inv j kc ks S M) {x3 : Int32} (hi : ∀ k : Nat, k < 9 → vp_in (x3 + nI k) L) {ad vd am : Nat → Nat} {H : Heap} {locs : List Loc} {ls : Array Slot} (hP : va_P D vwCl (cW ad vd cI cZ cL cG S ++ mW am cI cZ cL M) H) (hD : va_D (fun q : Nat => s.heap.size ≤ q) (cW ad vd cI cZ cL cG S ++ mW am cI cZ cL M)) (hS : va_S (fun q : Nat => s.heap.size ≤ q) s.heap H locs) (hl : lv_has ls 4 [(0, .ref b), (1, .ref (ad 0)), (2, .ref (am 0)), (3, .int x3)]) (kk : ∀ (kc1 ks1 : Nat) (S1 : CS) (M1 : MS) (vd1 : Nat → Nat) (H1 : Heap) (locs1 : List Loc), kc1 ≤ 599911 → ks1 ≤ 6978994 → Inv (j + 1) kc1 ks1 S1 M1 → va_P D vwCl (cW ad vd1 cI cZ cL cG S1 ++ mW am cI cZ cL M1) H1 → va_D (fun q : Nat => s.heap.size ≤ q) (cW ad vd1 cI cZ cL cG S1 ++ mW am cI cZ cL M1) → va_S (fun q : Nat => s.heap.size ≤ q) s.heap H1 locs1 → W p l e room_1 s m #[Value.ref b] below meth c H1 locs1 (89 + kc1) (323256 + ks1) Q (F0 m 1130 ls [])) : W p l e room_1 s m #[Value.ref b] below meth c H locs (89 + kc) (323256 + ks) Q (F0 m 994 ls []) := by
  obtain ⟨hx, hb, hr, hml, hown, hts0, hX, hbl, hlocks, hgv⟩ := C0
  have hts : ∀ w ∈ gw, w.before #[Value.ref b] s = true := fun w h => hts0 w (List.mem_filter.mp h).1
  have hA : ∀ q : Nat, s.heap.size ≤ q → (fun q : Nat => s.heap.size ≤ q) q := fun _ h => h
  have hbA : ¬ (fun q : Nat => s.heap.size ≤ q) b := Nat.not_le.mpr hbl
  have hi1 : vp_in (x3 + 1) L := hi 1 (by decide)
  have hi2 : vp_in (x3 + 2) L := hi 2 (by decide)
  have hi3 : vp_in (x3 + 3) L := hi 3 (by decide)
  have hi4 : vp_in (x3 + 4) L := hi 4 (by decide)
  have hi5 : vp_in (x3 + 5) L := hi 5 (by decide)
  have hi6 : vp_in (x3 + 6) L := hi 6 (by decide)
  have hi7 : vp_in (x3 + 7) L := hi 7 (by decide)
  refine lv_aload_n hx hb dl_994 rfl (lv_at hl 1 rfl) ?_
  refine lv_aload_n hx hb dl_995 rfl (lv_at hl 0 rfl) ?_
  refine lv_iload_n hx hb dl_996 rfl (lv_at hl 3 rfl) ?_
  refine lv_iconst (v := 1) hx hb dl_997 (by decide) ?_
  refine lv_iadd hx hb dl_998 ?_
  refine va_sld hx hb hX hbl hbA hS hi1 dl_999 ?_
  refine lv_aload_n hx hb dl_1000 rfl (lv_at hl 0 rfl) ?_
  refine lv_iload_n hx hb dl_1001 rfl (lv_at hl 3 rfl) ?_
  refine lv_iconst (v := 2) hx hb dl_1002 (by decide) ?_
  refine lv_iadd hx hb dl_1003 ?_
  refine va_sld hx hb hX hbl hbA hS hi2 dl_1004 ?_
  refine lv_aload_n hx hb dl_1005 rfl (lv_at hl 0 rfl) ?_
  refine lv_iload_n hx hb dl_1006 rfl (lv_at hl 3 rfl) ?_
  refine lv_iconst (v := 3) hx hb dl_1007 (by decide) ?_
  refine lv_iadd hx hb dl_1008 ?_
  refine va_sld hx hb hX hbl hbA hS hi3 dl_1009 ?_
  refine lv_aload_n hx hb dl_1010 rfl (lv_at hl 0 rfl) ?_
  refine lv_iload_n hx hb dl_1011 rfl (lv_at hl 3 rfl) ?_
  refine lv_iconst (v := 4) hx hb dl_1012 (by decide) ?_
  refine lv_iadd hx hb dl_1013 ?_
  refine va_sld hx hb hX hbl hbA hS hi4 dl_1014 ?_
  refine lv_aload_n hx hb dl_1015 rfl (lv_at hl 0 rfl) ?_
  refine lv_iload_n hx hb dl_1016 rfl (lv_at hl 3 rfl) ?_
  refine lv_iconst (v := 5) hx hb dl_1017 (by decide) ?_
  refine lv_iadd hx hb dl_1018 ?_
  refine va_sld hx hb hX hbl hbA hS hi5 dl_1019 ?_
  refine lv_aload_n hx hb dl_1020 rfl (lv_at hl 0 rfl) ?_
  refine lv_iload_n hx hb dl_1021 rfl (lv_at hl 3 rfl) ?_
  refine lv_bipush (v := 6) hx hb dl_1022 (by decide) ?_
  refine lv_iadd hx hb dl_1024 ?_
  refine va_sld hx hb hX hbl hbA hS hi6 dl_1025 ?_
  refine lv_aload_n hx hb dl_1026 rfl (lv_at hl 0 rfl) ?_
  refine lv_iload_n hx hb dl_1027 rfl (lv_at hl 3 rfl) ?_
  refine lv_bipush (v := 7) hx hb dl_1028 (by decide) ?_
  refine lv_iadd hx hb dl_1030 ?_
  refine va_sld hx hb hX hbl hbA hS hi7 dl_1031 ?_
  obtain ⟨mc, ms, hkc, hks, hT⟩ := hop (xs (x3 + 1).toNatClampNeg) (xs (x3 + 2).toNatClampNeg) (xs (x3 + 3).toNatClampNeg) (xs (x3 + 4).toNatClampNeg) (xs (x3 + 5).toNatClampNeg) (xs (x3 + 6).toNatClampNeg) (xs (x3 + 7).toNatClampNeg)
  refine ccallVI (n := 7) (b := ad 0) (C := RX8) (As := [.int (xs (x3 + 1).toNatClampNeg), .int (xs (x3 + 2).toNatClampNeg), .int (xs (x3 + 3).toNatClampNeg), .int (xs (x3 + 4).toNatClampNeg), .int (xs (x3 + 5).toNatClampNeg), .int (xs (x3 + 6).toNatClampNeg), .int (xs (x3 + 7).toNatClampNeg)]) (rest := []) hT hx hb hml hown hts hK hZ hA hP hD hS hl gl_137 hdl_X8_tried (va_recv hK hP rfl cob_0) ⟨Nat.le_of_ble_eq_true rfl, Nat.le_of_ble_eq_true rfl⟩ rfl rfl rfl (Nat.le_of_ble_eq_true rfl) dl_1032 (by rw [rm_c]; omega) (by rw [rm_s]; omega) (fun r1 S1 vd H locs hP hD hS hT => ?_)
  refine W.widen (k := 89 + (kc + mc)) (n := 323256 + (ks + ms)) (by omega) (by omega) ?_
  refine lv_pop hx hb dl_1035 rfl ?_
  refine lv_aload_n hx hb dl_1036 rfl (lv_at hl 2 rfl) ?_
  refine lv_aload_n hx hb dl_1037 rfl (lv_at hl 0 rfl) ?_
  refine lv_iload_n hx hb dl_1038 rfl (lv_at hl 3 rfl) ?_
  refine lv_iconst (v := 1) hx hb dl_1039 (by decide) ?_
  refine lv_iadd hx hb dl_1040 ?_
  refine va_sld hx hb hX hbl hbA hS hi1 dl_1041 ?_
  refine lv_aload_n hx hb dl_1042 rfl (lv_at hl 0 rfl) ?_
  refine lv_iload_n hx hb dl_1043 rfl (lv_at hl 3 rfl) ?_
  refine lv_iconst (v := 2) hx hb dl_1044 (by decide) ?_
  refine lv_iadd hx hb dl_1045 ?_
  refine va_sld hx hb hX hbl hbA hS hi2 dl_1046 ?_
  refine lv_aload_n hx hb dl_1047 rfl (lv_at hl 0 rfl) ?_
  refine lv_iload_n hx hb dl_1048 rfl (lv_at hl 3 rfl) ?_
  refine lv_iconst (v := 3) hx hb dl_1049 (by decide) ?_
  refine lv_iadd hx hb dl_1050 ?_
  refine va_sld hx hb hX hbl hbA hS hi3 dl_1051 ?_
  refine lv_aload_n hx hb dl_1052 rfl (lv_at hl 0 rfl) ?_
  refine lv_iload_n hx hb dl_1053 rfl (lv_at hl 3 rfl) ?_
  refine lv_iconst (v := 4) hx hb dl_1054 (by decide) ?_
  refine lv_iadd hx hb dl_1055 ?_
  refine va_sld hx hb hX hbl hbA hS hi4 dl_1056 ?_
  refine lv_aload_n hx hb dl_1057 rfl (lv_at hl 0 rfl) ?_
  refine lv_iload_n hx hb dl_1058 rfl (lv_at hl 3 rfl) ?_
  refine lv_iconst (v := 5) hx hb dl_1059 (by decide) ?_
  refine lv_iadd hx hb dl_1060 ?_
  refine va_sld hx hb hX hbl hbA hS hi5 dl_1061 ?_
  refine lv_aload_n hx hb dl_1062 rfl (lv_at hl 0 rfl) ?_
  refine lv_iload_n hx hb dl_1063 rfl (lv_at hl 3 rfl) ?_
  refine lv_bipush (v := 6) hx hb dl_1064 (by decide) ?_
  refine lv_iadd hx hb dl_1066 ?_
  refine va_sld hx hb hX hbl hbA hS hi6 dl_1067 ?_
  refine lv_aload_n hx hb dl_1068 rfl (lv_at hl 0 rfl) ?_
  refine lv_iload_n hx hb dl_1069 rfl (lv_at hl 3 rfl) ?_
  refine lv_bipush (v := 7) hx hb dl_1070 (by decide) ?_
  refine lv_iadd hx hb dl_1072 ?_
  refine va_sld hx hb hX hbl hbA hS hi7 dl_1073 ?_
  refine mcallLI (n := 7) (rest := []) hT hx hb hml hown hts hK hA hP hD hS hl gl_141 hdl_X9_tried ⟨Nat.le_of_ble_eq_true rfl, Nat.le_of_ble_eq_true rfl⟩ rfl rfl (Nat.le_of_ble_eq_true rfl) dl_1074 (by rw [rm_c]; omega) (by rw [rm_s]; omega) (fun r2 M1 H locs hP hD hS hT => ?_)
  have hI := hT
  refine lv_pop hx hb dl_1077 rfl ?_
  refine lv_goto (tgt := 1130) hx hb dl_1078 (by decide) ?_
  exact kk _ _ _ _ _ _ _ hkc hks hI hP hD hS
def lop_29 (l : Launch) (Inv : Nat → Nat → Nat → CS → MS → Prop) (j kc ks : Nat) (S : CS) (M : MS) : Prop := cX_X8_failed l S (fun r1 S1 => mX_failed l M (fun r2 M1 => Inv (j + 1) kc ks S1 M1))
set_option maxHeartbeats 8000000 in
set_option maxRecDepth 100000 in
theorem lawc_29 {p : Program} {l : Launch} {e : Env} {s : State} {m : MethodId} {below : List Frame} {meth : Method} {c : Code} {b L : Nat} {xs : Nat → Int32} {D : va_G} {cI cZ cL cG : ClassId} {Q : State → Prop} (C0 : lw_At p s m meth c b L xs) (hK : va_K D vwCl (cTy cI cZ cL cG) s) (hZ : cZw s) {Inv : Nat → Nat → Nat → CS → MS → Prop} {j kc ks : Nat} {S : CS} {M : MS} (hkc : kc ≤ 599911) (hks : ks ≤ 6978994) (hop : lop_29 l Inv j kc ks S M) {x3 : Int32} (hi : ∀ k : Nat, k < 9 → vp_in (x3 + nI k) L) {ad vd am : Nat → Nat} {H : Heap} {locs : List Loc} {ls : Array Slot} (hP : va_P D vwCl (cW ad vd cI cZ cL cG S ++ mW am cI cZ cL M) H) (hD : va_D (fun q : Nat => s.heap.size ≤ q) (cW ad vd cI cZ cL cG S ++ mW am cI cZ cL M)) (hS : va_S (fun q : Nat => s.heap.size ≤ q) s.heap H locs) (hl : lv_has ls 4 [(0, .ref b), (1, .ref (ad 0)), (2, .ref (am 0)), (3, .int x3)]) (kk : ∀ (kc1 ks1 : Nat) (S1 : CS) (M1 : MS) (vd1 : Nat → Nat) (H1 : Heap) (locs1 : List Loc), kc1 ≤ 599911 → ks1 ≤ 6978994 → Inv (j + 1) kc1 ks1 S1 M1 → va_P D vwCl (cW ad vd1 cI cZ cL cG S1 ++ mW am cI cZ cL M1) H1 → va_D (fun q : Nat => s.heap.size ≤ q) (cW ad vd1 cI cZ cL cG S1 ++ mW am cI cZ cL M1) → va_S (fun q : Nat => s.heap.size ≤ q) s.heap H1 locs1 → W p l e room_1 s m #[Value.ref b] below meth c H1 locs1 (89 + kc1) (323256 + ks1) Q (F0 m 1130 ls [])) : W p l e room_1 s m #[Value.ref b] below meth c H locs (89 + kc) (323256 + ks) Q (F0 m 1081 ls []) := by
  obtain ⟨hx, hb, hr, hml, hown, hts0, hX, hbl, hlocks, hgv⟩ := C0
  have hts : ∀ w ∈ gw, w.before #[Value.ref b] s = true := fun w h => hts0 w (List.mem_filter.mp h).1
  have hA : ∀ q : Nat, s.heap.size ≤ q → (fun q : Nat => s.heap.size ≤ q) q := fun _ h => h
  have hbA : ¬ (fun q : Nat => s.heap.size ≤ q) b := Nat.not_le.mpr hbl
  refine lv_aload_n hx hb dl_1081 rfl (lv_at hl 1 rfl) ?_
  have hT := hop
  refine ccallVI (n := 0) (b := ad 0) (C := RX8) (As := []) (rest := []) hT hx hb hml hown hts hK hZ hA hP hD hS hl gl_142 hdl_X8_failed (va_recv hK hP rfl cob_0) ⟨Nat.le_of_ble_eq_true rfl, Nat.le_of_ble_eq_true rfl⟩ rfl rfl rfl (Nat.le_of_ble_eq_true rfl) dl_1082 (by rw [rm_c]; omega) (by rw [rm_s]; omega) (fun r1 S1 vd H locs hP hD hS hT => ?_)
  refine lv_pop hx hb dl_1085 rfl ?_
  refine lv_aload_n hx hb dl_1086 rfl (lv_at hl 2 rfl) ?_
  refine mcallLI (n := 0) (rest := []) hT hx hb hml hown hts hK hA hP hD hS hl gl_145 hdl_X9_failed ⟨Nat.le_of_ble_eq_true rfl, Nat.le_of_ble_eq_true rfl⟩ rfl rfl (Nat.le_of_ble_eq_true rfl) dl_1087 (by rw [rm_c]; omega) (by rw [rm_s]; omega) (fun r2 M1 H locs hP hD hS hT => ?_)
  have hI := hT
  refine lv_pop hx hb dl_1090 rfl ?_
  refine lv_goto (tgt := 1130) hx hb dl_1091 (by decide) ?_
  exact kk _ _ _ _ _ _ _ hkc hks hI hP hD hS
def lop_30 (l : Launch) (Inv : Nat → Nat → Nat → CS → MS → Prop) (j kc ks : Nat) (S : CS) (M : MS) : Prop := cX_X8_trouble l S (fun r1 S1 => mX_trouble l M (fun r2 M1 => Inv (j + 1) kc ks S1 M1))
set_option maxHeartbeats 8000000 in
set_option maxRecDepth 100000 in
theorem lawc_30 {p : Program} {l : Launch} {e : Env} {s : State} {m : MethodId} {below : List Frame} {meth : Method} {c : Code} {b L : Nat} {xs : Nat → Int32} {D : va_G} {cI cZ cL cG : ClassId} {Q : State → Prop} (C0 : lw_At p s m meth c b L xs) (hK : va_K D vwCl (cTy cI cZ cL cG) s) (hZ : cZw s) {Inv : Nat → Nat → Nat → CS → MS → Prop} {j kc ks : Nat} {S : CS} {M : MS} (hkc : kc ≤ 599911) (hks : ks ≤ 6978994) (hop : lop_30 l Inv j kc ks S M) {x3 : Int32} (hi : ∀ k : Nat, k < 9 → vp_in (x3 + nI k) L) {ad vd am : Nat → Nat} {H : Heap} {locs : List Loc} {ls : Array Slot} (hP : va_P D vwCl (cW ad vd cI cZ cL cG S ++ mW am cI cZ cL M) H) (hD : va_D (fun q : Nat => s.heap.size ≤ q) (cW ad vd cI cZ cL cG S ++ mW am cI cZ cL M)) (hS : va_S (fun q : Nat => s.heap.size ≤ q) s.heap H locs) (hl : lv_has ls 4 [(0, .ref b), (1, .ref (ad 0)), (2, .ref (am 0)), (3, .int x3)]) (kk : ∀ (kc1 ks1 : Nat) (S1 : CS) (M1 : MS) (vd1 : Nat → Nat) (H1 : Heap) (locs1 : List Loc), kc1 ≤ 599911 → ks1 ≤ 6978994 → Inv (j + 1) kc1 ks1 S1 M1 → va_P D vwCl (cW ad vd1 cI cZ cL cG S1 ++ mW am cI cZ cL M1) H1 → va_D (fun q : Nat => s.heap.size ≤ q) (cW ad vd1 cI cZ cL cG S1 ++ mW am cI cZ cL M1) → va_S (fun q : Nat => s.heap.size ≤ q) s.heap H1 locs1 → W p l e room_1 s m #[Value.ref b] below meth c H1 locs1 (89 + kc1) (323256 + ks1) Q (F0 m 1130 ls [])) : W p l e room_1 s m #[Value.ref b] below meth c H locs (89 + kc) (323256 + ks) Q (F0 m 1094 ls []) := by
  obtain ⟨hx, hb, hr, hml, hown, hts0, hX, hbl, hlocks, hgv⟩ := C0
  have hts : ∀ w ∈ gw, w.before #[Value.ref b] s = true := fun w h => hts0 w (List.mem_filter.mp h).1
  have hA : ∀ q : Nat, s.heap.size ≤ q → (fun q : Nat => s.heap.size ≤ q) q := fun _ h => h
  have hbA : ¬ (fun q : Nat => s.heap.size ≤ q) b := Nat.not_le.mpr hbl
  refine lv_aload_n hx hb dl_1094 rfl (lv_at hl 1 rfl) ?_
  have hT := hop
  refine ccallVI (n := 0) (b := ad 0) (C := RX8) (As := []) (rest := []) hT hx hb hml hown hts hK hZ hA hP hD hS hl gl_146 hdl_X8_trouble (va_recv hK hP rfl cob_0) ⟨Nat.le_of_ble_eq_true rfl, Nat.le_of_ble_eq_true rfl⟩ rfl rfl rfl (Nat.le_of_ble_eq_true rfl) dl_1095 (by rw [rm_c]; omega) (by rw [rm_s]; omega) (fun r1 S1 vd H locs hP hD hS hT => ?_)
  refine lv_pop hx hb dl_1098 rfl ?_
  refine lv_aload_n hx hb dl_1099 rfl (lv_at hl 2 rfl) ?_
  refine mcallLI (n := 0) (rest := []) hT hx hb hml hown hts hK hA hP hD hS hl gl_149 hdl_X9_trouble ⟨Nat.le_of_ble_eq_true rfl, Nat.le_of_ble_eq_true rfl⟩ rfl rfl (Nat.le_of_ble_eq_true rfl) dl_1100 (by rw [rm_c]; omega) (by rw [rm_s]; omega) (fun r2 M1 H locs hP hD hS hT => ?_)
  have hI := hT
  refine lv_pop hx hb dl_1103 rfl ?_
  refine lv_goto (tgt := 1130) hx hb dl_1104 (by decide) ?_
  exact kk _ _ _ _ _ _ _ hkc hks hI hP hD hS
def lop_31 (l : Launch) (Inv : Nat → Nat → Nat → CS → MS → Prop) (j kc ks : Nat) (S : CS) (M : MS) : Prop := ∀ (a1 : Int32), cX_X8_size l S a1 (fun r1 S1 => mX_size l M a1 (fun r2 M1 => r1 = r2 ∧ Inv (j + 1) kc ks S1 M1))
set_option maxHeartbeats 8000000 in
set_option maxRecDepth 100000 in
theorem lawc_31 {p : Program} {l : Launch} {e : Env} {s : State} {m : MethodId} {below : List Frame} {meth : Method} {c : Code} {b L : Nat} {xs : Nat → Int32} {D : va_G} {cI cZ cL cG : ClassId} {Q : State → Prop} (C0 : lw_At p s m meth c b L xs) (hK : va_K D vwCl (cTy cI cZ cL cG) s) (hZ : cZw s) {Inv : Nat → Nat → Nat → CS → MS → Prop} {j kc ks : Nat} {S : CS} {M : MS} (hkc : kc ≤ 599911) (hks : ks ≤ 6978994) (hop : lop_31 l Inv j kc ks S M) {x3 : Int32} (hi : ∀ k : Nat, k < 9 → vp_in (x3 + nI k) L) {ad vd am : Nat → Nat} {H : Heap} {locs : List Loc} {ls : Array Slot} (hP : va_P D vwCl (cW ad vd cI cZ cL cG S ++ mW am cI cZ cL M) H) (hD : va_D (fun q : Nat => s.heap.size ≤ q) (cW ad vd cI cZ cL cG S ++ mW am cI cZ cL M)) (hS : va_S (fun q : Nat => s.heap.size ≤ q) s.heap H locs) (hl : lv_has ls 4 [(0, .ref b), (1, .ref (ad 0)), (2, .ref (am 0)), (3, .int x3)]) (kk : ∀ (kc1 ks1 : Nat) (S1 : CS) (M1 : MS) (vd1 : Nat → Nat) (H1 : Heap) (locs1 : List Loc), kc1 ≤ 599911 → ks1 ≤ 6978994 → Inv (j + 1) kc1 ks1 S1 M1 → va_P D vwCl (cW ad vd1 cI cZ cL cG S1 ++ mW am cI cZ cL M1) H1 → va_D (fun q : Nat => s.heap.size ≤ q) (cW ad vd1 cI cZ cL cG S1 ++ mW am cI cZ cL M1) → va_S (fun q : Nat => s.heap.size ≤ q) s.heap H1 locs1 → W p l e room_1 s m #[Value.ref b] below meth c H1 locs1 (89 + kc1) (323256 + ks1) Q (F0 m 1130 ls [])) : W p l e room_1 s m #[Value.ref b] below meth c H locs (89 + kc) (323256 + ks) Q (F0 m 1107 ls []) := by
  obtain ⟨hx, hb, hr, hml, hown, hts0, hX, hbl, hlocks, hgv⟩ := C0
  have hts : ∀ w ∈ gw, w.before #[Value.ref b] s = true := fun w h => hts0 w (List.mem_filter.mp h).1
  have hA : ∀ q : Nat, s.heap.size ≤ q → (fun q : Nat => s.heap.size ≤ q) q := fun _ h => h
  have hbA : ¬ (fun q : Nat => s.heap.size ≤ q) b := Nat.not_le.mpr hbl
  have hi1 : vp_in (x3 + 1) L := hi 1 (by decide)
  refine lv_aload_n hx hb dl_1107 rfl (lv_at hl 1 rfl) ?_
  refine lv_aload_n hx hb dl_1108 rfl (lv_at hl 0 rfl) ?_
  refine lv_iload_n hx hb dl_1109 rfl (lv_at hl 3 rfl) ?_
  refine lv_iconst (v := 1) hx hb dl_1110 (by decide) ?_
  refine lv_iadd hx hb dl_1111 ?_
  refine va_sld hx hb hX hbl hbA hS hi1 dl_1112 ?_
  have hT := hop (xs (x3 + 1).toNatClampNeg)
  refine ccallVI (n := 1) (b := ad 0) (C := RX8) (As := [.int (xs (x3 + 1).toNatClampNeg)]) (rest := []) hT hx hb hml hown hts hK hZ hA hP hD hS hl gl_150 hdl_X8_size (va_recv hK hP rfl cob_0) ⟨Nat.le_of_ble_eq_true rfl, Nat.le_of_ble_eq_true rfl⟩ rfl rfl rfl (Nat.le_of_ble_eq_true rfl) dl_1113 (by rw [rm_c]; omega) (by rw [rm_s]; omega) (fun r1 S1 vd H locs hP hD hS hT => ?_)
  refine lv_aload_n hx hb dl_1116 rfl (lv_at hl 2 rfl) ?_
  refine lv_aload_n hx hb dl_1117 rfl (lv_at hl 0 rfl) ?_
  refine lv_iload_n hx hb dl_1118 rfl (lv_at hl 3 rfl) ?_
  refine lv_iconst (v := 1) hx hb dl_1119 (by decide) ?_
  refine lv_iadd hx hb dl_1120 ?_
  refine va_sld hx hb hX hbl hbA hS hi1 dl_1121 ?_
  refine mcallLI (n := 1) (rest := [.int r1]) hT hx hb hml hown hts hK hA hP hD hS hl gl_153 hdl_X9_size ⟨Nat.le_of_ble_eq_true rfl, Nat.le_of_ble_eq_true rfl⟩ rfl rfl (Nat.le_of_ble_eq_true rfl) dl_1122 (by rw [rm_c]; omega) (by rw [rm_s]; omega) (fun r2 M1 H locs hP hD hS hT => ?_)
  obtain ⟨hE, hI⟩ := hT
  refine lv_icmp_eq (tgt := 1130) hx hb dl_1125 (by decide) (fun c9 => ?_) (fun c9 => absurd (by rw [hE]) c9)
  exact kk _ _ _ _ _ _ _ hkc hks hI hP hD hS
