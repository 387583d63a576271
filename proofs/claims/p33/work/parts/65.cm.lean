abbrev cX_X5_add (l : Launch) (mc ms : Nat) (S : CS) (a1 : Int32) (post : CS → Prop) : Prop := cCtV l yX5_add cX5_add 2 3 100 mc ms (fun ad => [.ref (ad 4), .int a1]) S post
def cT_X5_add_29 (l : Launch) (mc ms : Nat) (a1 : Int32) (post : CS → Prop) (B29 : Nat → Nat → CS → Prop) (kc ks : Nat) (S : CS) : Prop := vp_in (S.1 11) (S.2.2.2 22) ∧ kc ≤ mc ∧ ks ≤ ms ∧ post (cf (ca S 22 (upd (S.2.1 22) (S.1 11).toNatClampNeg a1)) 11 ((S.1 11) + 1))
def cT_X5_add_e (l : Launch) (mc ms : Nat) (a1 : Int32) (post : CS → Prop) (B29 : Nat → Nat → CS → Prop) (S0 : CS) : Prop := (¬ S0.1 11 = nI (S0.2.2.2 22) → B29 0 0 S0) ∧ (S0.1 11 = nI (S0.2.2.2 22) → ¬ 2 * (S0.1 11) < 0 ∧ S0.2.2.2 22 < (2 * (S0.1 11)).toNatClampNeg ∧ S0.2.2.2 22 < 2147483648 ∧ (2 * (S0.1 11)).toNatClampNeg * 8 ≤ 536870912 ∧ 0 + 1 ≤ mc ∧ 0 + (2 * (S0.1 11)).toNatClampNeg ≤ ms ∧ B29 (0 + 1) (0 + (2 * (S0.1 11)).toNatClampNeg) (cn (ca S0 22 (va_cpy (S0.2.1 22) (fun _ => 0) 0 0 (S0.2.2.2 22))) 22 ((2 * (S0.1 11)).toNatClampNeg)))
set_option maxHeartbeats 4000000 in
set_option maxRecDepth 100000 in
theorem c_X5_add (l : Launch) (mc ms : Nat) (S0 : CS) (a1 : Int32) (post : CS → Prop) (h : ∀ (B29 : Nat → Nat → CS → Prop), (∀ (kc ks : Nat) (S : CS) , cT_X5_add_29 l mc ms a1 post B29 kc ks S → B29 kc ks S ) → cT_X5_add_e l mc ms a1 post B29 S0) : cX_X5_add l mc ms S0 a1 post := by
  refine csetV rfl (fun _ => Nat.le_of_ble_eq_true rfl) ?_
  intro p e s m args below meth c D ad vd cI cZ cL cG X A Q hx hb hml hown hts hK hZ hA hret H locs ls hP hD hS hl
  replace hl : lv_has ls 2 [(0, .ref (ad 4)), (1, .int a1)] := hl
  obtain ⟨B29, hB29⟩ : ∃ B : Nat → Nat → CS → Prop, B = (fun kc ks S => ∀ (vd : Nat → Nat) (H : Heap) (locs : List Loc) (ls : Array Slot), va_P D vwCl (cW ad vd cI cZ cL cG S ++ X) H → va_D A (cW ad vd cI cZ cL cG S ++ X) → va_S A s.heap H locs → lv_has ls 2 [(0, .ref (ad 4)), (1, .int a1)] → W p l e (crm 3 100 mc ms) s m args below meth c H locs kc ks Q (F0 m 29 ls [])) := ⟨_, rfl⟩
  have hT : cT_X5_add_e l mc ms a1 post B29 S0 := by
    refine h B29 ?_
    · clear hP hD hS hl H locs ls vd
      intro kc ks S hT
      unfold cT_X5_add_29 at hT
      rw [hB29]
      intro vd H locs ls hP hD hS hl
      refine lv_aload_n hx hb dX5_add_29 rfl (lv_at hl 0 rfl) ?_
      refine cg_X5_7 hx hb hts hown hK hP dX5_add_30 ?_
      refine lv_aload_n hx hb dX5_add_33 rfl (lv_at hl 0 rfl) ?_
      refine cg_X5_13 (v := S.1 11) hx hb hts hown hK hP rfl dX5_add_34 ?_
      refine lv_iload_n hx hb dX5_add_37 rfl (lv_at hl 1 rfl) ?_
      obtain ⟨hi1, hT⟩ := hT
      refine va_iast (f := S.2.1 22) hx hb hK hP hD hS 22 0 cat_22 rfl hi1 dX5_add_38 (fun H locs hP hD hS => ?_)
      replace hP := csetP_22 hP
      replace hD := csetD_22 hD
      refine lv_aload_n hx hb dX5_add_39 rfl (lv_at hl 0 rfl) ?_
      refine lv_dup hx hb dX5_add_40 rfl ?_
      refine cg_X5_13 (v := S.1 11) hx hb hts hown hK hP rfl dX5_add_41 ?_
      refine lv_iconst (v := 1) hx hb dX5_add_44 (by decide) ?_
      refine lv_iadd hx hb dX5_add_45 ?_
      refine cp_X5_13 hx hb hts hown hK hP hD hS dX5_add_46 (fun H locs hP hD hS => ?_)
      obtain ⟨hkc, hks, hT⟩ := hT
      exact hret _ _ _ _ _ _ _ _ hP hD hS hkc hks hT dX5_add_49
  unfold cT_X5_add_e at hT
  refine lv_aload_n hx hb dX5_add_0 rfl (lv_at hl 0 rfl) ?_
  refine cg_X5_13 (v := S0.1 11) hx hb hts hown hK hP rfl dX5_add_1 ?_
  refine lv_aload_n hx hb dX5_add_4 rfl (lv_at hl 0 rfl) ?_
  refine cg_X5_7 hx hb hts hown hK hP dX5_add_5 ?_
  refine va_alen (v := nI (S0.2.2.2 22)) hx hb hK hP 22 0 cat_22 rfl rfl dX5_add_8 ?_
  refine lv_icmp_ne (tgt := 29) hx hb dX5_add_9 (by decide) (fun c2 => ?_) (fun c2 => ?_)
  · replace hT := hT.1 c2
    rw [hB29] at hT
    exact hT _ _ _ _ hP hD hS (lv_sub hl [0, 1] rfl)
  · replace hT := hT.2 c2
    refine lv_aload_n hx hb dX5_add_12 rfl (lv_at hl 0 rfl) ?_
    refine lv_aload_n hx hb dX5_add_13 rfl (lv_at hl 0 rfl) ?_
    refine cg_X5_7 hx hb hts hown hK hP dX5_add_14 ?_
    refine lv_iconst (v := 2) hx hb dX5_add_17 (by decide) ?_
    refine lv_aload_n hx hb dX5_add_18 rfl (lv_at hl 0 rfl) ?_
    refine cg_X5_13 (v := S0.1 11) hx hb hts hown hK hP rfl dX5_add_19 ?_
    refine lv_imul hx hb dX5_add_22 ?_
    obtain ⟨hk3, hk4, hk5, hk6, hk7, hk8, hT⟩ := hT
    refine ccp_X5_7 hx hb hml hown hts hK hA hP hD hS hl hk3 hk4 hk5 hk6 hk7 hk8 dX5_add_23 dX5_add_26 (fun vd H locs hP hD hS => ?_)
    rw [hB29] at hT
    exact hT _ _ _ _ hP hD hS (lv_sub hl [0, 1] rfl)
abbrev cX_X6_writePlan (l : Launch) (mc ms : Nat) (S : CS) (a3 : Int32) (post : CS → Prop) : Prop := cCtV l yX6_writePlan cX6_writePlan 8 5 136 mc ms (fun ad => [.ref (ad 5), .ref (ad 1), .ref (ad 2), .int a3, .ref (ad 4)]) S post
def cT_X6_writePlan_22 (l : Launch) (mc ms : Nat) (a3 : Int32) (post : CS → Prop) (B22 : Nat → Nat → CS → Int32 → Int32 → Prop) (kc ks : Nat) (S : CS) (x5 : Int32) (x6 : Int32) : Prop := (S.1 5 ≤ x6 → kc ≤ mc ∧ ks ≤ ms ∧ post S) ∧ (¬ S.1 5 ≤ x6 → (x5 = a3 → kc ≤ mc ∧ ks ≤ ms ∧ post S) ∧ (¬ x5 = a3 → kc ≤ mc ∧ ks ≤ ms ∧ cX_X6_firstLeading l S x5 (fun r4 S3 => (¬ r4 = (-1) → vp_in r4 25 ∧ ∃ mc10 ms11 : Nat, kc + mc10 ≤ mc ∧ ks + ms11 ≤ ms ∧ cX_X5_add l mc10 ms11 S3 (S3.2.1 17 r4.toNatClampNeg) (fun S9 => vp_in r4 25 ∧ ∀ v5_15 : Int32, v5_15 = S9.2.1 18 r4.toNatClampNeg → B22 (kc + mc10) (ks + ms11) S9 v5_15 (x6 + 1))) ∧ (r4 = (-1) → kc ≤ mc ∧ ks ≤ ms ∧ post S3))))
def cT_X6_writePlan_e (l : Launch) (mc ms : Nat) (a3 : Int32) (post : CS → Prop) (B22 : Nat → Nat → CS → Int32 → Int32 → Prop) (S0 : CS) : Prop := 0 ≤ mc ∧ 0 ≤ ms ∧ cX_X6_markLeading l S0 a3 (fun S16 => ∀ v5_19 : Int32, v5_19 = S16.1 12 → B22 0 0 (cf S16 11 0) v5_19 0)
set_option maxHeartbeats 4000000 in
set_option maxRecDepth 100000 in
theorem c_X6_writePlan (l : Launch) (mc ms : Nat) (S0 : CS) (a3 : Int32) (post : CS → Prop) (h : ∀ (B22 : Nat → Nat → CS → Int32 → Int32 → Prop), (∀ (kc ks : Nat) (S : CS) (x5 : Int32) (x6 : Int32), cT_X6_writePlan_22 l mc ms a3 post B22 kc ks S x5 x6 → B22 kc ks S x5 x6) → cT_X6_writePlan_e l mc ms a3 post B22 S0) : cX_X6_writePlan l mc ms S0 a3 post := by
  refine csetV rfl (fun _ => Nat.le_of_ble_eq_true rfl) ?_
  intro p e s m args below meth c D ad vd cI cZ cL cG X A Q hx hb hml hown hts hK hZ hA hret H locs ls hP hD hS hl
  replace hl : lv_has ls 8 [(0, .ref (ad 5)), (1, .ref (ad 1)), (2, .ref (ad 2)), (3, .int a3), (4, .ref (ad 4))] := hl
  obtain ⟨B22, hB22⟩ : ∃ B : Nat → Nat → CS → Int32 → Int32 → Prop, B = (fun kc ks S x5 x6 => ∀ (vd : Nat → Nat) (H : Heap) (locs : List Loc) (ls : Array Slot), va_P D vwCl (cW ad vd cI cZ cL cG S ++ X) H → va_D A (cW ad vd cI cZ cL cG S ++ X) → va_S A s.heap H locs → lv_has ls 8 [(0, .ref (ad 5)), (1, .ref (ad 1)), (2, .ref (ad 2)), (3, .int a3), (4, .ref (ad 4)), (5, .int x5), (6, .int x6)] → W p l e (crm 5 136 mc ms) s m args below meth c H locs kc ks Q (F0 m 22 ls [])) := ⟨_, rfl⟩
  have hT : cT_X6_writePlan_e l mc ms a3 post B22 S0 := by
    refine h B22 ?_
    · clear hP hD hS hl H locs ls vd
      intro kc ks S x5 x6 hT
      unfold cT_X6_writePlan_22 at hT
      rw [hB22]
      intro vd H locs ls hP hD hS hl
      refine lv_iload hx hb dX6_writePlan_22 (lv_at hl 6 rfl) ?_
      refine lv_aload_n hx hb dX6_writePlan_24 rfl (lv_at hl 1 rfl) ?_
      refine cg_X6_38 (v := S.1 5) hx hb hts hown hK hP rfl dX6_writePlan_25 ?_
      refine lv_icmp_ge (tgt := 83) hx hb dX6_writePlan_28 (by decide) (fun c1 => ?_) (fun c1 => ?_)
      · replace hT := hT.1 c1
        obtain ⟨hkc, hks, hT⟩ := hT
        exact hret _ _ _ _ _ _ _ _ hP hD hS hkc hks hT dX6_writePlan_83
      · replace hT := hT.2 c1
        refine lv_iload hx hb dX6_writePlan_31 (lv_at hl 5 rfl) ?_
        refine lv_iload_n hx hb dX6_writePlan_33 rfl (lv_at hl 3 rfl) ?_
        refine lv_icmp_eq (tgt := 83) hx hb dX6_writePlan_34 (by decide) (fun c2 => ?_) (fun c2 => ?_)
        · replace hT := hT.1 c2
          obtain ⟨hkc, hks, hT⟩ := hT
          exact hret _ _ _ _ _ _ _ _ hP hD hS hkc hks hT dX6_writePlan_83
        · replace hT := hT.2 c2
          refine lv_aload_n hx hb dX6_writePlan_37 rfl (lv_at hl 0 rfl) ?_
          refine lv_aload_n hx hb dX6_writePlan_38 rfl (lv_at hl 1 rfl) ?_
          refine lv_aload_n hx hb dX6_writePlan_39 rfl (lv_at hl 2 rfl) ?_
          refine lv_iload hx hb dX6_writePlan_40 (lv_at hl 5 rfl) ?_
          obtain ⟨hk5, hk6, hT⟩ := hT
          refine ccallVI (n := 3) (b := ad 5) (C := RX6) (As := [.ref (ad 1), .ref (ad 2), .int x5]) (rest := []) hT hx hb hml hown hts hK hZ hA hP hD hS hl gc_X6_105 hdc_X6_firstLeading (va_recv hK hP rfl cob_5) ⟨Nat.le_of_ble_eq_true rfl, Nat.le_of_ble_eq_true rfl⟩ rfl rfl rfl (Nat.le_of_ble_eq_true rfl) dX6_writePlan_42 hk5 hk6 (fun r4 S3 vd H locs hP hD hS hT => ?_)
          refine lv_istore (lv' := [(7, .int r4), (0, .ref (ad 5)), (1, .ref (ad 1)), (2, .ref (ad 2)), (3, .int a3), (4, .ref (ad 4)), (5, .int x5), (6, .int x6)]) hx hb dX6_writePlan_45 hl (by decide) rfl (fun ls hl => ?_)
          refine lv_iload hx hb dX6_writePlan_47 (lv_at hl 0 rfl) ?_
          refine lv_iconst (v := (-1)) hx hb dX6_writePlan_49 (by decide) ?_
          refine lv_icmp_ne (tgt := 56) hx hb dX6_writePlan_50 (by decide) (fun c7 => ?_) (fun c7 => ?_)
          · replace hT := hT.1 c7
            refine lv_aload hx hb dX6_writePlan_56 (lv_at hl 5 rfl) ?_
            refine lv_aload_n hx hb dX6_writePlan_58 rfl (lv_at hl 3 rfl) ?_
            refine cg_X6_109 hx hb hts hown hK hP dX6_writePlan_59 ?_
            refine lv_iload hx hb dX6_writePlan_62 (lv_at hl 0 rfl) ?_
            obtain ⟨hi8, hT⟩ := hT
            refine va_iald (f := S3.2.1 17) hx hb hK hP 17 0 cat_17 rfl hi8 dX6_writePlan_64 ?_
            obtain ⟨mc10, ms11, hk12, hk13, hT⟩ := hT
            refine ccallVV (n := 1) (b := ad 4) (C := RX5) (As := [.int (S3.2.1 17 r4.toNatClampNeg)]) (rest := []) hT hx hb hml hown hts hK hZ hA hP hD hS hl gc_X6_112 hdc_X5_add (va_recv hK hP rfl cob_4) ⟨Nat.le_of_ble_eq_true rfl, Nat.le_of_ble_eq_true rfl⟩ rfl rfl rfl (Nat.le_of_ble_eq_true rfl) dX6_writePlan_65 hk12 hk13 (fun S9 vd H locs hP hD hS hT => ?_)
            refine lv_aload_n hx hb dX6_writePlan_68 rfl (lv_at hl 3 rfl) ?_
            refine cg_X6_74 hx hb hts hown hK hP dX6_writePlan_69 ?_
            refine lv_iload hx hb dX6_writePlan_72 (lv_at hl 0 rfl) ?_
            obtain ⟨hi14, hT⟩ := hT
            refine va_iald (f := S9.2.1 18) hx hb hK hP 18 0 cat_18 rfl hi14 dX6_writePlan_74 ?_
            refine lv_topi (fun v5_15 ev5_15 => ?_)
            replace hT := hT v5_15 ev5_15
            refine lv_istore (lv' := [(5, .int v5_15), (7, .int r4), (0, .ref (ad 5)), (1, .ref (ad 1)), (2, .ref (ad 2)), (3, .int a3), (4, .ref (ad 4)), (6, .int x6)]) hx hb dX6_writePlan_75 hl (by decide) rfl (fun ls hl => ?_)
            refine lv_iinc (v := x6 + 1) (lv' := [(6, .int (x6 + 1)), (5, .int v5_15), (7, .int r4), (0, .ref (ad 5)), (1, .ref (ad 1)), (2, .ref (ad 2)), (3, .int a3), (4, .ref (ad 4))]) hx hb dX6_writePlan_77 hl (k := 7) rfl rfl (by decide) rfl (fun ls hl => ?_)
            refine lv_goto (tgt := 22) hx hb dX6_writePlan_80 (by decide) ?_
            rw [hB22] at hT
            exact hT _ _ _ _ hP hD hS (lv_sub hl [3, 4, 5, 6, 7, 1, 0] rfl)
          · replace hT := hT.2 c7
            refine lv_goto (tgt := 83) hx hb dX6_writePlan_53 (by decide) ?_
            obtain ⟨hkc, hks, hT⟩ := hT
            exact hret _ _ _ _ _ _ _ _ hP hD hS hkc hks hT dX6_writePlan_83
  unfold cT_X6_writePlan_e at hT
  refine lv_aload_n hx hb dX6_writePlan_0 rfl (lv_at hl 0 rfl) ?_
  refine lv_aload_n hx hb dX6_writePlan_1 rfl (lv_at hl 1 rfl) ?_
  refine lv_aload_n hx hb dX6_writePlan_2 rfl (lv_at hl 2 rfl) ?_
  refine lv_iload_n hx hb dX6_writePlan_3 rfl (lv_at hl 3 rfl) ?_
  obtain ⟨hk17, hk18, hT⟩ := hT
  refine ccallVV (n := 3) (b := ad 5) (C := RX6) (As := [.ref (ad 1), .ref (ad 2), .int a3]) (rest := []) hT hx hb hml hown hts hK hZ hA hP hD hS hl gc_X6_96 hdc_X6_markLeading (va_recv hK hP rfl cob_5) ⟨Nat.le_of_ble_eq_true rfl, Nat.le_of_ble_eq_true rfl⟩ rfl rfl rfl (Nat.le_of_ble_eq_true rfl) dX6_writePlan_4 hk17 hk18 (fun S16 vd H locs hP hD hS hT => ?_)
  refine lv_aload hx hb dX6_writePlan_7 (lv_at hl 4 rfl) ?_
  refine lv_iconst (v := 0) hx hb dX6_writePlan_9 (by decide) ?_
  refine cp_X6_100 hx hb hts hown hK hP hD hS dX6_writePlan_10 (fun H locs hP hD hS => ?_)
  refine lv_aload_n hx hb dX6_writePlan_13 rfl (lv_at hl 0 rfl) ?_
  refine cg_X6_34 (v := S16.1 12) hx hb hts hown hK hP rfl dX6_writePlan_14 ?_
  refine lv_topi (fun v5_19 ev5_19 => ?_)
  replace hT := hT v5_19 ev5_19
  refine lv_istore (lv' := [(5, .int v5_19), (0, .ref (ad 5)), (1, .ref (ad 1)), (2, .ref (ad 2)), (3, .int a3), (4, .ref (ad 4))]) hx hb dX6_writePlan_17 hl (by decide) rfl (fun ls hl => ?_)
  refine lv_iconst (v := 0) hx hb dX6_writePlan_19 (by decide) ?_
  refine lv_istore (lv' := [(6, .int 0), (5, .int v5_19), (0, .ref (ad 5)), (1, .ref (ad 1)), (2, .ref (ad 2)), (3, .int a3), (4, .ref (ad 4))]) hx hb dX6_writePlan_20 hl (by decide) rfl (fun ls hl => ?_)
  rw [hB22] at hT
  exact hT _ _ _ _ hP hD hS (lv_sub hl [2, 3, 4, 5, 6, 1, 0] rfl)
abbrev cX_X8_plan (l : Launch) (mc ms : Nat) (S : CS) (post : Int32 → CS → Prop) : Prop := cCtI l yX8_plan cX8_plan 1 6 163 mc ms (fun ad => [.ref (ad 0)]) S post
def cT_X8_plan_e (l : Launch) (mc ms : Nat) (post : Int32 → CS → Prop) (S0 : CS) : Prop := ∃ mc2 ms3 : Nat, 0 + mc2 ≤ mc ∧ 0 + ms3 ≤ ms ∧ cX_X8_searched l mc2 ms3 S0 (fun b6 S1 => (¬ bI b6 = 0 → 0 + mc2 ≤ mc ∧ 0 + ms3 ≤ ms ∧ cX_X6_costTo l S1 (S1.1 1) (fun r9 S8 => (¬ r9 = (-1) → ∃ mc14 ms15 : Nat, 0 + mc2 + mc14 ≤ mc ∧ 0 + ms3 + ms15 ≤ ms ∧ cX_X6_writePlan l mc14 ms15 S8 (S8.1 1) (fun S13 => 0 + mc2 + mc14 ≤ mc ∧ 0 + ms3 + ms15 ≤ ms ∧ post (S13.1 11) S13)) ∧ (r9 = (-1) → 0 + mc2 ≤ mc ∧ 0 + ms3 ≤ ms ∧ post (-2) S8))) ∧ (bI b6 = 0 → 0 + mc2 ≤ mc ∧ 0 + ms3 ≤ ms ∧ post (-1) S1))
set_option maxHeartbeats 4000000 in
set_option maxRecDepth 100000 in
theorem c_X8_plan (l : Launch) (mc ms : Nat) (S0 : CS) (post : Int32 → CS → Prop) (h : cT_X8_plan_e l mc ms post S0) : cX_X8_plan l mc ms S0 post := by
  refine csetI rfl (fun _ => Nat.le_of_ble_eq_true rfl) ?_
  intro p e s m args below meth c D ad vd cI cZ cL cG X A Q hx hb hml hown hts hK hZ hA hret H locs ls hP hD hS hl
  replace hl : lv_has ls 1 [(0, .ref (ad 0))] := hl
  have hT := h
  unfold cT_X8_plan_e at hT
  refine lv_aload_n hx hb dX8_plan_0 rfl (lv_at hl 0 rfl) ?_
  obtain ⟨mc2, ms3, hk4, hk5, hT⟩ := hT
  refine ccallVZ (n := 0) (b := ad 0) (C := RX8) (As := []) (rest := []) hT hx hb hml hown hts hK hZ hA hP hD hS hl gc_X8_174 hdc_X8_searched (va_recv hK hP rfl cob_0) ⟨Nat.le_of_ble_eq_true rfl, Nat.le_of_ble_eq_true rfl⟩ rfl rfl rfl (Nat.le_of_ble_eq_true rfl) dX8_plan_1 hk4 hk5 (fun b6 S1 vd H locs hP hD hS hT => ?_)
  refine lv_if_ne (tgt := 9) hx hb dX8_plan_4 (by decide) (fun c7 => ?_) (fun c7 => ?_)
  · replace hT := hT.1 c7
    refine lv_aload_n hx hb dX8_plan_9 rfl (lv_at hl 0 rfl) ?_
    refine cg_X8_40 hx hb hts hown hK hP dX8_plan_10 ?_
    refine lv_aload_n hx hb dX8_plan_13 rfl (lv_at hl 0 rfl) ?_
    refine cg_X8_77 (v := S1.1 1) hx hb hts hown hK hP rfl dX8_plan_14 ?_
    obtain ⟨hk10, hk11, hT⟩ := hT
    refine ccallVI (n := 1) (b := ad 5) (C := RX6) (As := [.int (S1.1 1)]) (rest := []) hT hx hb hml hown hts hK hZ hA hP hD hS hl gc_X8_177 hdc_X6_costTo (va_recv hK hP rfl cob_5) ⟨Nat.le_of_ble_eq_true rfl, Nat.le_of_ble_eq_true rfl⟩ rfl rfl rfl (Nat.le_of_ble_eq_true rfl) dX8_plan_17 hk10 hk11 (fun r9 S8 vd H locs hP hD hS hT => ?_)
    refine lv_iconst (v := (-1)) hx hb dX8_plan_20 (by decide) ?_
    refine lv_icmp_ne (tgt := 27) hx hb dX8_plan_21 (by decide) (fun c12 => ?_) (fun c12 => ?_)
    · replace hT := hT.1 c12
      refine lv_aload_n hx hb dX8_plan_27 rfl (lv_at hl 0 rfl) ?_
      refine cg_X8_40 hx hb hts hown hK hP dX8_plan_28 ?_
      refine lv_aload_n hx hb dX8_plan_31 rfl (lv_at hl 0 rfl) ?_
      refine cg_X8_10 hx hb hts hown hK hP dX8_plan_32 ?_
      refine lv_aload_n hx hb dX8_plan_35 rfl (lv_at hl 0 rfl) ?_
      refine cg_X8_19 hx hb hts hown hK hP dX8_plan_36 ?_
      refine lv_aload_n hx hb dX8_plan_39 rfl (lv_at hl 0 rfl) ?_
      refine cg_X8_77 (v := S8.1 1) hx hb hts hown hK hP rfl dX8_plan_40 ?_
      refine lv_aload_n hx hb dX8_plan_43 rfl (lv_at hl 0 rfl) ?_
      refine cg_X8_33 hx hb hts hown hK hP dX8_plan_44 ?_
      obtain ⟨mc14, ms15, hk16, hk17, hT⟩ := hT
      refine ccallVV (n := 4) (b := ad 5) (C := RX6) (As := [.ref (ad 1), .ref (ad 2), .int (S8.1 1), .ref (ad 4)]) (rest := []) hT hx hb hml hown hts hK hZ hA hP hD hS hl gc_X8_180 hdc_X6_writePlan (va_recv hK hP rfl cob_5) ⟨Nat.le_of_ble_eq_true rfl, Nat.le_of_ble_eq_true rfl⟩ rfl rfl rfl (Nat.le_of_ble_eq_true rfl) dX8_plan_47 hk16 hk17 (fun S13 vd H locs hP hD hS hT => ?_)
      refine lv_aload_n hx hb dX8_plan_50 rfl (lv_at hl 0 rfl) ?_
      refine cg_X8_33 hx hb hts hown hK hP dX8_plan_51 ?_
      refine cg_X8_184 (v := S13.1 11) hx hb hts hown hK hP rfl dX8_plan_54 ?_
      obtain ⟨hkc, hks, hT⟩ := hT
      exact hret _ _ _ _ _ _ _ _ _ hP hD hS hkc hks hT dX8_plan_57
    · replace hT := hT.2 c12
      refine lv_bipush (v := (-2)) hx hb dX8_plan_24 (by decide) ?_
      obtain ⟨hkc, hks, hT⟩ := hT
      exact hret _ _ _ _ _ _ _ _ _ hP hD hS hkc hks hT dX8_plan_26
  · replace hT := hT.2 c7
    refine lv_iconst (v := (-1)) hx hb dX8_plan_7 (by decide) ?_
    obtain ⟨hkc, hks, hT⟩ := hT
    exact hret _ _ _ _ _ _ _ _ _ hP hD hS hkc hks hT dX8_plan_8
abbrev cX_X8_planned (l : Launch) (S : CS) (a1 : Int32) (post : Int32 → CS → Prop) : Prop := cCtI l yX8_planned cX8_planned 2 0 0 0 0 (fun ad => [.ref (ad 0), .int a1]) S post
def cT_X8_planned_e (l : Launch) (a1 : Int32) (post : Int32 → CS → Prop) (S0 : CS) : Prop := (a1 < 0 → post (-1) S0) ∧ (¬ a1 < 0 → (a1 < S0.1 11 → vp_in a1 (S0.2.2.2 22) ∧ post (S0.2.1 22 a1.toNatClampNeg) S0) ∧ (¬ a1 < S0.1 11 → post (-1) S0))
set_option maxHeartbeats 4000000 in
set_option maxRecDepth 100000 in
theorem c_X8_planned (l : Launch) (S0 : CS) (a1 : Int32) (post : Int32 → CS → Prop) (h : cT_X8_planned_e l a1 post S0) : cX_X8_planned l S0 a1 post := by
  refine csetI rfl (fun _ => Nat.le_of_ble_eq_true rfl) ?_
  intro p e s m args below meth c D ad vd cI cZ cL cG X A Q hx hb hml hown hts hK hZ hA hret H locs ls hP hD hS hl
  replace hl : lv_has ls 2 [(0, .ref (ad 0)), (1, .int a1)] := hl
  have hT := h
  unfold cT_X8_planned_e at hT
  refine lv_iload_n hx hb dX8_planned_0 rfl (lv_at hl 1 rfl) ?_
  refine lv_if_lt (tgt := 15) hx hb dX8_planned_1 (by decide) (fun c1 => ?_) (fun c1 => ?_)
  · replace hT := hT.1 c1
    refine lv_iconst (v := (-1)) hx hb dX8_planned_15 (by decide) ?_
    exact hret _ _ _ _ _ _ _ _ _ hP hD hS (Nat.le_refl _) (Nat.le_refl _) hT dX8_planned_16
  · replace hT := hT.2 c1
    refine lv_iload_n hx hb dX8_planned_4 rfl (lv_at hl 1 rfl) ?_
    refine lv_aload_n hx hb dX8_planned_5 rfl (lv_at hl 0 rfl) ?_
    refine cg_X8_33 hx hb hts hown hK hP dX8_planned_6 ?_
    refine cg_X8_184 (v := S0.1 11) hx hb hts hown hK hP rfl dX8_planned_9 ?_
    refine lv_icmp_lt (tgt := 17) hx hb dX8_planned_12 (by decide) (fun c2 => ?_) (fun c2 => ?_)
    · replace hT := hT.1 c2
      refine lv_aload_n hx hb dX8_planned_17 rfl (lv_at hl 0 rfl) ?_
      refine cg_X8_33 hx hb hts hown hK hP dX8_planned_18 ?_
      refine cg_X8_187 hx hb hts hown hK hP dX8_planned_21 ?_
      refine lv_iload_n hx hb dX8_planned_24 rfl (lv_at hl 1 rfl) ?_
      obtain ⟨hi3, hT⟩ := hT
      refine va_iald (f := S0.2.1 22) hx hb hK hP 22 0 cat_22 rfl hi3 dX8_planned_25 ?_
      exact hret _ _ _ _ _ _ _ _ _ hP hD hS (Nat.le_refl _) (Nat.le_refl _) hT dX8_planned_26
    · replace hT := hT.2 c2
      refine lv_iconst (v := (-1)) hx hb dX8_planned_15 (by decide) ?_
      exact hret _ _ _ _ _ _ _ _ _ hP hD hS (Nat.le_refl _) (Nat.le_refl _) hT dX8_planned_16
abbrev cX_X6_rowsTo (l : Launch) (S : CS) (a1 : Int32) (post : Int64 → CS → Prop) : Prop := cCtJ l yX6_rowsTo cX6_rowsTo 2 0 0 0 0 (fun ad => [.ref (ad 5), .int a1]) S post
def cT_X6_rowsTo_e (l : Launch) (a1 : Int32) (post : Int64 → CS → Prop) (S0 : CS) : Prop := vp_in a1 (S0.2.2.2 25) ∧ post (S0.2.2.1 25 a1.toNatClampNeg) S0
set_option maxHeartbeats 4000000 in
set_option maxRecDepth 100000 in
theorem c_X6_rowsTo (l : Launch) (S0 : CS) (a1 : Int32) (post : Int64 → CS → Prop) (h : cT_X6_rowsTo_e l a1 post S0) : cX_X6_rowsTo l S0 a1 post := by
  refine csetJ rfl (fun _ => Nat.le_of_ble_eq_true rfl) ?_
  intro p e s m args below meth c D ad vd cI cZ cL cG X A Q hx hb hml hown hts hK hZ hA hret H locs ls hP hD hS hl
  replace hl : lv_has ls 2 [(0, .ref (ad 5)), (1, .int a1)] := hl
  have hT := h
  unfold cT_X6_rowsTo_e at hT
  refine lv_aload_n hx hb dX6_rowsTo_0 rfl (lv_at hl 0 rfl) ?_
  refine cg_X6_18 hx hb hts hown hK hP dX6_rowsTo_1 ?_
  refine lv_iload_n hx hb dX6_rowsTo_4 rfl (lv_at hl 1 rfl) ?_
  obtain ⟨hi1, hT⟩ := hT
  refine va_lald (f := S0.2.2.1 25) hx hb hK hP 25 2 cat_25 rfl hi1 dX6_rowsTo_5 ?_
  exact hret _ _ _ _ _ _ _ _ _ hP hD hS (Nat.le_refl _) (Nat.le_refl _) hT dX6_rowsTo_6
abbrev cX_X8_ways (l : Launch) (mc ms : Nat) (S : CS) (post : Int64 → CS → Prop) : Prop := cCtJ l yX8_ways cX8_ways 1 5 134 mc ms (fun ad => [.ref (ad 0)]) S post
def cT_X8_ways_e (l : Launch) (mc ms : Nat) (post : Int64 → CS → Prop) (S0 : CS) : Prop := ∃ mc2 ms3 : Nat, 0 + mc2 ≤ mc ∧ 0 + ms3 ≤ ms ∧ cX_X8_searched l mc2 ms3 S0 (fun b6 S1 => (¬ bI b6 = 0 → 0 + mc2 ≤ mc ∧ 0 + ms3 ≤ ms ∧ cX_X6_rowsTo l S1 (S1.1 1) (fun r9 S8 => 0 + mc2 ≤ mc ∧ 0 + ms3 ≤ ms ∧ post r9 S8)) ∧ (bI b6 = 0 → 0 + mc2 ≤ mc ∧ 0 + ms3 ≤ ms ∧ post (-1) S1))
set_option maxHeartbeats 4000000 in
set_option maxRecDepth 100000 in
theorem c_X8_ways (l : Launch) (mc ms : Nat) (S0 : CS) (post : Int64 → CS → Prop) (h : cT_X8_ways_e l mc ms post S0) : cX_X8_ways l mc ms S0 post := by
  refine csetJ rfl (fun _ => Nat.le_of_ble_eq_true rfl) ?_
  intro p e s m args below meth c D ad vd cI cZ cL cG X A Q hx hb hml hown hts hK hZ hA hret H locs ls hP hD hS hl
  replace hl : lv_has ls 1 [(0, .ref (ad 0))] := hl
  have hT := h
  unfold cT_X8_ways_e at hT
  refine lv_aload_n hx hb dX8_ways_0 rfl (lv_at hl 0 rfl) ?_
  obtain ⟨mc2, ms3, hk4, hk5, hT⟩ := hT
  refine ccallVZ (n := 0) (b := ad 0) (C := RX8) (As := []) (rest := []) hT hx hb hml hown hts hK hZ hA hP hD hS hl gc_X8_174 hdc_X8_searched (va_recv hK hP rfl cob_0) ⟨Nat.le_of_ble_eq_true rfl, Nat.le_of_ble_eq_true rfl⟩ rfl rfl rfl (Nat.le_of_ble_eq_true rfl) dX8_ways_1 hk4 hk5 (fun b6 S1 vd H locs hP hD hS hT => ?_)
  refine lv_if_ne (tgt := 11) hx hb dX8_ways_4 (by decide) (fun c7 => ?_) (fun c7 => ?_)
  · replace hT := hT.1 c7
    refine lv_aload_n hx hb dX8_ways_11 rfl (lv_at hl 0 rfl) ?_
    refine cg_X8_40 hx hb hts hown hK hP dX8_ways_12 ?_
    refine lv_aload_n hx hb dX8_ways_15 rfl (lv_at hl 0 rfl) ?_
    refine cg_X8_77 (v := S1.1 1) hx hb hts hown hK hP rfl dX8_ways_16 ?_
    obtain ⟨hk10, hk11, hT⟩ := hT
    refine ccallVJ (n := 1) (b := ad 5) (C := RX6) (As := [.int (S1.1 1)]) (rest := []) hT hx hb hml hown hts hK hZ hA hP hD hS hl gc_X8_192 hdc_X6_rowsTo (va_recv hK hP rfl cob_5) ⟨Nat.le_of_ble_eq_true rfl, Nat.le_of_ble_eq_true rfl⟩ rfl rfl rfl (Nat.le_of_ble_eq_true rfl) dX8_ways_19 hk10 hk11 (fun r9 S8 vd H locs hP hD hS hT => ?_)
    obtain ⟨hkc, hks, hT⟩ := hT
    exact hret _ _ _ _ _ _ _ _ _ hP hD hS hkc hks hT dX8_ways_22
  · replace hT := hT.2 c7
    refine lv_ldc2 (v := (-1)) hx hb hown (hts _ kc_620) dX8_ways_7 ?_
    obtain ⟨hkc, hks, hT⟩ := hT
    exact hret _ _ _ _ _ _ _ _ _ hP hD hS hkc hks hT dX8_ways_10
abbrev cX_X8_reach (l : Launch) (mc ms : Nat) (S : CS) (post : Int32 → CS → Prop) : Prop := cCtI l yX8_reach cX8_reach 1 5 134 mc ms (fun ad => [.ref (ad 0)]) S post
def cT_X8_reach_e (l : Launch) (mc ms : Nat) (post : Int32 → CS → Prop) (S0 : CS) : Prop := ∃ mc2 ms3 : Nat, 0 + mc2 ≤ mc ∧ 0 + ms3 ≤ ms ∧ cX_X8_searched l mc2 ms3 S0 (fun b6 S1 => (bI b6 = 0 → 0 + mc2 ≤ mc ∧ 0 + ms3 ≤ ms ∧ post (-1) S1) ∧ (¬ bI b6 = 0 → 0 + mc2 ≤ mc ∧ 0 + ms3 ≤ ms ∧ post (S1.1 13) S1))
set_option maxHeartbeats 4000000 in
set_option maxRecDepth 100000 in
theorem c_X8_reach (l : Launch) (mc ms : Nat) (S0 : CS) (post : Int32 → CS → Prop) (h : cT_X8_reach_e l mc ms post S0) : cX_X8_reach l mc ms S0 post := by
  refine csetI rfl (fun _ => Nat.le_of_ble_eq_true rfl) ?_
  intro p e s m args below meth c D ad vd cI cZ cL cG X A Q hx hb hml hown hts hK hZ hA hret H locs ls hP hD hS hl
  replace hl : lv_has ls 1 [(0, .ref (ad 0))] := hl
  have hT := h
  unfold cT_X8_reach_e at hT
  refine lv_aload_n hx hb dX8_reach_0 rfl (lv_at hl 0 rfl) ?_
  obtain ⟨mc2, ms3, hk4, hk5, hT⟩ := hT
  refine ccallVZ (n := 0) (b := ad 0) (C := RX8) (As := []) (rest := []) hT hx hb hml hown hts hK hZ hA hP hD hS hl gc_X8_174 hdc_X8_searched (va_recv hK hP rfl cob_0) ⟨Nat.le_of_ble_eq_true rfl, Nat.le_of_ble_eq_true rfl⟩ rfl rfl rfl (Nat.le_of_ble_eq_true rfl) dX8_reach_1 hk4 hk5 (fun b6 S1 vd H locs hP hD hS hT => ?_)
  refine lv_if_eq (tgt := 17) hx hb dX8_reach_4 (by decide) (fun c7 => ?_) (fun c7 => ?_)
  · replace hT := hT.1 c7
    refine lv_iconst (v := (-1)) hx hb dX8_reach_17 (by decide) ?_
    obtain ⟨hkc, hks, hT⟩ := hT
    exact hret _ _ _ _ _ _ _ _ _ hP hD hS hkc hks hT dX8_reach_18
  · replace hT := hT.2 c7
    refine lv_aload_n hx hb dX8_reach_7 rfl (lv_at hl 0 rfl) ?_
    refine cg_X8_40 hx hb hts hown hK hP dX8_reach_8 ?_
    refine cg_X8_196 (v := S1.1 13) hx hb hts hown hK hP rfl dX8_reach_11 ?_
    refine lv_goto (tgt := 18) hx hb dX8_reach_14 (by decide) ?_
    obtain ⟨hkc, hks, hT⟩ := hT
    exact hret _ _ _ _ _ _ _ _ _ hP hD hS hkc hks hT dX8_reach_18
abbrev cX_X6_greatestCost (l : Launch) (S : CS) (post : Int32 → CS → Prop) : Prop := cCtI l yX6_greatestCost cX6_greatestCost 1 0 0 0 0 (fun ad => [.ref (ad 5)]) S post
def cT_X6_greatestCost_e (l : Launch) (post : Int32 → CS → Prop) (S0 : CS) : Prop := (¬ S0.1 13 = 0 → vp_in ((S0.1 13) - 1) (S0.2.2.2 26) ∧ vp_in (S0.2.1 26 ((S0.1 13) - 1).toNatClampNeg) (S0.2.2.2 24) ∧ post (S0.2.1 24 (S0.2.1 26 ((S0.1 13) - 1).toNatClampNeg).toNatClampNeg) S0) ∧ (S0.1 13 = 0 → post 0 S0)
set_option maxHeartbeats 4000000 in
set_option maxRecDepth 100000 in
theorem c_X6_greatestCost (l : Launch) (S0 : CS) (post : Int32 → CS → Prop) (h : cT_X6_greatestCost_e l post S0) : cX_X6_greatestCost l S0 post := by
  refine csetI rfl (fun _ => Nat.le_of_ble_eq_true rfl) ?_
  intro p e s m args below meth c D ad vd cI cZ cL cG X A Q hx hb hml hown hts hK hZ hA hret H locs ls hP hD hS hl
  replace hl : lv_has ls 1 [(0, .ref (ad 5))] := hl
  have hT := h
  unfold cT_X6_greatestCost_e at hT
  refine lv_aload_n hx hb dX6_greatestCost_0 rfl (lv_at hl 0 rfl) ?_
  refine cg_X6_58 (v := S0.1 13) hx hb hts hown hK hP rfl dX6_greatestCost_1 ?_
  refine lv_if_ne (tgt := 11) hx hb dX6_greatestCost_4 (by decide) (fun c1 => ?_) (fun c1 => ?_)
  · replace hT := hT.1 c1
    refine lv_aload_n hx hb dX6_greatestCost_11 rfl (lv_at hl 0 rfl) ?_
    refine cg_X6_15 hx hb hts hown hK hP dX6_greatestCost_12 ?_
    refine lv_aload_n hx hb dX6_greatestCost_15 rfl (lv_at hl 0 rfl) ?_
    refine cg_X6_22 hx hb hts hown hK hP dX6_greatestCost_16 ?_
    refine lv_aload_n hx hb dX6_greatestCost_19 rfl (lv_at hl 0 rfl) ?_
    refine cg_X6_58 (v := S0.1 13) hx hb hts hown hK hP rfl dX6_greatestCost_20 ?_
    refine lv_iconst (v := 1) hx hb dX6_greatestCost_23 (by decide) ?_
    refine lv_isub hx hb dX6_greatestCost_24 ?_
    obtain ⟨hi2, hT⟩ := hT
    refine va_iald (f := S0.2.1 26) hx hb hK hP 26 0 cat_26 rfl hi2 dX6_greatestCost_25 ?_
    obtain ⟨hi3, hT⟩ := hT
    refine va_iald (f := S0.2.1 24) hx hb hK hP 24 0 cat_24 rfl hi3 dX6_greatestCost_26 ?_
    exact hret _ _ _ _ _ _ _ _ _ hP hD hS (Nat.le_refl _) (Nat.le_refl _) hT dX6_greatestCost_27
  · replace hT := hT.2 c1
    refine lv_iconst (v := 0) hx hb dX6_greatestCost_7 (by decide) ?_
    refine lv_goto (tgt := 27) hx hb dX6_greatestCost_8 (by decide) ?_
    exact hret _ _ _ _ _ _ _ _ _ hP hD hS (Nat.le_refl _) (Nat.le_refl _) hT dX6_greatestCost_27
abbrev cX_X8_far (l : Launch) (mc ms : Nat) (S : CS) (post : Int32 → CS → Prop) : Prop := cCtI l yX8_far cX8_far 1 5 134 mc ms (fun ad => [.ref (ad 0)]) S post
def cT_X8_far_e (l : Launch) (mc ms : Nat) (post : Int32 → CS → Prop) (S0 : CS) : Prop := ∃ mc2 ms3 : Nat, 0 + mc2 ≤ mc ∧ 0 + ms3 ≤ ms ∧ cX_X8_searched l mc2 ms3 S0 (fun b6 S1 => (bI b6 = 0 → 0 + mc2 ≤ mc ∧ 0 + ms3 ≤ ms ∧ post (-1) S1) ∧ (¬ bI b6 = 0 → 0 + mc2 ≤ mc ∧ 0 + ms3 ≤ ms ∧ cX_X6_greatestCost l S1 (fun r9 S8 => 0 + mc2 ≤ mc ∧ 0 + ms3 ≤ ms ∧ post r9 S8)))
set_option maxHeartbeats 4000000 in
set_option maxRecDepth 100000 in
theorem c_X8_far (l : Launch) (mc ms : Nat) (S0 : CS) (post : Int32 → CS → Prop) (h : cT_X8_far_e l mc ms post S0) : cX_X8_far l mc ms S0 post := by
  refine csetI rfl (fun _ => Nat.le_of_ble_eq_true rfl) ?_
  intro p e s m args below meth c D ad vd cI cZ cL cG X A Q hx hb hml hown hts hK hZ hA hret H locs ls hP hD hS hl
  replace hl : lv_has ls 1 [(0, .ref (ad 0))] := hl
  have hT := h
  unfold cT_X8_far_e at hT
  refine lv_aload_n hx hb dX8_far_0 rfl (lv_at hl 0 rfl) ?_
  obtain ⟨mc2, ms3, hk4, hk5, hT⟩ := hT
  refine ccallVZ (n := 0) (b := ad 0) (C := RX8) (As := []) (rest := []) hT hx hb hml hown hts hK hZ hA hP hD hS hl gc_X8_174 hdc_X8_searched (va_recv hK hP rfl cob_0) ⟨Nat.le_of_ble_eq_true rfl, Nat.le_of_ble_eq_true rfl⟩ rfl rfl rfl (Nat.le_of_ble_eq_true rfl) dX8_far_1 hk4 hk5 (fun b6 S1 vd H locs hP hD hS hT => ?_)
  refine lv_if_eq (tgt := 17) hx hb dX8_far_4 (by decide) (fun c7 => ?_) (fun c7 => ?_)
  · replace hT := hT.1 c7
    refine lv_iconst (v := (-1)) hx hb dX8_far_17 (by decide) ?_
    obtain ⟨hkc, hks, hT⟩ := hT
    exact hret _ _ _ _ _ _ _ _ _ hP hD hS hkc hks hT dX8_far_18
  · replace hT := hT.2 c7
    refine lv_aload_n hx hb dX8_far_7 rfl (lv_at hl 0 rfl) ?_
    refine cg_X8_40 hx hb hts hown hK hP dX8_far_8 ?_
    obtain ⟨hk10, hk11, hT⟩ := hT
    refine ccallVI (n := 0) (b := ad 5) (C := RX6) (As := []) (rest := []) hT hx hb hml hown hts hK hZ hA hP hD hS hl gc_X8_199 hdc_X6_greatestCost (va_recv hK hP rfl cob_5) ⟨Nat.le_of_ble_eq_true rfl, Nat.le_of_ble_eq_true rfl⟩ rfl rfl rfl (Nat.le_of_ble_eq_true rfl) dX8_far_11 hk10 hk11 (fun r9 S8 vd H locs hP hD hS hT => ?_)
    refine lv_goto (tgt := 18) hx hb dX8_far_14 (by decide) ?_
    obtain ⟨hkc, hks, hT⟩ := hT
    exact hret _ _ _ _ _ _ _ _ _ hP hD hS hkc hks hT dX8_far_18
abbrev cX_X6_leastOfFarthest (l : Launch) (S : CS) (post : Int32 → CS → Prop) : Prop := cCtI l yX6_leastOfFarthest cX6_leastOfFarthest 4 1 20 0 0 (fun ad => [.ref (ad 5)]) S post
def cT_X6_leastOfFarthest_17 (l : Launch) (post : Int32 → CS → Prop) (B17 : CS → Int32 → Int32 → Int32 → Prop) (B56 : CS → Int32 → Int32 → Prop) (B63 : CS → Int32 → Int32 → Int32 → Prop) (S : CS) (x1 : Int32) (x2 : Int32) (x3 : Int32) : Prop := (x3 < 0 → post x2 S) ∧ (¬ x3 < 0 → vp_in x3 (S.2.2.2 26) ∧ vp_in (S.2.1 26 x3.toNatClampNeg) (S.2.2.2 24) ∧ (¬ S.2.1 24 (S.2.1 26 x3.toNatClampNeg).toNatClampNeg = x1 → post x2 S) ∧ (S.2.1 24 (S.2.1 26 x3.toNatClampNeg).toNatClampNeg = x1 → (x3 = (S.1 13) - 1 → B56 S x1 x3) ∧ (¬ x3 = (S.1 13) - 1 → vp_in x3 (S.2.2.2 26) ∧ (x2 ≤ S.2.1 26 x3.toNatClampNeg → B63 S x1 x2 x3) ∧ (¬ x2 ≤ S.2.1 26 x3.toNatClampNeg → B56 S x1 x3))))
def cT_X6_leastOfFarthest_56 (l : Launch) (post : Int32 → CS → Prop) (B17 : CS → Int32 → Int32 → Int32 → Prop) (B56 : CS → Int32 → Int32 → Prop) (B63 : CS → Int32 → Int32 → Int32 → Prop) (S : CS) (x1 : Int32) (x3 : Int32) : Prop := vp_in x3 (S.2.2.2 26) ∧ ∀ v2_9 : Int32, v2_9 = S.2.1 26 x3.toNatClampNeg → B63 S x1 v2_9 x3
def cT_X6_leastOfFarthest_63 (l : Launch) (post : Int32 → CS → Prop) (B17 : CS → Int32 → Int32 → Int32 → Prop) (B56 : CS → Int32 → Int32 → Prop) (B63 : CS → Int32 → Int32 → Int32 → Prop) (S : CS) (x1 : Int32) (x2 : Int32) (x3 : Int32) : Prop := B17 S x1 x2 (x3 + (-1))
def cT_X6_leastOfFarthest_e (l : Launch) (post : Int32 → CS → Prop) (B17 : CS → Int32 → Int32 → Int32 → Prop) (B56 : CS → Int32 → Int32 → Prop) (B63 : CS → Int32 → Int32 → Int32 → Prop) (S0 : CS) : Prop := cX_X6_greatestCost l S0 (fun r11 S10 => ∀ v2_12 : Int32, v2_12 = S10.1 12 → ∀ v3_13 : Int32, v3_13 = (S10.1 13) - 1 → B17 S10 r11 v2_12 v3_13)
set_option maxHeartbeats 4000000 in
set_option maxRecDepth 100000 in
theorem c_X6_leastOfFarthest (l : Launch) (S0 : CS) (post : Int32 → CS → Prop) (h : ∀ (B17 : CS → Int32 → Int32 → Int32 → Prop) (B56 : CS → Int32 → Int32 → Prop) (B63 : CS → Int32 → Int32 → Int32 → Prop), (∀ (S : CS) (x1 : Int32) (x2 : Int32) (x3 : Int32), cT_X6_leastOfFarthest_17 l post B17 B56 B63 S x1 x2 x3 → B17 S x1 x2 x3) → (∀ (S : CS) (x1 : Int32) (x3 : Int32), cT_X6_leastOfFarthest_56 l post B17 B56 B63 S x1 x3 → B56 S x1 x3) → (∀ (S : CS) (x1 : Int32) (x2 : Int32) (x3 : Int32), cT_X6_leastOfFarthest_63 l post B17 B56 B63 S x1 x2 x3 → B63 S x1 x2 x3) → cT_X6_leastOfFarthest_e l post B17 B56 B63 S0) : cX_X6_leastOfFarthest l S0 post := by
  refine csetI rfl (fun _ => Nat.le_of_ble_eq_true rfl) ?_
  intro p e s m args below meth c D ad vd cI cZ cL cG X A Q hx hb hml hown hts hK hZ hA hret H locs ls hP hD hS hl
  replace hl : lv_has ls 4 [(0, .ref (ad 5))] := hl
  obtain ⟨B17, hB17⟩ : ∃ B : CS → Int32 → Int32 → Int32 → Prop, B = (fun S x1 x2 x3 => ∀ (vd : Nat → Nat) (H : Heap) (locs : List Loc) (ls : Array Slot), va_P D vwCl (cW ad vd cI cZ cL cG S ++ X) H → va_D A (cW ad vd cI cZ cL cG S ++ X) → va_S A s.heap H locs → lv_has ls 4 [(0, .ref (ad 5)), (1, .int x1), (2, .int x2), (3, .int x3)] → W p l e (crm 1 20 0 0) s m args below meth c H locs 0 0 Q (F0 m 17 ls [])) := ⟨_, rfl⟩
  obtain ⟨B56, hB56⟩ : ∃ B : CS → Int32 → Int32 → Prop, B = (fun S x1 x3 => ∀ (vd : Nat → Nat) (H : Heap) (locs : List Loc) (ls : Array Slot), va_P D vwCl (cW ad vd cI cZ cL cG S ++ X) H → va_D A (cW ad vd cI cZ cL cG S ++ X) → va_S A s.heap H locs → lv_has ls 4 [(0, .ref (ad 5)), (1, .int x1), (3, .int x3)] → W p l e (crm 1 20 0 0) s m args below meth c H locs 0 0 Q (F0 m 56 ls [])) := ⟨_, rfl⟩
  obtain ⟨B63, hB63⟩ : ∃ B : CS → Int32 → Int32 → Int32 → Prop, B = (fun S x1 x2 x3 => ∀ (vd : Nat → Nat) (H : Heap) (locs : List Loc) (ls : Array Slot), va_P D vwCl (cW ad vd cI cZ cL cG S ++ X) H → va_D A (cW ad vd cI cZ cL cG S ++ X) → va_S A s.heap H locs → lv_has ls 4 [(0, .ref (ad 5)), (1, .int x1), (2, .int x2), (3, .int x3)] → W p l e (crm 1 20 0 0) s m args below meth c H locs 0 0 Q (F0 m 63 ls [])) := ⟨_, rfl⟩
  have hT : cT_X6_leastOfFarthest_e l post B17 B56 B63 S0 := by
    refine h B17 B56 B63 ?_ ?_ ?_
    · clear hP hD hS hl H locs ls vd
      intro S x1 x2 x3 hT
      unfold cT_X6_leastOfFarthest_17 at hT
      rw [hB17]
      intro vd H locs ls hP hD hS hl
      refine lv_iload_n hx hb dX6_leastOfFarthest_17 rfl (lv_at hl 3 rfl) ?_
      refine lv_if_lt (tgt := 69) hx hb dX6_leastOfFarthest_18 (by decide) (fun c1 => ?_) (fun c1 => ?_)
      · replace hT := hT.1 c1
        refine lv_iload_n hx hb dX6_leastOfFarthest_69 rfl (lv_at hl 2 rfl) ?_
        exact hret _ _ _ _ _ _ _ _ _ hP hD hS (Nat.le_refl _) (Nat.le_refl _) hT dX6_leastOfFarthest_70
      · replace hT := hT.2 c1
        refine lv_aload_n hx hb dX6_leastOfFarthest_21 rfl (lv_at hl 0 rfl) ?_
        refine cg_X6_15 hx hb hts hown hK hP dX6_leastOfFarthest_22 ?_
        refine lv_aload_n hx hb dX6_leastOfFarthest_25 rfl (lv_at hl 0 rfl) ?_
        refine cg_X6_22 hx hb hts hown hK hP dX6_leastOfFarthest_26 ?_
        refine lv_iload_n hx hb dX6_leastOfFarthest_29 rfl (lv_at hl 3 rfl) ?_
        obtain ⟨hi2, hT⟩ := hT
        refine va_iald (f := S.2.1 26) hx hb hK hP 26 0 cat_26 rfl hi2 dX6_leastOfFarthest_30 ?_
        obtain ⟨hi3, hT⟩ := hT
        refine va_iald (f := S.2.1 24) hx hb hK hP 24 0 cat_24 rfl hi3 dX6_leastOfFarthest_31 ?_
        refine lv_iload_n hx hb dX6_leastOfFarthest_32 rfl (lv_at hl 1 rfl) ?_
        refine lv_icmp_ne (tgt := 69) hx hb dX6_leastOfFarthest_33 (by decide) (fun c4 => ?_) (fun c4 => ?_)
        · replace hT := hT.1 c4
          refine lv_iload_n hx hb dX6_leastOfFarthest_69 rfl (lv_at hl 2 rfl) ?_
          exact hret _ _ _ _ _ _ _ _ _ hP hD hS (Nat.le_refl _) (Nat.le_refl _) hT dX6_leastOfFarthest_70
        · replace hT := hT.2 c4
          refine lv_iload_n hx hb dX6_leastOfFarthest_36 rfl (lv_at hl 3 rfl) ?_
          refine lv_aload_n hx hb dX6_leastOfFarthest_37 rfl (lv_at hl 0 rfl) ?_
          refine cg_X6_58 (v := S.1 13) hx hb hts hown hK hP rfl dX6_leastOfFarthest_38 ?_
          refine lv_iconst (v := 1) hx hb dX6_leastOfFarthest_41 (by decide) ?_
          refine lv_isub hx hb dX6_leastOfFarthest_42 ?_
          refine lv_icmp_eq (tgt := 56) hx hb dX6_leastOfFarthest_43 (by decide) (fun c5 => ?_) (fun c5 => ?_)
          · replace hT := hT.1 c5
            rw [hB56] at hT
            exact hT _ _ _ _ hP hD hS (lv_sub hl [0, 1, 3] rfl)
          · replace hT := hT.2 c5
            refine lv_aload_n hx hb dX6_leastOfFarthest_46 rfl (lv_at hl 0 rfl) ?_
            refine cg_X6_22 hx hb hts hown hK hP dX6_leastOfFarthest_47 ?_
            refine lv_iload_n hx hb dX6_leastOfFarthest_50 rfl (lv_at hl 3 rfl) ?_
            obtain ⟨hi6, hT⟩ := hT
            refine va_iald (f := S.2.1 26) hx hb hK hP 26 0 cat_26 rfl hi6 dX6_leastOfFarthest_51 ?_
            refine lv_iload_n hx hb dX6_leastOfFarthest_52 rfl (lv_at hl 2 rfl) ?_
            refine lv_icmp_ge (tgt := 63) hx hb dX6_leastOfFarthest_53 (by decide) (fun c7 => ?_) (fun c7 => ?_)
            · replace hT := hT.1 c7
              rw [hB63] at hT
              exact hT _ _ _ _ hP hD hS (lv_sub hl [0, 1, 2, 3] rfl)
            · replace hT := hT.2 c7
              rw [hB56] at hT
              exact hT _ _ _ _ hP hD hS (lv_sub hl [0, 1, 3] rfl)
    · clear hP hD hS hl H locs ls vd
      intro S x1 x3 hT
      unfold cT_X6_leastOfFarthest_56 at hT
      rw [hB56]
      intro vd H locs ls hP hD hS hl
      refine lv_aload_n hx hb dX6_leastOfFarthest_56 rfl (lv_at hl 0 rfl) ?_
      refine cg_X6_22 hx hb hts hown hK hP dX6_leastOfFarthest_57 ?_
      refine lv_iload_n hx hb dX6_leastOfFarthest_60 rfl (lv_at hl 2 rfl) ?_
      obtain ⟨hi8, hT⟩ := hT
      refine va_iald (f := S.2.1 26) hx hb hK hP 26 0 cat_26 rfl hi8 dX6_leastOfFarthest_61 ?_
      refine lv_topi (fun v2_9 ev2_9 => ?_)
      replace hT := hT v2_9 ev2_9
      refine lv_istore_n (lv' := [(2, .int v2_9), (0, .ref (ad 5)), (1, .int x1), (3, .int x3)]) hx hb dX6_leastOfFarthest_62 rfl hl (by decide) rfl (fun ls hl => ?_)
      rw [hB63] at hT
      exact hT _ _ _ _ hP hD hS (lv_sub hl [1, 2, 0, 3] rfl)
    · clear hP hD hS hl H locs ls vd
      intro S x1 x2 x3 hT
      unfold cT_X6_leastOfFarthest_63 at hT
      rw [hB63]
      intro vd H locs ls hP hD hS hl
      refine lv_iinc (v := x3 + (-1)) (lv' := [(3, .int (x3 + (-1))), (0, .ref (ad 5)), (1, .int x1), (2, .int x2)]) hx hb dX6_leastOfFarthest_63 hl (k := 3) rfl rfl (by decide) rfl (fun ls hl => ?_)
      refine lv_goto (tgt := 17) hx hb dX6_leastOfFarthest_66 (by decide) ?_
      rw [hB17] at hT
      exact hT _ _ _ _ hP hD hS (lv_sub hl [1, 2, 3, 0] rfl)
  unfold cT_X6_leastOfFarthest_e at hT
  refine lv_aload_n hx hb dX6_leastOfFarthest_0 rfl (lv_at hl 0 rfl) ?_
  refine ccallVI (n := 0) (b := ad 5) (C := RX6) (As := []) (rest := []) hT hx hb hml hown hts hK hZ hA hP hD hS hl gc_X6_92 hdc_X6_greatestCost (va_recv hK hP rfl cob_5) ⟨Nat.le_of_ble_eq_true rfl, Nat.le_of_ble_eq_true rfl⟩ rfl rfl rfl (Nat.le_of_ble_eq_true rfl) dX6_leastOfFarthest_1 (Nat.le_refl _) (Nat.le_refl _) (fun r11 S10 vd H locs hP hD hS hT => ?_)
  refine lv_istore_n (lv' := [(1, .int r11), (0, .ref (ad 5))]) hx hb dX6_leastOfFarthest_4 rfl hl (by decide) rfl (fun ls hl => ?_)
  refine lv_aload_n hx hb dX6_leastOfFarthest_5 rfl (lv_at hl 1 rfl) ?_
  refine cg_X6_34 (v := S10.1 12) hx hb hts hown hK hP rfl dX6_leastOfFarthest_6 ?_
  refine lv_topi (fun v2_12 ev2_12 => ?_)
  replace hT := hT v2_12 ev2_12
  refine lv_istore_n (lv' := [(2, .int v2_12), (1, .int r11), (0, .ref (ad 5))]) hx hb dX6_leastOfFarthest_9 rfl hl (by decide) rfl (fun ls hl => ?_)
  refine lv_aload_n hx hb dX6_leastOfFarthest_10 rfl (lv_at hl 2 rfl) ?_
  refine cg_X6_58 (v := S10.1 13) hx hb hts hown hK hP rfl dX6_leastOfFarthest_11 ?_
  refine lv_iconst (v := 1) hx hb dX6_leastOfFarthest_14 (by decide) ?_
  refine lv_isub hx hb dX6_leastOfFarthest_15 ?_
  refine lv_topi (fun v3_13 ev3_13 => ?_)
  replace hT := hT v3_13 ev3_13
  refine lv_istore_n (lv' := [(3, .int v3_13), (2, .int v2_12), (1, .int r11), (0, .ref (ad 5))]) hx hb dX6_leastOfFarthest_16 rfl hl (by decide) rfl (fun ls hl => ?_)
  rw [hB17] at hT
  exact hT _ _ _ _ hP hD hS (lv_sub hl [3, 2, 1, 0] rfl)
abbrev cX_X8_farthest (l : Launch) (mc ms : Nat) (S : CS) (post : Int32 → CS → Prop) : Prop := cCtI l yX8_farthest cX8_farthest 1 5 134 mc ms (fun ad => [.ref (ad 0)]) S post
def cT_X8_farthest_e (l : Launch) (mc ms : Nat) (post : Int32 → CS → Prop) (S0 : CS) : Prop := ∃ mc2 ms3 : Nat, 0 + mc2 ≤ mc ∧ 0 + ms3 ≤ ms ∧ cX_X8_searched l mc2 ms3 S0 (fun b6 S1 => (bI b6 = 0 → 0 + mc2 ≤ mc ∧ 0 + ms3 ≤ ms ∧ post (-1) S1) ∧ (¬ bI b6 = 0 → 0 + mc2 ≤ mc ∧ 0 + ms3 ≤ ms ∧ cX_X6_leastOfFarthest l S1 (fun r9 S8 => 0 + mc2 ≤ mc ∧ 0 + ms3 ≤ ms ∧ post r9 S8)))
set_option maxHeartbeats 4000000 in
set_option maxRecDepth 100000 in
theorem c_X8_farthest (l : Launch) (mc ms : Nat) (S0 : CS) (post : Int32 → CS → Prop) (h : cT_X8_farthest_e l mc ms post S0) : cX_X8_farthest l mc ms S0 post := by
  refine csetI rfl (fun _ => Nat.le_of_ble_eq_true rfl) ?_
  intro p e s m args below meth c D ad vd cI cZ cL cG X A Q hx hb hml hown hts hK hZ hA hret H locs ls hP hD hS hl
  replace hl : lv_has ls 1 [(0, .ref (ad 0))] := hl
  have hT := h
  unfold cT_X8_farthest_e at hT
  refine lv_aload_n hx hb dX8_farthest_0 rfl (lv_at hl 0 rfl) ?_
  obtain ⟨mc2, ms3, hk4, hk5, hT⟩ := hT
  refine ccallVZ (n := 0) (b := ad 0) (C := RX8) (As := []) (rest := []) hT hx hb hml hown hts hK hZ hA hP hD hS hl gc_X8_174 hdc_X8_searched (va_recv hK hP rfl cob_0) ⟨Nat.le_of_ble_eq_true rfl, Nat.le_of_ble_eq_true rfl⟩ rfl rfl rfl (Nat.le_of_ble_eq_true rfl) dX8_farthest_1 hk4 hk5 (fun b6 S1 vd H locs hP hD hS hT => ?_)
  refine lv_if_eq (tgt := 17) hx hb dX8_farthest_4 (by decide) (fun c7 => ?_) (fun c7 => ?_)
  · replace hT := hT.1 c7
    refine lv_iconst (v := (-1)) hx hb dX8_farthest_17 (by decide) ?_
    obtain ⟨hkc, hks, hT⟩ := hT
    exact hret _ _ _ _ _ _ _ _ _ hP hD hS hkc hks hT dX8_farthest_18
  · replace hT := hT.2 c7
    refine lv_aload_n hx hb dX8_farthest_7 rfl (lv_at hl 0 rfl) ?_
    refine cg_X8_40 hx hb hts hown hK hP dX8_farthest_8 ?_
    obtain ⟨hk10, hk11, hT⟩ := hT
    refine ccallVI (n := 0) (b := ad 5) (C := RX6) (As := []) (rest := []) hT hx hb hml hown hts hK hZ hA hP hD hS hl gc_X8_202 hdc_X6_leastOfFarthest (va_recv hK hP rfl cob_5) ⟨Nat.le_of_ble_eq_true rfl, Nat.le_of_ble_eq_true rfl⟩ rfl rfl rfl (Nat.le_of_ble_eq_true rfl) dX8_farthest_11 hk10 hk11 (fun r9 S8 vd H locs hP hD hS hT => ?_)
    refine lv_goto (tgt := 18) hx hb dX8_farthest_14 (by decide) ?_
    obtain ⟨hkc, hks, hT⟩ := hT
    exact hret _ _ _ _ _ _ _ _ _ hP hD hS hkc hks hT dX8_farthest_18
abbrev cX_X2_prepare (l : Launch) (mc ms : Nat) (S : CS) (a1 : Int32) (post : CS → Prop) : Prop := cCtV l yX2_prepare cX2_prepare 2 2 60 mc ms (fun ad => [.ref (ad 6), .int a1]) S post
def cT_X2_prepare_65 (l : Launch) (mc ms : Nat) (a1 : Int32) (post : CS → Prop) (B65 : Nat → Nat → CS → Prop) (kc ks : Nat) (S : CS) : Prop := S.2.2.2 30 < 2147483648 ∧ kc ≤ mc ∧ ks ≤ ms ∧ S.2.2.2 35 < 2147483648 ∧ kc ≤ mc ∧ ks ≤ ms ∧ S.2.2.2 36 < 2147483648 ∧ kc ≤ mc ∧ ks ≤ ms ∧ S.2.2.2 37 < 2147483648 ∧ kc ≤ mc ∧ ks ≤ ms ∧ kc ≤ mc ∧ ks ≤ ms ∧ post (cf (cf (cf (cf (ca (ca (ca (ca S 30 (filI (S.2.1 30) (S.2.2.2 30) 0)) 35 (filI (S.2.1 35) (S.2.2.2 35) (-1))) 36 (filI (S.2.1 36) (S.2.2.2 36) 0)) 37 (filI (S.2.1 37) (S.2.2.2 37) 0)) 14 0) 15 0) 16 0) 18 0)
def cT_X2_prepare_e (l : Launch) (mc ms : Nat) (a1 : Int32) (post : CS → Prop) (B65 : Nat → Nat → CS → Prop) (S0 : CS) : Prop := (a1 ≤ nI (S0.2.2.2 30) → B65 0 0 S0) ∧ (¬ a1 ≤ nI (S0.2.2.2 30) → ¬ a1 < 0 ∧ a1.toNatClampNeg * 8 ≤ 536870912 ∧ 0 + 1 ≤ mc ∧ 0 + a1.toNatClampNeg ≤ ms ∧ ¬ a1 < 0 ∧ a1.toNatClampNeg * 8 ≤ 536870912 ∧ 0 + 1 + 1 ≤ mc ∧ 0 + a1.toNatClampNeg + a1.toNatClampNeg ≤ ms ∧ ¬ a1 < 0 ∧ a1.toNatClampNeg * 8 ≤ 536870912 ∧ 0 + 1 + 1 + 1 ≤ mc ∧ 0 + a1.toNatClampNeg + a1.toNatClampNeg + a1.toNatClampNeg ≤ ms ∧ ¬ a1 < 0 ∧ a1.toNatClampNeg * 8 ≤ 536870912 ∧ 0 + 1 + 1 + 1 + 1 ≤ mc ∧ 0 + a1.toNatClampNeg + a1.toNatClampNeg + a1.toNatClampNeg + a1.toNatClampNeg ≤ ms ∧ ¬ a1 < 0 ∧ a1.toNatClampNeg * 8 ≤ 536870912 ∧ 0 + 1 + 1 + 1 + 1 + 1 ≤ mc ∧ 0 + a1.toNatClampNeg + a1.toNatClampNeg + a1.toNatClampNeg + a1.toNatClampNeg + a1.toNatClampNeg ≤ ms ∧ ¬ a1 < 0 ∧ a1.toNatClampNeg * 8 ≤ 536870912 ∧ 0 + 1 + 1 + 1 + 1 + 1 + 1 ≤ mc ∧ 0 + a1.toNatClampNeg + a1.toNatClampNeg + a1.toNatClampNeg + a1.toNatClampNeg + a1.toNatClampNeg + a1.toNatClampNeg ≤ ms ∧ ¬ a1 < 0 ∧ a1.toNatClampNeg * 8 ≤ 536870912 ∧ 0 + 1 + 1 + 1 + 1 + 1 + 1 + 1 ≤ mc ∧ 0 + a1.toNatClampNeg + a1.toNatClampNeg + a1.toNatClampNeg + a1.toNatClampNeg + a1.toNatClampNeg + a1.toNatClampNeg + a1.toNatClampNeg ≤ ms ∧ ¬ a1 < 0 ∧ a1.toNatClampNeg * 8 ≤ 536870912 ∧ 0 + 1 + 1 + 1 + 1 + 1 + 1 + 1 + 1 ≤ mc ∧ 0 + a1.toNatClampNeg + a1.toNatClampNeg + a1.toNatClampNeg + a1.toNatClampNeg + a1.toNatClampNeg + a1.toNatClampNeg + a1.toNatClampNeg + a1.toNatClampNeg ≤ ms ∧ B65 (0 + 1 + 1 + 1 + 1 + 1 + 1 + 1 + 1) (0 + a1.toNatClampNeg + a1.toNatClampNeg + a1.toNatClampNeg + a1.toNatClampNeg + a1.toNatClampNeg + a1.toNatClampNeg + a1.toNatClampNeg + a1.toNatClampNeg) (cn (ca (cn (ca (cn (ca (cn (ca (cn (ca (cn (ca (cn (ca (cn (ca S0 30 (fun _ => 0)) 30 a1.toNatClampNeg) 31 (fun _ => 0)) 31 a1.toNatClampNeg) 32 (fun _ => 0)) 32 a1.toNatClampNeg) 33 (fun _ => 0)) 33 a1.toNatClampNeg) 34 (fun _ => 0)) 34 a1.toNatClampNeg) 35 (fun _ => 0)) 35 a1.toNatClampNeg) 36 (fun _ => 0)) 36 a1.toNatClampNeg) 37 (fun _ => 0)) 37 a1.toNatClampNeg))
set_option maxHeartbeats 4000000 in
set_option maxRecDepth 100000 in
theorem c_X2_prepare (l : Launch) (mc ms : Nat) (S0 : CS) (a1 : Int32) (post : CS → Prop) (h : ∀ (B65 : Nat → Nat → CS → Prop), (∀ (kc ks : Nat) (S : CS) , cT_X2_prepare_65 l mc ms a1 post B65 kc ks S → B65 kc ks S ) → cT_X2_prepare_e l mc ms a1 post B65 S0) : cX_X2_prepare l mc ms S0 a1 post := by
  refine csetV rfl (fun _ => Nat.le_of_ble_eq_true rfl) ?_
  intro p e s m args below meth c D ad vd cI cZ cL cG X A Q hx hb hml hown hts hK hZ hA hret H locs ls hP hD hS hl
  replace hl : lv_has ls 2 [(0, .ref (ad 6)), (1, .int a1)] := hl
  obtain ⟨B65, hB65⟩ : ∃ B : Nat → Nat → CS → Prop, B = (fun kc ks S => ∀ (vd : Nat → Nat) (H : Heap) (locs : List Loc) (ls : Array Slot), va_P D vwCl (cW ad vd cI cZ cL cG S ++ X) H → va_D A (cW ad vd cI cZ cL cG S ++ X) → va_S A s.heap H locs → lv_has ls 2 [(0, .ref (ad 6))] → W p l e (crm 2 60 mc ms) s m args below meth c H locs kc ks Q (F0 m 65 ls [])) := ⟨_, rfl⟩
  have hT : cT_X2_prepare_e l mc ms a1 post B65 S0 := by
    refine h B65 ?_
    · clear hP hD hS hl H locs ls vd
      intro kc ks S hT
      unfold cT_X2_prepare_65 at hT
      rw [hB65]
      intro vd H locs ls hP hD hS hl
      refine lv_aload_n hx hb dX2_prepare_65 rfl (lv_at hl 0 rfl) ?_
      refine cg_X2_9 hx hb hts hown hK hP dX2_prepare_66 ?_
      refine lv_iconst (v := 0) hx hb dX2_prepare_69 (by decide) ?_
      obtain ⟨hn1, hT⟩ := hT
      obtain ⟨hk2, hk3, hT⟩ := hT
      refine cfill_filI (S := S) (f := S.2.1 30) (n := (S.2.2.2 30)) (v := 0) 30 cat_30 hn1 hx hb hml hown hts hK hA hP hD hS hl gf_X2_66 ⟨Nat.le_of_ble_eq_true rfl, Nat.le_of_ble_eq_true rfl⟩ (Nat.le_of_ble_eq_true rfl) dX2_prepare_70 hk2 hk3 (fun H locs hP hD hS => ?_)
      replace hP := csetP_30 hP
      replace hD := csetD_30 hD
      refine lv_aload_n hx hb dX2_prepare_73 rfl (lv_at hl 0 rfl) ?_
      refine cg_X2_27 hx hb hts hown hK hP dX2_prepare_74 ?_
      refine lv_iconst (v := (-1)) hx hb dX2_prepare_77 (by decide) ?_
      obtain ⟨hn4, hT⟩ := hT
      obtain ⟨hk5, hk6, hT⟩ := hT
      refine cfill_filI (S := ca S 30 (filI (S.2.1 30) (S.2.2.2 30) 0)) (f := S.2.1 35) (n := (S.2.2.2 35)) (v := (-1)) 35 cat_35 hn4 hx hb hml hown hts hK hA hP hD hS hl gf_X2_66 ⟨Nat.le_of_ble_eq_true rfl, Nat.le_of_ble_eq_true rfl⟩ (Nat.le_of_ble_eq_true rfl) dX2_prepare_78 hk5 hk6 (fun H locs hP hD hS => ?_)
      replace hP := csetP_35 hP
      replace hD := csetD_35 hD
      refine lv_aload_n hx hb dX2_prepare_81 rfl (lv_at hl 0 rfl) ?_
      refine cg_X2_30 hx hb hts hown hK hP dX2_prepare_82 ?_
      refine lv_iconst (v := 0) hx hb dX2_prepare_85 (by decide) ?_
      obtain ⟨hn7, hT⟩ := hT
      obtain ⟨hk8, hk9, hT⟩ := hT
      refine cfill_filI (S := ca (ca S 30 (filI (S.2.1 30) (S.2.2.2 30) 0)) 35 (filI (S.2.1 35) (S.2.2.2 35) (-1))) (f := S.2.1 36) (n := (S.2.2.2 36)) (v := 0) 36 cat_36 hn7 hx hb hml hown hts hK hA hP hD hS hl gf_X2_66 ⟨Nat.le_of_ble_eq_true rfl, Nat.le_of_ble_eq_true rfl⟩ (Nat.le_of_ble_eq_true rfl) dX2_prepare_86 hk8 hk9 (fun H locs hP hD hS => ?_)
      replace hP := csetP_36 hP
      replace hD := csetD_36 hD
      refine lv_aload_n hx hb dX2_prepare_89 rfl (lv_at hl 0 rfl) ?_
      refine cg_X2_33 hx hb hts hown hK hP dX2_prepare_90 ?_
      refine lv_iconst (v := 0) hx hb dX2_prepare_93 (by decide) ?_
      obtain ⟨hn10, hT⟩ := hT
      obtain ⟨hk11, hk12, hT⟩ := hT
      refine cfill_filI (S := ca (ca (ca S 30 (filI (S.2.1 30) (S.2.2.2 30) 0)) 35 (filI (S.2.1 35) (S.2.2.2 35) (-1))) 36 (filI (S.2.1 36) (S.2.2.2 36) 0)) (f := S.2.1 37) (n := (S.2.2.2 37)) (v := 0) 37 cat_37 hn10 hx hb hml hown hts hK hA hP hD hS hl gf_X2_66 ⟨Nat.le_of_ble_eq_true rfl, Nat.le_of_ble_eq_true rfl⟩ (Nat.le_of_ble_eq_true rfl) dX2_prepare_94 hk11 hk12 (fun H locs hP hD hS => ?_)
      replace hP := csetP_37 hP
      replace hD := csetD_37 hD
      refine lv_aload_n hx hb dX2_prepare_97 rfl (lv_at hl 0 rfl) ?_
      refine lv_iconst (v := 0) hx hb dX2_prepare_98 (by decide) ?_
      refine cp_X2_72 hx hb hts hown hK hP hD hS dX2_prepare_99 (fun H locs hP hD hS => ?_)
      refine lv_aload_n hx hb dX2_prepare_102 rfl (lv_at hl 0 rfl) ?_
      refine lv_iconst (v := 0) hx hb dX2_prepare_103 (by decide) ?_
      refine cp_X2_75 hx hb hts hown hK hP hD hS dX2_prepare_104 (fun H locs hP hD hS => ?_)
      refine lv_aload_n hx hb dX2_prepare_107 rfl (lv_at hl 0 rfl) ?_
      refine lv_iconst (v := 0) hx hb dX2_prepare_108 (by decide) ?_
      refine cp_X2_78 hx hb hts hown hK hP hD hS dX2_prepare_109 (fun H locs hP hD hS => ?_)
      refine lv_aload_n hx hb dX2_prepare_112 rfl (lv_at hl 0 rfl) ?_
      refine lv_iconst (v := 0) hx hb dX2_prepare_113 (by decide) ?_
      refine cp_X2_81 hx hb hts hown hK hP hD hS dX2_prepare_114 (fun H locs hP hD hS => ?_)
      obtain ⟨hkc, hks, hT⟩ := hT
      exact hret _ _ _ _ _ _ _ _ hP hD hS hkc hks hT dX2_prepare_117
  unfold cT_X2_prepare_e at hT
  refine lv_aload_n hx hb dX2_prepare_0 rfl (lv_at hl 0 rfl) ?_
  refine cg_X2_9 hx hb hts hown hK hP dX2_prepare_1 ?_
  refine va_alen (v := nI (S0.2.2.2 30)) hx hb hK hP 30 0 cat_30 rfl rfl dX2_prepare_4 ?_
  refine lv_iload_n hx hb dX2_prepare_5 rfl (lv_at hl 1 rfl) ?_
  refine lv_icmp_ge (tgt := 65) hx hb dX2_prepare_6 (by decide) (fun c13 => ?_) (fun c13 => ?_)
  · replace hT := hT.1 c13
    rw [hB65] at hT
    exact hT _ _ _ _ hP hD hS (lv_sub hl [0] rfl)
  · replace hT := hT.2 c13
    refine lv_aload_n hx hb dX2_prepare_9 rfl (lv_at hl 0 rfl) ?_
    refine lv_iload_n hx hb dX2_prepare_10 rfl (lv_at hl 1 rfl) ?_
    obtain ⟨hk14, hk15, hk16, hk17, hT⟩ := hT
    refine cnp_X2_9 hx hb hts hown hK hP hD hS hA hk14 hk15 hk16 hk17 dX2_prepare_11 dX2_prepare_13 (fun vd H locs hP hD hS => ?_)
    refine lv_aload_n hx hb dX2_prepare_16 rfl (lv_at hl 0 rfl) ?_
    refine lv_iload_n hx hb dX2_prepare_17 rfl (lv_at hl 1 rfl) ?_
    obtain ⟨hk18, hk19, hk20, hk21, hT⟩ := hT
    refine cnp_X2_15 hx hb hts hown hK hP hD hS hA hk18 hk19 hk20 hk21 dX2_prepare_18 dX2_prepare_20 (fun vd H locs hP hD hS => ?_)
    refine lv_aload_n hx hb dX2_prepare_23 rfl (lv_at hl 0 rfl) ?_
    refine lv_iload_n hx hb dX2_prepare_24 rfl (lv_at hl 1 rfl) ?_
    obtain ⟨hk22, hk23, hk24, hk25, hT⟩ := hT
    refine cnp_X2_18 hx hb hts hown hK hP hD hS hA hk22 hk23 hk24 hk25 dX2_prepare_25 dX2_prepare_27 (fun vd H locs hP hD hS => ?_)
    refine lv_aload_n hx hb dX2_prepare_30 rfl (lv_at hl 0 rfl) ?_
    refine lv_iload_n hx hb dX2_prepare_31 rfl (lv_at hl 1 rfl) ?_
    obtain ⟨hk26, hk27, hk28, hk29, hT⟩ := hT
    refine cnp_X2_21 hx hb hts hown hK hP hD hS hA hk26 hk27 hk28 hk29 dX2_prepare_32 dX2_prepare_34 (fun vd H locs hP hD hS => ?_)
    refine lv_aload_n hx hb dX2_prepare_37 rfl (lv_at hl 0 rfl) ?_
    refine lv_iload_n hx hb dX2_prepare_38 rfl (lv_at hl 1 rfl) ?_
    obtain ⟨hk30, hk31, hk32, hk33, hT⟩ := hT
    refine cnp_X2_24 hx hb hts hown hK hP hD hS hA hk30 hk31 hk32 hk33 dX2_prepare_39 dX2_prepare_41 (fun vd H locs hP hD hS => ?_)
    refine lv_aload_n hx hb dX2_prepare_44 rfl (lv_at hl 0 rfl) ?_
    refine lv_iload_n hx hb dX2_prepare_45 rfl (lv_at hl 1 rfl) ?_
    obtain ⟨hk34, hk35, hk36, hk37, hT⟩ := hT
    refine cnp_X2_27 hx hb hts hown hK hP hD hS hA hk34 hk35 hk36 hk37 dX2_prepare_46 dX2_prepare_48 (fun vd H locs hP hD hS => ?_)
    refine lv_aload_n hx hb dX2_prepare_51 rfl (lv_at hl 0 rfl) ?_
    refine lv_iload_n hx hb dX2_prepare_52 rfl (lv_at hl 1 rfl) ?_
    obtain ⟨hk38, hk39, hk40, hk41, hT⟩ := hT
    refine cnp_X2_30 hx hb hts hown hK hP hD hS hA hk38 hk39 hk40 hk41 dX2_prepare_53 dX2_prepare_55 (fun vd H locs hP hD hS => ?_)
    refine lv_aload_n hx hb dX2_prepare_58 rfl (lv_at hl 0 rfl) ?_
    refine lv_iload_n hx hb dX2_prepare_59 rfl (lv_at hl 1 rfl) ?_
    obtain ⟨hk42, hk43, hk44, hk45, hT⟩ := hT
    refine cnp_X2_33 hx hb hts hown hK hP hD hS hA hk42 hk43 hk44 hk45 dX2_prepare_60 dX2_prepare_62 (fun vd H locs hP hD hS => ?_)
    rw [hB65] at hT
    exact hT _ _ _ _ hP hD hS (lv_sub hl [0] rfl)
