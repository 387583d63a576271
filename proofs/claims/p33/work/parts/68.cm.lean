abbrev cX_X0_turnLanes (l : Launch) (S : CS) (post : CS → Prop) : Prop := cCtV l yX0_turnLanes cX0_turnLanes 5 1 24 0 0 (fun ad => [.ref (ad 1)]) S post
def cT_X0_turnLanes_2 (l : Launch) (post : CS → Prop) (B2 : CS → Int32 → Prop) (B14 : CS → Int32 → Int32 → Prop) (S : CS) (x1 : Int32) : Prop := (S.1 3 ≤ x1 → post S) ∧ (¬ S.1 3 ≤ x1 → ∀ v2_2 : Int32, v2_2 = x1 + 1 → B14 S x1 v2_2)
def cT_X0_turnLanes_14 (l : Launch) (post : CS → Prop) (B2 : CS → Int32 → Prop) (B14 : CS → Int32 → Int32 → Prop) (S : CS) (x1 : Int32) (x2 : Int32) : Prop := (S.1 3 ≤ x2 → B2 S (x1 + 1)) ∧ (¬ S.1 3 ≤ x2 → vp_in ((x1 * 5) + x2) 25 ∧ ∀ v3_5 : Int32, v3_5 = S.2.1 11 ((x1 * 5) + x2).toNatClampNeg → vp_in ((x1 * 5) + x2) 25 ∧ ∀ v4_7 : Int32, v4_7 = S.2.1 12 ((x1 * 5) + x2).toNatClampNeg → vp_in ((x2 * 5) + x1) 25 ∧ vp_in ((x2 * 5) + x1) 25 ∧ ∃ bz13 : Bool, S.2.1 12 ((x2 * 5) + x1).toNatClampNeg = bI bz13 ∧ cX_X0_setLane l S x1 x2 (S.2.1 11 ((x2 * 5) + x1).toNatClampNeg) bz13 (fun S10 => ∃ bz12 : Bool, v4_7 = bI bz12 ∧ cX_X0_setLane l S10 x2 x1 v3_5 bz12 (fun S11 => B14 S11 x1 (x2 + 1))))
def cT_X0_turnLanes_e (l : Launch) (post : CS → Prop) (B2 : CS → Int32 → Prop) (B14 : CS → Int32 → Int32 → Prop) (S0 : CS) : Prop := B2 S0 0
set_option maxHeartbeats 4000000 in
set_option maxRecDepth 100000 in
theorem c_X0_turnLanes (l : Launch) (S0 : CS) (post : CS → Prop) (h : ∀ (B2 : CS → Int32 → Prop) (B14 : CS → Int32 → Int32 → Prop), (∀ (S : CS) (x1 : Int32), cT_X0_turnLanes_2 l post B2 B14 S x1 → B2 S x1) → (∀ (S : CS) (x1 : Int32) (x2 : Int32), cT_X0_turnLanes_14 l post B2 B14 S x1 x2 → B14 S x1 x2) → cT_X0_turnLanes_e l post B2 B14 S0) : cX_X0_turnLanes l S0 post := by
  refine csetV rfl (fun _ => Nat.le_of_ble_eq_true rfl) ?_
  intro p e s m args below meth c D ad vd cI cZ cL cG X A Q hx hb hml hown hts hK hZ hA hret H locs ls hP hD hS hl
  replace hl : lv_has ls 5 [(0, .ref (ad 1))] := hl
  obtain ⟨B2, hB2⟩ : ∃ B : CS → Int32 → Prop, B = (fun S x1 => ∀ (vd : Nat → Nat) (H : Heap) (locs : List Loc) (ls : Array Slot), va_P D vwCl (cW ad vd cI cZ cL cG S ++ X) H → va_D A (cW ad vd cI cZ cL cG S ++ X) → va_S A s.heap H locs → lv_has ls 5 [(0, .ref (ad 1)), (1, .int x1)] → W p l e (crm 1 24 0 0) s m args below meth c H locs 0 0 Q (F0 m 2 ls [])) := ⟨_, rfl⟩
  obtain ⟨B14, hB14⟩ : ∃ B : CS → Int32 → Int32 → Prop, B = (fun S x1 x2 => ∀ (vd : Nat → Nat) (H : Heap) (locs : List Loc) (ls : Array Slot), va_P D vwCl (cW ad vd cI cZ cL cG S ++ X) H → va_D A (cW ad vd cI cZ cL cG S ++ X) → va_S A s.heap H locs → lv_has ls 5 [(0, .ref (ad 1)), (1, .int x1), (2, .int x2)] → W p l e (crm 1 24 0 0) s m args below meth c H locs 0 0 Q (F0 m 14 ls [])) := ⟨_, rfl⟩
  have hT : cT_X0_turnLanes_e l post B2 B14 S0 := by
    refine h B2 B14 ?_ ?_
    · clear hP hD hS hl H locs ls vd
      intro S x1 hT
      unfold cT_X0_turnLanes_2 at hT
      rw [hB2]
      intro vd H locs ls hP hD hS hl
      refine lv_iload_n hx hb dX0_turnLanes_2 rfl (lv_at hl 1 rfl) ?_
      refine lv_aload_n hx hb dX0_turnLanes_3 rfl (lv_at hl 0 rfl) ?_
      refine cg_X0_25 (v := S.1 3) hx hb hts hown hK hP rfl dX0_turnLanes_4 ?_
      refine lv_icmp_ge (tgt := 92) hx hb dX0_turnLanes_7 (by decide) (fun c1 => ?_) (fun c1 => ?_)
      · replace hT := hT.1 c1
        exact hret _ _ _ _ _ _ _ _ hP hD hS (Nat.le_refl _) (Nat.le_refl _) hT dX0_turnLanes_92
      · replace hT := hT.2 c1
        refine lv_iload_n hx hb dX0_turnLanes_10 rfl (lv_at hl 1 rfl) ?_
        refine lv_iconst (v := 1) hx hb dX0_turnLanes_11 (by decide) ?_
        refine lv_iadd hx hb dX0_turnLanes_12 ?_
        refine lv_topi (fun v2_2 ev2_2 => ?_)
        replace hT := hT v2_2 ev2_2
        refine lv_istore_n (lv' := [(2, .int v2_2), (0, .ref (ad 1)), (1, .int x1)]) hx hb dX0_turnLanes_13 rfl hl (by decide) rfl (fun ls hl => ?_)
        rw [hB14] at hT
        exact hT _ _ _ _ hP hD hS (lv_sub hl [1, 2, 0] rfl)
    · clear hP hD hS hl H locs ls vd
      intro S x1 x2 hT
      unfold cT_X0_turnLanes_14 at hT
      rw [hB14]
      intro vd H locs ls hP hD hS hl
      refine lv_iload_n hx hb dX0_turnLanes_14 rfl (lv_at hl 2 rfl) ?_
      refine lv_aload_n hx hb dX0_turnLanes_15 rfl (lv_at hl 0 rfl) ?_
      refine cg_X0_25 (v := S.1 3) hx hb hts hown hK hP rfl dX0_turnLanes_16 ?_
      refine lv_icmp_ge (tgt := 86) hx hb dX0_turnLanes_19 (by decide) (fun c3 => ?_) (fun c3 => ?_)
      · replace hT := hT.1 c3
        refine lv_iinc (v := x1 + 1) (lv' := [(1, .int (x1 + 1)), (0, .ref (ad 1)), (2, .int x2)]) hx hb dX0_turnLanes_86 hl (k := 1) rfl rfl (by decide) rfl (fun ls hl => ?_)
        refine lv_goto (tgt := 2) hx hb dX0_turnLanes_89 (by decide) ?_
        rw [hB2] at hT
        exact hT _ _ _ _ hP hD hS (lv_sub hl [1, 0] rfl)
      · replace hT := hT.2 c3
        refine lv_aload_n hx hb dX0_turnLanes_22 rfl (lv_at hl 0 rfl) ?_
        refine cg_X0_18 hx hb hts hown hK hP dX0_turnLanes_23 ?_
        refine lv_iload_n hx hb dX0_turnLanes_26 rfl (lv_at hl 1 rfl) ?_
        refine lv_iconst (v := 5) hx hb dX0_turnLanes_27 (by decide) ?_
        refine lv_imul hx hb dX0_turnLanes_28 ?_
        refine lv_iload_n hx hb dX0_turnLanes_29 rfl (lv_at hl 2 rfl) ?_
        refine lv_iadd hx hb dX0_turnLanes_30 ?_
        obtain ⟨hi4, hT⟩ := hT
        refine va_iald (f := S.2.1 11) hx hb hK hP 11 0 cat_11 rfl hi4 dX0_turnLanes_31 ?_
        refine lv_topi (fun v3_5 ev3_5 => ?_)
        replace hT := hT v3_5 ev3_5
        refine lv_istore_n (lv' := [(3, .int v3_5), (0, .ref (ad 1)), (1, .int x1), (2, .int x2)]) hx hb dX0_turnLanes_32 rfl hl (by decide) rfl (fun ls hl => ?_)
        refine lv_aload_n hx hb dX0_turnLanes_33 rfl (lv_at hl 1 rfl) ?_
        refine cg_X0_21 hx hb hts hown hK hP dX0_turnLanes_34 ?_
        refine lv_iload_n hx hb dX0_turnLanes_37 rfl (lv_at hl 2 rfl) ?_
        refine lv_iconst (v := 5) hx hb dX0_turnLanes_38 (by decide) ?_
        refine lv_imul hx hb dX0_turnLanes_39 ?_
        refine lv_iload_n hx hb dX0_turnLanes_40 rfl (lv_at hl 3 rfl) ?_
        refine lv_iadd hx hb dX0_turnLanes_41 ?_
        obtain ⟨hi6, hT⟩ := hT
        refine va_zald (f := S.2.1 12) hx hb hK hP 12 1 cat_12 rfl hi6 dX0_turnLanes_42 ?_
        refine lv_topi (fun v4_7 ev4_7 => ?_)
        replace hT := hT v4_7 ev4_7
        refine lv_istore (lv' := [(4, .int v4_7), (3, .int v3_5), (0, .ref (ad 1)), (1, .int x1), (2, .int x2)]) hx hb dX0_turnLanes_43 hl (by decide) rfl (fun ls hl => ?_)
        refine lv_aload_n hx hb dX0_turnLanes_45 rfl (lv_at hl 2 rfl) ?_
        refine lv_iload_n hx hb dX0_turnLanes_46 rfl (lv_at hl 3 rfl) ?_
        refine lv_iload_n hx hb dX0_turnLanes_47 rfl (lv_at hl 4 rfl) ?_
        refine lv_aload_n hx hb dX0_turnLanes_48 rfl (lv_at hl 2 rfl) ?_
        refine cg_X0_18 hx hb hts hown hK hP dX0_turnLanes_49 ?_
        refine lv_iload_n hx hb dX0_turnLanes_52 rfl (lv_at hl 4 rfl) ?_
        refine lv_iconst (v := 5) hx hb dX0_turnLanes_53 (by decide) ?_
        refine lv_imul hx hb dX0_turnLanes_54 ?_
        refine lv_iload_n hx hb dX0_turnLanes_55 rfl (lv_at hl 3 rfl) ?_
        refine lv_iadd hx hb dX0_turnLanes_56 ?_
        obtain ⟨hi8, hT⟩ := hT
        refine va_iald (f := S.2.1 11) hx hb hK hP 11 0 cat_11 rfl hi8 dX0_turnLanes_57 ?_
        refine lv_aload_n hx hb dX0_turnLanes_58 rfl (lv_at hl 2 rfl) ?_
        refine cg_X0_21 hx hb hts hown hK hP dX0_turnLanes_59 ?_
        refine lv_iload_n hx hb dX0_turnLanes_62 rfl (lv_at hl 4 rfl) ?_
        refine lv_iconst (v := 5) hx hb dX0_turnLanes_63 (by decide) ?_
        refine lv_imul hx hb dX0_turnLanes_64 ?_
        refine lv_iload_n hx hb dX0_turnLanes_65 rfl (lv_at hl 3 rfl) ?_
        refine lv_iadd hx hb dX0_turnLanes_66 ?_
        obtain ⟨hi9, hT⟩ := hT
        refine va_zald (f := S.2.1 12) hx hb hK hP 12 1 cat_12 rfl hi9 dX0_turnLanes_67 ?_
        obtain ⟨bz13, hbz13, hT⟩ := hT
        refine ccallVV (n := 4) (b := ad 1) (C := RX0) (As := [.int x1, .int x2, .int (S.2.1 11 ((x2 * 5) + x1).toNatClampNeg), .int (bI bz13)]) (rest := []) hT hx hb hml hown hts hK hZ hA hP hD hS hl gc_X0_41 hdc_X0_setLane (va_recv hK hP rfl cob_1) ⟨Nat.le_of_ble_eq_true rfl, Nat.le_of_ble_eq_true rfl⟩ rfl rfl (by rw [hbz13]; rfl) (Nat.le_of_ble_eq_true rfl) dX0_turnLanes_68 (Nat.le_refl _) (Nat.le_refl _) (fun S10 vd H locs hP hD hS hT => ?_)
        refine lv_aload_n hx hb dX0_turnLanes_71 rfl (lv_at hl 2 rfl) ?_
        refine lv_iload_n hx hb dX0_turnLanes_72 rfl (lv_at hl 4 rfl) ?_
        refine lv_iload_n hx hb dX0_turnLanes_73 rfl (lv_at hl 3 rfl) ?_
        refine lv_iload_n hx hb dX0_turnLanes_74 rfl (lv_at hl 1 rfl) ?_
        refine lv_iload hx hb dX0_turnLanes_75 (lv_at hl 0 rfl) ?_
        obtain ⟨bz12, hbz12, hT⟩ := hT
        refine ccallVV (n := 4) (b := ad 1) (C := RX0) (As := [.int x2, .int x1, .int v3_5, .int (bI bz12)]) (rest := []) hT hx hb hml hown hts hK hZ hA hP hD hS hl gc_X0_41 hdc_X0_setLane (va_recv hK hP rfl cob_1) ⟨Nat.le_of_ble_eq_true rfl, Nat.le_of_ble_eq_true rfl⟩ rfl rfl (by rw [hbz12]; rfl) (Nat.le_of_ble_eq_true rfl) dX0_turnLanes_77 (Nat.le_refl _) (Nat.le_refl _) (fun S11 vd H locs hP hD hS hT => ?_)
        refine lv_iinc (v := x2 + 1) (lv' := [(2, .int (x2 + 1)), (4, .int v4_7), (3, .int v3_5), (0, .ref (ad 1)), (1, .int x1)]) hx hb dX0_turnLanes_80 hl (k := 4) rfl rfl (by decide) rfl (fun ls hl => ?_)
        refine lv_goto (tgt := 14) hx hb dX0_turnLanes_83 (by decide) ?_
        rw [hB14] at hT
        exact hT _ _ _ _ hP hD hS (lv_sub hl [3, 4, 0] rfl)
  unfold cT_X0_turnLanes_e at hT
  refine lv_iconst (v := 0) hx hb dX0_turnLanes_0 (by decide) ?_
  refine lv_istore_n (lv' := [(1, .int 0), (0, .ref (ad 1))]) hx hb dX0_turnLanes_1 rfl hl (by decide) rfl (fun ls hl => ?_)
  rw [hB2] at hT
  exact hT _ _ _ _ hP hD hS (lv_sub hl [1, 0] rfl)
abbrev cX_X8_about (l : Launch) (S : CS) (post : Int32 → CS → Prop) : Prop := cCtI l yX8_about cX8_about 2 2 48 0 0 (fun ad => [.ref (ad 0)]) S post
def cT_X8_about_e (l : Launch) (post : Int32 → CS → Prop) (S0 : CS) : Prop := cX_X0_turnLanes l S0 (fun S1 => ∀ v1_2 : Int32, v1_2 = S1.1 0 → cX_X8_forgetAll l (cf (cf S1 0 (S1.1 1)) 1 v1_2) (fun S3 => cX_X0_countLanes l S3 (fun r5 S4 => post r5 S4)))
set_option maxHeartbeats 4000000 in
set_option maxRecDepth 100000 in
theorem c_X8_about (l : Launch) (S0 : CS) (post : Int32 → CS → Prop) (h : cT_X8_about_e l post S0) : cX_X8_about l S0 post := by
  refine csetI rfl (fun _ => Nat.le_of_ble_eq_true rfl) ?_
  intro p e s m args below meth c D ad vd cI cZ cL cG X A Q hx hb hml hown hts hK hZ hA hret H locs ls hP hD hS hl
  replace hl : lv_has ls 2 [(0, .ref (ad 0))] := hl
  have hT := h
  unfold cT_X8_about_e at hT
  refine lv_aload_n hx hb dX8_about_0 rfl (lv_at hl 0 rfl) ?_
  refine cg_X8_10 hx hb hts hown hK hP dX8_about_1 ?_
  refine ccallVV (n := 0) (b := ad 1) (C := RX0) (As := []) (rest := []) hT hx hb hml hown hts hK hZ hA hP hD hS hl gc_X8_236 hdc_X0_turnLanes (va_recv hK hP rfl cob_1) ⟨Nat.le_of_ble_eq_true rfl, Nat.le_of_ble_eq_true rfl⟩ rfl rfl rfl (Nat.le_of_ble_eq_true rfl) dX8_about_4 (Nat.le_refl _) (Nat.le_refl _) (fun S1 vd H locs hP hD hS hT => ?_)
  refine lv_aload_n hx hb dX8_about_7 rfl (lv_at hl 0 rfl) ?_
  refine cg_X8_73 (v := S1.1 0) hx hb hts hown hK hP rfl dX8_about_8 ?_
  refine lv_topi (fun v1_2 ev1_2 => ?_)
  replace hT := hT v1_2 ev1_2
  refine lv_istore_n (lv' := [(1, .int v1_2), (0, .ref (ad 0))]) hx hb dX8_about_11 rfl hl (by decide) rfl (fun ls hl => ?_)
  refine lv_aload_n hx hb dX8_about_12 rfl (lv_at hl 1 rfl) ?_
  refine lv_aload_n hx hb dX8_about_13 rfl (lv_at hl 1 rfl) ?_
  refine cg_X8_77 (v := S1.1 1) hx hb hts hown hK hP rfl dX8_about_14 ?_
  refine cp_X8_73 hx hb hts hown hK hP hD hS dX8_about_17 (fun H locs hP hD hS => ?_)
  refine lv_aload_n hx hb dX8_about_20 rfl (lv_at hl 1 rfl) ?_
  refine lv_iload_n hx hb dX8_about_21 rfl (lv_at hl 0 rfl) ?_
  refine cp_X8_77 hx hb hts hown hK hP hD hS dX8_about_22 (fun H locs hP hD hS => ?_)
  refine lv_aload_n hx hb dX8_about_25 rfl (lv_at hl 1 rfl) ?_
  refine ccallVV (n := 0) (b := ad 0) (C := RX8) (As := []) (rest := []) hT hx hb hml hown hts hK hZ hA hP hD hS hl gc_X8_80 hdc_X8_forgetAll (va_recv hK hP rfl cob_0) ⟨Nat.le_of_ble_eq_true rfl, Nat.le_of_ble_eq_true rfl⟩ rfl rfl rfl (Nat.le_of_ble_eq_true rfl) dX8_about_26 (Nat.le_refl _) (Nat.le_refl _) (fun S3 vd H locs hP hD hS hT => ?_)
  refine lv_aload_n hx hb dX8_about_29 rfl (lv_at hl 1 rfl) ?_
  refine cg_X8_10 hx hb hts hown hK hP dX8_about_30 ?_
  refine ccallVI (n := 0) (b := ad 1) (C := RX0) (As := []) (rest := []) hT hx hb hml hown hts hK hZ hA hP hD hS hl gc_X8_107 hdc_X0_countLanes (va_recv hK hP rfl cob_1) ⟨Nat.le_of_ble_eq_true rfl, Nat.le_of_ble_eq_true rfl⟩ rfl rfl rfl (Nat.le_of_ble_eq_true rfl) dX8_about_33 (Nat.le_refl _) (Nat.le_refl _) (fun r5 S4 vd H locs hP hD hS hT => ?_)
  exact hret _ _ _ _ _ _ _ _ _ hP hD hS (Nat.le_refl _) (Nat.le_refl _) hT dX8_about_36
abbrev cX_X1_open (l : Launch) (S : CS) (post : Int32 → CS → Prop) : Prop := cCtI l yX1_open cX1_open 1 0 0 0 0 (fun ad => [.ref (ad 7)]) S post
def cT_X1_open_e (l : Launch) (post : Int32 → CS → Prop) (S0 : CS) : Prop := vp_in (S0.1 19) 8 ∧ post (((S0.1 19) + 1) - 1) (cf (ca S0 38 (upd (S0.2.1 38) (S0.1 19).toNatClampNeg 0)) 19 ((S0.1 19) + 1))
set_option maxHeartbeats 4000000 in
set_option maxRecDepth 100000 in
theorem c_X1_open (l : Launch) (S0 : CS) (post : Int32 → CS → Prop) (h : cT_X1_open_e l post S0) : cX_X1_open l S0 post := by
  refine csetI rfl (fun _ => Nat.le_of_ble_eq_true rfl) ?_
  intro p e s m args below meth c D ad vd cI cZ cL cG X A Q hx hb hml hown hts hK hZ hA hret H locs ls hP hD hS hl
  replace hl : lv_has ls 1 [(0, .ref (ad 7))] := hl
  have hT := h
  unfold cT_X1_open_e at hT
  refine lv_aload_n hx hb dX1_open_0 rfl (lv_at hl 0 rfl) ?_
  refine cg_X1_9 hx hb hts hown hK hP dX1_open_1 ?_
  refine lv_aload_n hx hb dX1_open_4 rfl (lv_at hl 0 rfl) ?_
  refine cg_X1_28 (v := S0.1 19) hx hb hts hown hK hP rfl dX1_open_5 ?_
  refine lv_iconst (v := 0) hx hb dX1_open_8 (by decide) ?_
  obtain ⟨hi1, hT⟩ := hT
  refine va_iast (f := S0.2.1 38) hx hb hK hP hD hS 38 0 cat_38 rfl hi1 dX1_open_9 (fun H locs hP hD hS => ?_)
  replace hP := csetP_38 hP
  replace hD := csetD_38 hD
  refine lv_aload_n hx hb dX1_open_10 rfl (lv_at hl 0 rfl) ?_
  refine lv_dup hx hb dX1_open_11 rfl ?_
  refine cg_X1_28 (v := S0.1 19) hx hb hts hown hK hP rfl dX1_open_12 ?_
  refine lv_iconst (v := 1) hx hb dX1_open_15 (by decide) ?_
  refine lv_iadd hx hb dX1_open_16 ?_
  refine cp_X1_28 hx hb hts hown hK hP hD hS dX1_open_17 (fun H locs hP hD hS => ?_)
  refine lv_aload_n hx hb dX1_open_20 rfl (lv_at hl 0 rfl) ?_
  refine cg_X1_28 (v := (S0.1 19) + 1) hx hb hts hown hK hP rfl dX1_open_21 ?_
  refine lv_iconst (v := 1) hx hb dX1_open_24 (by decide) ?_
  refine lv_isub hx hb dX1_open_25 ?_
  exact hret _ _ _ _ _ _ _ _ _ hP hD hS (Nat.le_refl _) (Nat.le_refl _) hT dX1_open_26
abbrev cX_X8_scheme (l : Launch) (S : CS) (post : Int32 → CS → Prop) : Prop := cCtI l yX8_scheme cX8_scheme 1 1 21 0 0 (fun ad => [.ref (ad 0)]) S post
def cT_X8_scheme_e (l : Launch) (post : Int32 → CS → Prop) (S0 : CS) : Prop := (S0.1 19 < 8 → cX_X1_open l (cf S0 2 0) (fun r3 S2 => post r3 S2)) ∧ (¬ S0.1 19 < 8 → cX_X8_none l S0 5 (fun r5 S4 => post r5 S4))
set_option maxHeartbeats 4000000 in
set_option maxRecDepth 100000 in
theorem c_X8_scheme (l : Launch) (S0 : CS) (post : Int32 → CS → Prop) (h : cT_X8_scheme_e l post S0) : cX_X8_scheme l S0 post := by
  refine csetI rfl (fun _ => Nat.le_of_ble_eq_true rfl) ?_
  intro p e s m args below meth c D ad vd cI cZ cL cG X A Q hx hb hml hown hts hK hZ hA hret H locs ls hP hD hS hl
  replace hl : lv_has ls 1 [(0, .ref (ad 0))] := hl
  have hT := h
  unfold cT_X8_scheme_e at hT
  refine lv_aload_n hx hb dX8_scheme_0 rfl (lv_at hl 0 rfl) ?_
  refine cg_X8_54 hx hb hts hown hK hP dX8_scheme_1 ?_
  refine cg_X8_239 (v := S0.1 19) hx hb hts hown hK hP rfl dX8_scheme_4 ?_
  refine lv_bipush (v := 8) hx hb dX8_scheme_7 (by decide) ?_
  refine lv_icmp_lt (tgt := 18) hx hb dX8_scheme_9 (by decide) (fun c1 => ?_) (fun c1 => ?_)
  · replace hT := hT.1 c1
    refine lv_aload_n hx hb dX8_scheme_18 rfl (lv_at hl 0 rfl) ?_
    refine lv_iconst (v := 0) hx hb dX8_scheme_19 (by decide) ?_
    refine cp_X8_149 hx hb hts hown hK hP hD hS dX8_scheme_20 (fun H locs hP hD hS => ?_)
    refine lv_aload_n hx hb dX8_scheme_23 rfl (lv_at hl 0 rfl) ?_
    refine cg_X8_54 hx hb hts hown hK hP dX8_scheme_24 ?_
    refine ccallVI (n := 0) (b := ad 7) (C := RX1) (As := []) (rest := []) hT hx hb hml hown hts hK hZ hA hP hD hS hl gc_X8_242 hdc_X1_open (va_recv hK hP rfl cob_7) ⟨Nat.le_of_ble_eq_true rfl, Nat.le_of_ble_eq_true rfl⟩ rfl rfl rfl (Nat.le_of_ble_eq_true rfl) dX8_scheme_27 (Nat.le_refl _) (Nat.le_refl _) (fun r3 S2 vd H locs hP hD hS hT => ?_)
    exact hret _ _ _ _ _ _ _ _ _ hP hD hS (Nat.le_refl _) (Nat.le_refl _) hT dX8_scheme_30
  · replace hT := hT.2 c1
    refine lv_aload_n hx hb dX8_scheme_12 rfl (lv_at hl 0 rfl) ?_
    refine lv_iconst (v := 5) hx hb dX8_scheme_13 (by decide) ?_
    refine ccallVI (n := 1) (b := ad 0) (C := RX8) (As := [.int 5]) (rest := []) hT hx hb hml hown hts hK hZ hA hP hD hS hl gc_X8_138 hdc_X8_none (va_recv hK hP rfl cob_0) ⟨Nat.le_of_ble_eq_true rfl, Nat.le_of_ble_eq_true rfl⟩ rfl rfl rfl (Nat.le_of_ble_eq_true rfl) dX8_scheme_14 (Nat.le_refl _) (Nat.le_refl _) (fun r5 S4 vd H locs hP hD hS hT => ?_)
    exact hret _ _ _ _ _ _ _ _ _ hP hD hS (Nat.le_refl _) (Nat.le_refl _) hT dX8_scheme_17
abbrev cX_X1_has (l : Launch) (S : CS) (a1 : Int32) (post : Bool → CS → Prop) : Prop := cCtZ l yX1_has cX1_has 2 0 0 0 0 (fun ad => [.ref (ad 7), .int a1]) S post
def cT_X1_has_e (l : Launch) (a1 : Int32) (post : Bool → CS → Prop) (S0 : CS) : Prop := (a1 < 0 → post false S0) ∧ (¬ a1 < 0 → (S0.1 19 ≤ a1 → post false S0) ∧ (¬ S0.1 19 ≤ a1 → post true S0))
set_option maxHeartbeats 4000000 in
set_option maxRecDepth 100000 in
theorem c_X1_has (l : Launch) (S0 : CS) (a1 : Int32) (post : Bool → CS → Prop) (h : cT_X1_has_e l a1 post S0) : cX_X1_has l S0 a1 post := by
  refine csetZ rfl (fun _ => Nat.le_of_ble_eq_true rfl) ?_
  intro p e s m args below meth c D ad vd cI cZ cL cG X A Q hx hb hml hown hts hK hZ hA hret H locs ls hP hD hS hl
  replace hl : lv_has ls 2 [(0, .ref (ad 7)), (1, .int a1)] := hl
  have hT := h
  unfold cT_X1_has_e at hT
  refine lv_iload_n hx hb dX1_has_0 rfl (lv_at hl 1 rfl) ?_
  refine lv_if_lt (tgt := 16) hx hb dX1_has_1 (by decide) (fun c1 => ?_) (fun c1 => ?_)
  · replace hT := hT.1 c1
    refine lv_iconst (v := 0) hx hb dX1_has_16 (by decide) ?_
    exact hret false _ _ _ _ _ _ _ _ hP hD hS (Nat.le_refl _) (Nat.le_refl _) hT dX1_has_17
  · replace hT := hT.2 c1
    refine lv_iload_n hx hb dX1_has_4 rfl (lv_at hl 1 rfl) ?_
    refine lv_aload_n hx hb dX1_has_5 rfl (lv_at hl 0 rfl) ?_
    refine cg_X1_28 (v := S0.1 19) hx hb hts hown hK hP rfl dX1_has_6 ?_
    refine lv_icmp_ge (tgt := 16) hx hb dX1_has_9 (by decide) (fun c2 => ?_) (fun c2 => ?_)
    · replace hT := hT.1 c2
      refine lv_iconst (v := 0) hx hb dX1_has_16 (by decide) ?_
      exact hret false _ _ _ _ _ _ _ _ hP hD hS (Nat.le_refl _) (Nat.le_refl _) hT dX1_has_17
    · replace hT := hT.2 c2
      refine lv_iconst (v := 1) hx hb dX1_has_12 (by decide) ?_
      refine lv_goto (tgt := 17) hx hb dX1_has_13 (by decide) ?_
      exact hret true _ _ _ _ _ _ _ _ hP hD hS (Nat.le_refl _) (Nat.le_refl _) hT dX1_has_17
abbrev cX_X8_isRole (l : Launch) (S : CS) (a0 : Int32) (post : Bool → CS → Prop) : Prop := cCtZ l yX8_isRole cX8_isRole 1 0 0 0 0 (fun ad => [.int a0]) S post
def cT_X8_isRole_e (l : Launch) (a0 : Int32) (post : Bool → CS → Prop) (S0 : CS) : Prop := (a0 < 0 → post false S0) ∧ (¬ a0 < 0 → (5 ≤ a0 → post false S0) ∧ (¬ 5 ≤ a0 → post true S0))
set_option maxHeartbeats 4000000 in
set_option maxRecDepth 100000 in
theorem c_X8_isRole (l : Launch) (S0 : CS) (a0 : Int32) (post : Bool → CS → Prop) (h : cT_X8_isRole_e l a0 post S0) : cX_X8_isRole l S0 a0 post := by
  refine csetZ rfl (fun _ => Nat.le_of_ble_eq_true rfl) ?_
  intro p e s m args below meth c D ad vd cI cZ cL cG X A Q hx hb hml hown hts hK hZ hA hret H locs ls hP hD hS hl
  replace hl : lv_has ls 1 [(0, .int a0)] := hl
  have hT := h
  unfold cT_X8_isRole_e at hT
  refine lv_iload_n hx hb dX8_isRole_0 rfl (lv_at hl 0 rfl) ?_
  refine lv_if_lt (tgt := 13) hx hb dX8_isRole_1 (by decide) (fun c1 => ?_) (fun c1 => ?_)
  · replace hT := hT.1 c1
    refine lv_iconst (v := 0) hx hb dX8_isRole_13 (by decide) ?_
    exact hret false _ _ _ _ _ _ _ _ hP hD hS (Nat.le_refl _) (Nat.le_refl _) hT dX8_isRole_14
  · replace hT := hT.2 c1
    refine lv_iload_n hx hb dX8_isRole_4 rfl (lv_at hl 0 rfl) ?_
    refine lv_iconst (v := 5) hx hb dX8_isRole_5 (by decide) ?_
    refine lv_icmp_ge (tgt := 13) hx hb dX8_isRole_6 (by decide) (fun c2 => ?_) (fun c2 => ?_)
    · replace hT := hT.1 c2
      refine lv_iconst (v := 0) hx hb dX8_isRole_13 (by decide) ?_
      exact hret false _ _ _ _ _ _ _ _ hP hD hS (Nat.le_refl _) (Nat.le_refl _) hT dX8_isRole_14
    · replace hT := hT.2 c2
      refine lv_iconst (v := 1) hx hb dX8_isRole_9 (by decide) ?_
      refine lv_goto (tgt := 14) hx hb dX8_isRole_10 (by decide) ?_
      exact hret true _ _ _ _ _ _ _ _ hP hD hS (Nat.le_refl _) (Nat.le_refl _) hT dX8_isRole_14
abbrev cX_X1_isFull (l : Launch) (S : CS) (a1 : Int32) (post : Bool → CS → Prop) : Prop := cCtZ l yX1_isFull cX1_isFull 2 0 0 0 0 (fun ad => [.ref (ad 7), .int a1]) S post
def cT_X1_isFull_e (l : Launch) (a1 : Int32) (post : Bool → CS → Prop) (S0 : CS) : Prop := vp_in a1 8 ∧ (S0.2.1 38 a1.toNatClampNeg < 8 → post false S0) ∧ (¬ S0.2.1 38 a1.toNatClampNeg < 8 → post true S0)
set_option maxHeartbeats 4000000 in
set_option maxRecDepth 100000 in
theorem c_X1_isFull (l : Launch) (S0 : CS) (a1 : Int32) (post : Bool → CS → Prop) (h : cT_X1_isFull_e l a1 post S0) : cX_X1_isFull l S0 a1 post := by
  refine csetZ rfl (fun _ => Nat.le_of_ble_eq_true rfl) ?_
  intro p e s m args below meth c D ad vd cI cZ cL cG X A Q hx hb hml hown hts hK hZ hA hret H locs ls hP hD hS hl
  replace hl : lv_has ls 2 [(0, .ref (ad 7)), (1, .int a1)] := hl
  have hT := h
  unfold cT_X1_isFull_e at hT
  refine lv_aload_n hx hb dX1_isFull_0 rfl (lv_at hl 0 rfl) ?_
  refine cg_X1_9 hx hb hts hown hK hP dX1_isFull_1 ?_
  refine lv_iload_n hx hb dX1_isFull_4 rfl (lv_at hl 1 rfl) ?_
  obtain ⟨hi1, hT⟩ := hT
  refine va_iald (f := S0.2.1 38) hx hb hK hP 38 0 cat_38 rfl hi1 dX1_isFull_5 ?_
  refine lv_bipush (v := 8) hx hb dX1_isFull_6 (by decide) ?_
  refine lv_icmp_lt (tgt := 15) hx hb dX1_isFull_8 (by decide) (fun c2 => ?_) (fun c2 => ?_)
  · replace hT := hT.1 c2
    refine lv_iconst (v := 0) hx hb dX1_isFull_15 (by decide) ?_
    exact hret false _ _ _ _ _ _ _ _ hP hD hS (Nat.le_refl _) (Nat.le_refl _) hT dX1_isFull_16
  · replace hT := hT.2 c2
    refine lv_iconst (v := 1) hx hb dX1_isFull_11 (by decide) ?_
    refine lv_goto (tgt := 16) hx hb dX1_isFull_12 (by decide) ?_
    exact hret true _ _ _ _ _ _ _ _ hP hD hS (Nat.le_refl _) (Nat.le_refl _) hT dX1_isFull_16
abbrev cX_X1_append (l : Launch) (S : CS) (a1 : Int32) (a2 : Int32) (a3 : Int32) (n4 : Nat) (f4 : Nat → Int32) (post : Int32 → CS → Prop) : Prop := cCtIx l yX1_append cX1_append 7 0 0 0 0 n4 f4 (fun ad qx => [.ref (ad 7), .int a1, .int a2, .int a3, .ref qx]) S post
def cT_X1_append_32 (l : Launch) (a1 : Int32) (a2 : Int32) (a3 : Int32) (n4 : Nat) (f4 : Nat → Int32) (post : Int32 → CS → Prop) (B32 : CS → Int32 → Int32 → Prop) (B69 : CS → Prop) (S : CS) (x5 : Int32) (x6 : Int32) : Prop := (nI n4 ≤ x6 → B69 S) ∧ (¬ nI n4 ≤ x6 → (5 ≤ x6 → B69 S) ∧ (¬ 5 ≤ x6 → vp_in x6 n4 ∧ vp_in ((x5 * 5) + x6) 320 ∧ B32 (ca S 41 (upd (S.2.1 41) ((x5 * 5) + x6).toNatClampNeg (f4 x6.toNatClampNeg))) x5 (x6 + 1)))
def cT_X1_append_69 (l : Launch) (a1 : Int32) (a2 : Int32) (a3 : Int32) (n4 : Nat) (f4 : Nat → Int32) (post : Int32 → CS → Prop) (B32 : CS → Int32 → Int32 → Prop) (B69 : CS → Prop) (S : CS) : Prop := vp_in a1 8 ∧ vp_in a1 8 ∧ vp_in a1 8 ∧ post ((upd (S.2.1 38) a1.toNatClampNeg ((S.2.1 38 a1.toNatClampNeg) + 1)) a1.toNatClampNeg) (ca S 38 (upd (S.2.1 38) a1.toNatClampNeg ((S.2.1 38 a1.toNatClampNeg) + 1)))
def cT_X1_append_e (l : Launch) (a1 : Int32) (a2 : Int32) (a3 : Int32) (n4 : Nat) (f4 : Nat → Int32) (post : Int32 → CS → Prop) (B32 : CS → Int32 → Int32 → Prop) (B69 : CS → Prop) (S0 : CS) : Prop := vp_in a1 8 ∧ ∀ v5_9 : Int32, v5_9 = (a1 * 8) + (S0.2.1 38 a1.toNatClampNeg) → vp_in v5_9 64 ∧ vp_in v5_9 64 ∧ B32 (ca (ca S0 39 (upd (S0.2.1 39) v5_9.toNatClampNeg a2)) 40 (upd (S0.2.1 40) v5_9.toNatClampNeg a3)) v5_9 0
set_option maxHeartbeats 4000000 in
set_option maxRecDepth 100000 in
theorem c_X1_append (l : Launch) (S0 : CS) (a1 : Int32) (a2 : Int32) (a3 : Int32) (n4 : Nat) (f4 : Nat → Int32) (post : Int32 → CS → Prop) (h : ∀ (B32 : CS → Int32 → Int32 → Prop) (B69 : CS → Prop), (∀ (S : CS) (x5 : Int32) (x6 : Int32), cT_X1_append_32 l a1 a2 a3 n4 f4 post B32 B69 S x5 x6 → B32 S x5 x6) → (∀ (S : CS) , cT_X1_append_69 l a1 a2 a3 n4 f4 post B32 B69 S → B69 S ) → cT_X1_append_e l a1 a2 a3 n4 f4 post B32 B69 S0) : cX_X1_append l S0 a1 a2 a3 n4 f4 post := by
  refine csetIx rfl (fun _ _ => Nat.le_of_ble_eq_true rfl) ?_
  intro p e s m args below meth c D ad vd cI cZ cL cG X q4 A Q hx hb hml hown hts hK hZ hA hX4 hret H locs ls hP hD hS hl
  replace hl : lv_has ls 7 [(0, .ref (ad 7)), (1, .int a1), (2, .int a2), (3, .int a3), (4, .ref q4)] := hl
  obtain ⟨B32, hB32⟩ : ∃ B : CS → Int32 → Int32 → Prop, B = (fun S x5 x6 => ∀ (vd : Nat → Nat) (H : Heap) (locs : List Loc) (ls : Array Slot), va_P D vwCl (cW ad vd cI cZ cL cG S ++ X) H → va_D A (cW ad vd cI cZ cL cG S ++ X) → va_S A s.heap H locs → lv_has ls 7 [(0, .ref (ad 7)), (1, .int a1), (4, .ref q4), (5, .int x5), (6, .int x6)] → W p l e (crm 0 0 0 0) s m args below meth c H locs 0 0 Q (F0 m 32 ls [])) := ⟨_, rfl⟩
  obtain ⟨B69, hB69⟩ : ∃ B : CS → Prop, B = (fun S => ∀ (vd : Nat → Nat) (H : Heap) (locs : List Loc) (ls : Array Slot), va_P D vwCl (cW ad vd cI cZ cL cG S ++ X) H → va_D A (cW ad vd cI cZ cL cG S ++ X) → va_S A s.heap H locs → lv_has ls 7 [(0, .ref (ad 7)), (1, .int a1)] → W p l e (crm 0 0 0 0) s m args below meth c H locs 0 0 Q (F0 m 69 ls [])) := ⟨_, rfl⟩
  have hT : cT_X1_append_e l a1 a2 a3 n4 f4 post B32 B69 S0 := by
    refine h B32 B69 ?_ ?_
    · clear hP hD hS hl H locs ls vd
      intro S x5 x6 hT
      unfold cT_X1_append_32 at hT
      rw [hB32]
      intro vd H locs ls hP hD hS hl
      refine lv_iload hx hb dX1_append_32 (lv_at hl 4 rfl) ?_
      refine lv_aload hx hb dX1_append_34 (lv_at hl 2 rfl) ?_
      obtain ⟨jx, hjx⟩ := (id hX4)
      refine va_alen (v := nI n4) hx hb hK hP (51 + jx) 0 (cWX hjx) rfl rfl dX1_append_36 ?_
      refine lv_icmp_ge (tgt := 69) hx hb dX1_append_37 (by decide) (fun c1 => ?_) (fun c1 => ?_)
      · replace hT := hT.1 c1
        rw [hB69] at hT
        exact hT _ _ _ _ hP hD hS (lv_sub hl [0, 1] rfl)
      · replace hT := hT.2 c1
        refine lv_iload hx hb dX1_append_40 (lv_at hl 4 rfl) ?_
        refine lv_iconst (v := 5) hx hb dX1_append_42 (by decide) ?_
        refine lv_icmp_ge (tgt := 69) hx hb dX1_append_43 (by decide) (fun c2 => ?_) (fun c2 => ?_)
        · replace hT := hT.1 c2
          rw [hB69] at hT
          exact hT _ _ _ _ hP hD hS (lv_sub hl [0, 1] rfl)
        · replace hT := hT.2 c2
          refine lv_aload_n hx hb dX1_append_46 rfl (lv_at hl 0 rfl) ?_
          refine cg_X1_21 hx hb hts hown hK hP dX1_append_47 ?_
          refine lv_iload hx hb dX1_append_50 (lv_at hl 3 rfl) ?_
          refine lv_iconst (v := 5) hx hb dX1_append_52 (by decide) ?_
          refine lv_imul hx hb dX1_append_53 ?_
          refine lv_iload hx hb dX1_append_54 (lv_at hl 4 rfl) ?_
          refine lv_iadd hx hb dX1_append_56 ?_
          refine lv_aload hx hb dX1_append_57 (lv_at hl 2 rfl) ?_
          refine lv_iload hx hb dX1_append_59 (lv_at hl 4 rfl) ?_
          obtain ⟨hi3, hT⟩ := hT
          obtain ⟨jx, hjx⟩ := (id hX4)
          refine va_iald (f := f4) hx hb hK hP (51 + jx) 0 (cWX hjx) rfl hi3 dX1_append_61 ?_
          obtain ⟨hi4, hT⟩ := hT
          refine va_iast (f := S.2.1 41) hx hb hK hP hD hS 41 0 cat_41 rfl hi4 dX1_append_62 (fun H locs hP hD hS => ?_)
          replace hP := csetP_41 hP
          replace hD := csetD_41 hD
          refine lv_iinc (v := x6 + 1) (lv' := [(6, .int (x6 + 1)), (0, .ref (ad 7)), (1, .int a1), (4, .ref q4), (5, .int x5)]) hx hb dX1_append_63 hl (k := 4) rfl rfl (by decide) rfl (fun ls hl => ?_)
          refine lv_goto (tgt := 32) hx hb dX1_append_66 (by decide) ?_
          rw [hB32] at hT
          exact hT _ _ _ _ hP hD hS (lv_sub hl [1, 2, 3, 4, 0] rfl)
    · clear hP hD hS hl H locs ls vd
      intro S hT
      unfold cT_X1_append_69 at hT
      rw [hB69]
      intro vd H locs ls hP hD hS hl
      refine lv_aload_n hx hb dX1_append_69 rfl (lv_at hl 0 rfl) ?_
      refine cg_X1_9 hx hb hts hown hK hP dX1_append_70 ?_
      refine lv_iload_n hx hb dX1_append_73 rfl (lv_at hl 1 rfl) ?_
      refine lv_dup2_11 hx hb dX1_append_74 rfl rfl ?_
      obtain ⟨hi5, hT⟩ := hT
      refine va_iald (f := S.2.1 38) hx hb hK hP 38 0 cat_38 rfl hi5 dX1_append_75 ?_
      refine lv_iconst (v := 1) hx hb dX1_append_76 (by decide) ?_
      refine lv_iadd hx hb dX1_append_77 ?_
      obtain ⟨hi6, hT⟩ := hT
      refine va_iast (f := S.2.1 38) hx hb hK hP hD hS 38 0 cat_38 rfl hi6 dX1_append_78 (fun H locs hP hD hS => ?_)
      replace hP := csetP_38 hP
      replace hD := csetD_38 hD
      refine lv_aload_n hx hb dX1_append_79 rfl (lv_at hl 0 rfl) ?_
      refine cg_X1_9 hx hb hts hown hK hP dX1_append_80 ?_
      refine lv_iload_n hx hb dX1_append_83 rfl (lv_at hl 1 rfl) ?_
      obtain ⟨hi7, hT⟩ := hT
      refine va_iald (f := upd (S.2.1 38) a1.toNatClampNeg ((S.2.1 38 a1.toNatClampNeg) + 1)) hx hb hK hP 38 0 cat_38 rfl hi7 dX1_append_84 ?_
      exact hret _ _ _ _ _ _ _ _ _ hP hD hS (Nat.le_refl _) (Nat.le_refl _) hT dX1_append_85
  unfold cT_X1_append_e at hT
  refine lv_iload_n hx hb dX1_append_0 rfl (lv_at hl 1 rfl) ?_
  refine lv_bipush (v := 8) hx hb dX1_append_1 (by decide) ?_
  refine lv_imul hx hb dX1_append_3 ?_
  refine lv_aload_n hx hb dX1_append_4 rfl (lv_at hl 0 rfl) ?_
  refine cg_X1_9 hx hb hts hown hK hP dX1_append_5 ?_
  refine lv_iload_n hx hb dX1_append_8 rfl (lv_at hl 1 rfl) ?_
  obtain ⟨hi8, hT⟩ := hT
  refine va_iald (f := S0.2.1 38) hx hb hK hP 38 0 cat_38 rfl hi8 dX1_append_9 ?_
  refine lv_iadd hx hb dX1_append_10 ?_
  refine lv_topi (fun v5_9 ev5_9 => ?_)
  replace hT := hT v5_9 ev5_9
  refine lv_istore (lv' := [(5, .int v5_9), (0, .ref (ad 7)), (1, .int a1), (2, .int a2), (3, .int a3), (4, .ref q4)]) hx hb dX1_append_11 hl (by decide) rfl (fun ls hl => ?_)
  refine lv_aload_n hx hb dX1_append_13 rfl (lv_at hl 1 rfl) ?_
  refine cg_X1_15 hx hb hts hown hK hP dX1_append_14 ?_
  refine lv_iload hx hb dX1_append_17 (lv_at hl 0 rfl) ?_
  refine lv_iload_n hx hb dX1_append_19 rfl (lv_at hl 3 rfl) ?_
  obtain ⟨hi10, hT⟩ := hT
  refine va_iast (f := S0.2.1 39) hx hb hK hP hD hS 39 0 cat_39 rfl hi10 dX1_append_20 (fun H locs hP hD hS => ?_)
  replace hP := csetP_39 hP
  replace hD := csetD_39 hD
  refine lv_aload_n hx hb dX1_append_21 rfl (lv_at hl 1 rfl) ?_
  refine cg_X1_18 hx hb hts hown hK hP dX1_append_22 ?_
  refine lv_iload hx hb dX1_append_25 (lv_at hl 0 rfl) ?_
  refine lv_iload_n hx hb dX1_append_27 rfl (lv_at hl 4 rfl) ?_
  obtain ⟨hi11, hT⟩ := hT
  refine va_iast (f := S0.2.1 40) hx hb hK hP hD hS 40 0 cat_40 rfl hi11 dX1_append_28 (fun H locs hP hD hS => ?_)
  replace hP := csetP_40 hP
  replace hD := csetD_40 hD
  refine lv_iconst (v := 0) hx hb dX1_append_29 (by decide) ?_
  refine lv_istore (lv' := [(6, .int 0), (5, .int v5_9), (0, .ref (ad 7)), (1, .int a1), (2, .int a2), (3, .int a3), (4, .ref q4)]) hx hb dX1_append_30 hl (by decide) rfl (fun ls hl => ?_)
  rw [hB32] at hT
  exact hT _ _ _ _ hP hD hS (lv_sub hl [2, 3, 6, 1, 0] rfl)
abbrev cX_X8_addStep (l : Launch) (S : CS) (a1 : Int32) (a2 : Int32) (a3 : Int32) (n4 : Nat) (f4 : Nat → Int32) (post : Int32 → CS → Prop) : Prop := cCtIx l yX8_addStep cX8_addStep 5 1 26 0 0 n4 f4 (fun ad qx => [.ref (ad 0), .int a1, .int a2, .int a3, .ref qx]) S post
def cT_X8_addStep_e (l : Launch) (a1 : Int32) (a2 : Int32) (a3 : Int32) (n4 : Nat) (f4 : Nat → Int32) (post : Int32 → CS → Prop) (S0 : CS) : Prop := cX_X1_isFull l S0 a1 (fun b2 S1 => (bI b2 = 0 → cX_X1_append l (cf S1 2 0) a1 a2 a3 n4 f4 (fun r5 S4 => post r5 S4)) ∧ (¬ bI b2 = 0 → cX_X8_none l S1 5 (fun r7 S6 => post r7 S6)))
set_option maxHeartbeats 4000000 in
set_option maxRecDepth 100000 in
theorem c_X8_addStep (l : Launch) (S0 : CS) (a1 : Int32) (a2 : Int32) (a3 : Int32) (n4 : Nat) (f4 : Nat → Int32) (post : Int32 → CS → Prop) (h : cT_X8_addStep_e l a1 a2 a3 n4 f4 post S0) : cX_X8_addStep l S0 a1 a2 a3 n4 f4 post := by
  refine csetIx rfl (fun _ _ => Nat.le_of_ble_eq_true rfl) ?_
  intro p e s m args below meth c D ad vd cI cZ cL cG X q4 A Q hx hb hml hown hts hK hZ hA hX4 hret H locs ls hP hD hS hl
  replace hl : lv_has ls 5 [(0, .ref (ad 0)), (1, .int a1), (2, .int a2), (3, .int a3), (4, .ref q4)] := hl
  have hT := h
  unfold cT_X8_addStep_e at hT
  refine lv_aload_n hx hb dX8_addStep_0 rfl (lv_at hl 0 rfl) ?_
  refine cg_X8_54 hx hb hts hown hK hP dX8_addStep_1 ?_
  refine lv_iload_n hx hb dX8_addStep_4 rfl (lv_at hl 1 rfl) ?_
  refine ccallVZ (n := 1) (b := ad 7) (C := RX1) (As := [.int a1]) (rest := []) hT hx hb hml hown hts hK hZ hA hP hD hS hl gc_X8_286 hdc_X1_isFull (va_recv hK hP rfl cob_7) ⟨Nat.le_of_ble_eq_true rfl, Nat.le_of_ble_eq_true rfl⟩ rfl rfl rfl (Nat.le_of_ble_eq_true rfl) dX8_addStep_5 (Nat.le_refl _) (Nat.le_refl _) (fun b2 S1 vd H locs hP hD hS hT => ?_)
  refine lv_if_eq (tgt := 17) hx hb dX8_addStep_8 (by decide) (fun c3 => ?_) (fun c3 => ?_)
  · replace hT := hT.1 c3
    refine lv_aload_n hx hb dX8_addStep_17 rfl (lv_at hl 0 rfl) ?_
    refine lv_iconst (v := 0) hx hb dX8_addStep_18 (by decide) ?_
    refine cp_X8_149 hx hb hts hown hK hP hD hS dX8_addStep_19 (fun H locs hP hD hS => ?_)
    refine lv_aload_n hx hb dX8_addStep_22 rfl (lv_at hl 0 rfl) ?_
    refine cg_X8_54 hx hb hts hown hK hP dX8_addStep_23 ?_
    refine lv_iload_n hx hb dX8_addStep_26 rfl (lv_at hl 1 rfl) ?_
    refine lv_iload_n hx hb dX8_addStep_27 rfl (lv_at hl 2 rfl) ?_
    refine lv_iload_n hx hb dX8_addStep_28 rfl (lv_at hl 3 rfl) ?_
    refine lv_aload hx hb dX8_addStep_29 (lv_at hl 4 rfl) ?_
    refine ccallVIx (n := 4) (qx := q4) (b := ad 7) (C := RX1) (As := [.int a1, .int a2, .int a3, .ref q4]) (rest := []) hT hx hb hml hown hts hK hZ hA hP hD hS hl (id hX4) gc_X8_289 hdc_X1_append (va_recv hK hP rfl cob_7) ⟨Nat.le_of_ble_eq_true rfl, Nat.le_of_ble_eq_true rfl⟩ rfl rfl rfl (Nat.le_of_ble_eq_true rfl) dX8_addStep_31 (Nat.le_refl _) (Nat.le_refl _) (fun r5 S4 vd H locs hP hD hS hT => ?_)
    exact hret _ _ _ _ _ _ _ _ _ hP hD hS (Nat.le_refl _) (Nat.le_refl _) hT dX8_addStep_34
  · replace hT := hT.2 c3
    refine lv_aload_n hx hb dX8_addStep_11 rfl (lv_at hl 0 rfl) ?_
    refine lv_iconst (v := 5) hx hb dX8_addStep_12 (by decide) ?_
    refine ccallVI (n := 1) (b := ad 0) (C := RX8) (As := [.int 5]) (rest := []) hT hx hb hml hown hts hK hZ hA hP hD hS hl gc_X8_138 hdc_X8_none (va_recv hK hP rfl cob_0) ⟨Nat.le_of_ble_eq_true rfl, Nat.le_of_ble_eq_true rfl⟩ rfl rfl rfl (Nat.le_of_ble_eq_true rfl) dX8_addStep_13 (Nat.le_refl _) (Nat.le_refl _) (fun r7 S6 vd H locs hP hD hS hT => ?_)
    exact hret _ _ _ _ _ _ _ _ _ hP hD hS (Nat.le_refl _) (Nat.le_refl _) hT dX8_addStep_16
abbrev cX_X8_single (l : Launch) (mc ms : Nat) (S : CS) (a1 : Int32) (a2 : Int32) (a3 : Int32) (post : Int32 → CS → Prop) : Prop := cCtI l yX8_single cX8_single 5 2 50 mc ms (fun ad => [.ref (ad 0), .int a1, .int a2, .int a3]) S post
def cT_X8_single_30 (l : Launch) (mc ms : Nat) (a1 : Int32) (a2 : Int32) (a3 : Int32) (post : Int32 → CS → Prop) (B30 : Nat → Nat → CS → Prop) (kc ks : Nat) (S : CS) : Prop := kc ≤ mc ∧ ks ≤ ms ∧ cX_X8_none l S 1 (fun r2 S1 => kc ≤ mc ∧ ks ≤ ms ∧ post r2 S1)
def cT_X8_single_e (l : Launch) (mc ms : Nat) (a1 : Int32) (a2 : Int32) (a3 : Int32) (post : Int32 → CS → Prop) (B30 : Nat → Nat → CS → Prop) (S0 : CS) : Prop := 0 ≤ mc ∧ 0 ≤ ms ∧ cX_X1_has l S0 a1 (fun b6 S5 => (bI b6 = 0 → B30 0 0 S5) ∧ (¬ bI b6 = 0 → 0 ≤ mc ∧ 0 ≤ ms ∧ cX_X8_isRole l S5 a2 (fun b11 S10 => (bI b11 = 0 → B30 0 0 S10) ∧ (¬ bI b11 = 0 → 0 ≤ mc ∧ 0 ≤ ms ∧ cX_X8_isRole l S10 a3 (fun b16 S15 => (bI b16 = 0 → B30 0 0 S15) ∧ (¬ bI b16 = 0 → (¬ a2 = a3 → 0 + 1 ≤ mc ∧ 0 + 2 ≤ ms ∧ 0 + 1 ≤ mc ∧ 0 + 2 ≤ ms ∧ cX_X8_addStep l S15 a1 (-1) 0 2 (upd (upd (fun _ => 0) (0 : Int32).toNatClampNeg a2) (1 : Int32).toNatClampNeg a3) (fun r26 S25 => 0 + 1 ≤ mc ∧ 0 + 2 ≤ ms ∧ post r26 S25)) ∧ (a2 = a3 → B30 0 0 S15)))))))
set_option maxHeartbeats 4000000 in
set_option maxRecDepth 100000 in
theorem c_X8_single (l : Launch) (mc ms : Nat) (S0 : CS) (a1 : Int32) (a2 : Int32) (a3 : Int32) (post : Int32 → CS → Prop) (h : ∀ (B30 : Nat → Nat → CS → Prop), (∀ (kc ks : Nat) (S : CS) , cT_X8_single_30 l mc ms a1 a2 a3 post B30 kc ks S → B30 kc ks S ) → cT_X8_single_e l mc ms a1 a2 a3 post B30 S0) : cX_X8_single l mc ms S0 a1 a2 a3 post := by
  refine csetI rfl (fun _ => Nat.le_of_ble_eq_true rfl) ?_
  intro p e s m args below meth c D ad vd cI cZ cL cG X A Q hx hb hml hown hts hK hZ hA hret H locs ls hP hD hS hl
  replace hl : lv_has ls 5 [(0, .ref (ad 0)), (1, .int a1), (2, .int a2), (3, .int a3)] := hl
  obtain ⟨B30, hB30⟩ : ∃ B : Nat → Nat → CS → Prop, B = (fun kc ks S => ∀ (vd : Nat → Nat) (H : Heap) (locs : List Loc) (ls : Array Slot), va_P D vwCl (cW ad vd cI cZ cL cG S ++ X) H → va_D A (cW ad vd cI cZ cL cG S ++ X) → va_S A s.heap H locs → lv_has ls 5 [(0, .ref (ad 0))] → W p l e (crm 2 50 mc ms) s m args below meth c H locs kc ks Q (F0 m 30 ls [])) := ⟨_, rfl⟩
  have hT : cT_X8_single_e l mc ms a1 a2 a3 post B30 S0 := by
    refine h B30 ?_
    · clear hP hD hS hl H locs ls vd
      intro kc ks S hT
      unfold cT_X8_single_30 at hT
      rw [hB30]
      intro vd H locs ls hP hD hS hl
      refine lv_aload_n hx hb dX8_single_30 rfl (lv_at hl 0 rfl) ?_
      refine lv_iconst (v := 1) hx hb dX8_single_31 (by decide) ?_
      obtain ⟨hk3, hk4, hT⟩ := hT
      refine ccallVI (n := 1) (b := ad 0) (C := RX8) (As := [.int 1]) (rest := []) hT hx hb hml hown hts hK hZ hA hP hD hS hl gc_X8_138 hdc_X8_none (va_recv hK hP rfl cob_0) ⟨Nat.le_of_ble_eq_true rfl, Nat.le_of_ble_eq_true rfl⟩ rfl rfl rfl (Nat.le_of_ble_eq_true rfl) dX8_single_32 hk3 hk4 (fun r2 S1 vd H locs hP hD hS hT => ?_)
      obtain ⟨hkc, hks, hT⟩ := hT
      exact hret _ _ _ _ _ _ _ _ _ hP hD hS hkc hks hT dX8_single_35
  unfold cT_X8_single_e at hT
  refine lv_aload_n hx hb dX8_single_0 rfl (lv_at hl 0 rfl) ?_
  refine cg_X8_54 hx hb hts hown hK hP dX8_single_1 ?_
  refine lv_iload_n hx hb dX8_single_4 rfl (lv_at hl 1 rfl) ?_
  obtain ⟨hk7, hk8, hT⟩ := hT
  refine ccallVZ (n := 1) (b := ad 7) (C := RX1) (As := [.int a1]) (rest := []) hT hx hb hml hown hts hK hZ hA hP hD hS hl gc_X8_245 hdc_X1_has (va_recv hK hP rfl cob_7) ⟨Nat.le_of_ble_eq_true rfl, Nat.le_of_ble_eq_true rfl⟩ rfl rfl rfl (Nat.le_of_ble_eq_true rfl) dX8_single_5 hk7 hk8 (fun b6 S5 vd H locs hP hD hS hT => ?_)
  refine lv_if_eq (tgt := 30) hx hb dX8_single_8 (by decide) (fun c9 => ?_) (fun c9 => ?_)
  · replace hT := hT.1 c9
    rw [hB30] at hT
    exact hT _ _ _ _ hP hD hS (lv_sub hl [0] rfl)
  · replace hT := hT.2 c9
    refine lv_iload_n hx hb dX8_single_11 rfl (lv_at hl 2 rfl) ?_
    obtain ⟨hk12, hk13, hT⟩ := hT
    refine ccallSZ (n := 1) (As := [.int a2]) (rest := []) hT hx hb hml hown hts hK hZ hA hP hD hS hl gc_X8_248 hdc_X8_isRole ⟨Nat.le_of_ble_eq_true rfl, Nat.le_of_ble_eq_true rfl⟩ rfl rfl rfl (Nat.le_of_ble_eq_true rfl) dX8_single_12 hk12 hk13 (fun b11 S10 vd H locs hP hD hS hT => ?_)
    refine lv_if_eq (tgt := 30) hx hb dX8_single_15 (by decide) (fun c14 => ?_) (fun c14 => ?_)
    · replace hT := hT.1 c14
      rw [hB30] at hT
      exact hT _ _ _ _ hP hD hS (lv_sub hl [0] rfl)
    · replace hT := hT.2 c14
      refine lv_iload_n hx hb dX8_single_18 rfl (lv_at hl 3 rfl) ?_
      obtain ⟨hk17, hk18, hT⟩ := hT
      refine ccallSZ (n := 1) (As := [.int a3]) (rest := []) hT hx hb hml hown hts hK hZ hA hP hD hS hl gc_X8_248 hdc_X8_isRole ⟨Nat.le_of_ble_eq_true rfl, Nat.le_of_ble_eq_true rfl⟩ rfl rfl rfl (Nat.le_of_ble_eq_true rfl) dX8_single_19 hk17 hk18 (fun b16 S15 vd H locs hP hD hS hT => ?_)
      refine lv_if_eq (tgt := 30) hx hb dX8_single_22 (by decide) (fun c19 => ?_) (fun c19 => ?_)
      · replace hT := hT.1 c19
        rw [hB30] at hT
        exact hT _ _ _ _ hP hD hS (lv_sub hl [0] rfl)
      · replace hT := hT.2 c19
        refine lv_iload_n hx hb dX8_single_25 rfl (lv_at hl 2 rfl) ?_
        refine lv_iload_n hx hb dX8_single_26 rfl (lv_at hl 3 rfl) ?_
        refine lv_icmp_ne (tgt := 36) hx hb dX8_single_27 (by decide) (fun c20 => ?_) (fun c20 => ?_)
        · replace hT := hT.1 c20
          refine lv_iconst (v := 2) hx hb dX8_single_36 (by decide) ?_
          obtain ⟨hk21, hk22, hT⟩ := hT
          refine cnewX (N := 2) hx hb hts hK hP hD hS hA rfl (by decide) (by decide) hk21 hk22 dX8_single_37 (fun qo H hP hD hS => ?_)
          refine lv_dup hx hb dX8_single_39 rfl ?_
          refine lv_iconst (v := 0) hx hb dX8_single_40 (by decide) ?_
          refine lv_iload_n hx hb dX8_single_41 rfl (lv_at hl 2 rfl) ?_
          have hi23 : vp_in (0 : Int32) 2 := by unfold vp_in; decide
          refine cstX hx hb hK hP hD hS hi23 dX8_single_42 (fun H locs hP hD hS => ?_)
          refine lv_dup hx hb dX8_single_43 rfl ?_
          refine lv_iconst (v := 1) hx hb dX8_single_44 (by decide) ?_
          refine lv_iload_n hx hb dX8_single_45 rfl (lv_at hl 3 rfl) ?_
          have hi24 : vp_in (1 : Int32) 2 := by unfold vp_in; decide
          refine cstX hx hb hK hP hD hS hi24 dX8_single_46 (fun H locs hP hD hS => ?_)
          refine lv_astore (lv' := [(4, .ref qo), (0, .ref (ad 0)), (1, .int a1), (2, .int a2), (3, .int a3)]) hx hb dX8_single_47 hl (by decide) rfl (fun ls hl => ?_)
          refine lv_aload_n hx hb dX8_single_49 rfl (lv_at hl 1 rfl) ?_
          refine lv_iload_n hx hb dX8_single_50 rfl (lv_at hl 2 rfl) ?_
          refine lv_iconst (v := (-1)) hx hb dX8_single_51 (by decide) ?_
          refine lv_iconst (v := 0) hx hb dX8_single_52 (by decide) ?_
          refine lv_aload hx hb dX8_single_53 (lv_at hl 0 rfl) ?_
          obtain ⟨hk27, hk28, hT⟩ := hT
          refine ccallVIx (n := 4) (qx := qo) (b := ad 0) (C := RX8) (As := [.int a1, .int (-1), .int 0, .ref qo]) (rest := []) hT hx hb hml hown hts hK hZ hA hP hD hS hl (cXt.own (X := X) (cI := cI) (q := qo) (n := 2) (f := upd (upd (fun _ => 0) (0 : Int32).toNatClampNeg a2) (1 : Int32).toNatClampNeg a3)) gc_X8_251 hdc_X8_addStep (va_recv hK hP rfl cob_0) ⟨Nat.le_of_ble_eq_true rfl, Nat.le_of_ble_eq_true rfl⟩ rfl rfl rfl (Nat.le_of_ble_eq_true rfl) dX8_single_55 hk27 hk28 (fun r26 S25 vd H locs hP hD hS hT => ?_)
          obtain ⟨hkc, hks, hT⟩ := hT
          replace hP := hP.dropR
          replace hD := hD.dropR
          exact hret _ _ _ _ _ _ _ _ _ hP hD hS hkc hks hT dX8_single_58
        · replace hT := hT.2 c20
          rw [hB30] at hT
          exact hT _ _ _ _ hP hD hS (lv_sub hl [0] rfl)
