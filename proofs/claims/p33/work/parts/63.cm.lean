abbrev cX_X4_stepBack (l : Launch) (S : CS) (a1 : Int32) (post : Int32 → CS → Prop) : Prop := cCtI l yX4_stepBack cX4_stepBack 2 0 0 0 0 (fun ad => [.ref (ad 3), .int a1]) S post
def cT_X4_stepBack_e (l : Launch) (a1 : Int32) (post : Int32 → CS → Prop) (S0 : CS) : Prop := (S0.1 9 = 0 → post a1 S0) ∧ (¬ S0.1 9 = 0 → (¬ S0.1 10 = 200 → vp_in (S0.1 10) 200 ∧ vp_in ((S0.1 9) - 1) 200 ∧ post (S0.2.1 20 ((S0.1 9) - 1).toNatClampNeg) (cf (cf (ca S0 21 (upd (S0.2.1 21) (S0.1 10).toNatClampNeg a1)) 10 ((S0.1 10) + 1)) 9 ((S0.1 9) - 1))) ∧ (S0.1 10 = 200 → post a1 S0))
set_option maxHeartbeats 4000000 in
set_option maxRecDepth 100000 in
theorem c_X4_stepBack (l : Launch) (S0 : CS) (a1 : Int32) (post : Int32 → CS → Prop) (h : cT_X4_stepBack_e l a1 post S0) : cX_X4_stepBack l S0 a1 post := by
  refine csetI rfl (fun _ => Nat.le_of_ble_eq_true rfl) ?_
  intro p e s m args below meth c D ad vd cI cZ cL cG X A Q hx hb hml hown hts hK hZ hA hret H locs ls hP hD hS hl
  replace hl : lv_has ls 2 [(0, .ref (ad 3)), (1, .int a1)] := hl
  have hT := h
  unfold cT_X4_stepBack_e at hT
  refine lv_aload_n hx hb dX4_stepBack_0 rfl (lv_at hl 0 rfl) ?_
  refine cg_X4_18 (v := S0.1 9) hx hb hts hown hK hP rfl dX4_stepBack_1 ?_
  refine lv_if_eq (tgt := 17) hx hb dX4_stepBack_4 (by decide) (fun c1 => ?_) (fun c1 => ?_)
  · replace hT := hT.1 c1
    refine lv_iload_n hx hb dX4_stepBack_17 rfl (lv_at hl 1 rfl) ?_
    exact hret _ _ _ _ _ _ _ _ _ hP hD hS (Nat.le_refl _) (Nat.le_refl _) hT dX4_stepBack_18
  · replace hT := hT.2 c1
    refine lv_aload_n hx hb dX4_stepBack_7 rfl (lv_at hl 0 rfl) ?_
    refine cg_X4_22 (v := S0.1 10) hx hb hts hown hK hP rfl dX4_stepBack_8 ?_
    refine lv_sipush (v := 200) hx hb dX4_stepBack_11 (by decide) ?_
    refine lv_icmp_ne (tgt := 19) hx hb dX4_stepBack_14 (by decide) (fun c2 => ?_) (fun c2 => ?_)
    · replace hT := hT.1 c2
      refine lv_aload_n hx hb dX4_stepBack_19 rfl (lv_at hl 0 rfl) ?_
      refine cg_X4_15 hx hb hts hown hK hP dX4_stepBack_20 ?_
      refine lv_aload_n hx hb dX4_stepBack_23 rfl (lv_at hl 0 rfl) ?_
      refine cg_X4_22 (v := S0.1 10) hx hb hts hown hK hP rfl dX4_stepBack_24 ?_
      refine lv_iload_n hx hb dX4_stepBack_27 rfl (lv_at hl 1 rfl) ?_
      obtain ⟨hi3, hT⟩ := hT
      refine va_iast (f := S0.2.1 21) hx hb hK hP hD hS 21 0 cat_21 rfl hi3 dX4_stepBack_28 (fun H locs hP hD hS => ?_)
      replace hP := csetP_21 hP
      replace hD := csetD_21 hD
      refine lv_aload_n hx hb dX4_stepBack_29 rfl (lv_at hl 0 rfl) ?_
      refine lv_dup hx hb dX4_stepBack_30 rfl ?_
      refine cg_X4_22 (v := S0.1 10) hx hb hts hown hK hP rfl dX4_stepBack_31 ?_
      refine lv_iconst (v := 1) hx hb dX4_stepBack_34 (by decide) ?_
      refine lv_iadd hx hb dX4_stepBack_35 ?_
      refine cp_X4_22 hx hb hts hown hK hP hD hS dX4_stepBack_36 (fun H locs hP hD hS => ?_)
      refine lv_aload_n hx hb dX4_stepBack_39 rfl (lv_at hl 0 rfl) ?_
      refine lv_dup hx hb dX4_stepBack_40 rfl ?_
      refine cg_X4_18 (v := S0.1 9) hx hb hts hown hK hP rfl dX4_stepBack_41 ?_
      refine lv_iconst (v := 1) hx hb dX4_stepBack_44 (by decide) ?_
      refine lv_isub hx hb dX4_stepBack_45 ?_
      refine cp_X4_18 hx hb hts hown hK hP hD hS dX4_stepBack_46 (fun H locs hP hD hS => ?_)
      refine lv_aload_n hx hb dX4_stepBack_49 rfl (lv_at hl 0 rfl) ?_
      refine cg_X4_9 hx hb hts hown hK hP dX4_stepBack_50 ?_
      refine lv_aload_n hx hb dX4_stepBack_53 rfl (lv_at hl 0 rfl) ?_
      refine cg_X4_18 (v := (S0.1 9) - 1) hx hb hts hown hK hP rfl dX4_stepBack_54 ?_
      obtain ⟨hi4, hT⟩ := hT
      refine va_iald (f := S0.2.1 20) hx hb hK hP 20 0 cat_20 rfl hi4 dX4_stepBack_57 ?_
      exact hret _ _ _ _ _ _ _ _ _ hP hD hS (Nat.le_refl _) (Nat.le_refl _) hT dX4_stepBack_58
    · replace hT := hT.2 c2
      refine lv_iload_n hx hb dX4_stepBack_17 rfl (lv_at hl 1 rfl) ?_
      exact hret _ _ _ _ _ _ _ _ _ hP hD hS (Nat.le_refl _) (Nat.le_refl _) hT dX4_stepBack_18
abbrev cX_X8_undo (l : Launch) (S : CS) (post : Int32 → CS → Prop) : Prop := cCtI l yX8_undo cX8_undo 1 1 21 0 0 (fun ad => [.ref (ad 0)]) S post
def cT_X8_undo_e (l : Launch) (post : Int32 → CS → Prop) (S0 : CS) : Prop := (¬ S0.1 9 = 0 → cX_X4_stepBack l S0 (S0.1 0) (fun r3 S2 => post 1 (cf S2 0 r3))) ∧ (S0.1 9 = 0 → post 0 S0)
set_option maxHeartbeats 4000000 in
set_option maxRecDepth 100000 in
theorem c_X8_undo (l : Launch) (S0 : CS) (post : Int32 → CS → Prop) (h : cT_X8_undo_e l post S0) : cX_X8_undo l S0 post := by
  refine csetI rfl (fun _ => Nat.le_of_ble_eq_true rfl) ?_
  intro p e s m args below meth c D ad vd cI cZ cL cG X A Q hx hb hml hown hts hK hZ hA hret H locs ls hP hD hS hl
  replace hl : lv_has ls 1 [(0, .ref (ad 0))] := hl
  have hT := h
  unfold cT_X8_undo_e at hT
  refine lv_aload_n hx hb dX8_undo_0 rfl (lv_at hl 0 rfl) ?_
  refine cg_X8_26 hx hb hts hown hK hP dX8_undo_1 ?_
  refine cg_X8_155 (v := S0.1 9) hx hb hts hown hK hP rfl dX8_undo_4 ?_
  refine lv_if_ne (tgt := 12) hx hb dX8_undo_7 (by decide) (fun c1 => ?_) (fun c1 => ?_)
  · replace hT := hT.1 c1
    refine lv_aload_n hx hb dX8_undo_12 rfl (lv_at hl 0 rfl) ?_
    refine lv_aload_n hx hb dX8_undo_13 rfl (lv_at hl 0 rfl) ?_
    refine cg_X8_26 hx hb hts hown hK hP dX8_undo_14 ?_
    refine lv_aload_n hx hb dX8_undo_17 rfl (lv_at hl 0 rfl) ?_
    refine cg_X8_73 (v := S0.1 0) hx hb hts hown hK hP rfl dX8_undo_18 ?_
    refine ccallVI (n := 1) (b := ad 3) (C := RX4) (As := [.int (S0.1 0)]) (rest := [.ref (ad 0)]) hT hx hb hml hown hts hK hZ hA hP hD hS hl gc_X8_158 hdc_X4_stepBack (va_recv hK hP rfl cob_3) ⟨Nat.le_of_ble_eq_true rfl, Nat.le_of_ble_eq_true rfl⟩ rfl rfl rfl (Nat.le_of_ble_eq_true rfl) dX8_undo_21 (Nat.le_refl _) (Nat.le_refl _) (fun r3 S2 vd H locs hP hD hS hT => ?_)
    refine cp_X8_73 hx hb hts hown hK hP hD hS dX8_undo_24 (fun H locs hP hD hS => ?_)
    refine lv_iconst (v := 1) hx hb dX8_undo_27 (by decide) ?_
    exact hret _ _ _ _ _ _ _ _ _ hP hD hS (Nat.le_refl _) (Nat.le_refl _) hT dX8_undo_28
  · replace hT := hT.2 c1
    refine lv_iconst (v := 0) hx hb dX8_undo_10 (by decide) ?_
    exact hret _ _ _ _ _ _ _ _ _ hP hD hS (Nat.le_refl _) (Nat.le_refl _) hT dX8_undo_11
abbrev cX_X4_stepOn (l : Launch) (S : CS) (a1 : Int32) (post : Int32 → CS → Prop) : Prop := cCtI l yX4_stepOn cX4_stepOn 2 0 0 0 0 (fun ad => [.ref (ad 3), .int a1]) S post
def cT_X4_stepOn_e (l : Launch) (a1 : Int32) (post : Int32 → CS → Prop) (S0 : CS) : Prop := (S0.1 10 = 0 → post a1 S0) ∧ (¬ S0.1 10 = 0 → (¬ S0.1 9 = 200 → vp_in (S0.1 9) 200 ∧ vp_in ((S0.1 10) - 1) 200 ∧ post (S0.2.1 21 ((S0.1 10) - 1).toNatClampNeg) (cf (cf (ca S0 20 (upd (S0.2.1 20) (S0.1 9).toNatClampNeg a1)) 9 ((S0.1 9) + 1)) 10 ((S0.1 10) - 1))) ∧ (S0.1 9 = 200 → post a1 S0))
set_option maxHeartbeats 4000000 in
set_option maxRecDepth 100000 in
theorem c_X4_stepOn (l : Launch) (S0 : CS) (a1 : Int32) (post : Int32 → CS → Prop) (h : cT_X4_stepOn_e l a1 post S0) : cX_X4_stepOn l S0 a1 post := by
  refine csetI rfl (fun _ => Nat.le_of_ble_eq_true rfl) ?_
  intro p e s m args below meth c D ad vd cI cZ cL cG X A Q hx hb hml hown hts hK hZ hA hret H locs ls hP hD hS hl
  replace hl : lv_has ls 2 [(0, .ref (ad 3)), (1, .int a1)] := hl
  have hT := h
  unfold cT_X4_stepOn_e at hT
  refine lv_aload_n hx hb dX4_stepOn_0 rfl (lv_at hl 0 rfl) ?_
  refine cg_X4_22 (v := S0.1 10) hx hb hts hown hK hP rfl dX4_stepOn_1 ?_
  refine lv_if_eq (tgt := 17) hx hb dX4_stepOn_4 (by decide) (fun c1 => ?_) (fun c1 => ?_)
  · replace hT := hT.1 c1
    refine lv_iload_n hx hb dX4_stepOn_17 rfl (lv_at hl 1 rfl) ?_
    exact hret _ _ _ _ _ _ _ _ _ hP hD hS (Nat.le_refl _) (Nat.le_refl _) hT dX4_stepOn_18
  · replace hT := hT.2 c1
    refine lv_aload_n hx hb dX4_stepOn_7 rfl (lv_at hl 0 rfl) ?_
    refine cg_X4_18 (v := S0.1 9) hx hb hts hown hK hP rfl dX4_stepOn_8 ?_
    refine lv_sipush (v := 200) hx hb dX4_stepOn_11 (by decide) ?_
    refine lv_icmp_ne (tgt := 19) hx hb dX4_stepOn_14 (by decide) (fun c2 => ?_) (fun c2 => ?_)
    · replace hT := hT.1 c2
      refine lv_aload_n hx hb dX4_stepOn_19 rfl (lv_at hl 0 rfl) ?_
      refine cg_X4_9 hx hb hts hown hK hP dX4_stepOn_20 ?_
      refine lv_aload_n hx hb dX4_stepOn_23 rfl (lv_at hl 0 rfl) ?_
      refine cg_X4_18 (v := S0.1 9) hx hb hts hown hK hP rfl dX4_stepOn_24 ?_
      refine lv_iload_n hx hb dX4_stepOn_27 rfl (lv_at hl 1 rfl) ?_
      obtain ⟨hi3, hT⟩ := hT
      refine va_iast (f := S0.2.1 20) hx hb hK hP hD hS 20 0 cat_20 rfl hi3 dX4_stepOn_28 (fun H locs hP hD hS => ?_)
      replace hP := csetP_20 hP
      replace hD := csetD_20 hD
      refine lv_aload_n hx hb dX4_stepOn_29 rfl (lv_at hl 0 rfl) ?_
      refine lv_dup hx hb dX4_stepOn_30 rfl ?_
      refine cg_X4_18 (v := S0.1 9) hx hb hts hown hK hP rfl dX4_stepOn_31 ?_
      refine lv_iconst (v := 1) hx hb dX4_stepOn_34 (by decide) ?_
      refine lv_iadd hx hb dX4_stepOn_35 ?_
      refine cp_X4_18 hx hb hts hown hK hP hD hS dX4_stepOn_36 (fun H locs hP hD hS => ?_)
      refine lv_aload_n hx hb dX4_stepOn_39 rfl (lv_at hl 0 rfl) ?_
      refine lv_dup hx hb dX4_stepOn_40 rfl ?_
      refine cg_X4_22 (v := S0.1 10) hx hb hts hown hK hP rfl dX4_stepOn_41 ?_
      refine lv_iconst (v := 1) hx hb dX4_stepOn_44 (by decide) ?_
      refine lv_isub hx hb dX4_stepOn_45 ?_
      refine cp_X4_22 hx hb hts hown hK hP hD hS dX4_stepOn_46 (fun H locs hP hD hS => ?_)
      refine lv_aload_n hx hb dX4_stepOn_49 rfl (lv_at hl 0 rfl) ?_
      refine cg_X4_15 hx hb hts hown hK hP dX4_stepOn_50 ?_
      refine lv_aload_n hx hb dX4_stepOn_53 rfl (lv_at hl 0 rfl) ?_
      refine cg_X4_22 (v := (S0.1 10) - 1) hx hb hts hown hK hP rfl dX4_stepOn_54 ?_
      obtain ⟨hi4, hT⟩ := hT
      refine va_iald (f := S0.2.1 21) hx hb hK hP 21 0 cat_21 rfl hi4 dX4_stepOn_57 ?_
      exact hret _ _ _ _ _ _ _ _ _ hP hD hS (Nat.le_refl _) (Nat.le_refl _) hT dX4_stepOn_58
    · replace hT := hT.2 c2
      refine lv_iload_n hx hb dX4_stepOn_17 rfl (lv_at hl 1 rfl) ?_
      exact hret _ _ _ _ _ _ _ _ _ hP hD hS (Nat.le_refl _) (Nat.le_refl _) hT dX4_stepOn_18
abbrev cX_X8_redo (l : Launch) (S : CS) (post : Int32 → CS → Prop) : Prop := cCtI l yX8_redo cX8_redo 1 1 21 0 0 (fun ad => [.ref (ad 0)]) S post
def cT_X8_redo_e (l : Launch) (post : Int32 → CS → Prop) (S0 : CS) : Prop := (¬ S0.1 10 = 0 → cX_X4_stepOn l S0 (S0.1 0) (fun r3 S2 => post 1 (cf S2 0 r3))) ∧ (S0.1 10 = 0 → post 0 S0)
set_option maxHeartbeats 4000000 in
set_option maxRecDepth 100000 in
theorem c_X8_redo (l : Launch) (S0 : CS) (post : Int32 → CS → Prop) (h : cT_X8_redo_e l post S0) : cX_X8_redo l S0 post := by
  refine csetI rfl (fun _ => Nat.le_of_ble_eq_true rfl) ?_
  intro p e s m args below meth c D ad vd cI cZ cL cG X A Q hx hb hml hown hts hK hZ hA hret H locs ls hP hD hS hl
  replace hl : lv_has ls 1 [(0, .ref (ad 0))] := hl
  have hT := h
  unfold cT_X8_redo_e at hT
  refine lv_aload_n hx hb dX8_redo_0 rfl (lv_at hl 0 rfl) ?_
  refine cg_X8_26 hx hb hts hown hK hP dX8_redo_1 ?_
  refine cg_X8_161 (v := S0.1 10) hx hb hts hown hK hP rfl dX8_redo_4 ?_
  refine lv_if_ne (tgt := 12) hx hb dX8_redo_7 (by decide) (fun c1 => ?_) (fun c1 => ?_)
  · replace hT := hT.1 c1
    refine lv_aload_n hx hb dX8_redo_12 rfl (lv_at hl 0 rfl) ?_
    refine lv_aload_n hx hb dX8_redo_13 rfl (lv_at hl 0 rfl) ?_
    refine cg_X8_26 hx hb hts hown hK hP dX8_redo_14 ?_
    refine lv_aload_n hx hb dX8_redo_17 rfl (lv_at hl 0 rfl) ?_
    refine cg_X8_73 (v := S0.1 0) hx hb hts hown hK hP rfl dX8_redo_18 ?_
    refine ccallVI (n := 1) (b := ad 3) (C := RX4) (As := [.int (S0.1 0)]) (rest := [.ref (ad 0)]) hT hx hb hml hown hts hK hZ hA hP hD hS hl gc_X8_164 hdc_X4_stepOn (va_recv hK hP rfl cob_3) ⟨Nat.le_of_ble_eq_true rfl, Nat.le_of_ble_eq_true rfl⟩ rfl rfl rfl (Nat.le_of_ble_eq_true rfl) dX8_redo_21 (Nat.le_refl _) (Nat.le_refl _) (fun r3 S2 vd H locs hP hD hS hT => ?_)
    refine cp_X8_73 hx hb hts hown hK hP hD hS dX8_redo_24 (fun H locs hP hD hS => ?_)
    refine lv_iconst (v := 1) hx hb dX8_redo_27 (by decide) ?_
    exact hret _ _ _ _ _ _ _ _ _ hP hD hS (Nat.le_refl _) (Nat.le_refl _) hT dX8_redo_28
  · replace hT := hT.2 c1
    refine lv_iconst (v := 0) hx hb dX8_redo_10 (by decide) ?_
    exact hret _ _ _ _ _ _ _ _ _ hP hD hS (Nat.le_refl _) (Nat.le_refl _) hT dX8_redo_11
abbrev cX_X3_spread (l : Launch) (S : CS) (post : CS → Prop) : Prop := cCtV l yX3_spread cX3_spread 4 1 25 0 0 (fun ad => [.ref (ad 2), .ref (ad 1)]) S post
def cT_X3_spread_7 (l : Launch) (post : CS → Prop) (B7 : CS → Int32 → Prop) (B30 : CS → Int32 → Int32 → Prop) (B107 : CS → Int32 → Int32 → Prop) (B113 : CS → Int32 → Prop) (S : CS) (x2 : Int32) : Prop := (S.1 3 ≤ x2 → post S) ∧ (¬ S.1 3 ≤ x2 → vp_in x2 5 ∧ (¬ S.2.1 14 x2.toNatClampNeg = (-1) → B30 S x2 0) ∧ (S.2.1 14 x2.toNatClampNeg = (-1) → B113 S x2))
def cT_X3_spread_30 (l : Launch) (post : CS → Prop) (B7 : CS → Int32 → Prop) (B30 : CS → Int32 → Int32 → Prop) (B107 : CS → Int32 → Int32 → Prop) (B113 : CS → Int32 → Prop) (S : CS) (x2 : Int32) (x3 : Int32) : Prop := (S.1 3 ≤ x3 → B113 S x2) ∧ (¬ S.1 3 ≤ x3 → cX_X3_hindrance l S x2 x3 (fun r6 S5 => (¬ r6 = 0 → B107 S5 x2 x3) ∧ (r6 = 0 → vp_in (S5.1 6) 25 ∧ cX_X3_landing l (ca S5 17 (upd (S5.2.1 17) (S5.1 6).toNatClampNeg ((10 * x2) + x3))) x2 x3 (fun r10 S9 => vp_in (S5.1 6) 25 ∧ vp_in ((x2 * 5) + x3) 25 ∧ vp_in (S9.1 6) 25 ∧ B107 (cf (ca (ca S9 18 (upd (S9.2.1 18) (S5.1 6).toNatClampNeg r10)) 19 (upd (S9.2.1 19) (S9.1 6).toNatClampNeg (S9.2.1 11 ((x2 * 5) + x3).toNatClampNeg))) 6 ((S9.1 6) + 1)) x2 x3))))
def cT_X3_spread_107 (l : Launch) (post : CS → Prop) (B7 : CS → Int32 → Prop) (B30 : CS → Int32 → Int32 → Prop) (B107 : CS → Int32 → Int32 → Prop) (B113 : CS → Int32 → Prop) (S : CS) (x2 : Int32) (x3 : Int32) : Prop := B30 S x2 (x3 + 1)
def cT_X3_spread_113 (l : Launch) (post : CS → Prop) (B7 : CS → Int32 → Prop) (B30 : CS → Int32 → Int32 → Prop) (B107 : CS → Int32 → Int32 → Prop) (B113 : CS → Int32 → Prop) (S : CS) (x2 : Int32) : Prop := B7 S (x2 + 1)
def cT_X3_spread_e (l : Launch) (post : CS → Prop) (B7 : CS → Int32 → Prop) (B30 : CS → Int32 → Int32 → Prop) (B107 : CS → Int32 → Int32 → Prop) (B113 : CS → Int32 → Prop) (S0 : CS) : Prop := B7 (cf S0 6 0) 0
set_option maxHeartbeats 4000000 in
set_option maxRecDepth 100000 in
theorem c_X3_spread (l : Launch) (S0 : CS) (post : CS → Prop) (h : ∀ (B7 : CS → Int32 → Prop) (B30 : CS → Int32 → Int32 → Prop) (B107 : CS → Int32 → Int32 → Prop) (B113 : CS → Int32 → Prop), (∀ (S : CS) (x2 : Int32), cT_X3_spread_7 l post B7 B30 B107 B113 S x2 → B7 S x2) → (∀ (S : CS) (x2 : Int32) (x3 : Int32), cT_X3_spread_30 l post B7 B30 B107 B113 S x2 x3 → B30 S x2 x3) → (∀ (S : CS) (x2 : Int32) (x3 : Int32), cT_X3_spread_107 l post B7 B30 B107 B113 S x2 x3 → B107 S x2 x3) → (∀ (S : CS) (x2 : Int32), cT_X3_spread_113 l post B7 B30 B107 B113 S x2 → B113 S x2) → cT_X3_spread_e l post B7 B30 B107 B113 S0) : cX_X3_spread l S0 post := by
  refine csetV rfl (fun _ => Nat.le_of_ble_eq_true rfl) ?_
  intro p e s m args below meth c D ad vd cI cZ cL cG X A Q hx hb hml hown hts hK hZ hA hret H locs ls hP hD hS hl
  replace hl : lv_has ls 4 [(0, .ref (ad 2)), (1, .ref (ad 1))] := hl
  obtain ⟨B7, hB7⟩ : ∃ B : CS → Int32 → Prop, B = (fun S x2 => ∀ (vd : Nat → Nat) (H : Heap) (locs : List Loc) (ls : Array Slot), va_P D vwCl (cW ad vd cI cZ cL cG S ++ X) H → va_D A (cW ad vd cI cZ cL cG S ++ X) → va_S A s.heap H locs → lv_has ls 4 [(0, .ref (ad 2)), (1, .ref (ad 1)), (2, .int x2)] → W p l e (crm 1 25 0 0) s m args below meth c H locs 0 0 Q (F0 m 7 ls [])) := ⟨_, rfl⟩
  obtain ⟨B30, hB30⟩ : ∃ B : CS → Int32 → Int32 → Prop, B = (fun S x2 x3 => ∀ (vd : Nat → Nat) (H : Heap) (locs : List Loc) (ls : Array Slot), va_P D vwCl (cW ad vd cI cZ cL cG S ++ X) H → va_D A (cW ad vd cI cZ cL cG S ++ X) → va_S A s.heap H locs → lv_has ls 4 [(0, .ref (ad 2)), (1, .ref (ad 1)), (2, .int x2), (3, .int x3)] → W p l e (crm 1 25 0 0) s m args below meth c H locs 0 0 Q (F0 m 30 ls [])) := ⟨_, rfl⟩
  obtain ⟨B107, hB107⟩ : ∃ B : CS → Int32 → Int32 → Prop, B = (fun S x2 x3 => ∀ (vd : Nat → Nat) (H : Heap) (locs : List Loc) (ls : Array Slot), va_P D vwCl (cW ad vd cI cZ cL cG S ++ X) H → va_D A (cW ad vd cI cZ cL cG S ++ X) → va_S A s.heap H locs → lv_has ls 4 [(0, .ref (ad 2)), (1, .ref (ad 1)), (2, .int x2), (3, .int x3)] → W p l e (crm 1 25 0 0) s m args below meth c H locs 0 0 Q (F0 m 107 ls [])) := ⟨_, rfl⟩
  obtain ⟨B113, hB113⟩ : ∃ B : CS → Int32 → Prop, B = (fun S x2 => ∀ (vd : Nat → Nat) (H : Heap) (locs : List Loc) (ls : Array Slot), va_P D vwCl (cW ad vd cI cZ cL cG S ++ X) H → va_D A (cW ad vd cI cZ cL cG S ++ X) → va_S A s.heap H locs → lv_has ls 4 [(0, .ref (ad 2)), (1, .ref (ad 1)), (2, .int x2)] → W p l e (crm 1 25 0 0) s m args below meth c H locs 0 0 Q (F0 m 113 ls [])) := ⟨_, rfl⟩
  have hT : cT_X3_spread_e l post B7 B30 B107 B113 S0 := by
    refine h B7 B30 B107 B113 ?_ ?_ ?_ ?_
    · clear hP hD hS hl H locs ls vd
      intro S x2 hT
      unfold cT_X3_spread_7 at hT
      rw [hB7]
      intro vd H locs ls hP hD hS hl
      refine lv_iload_n hx hb dX3_spread_7 rfl (lv_at hl 2 rfl) ?_
      refine lv_aload_n hx hb dX3_spread_8 rfl (lv_at hl 1 rfl) ?_
      refine cg_X3_55 (v := S.1 3) hx hb hts hown hK hP rfl dX3_spread_9 ?_
      refine lv_icmp_ge (tgt := 119) hx hb dX3_spread_12 (by decide) (fun c1 => ?_) (fun c1 => ?_)
      · replace hT := hT.1 c1
        exact hret _ _ _ _ _ _ _ _ hP hD hS (Nat.le_refl _) (Nat.le_refl _) hT dX3_spread_119
      · replace hT := hT.2 c1
        refine lv_aload_n hx hb dX3_spread_15 rfl (lv_at hl 0 rfl) ?_
        refine cg_X3_15 hx hb hts hown hK hP dX3_spread_16 ?_
        refine lv_iload_n hx hb dX3_spread_19 rfl (lv_at hl 2 rfl) ?_
        obtain ⟨hi2, hT⟩ := hT
        refine va_iald (f := S.2.1 14) hx hb hK hP 14 0 cat_14 rfl hi2 dX3_spread_20 ?_
        refine lv_iconst (v := (-1)) hx hb dX3_spread_21 (by decide) ?_
        refine lv_icmp_ne (tgt := 28) hx hb dX3_spread_22 (by decide) (fun c3 => ?_) (fun c3 => ?_)
        · replace hT := hT.1 c3
          refine lv_iconst (v := 0) hx hb dX3_spread_28 (by decide) ?_
          refine lv_istore_n (lv' := [(3, .int 0), (0, .ref (ad 2)), (1, .ref (ad 1)), (2, .int x2)]) hx hb dX3_spread_29 rfl hl (by decide) rfl (fun ls hl => ?_)
          rw [hB30] at hT
          exact hT _ _ _ _ hP hD hS (lv_sub hl [1, 2, 3, 0] rfl)
        · replace hT := hT.2 c3
          refine lv_goto (tgt := 113) hx hb dX3_spread_25 (by decide) ?_
          rw [hB113] at hT
          exact hT _ _ _ _ hP hD hS (lv_sub hl [0, 1, 2] rfl)
    · clear hP hD hS hl H locs ls vd
      intro S x2 x3 hT
      unfold cT_X3_spread_30 at hT
      rw [hB30]
      intro vd H locs ls hP hD hS hl
      refine lv_iload_n hx hb dX3_spread_30 rfl (lv_at hl 3 rfl) ?_
      refine lv_aload_n hx hb dX3_spread_31 rfl (lv_at hl 1 rfl) ?_
      refine cg_X3_55 (v := S.1 3) hx hb hts hown hK hP rfl dX3_spread_32 ?_
      refine lv_icmp_ge (tgt := 113) hx hb dX3_spread_35 (by decide) (fun c4 => ?_) (fun c4 => ?_)
      · replace hT := hT.1 c4
        rw [hB113] at hT
        exact hT _ _ _ _ hP hD hS (lv_sub hl [0, 1, 2] rfl)
      · replace hT := hT.2 c4
        refine lv_aload_n hx hb dX3_spread_38 rfl (lv_at hl 0 rfl) ?_
        refine lv_aload_n hx hb dX3_spread_39 rfl (lv_at hl 1 rfl) ?_
        refine lv_iload_n hx hb dX3_spread_40 rfl (lv_at hl 2 rfl) ?_
        refine lv_iload_n hx hb dX3_spread_41 rfl (lv_at hl 3 rfl) ?_
        refine ccallVI (n := 3) (b := ad 2) (C := RX3) (As := [.ref (ad 1), .int x2, .int x3]) (rest := []) hT hx hb hml hown hts hK hZ hA hP hD hS hl gc_X3_75 hdc_X3_hindrance (va_recv hK hP rfl cob_2) ⟨Nat.le_of_ble_eq_true rfl, Nat.le_of_ble_eq_true rfl⟩ rfl rfl rfl (Nat.le_of_ble_eq_true rfl) dX3_spread_42 (Nat.le_refl _) (Nat.le_refl _) (fun r6 S5 vd H locs hP hD hS hT => ?_)
        refine lv_if_ne (tgt := 107) hx hb dX3_spread_45 (by decide) (fun c7 => ?_) (fun c7 => ?_)
        · replace hT := hT.1 c7
          rw [hB107] at hT
          exact hT _ _ _ _ hP hD hS (lv_sub hl [0, 1, 2, 3] rfl)
        · replace hT := hT.2 c7
          refine lv_aload_n hx hb dX3_spread_48 rfl (lv_at hl 0 rfl) ?_
          refine cg_X3_24 hx hb hts hown hK hP dX3_spread_49 ?_
          refine lv_aload_n hx hb dX3_spread_52 rfl (lv_at hl 0 rfl) ?_
          refine cg_X3_72 (v := S5.1 6) hx hb hts hown hK hP rfl dX3_spread_53 ?_
          refine lv_bipush (v := 10) hx hb dX3_spread_56 (by decide) ?_
          refine lv_iload_n hx hb dX3_spread_58 rfl (lv_at hl 2 rfl) ?_
          refine lv_imul hx hb dX3_spread_59 ?_
          refine lv_iload_n hx hb dX3_spread_60 rfl (lv_at hl 3 rfl) ?_
          refine lv_iadd hx hb dX3_spread_61 ?_
          obtain ⟨hi8, hT⟩ := hT
          refine va_iast (f := S5.2.1 17) hx hb hK hP hD hS 17 0 cat_17 rfl hi8 dX3_spread_62 (fun H locs hP hD hS => ?_)
          replace hP := csetP_17 hP
          replace hD := csetD_17 hD
          refine lv_aload_n hx hb dX3_spread_63 rfl (lv_at hl 0 rfl) ?_
          refine cg_X3_27 hx hb hts hown hK hP dX3_spread_64 ?_
          refine lv_aload_n hx hb dX3_spread_67 rfl (lv_at hl 0 rfl) ?_
          refine cg_X3_72 (v := S5.1 6) hx hb hts hown hK hP rfl dX3_spread_68 ?_
          refine lv_aload_n hx hb dX3_spread_71 rfl (lv_at hl 0 rfl) ?_
          refine lv_iload_n hx hb dX3_spread_72 rfl (lv_at hl 2 rfl) ?_
          refine lv_iload_n hx hb dX3_spread_73 rfl (lv_at hl 3 rfl) ?_
          refine ccallVI (n := 2) (b := ad 2) (C := RX3) (As := [.int x2, .int x3]) (rest := [.int (S5.1 6), .ref (ad 18)]) hT hx hb hml hown hts hK hZ hA hP hD hS hl gc_X3_79 hdc_X3_landing (va_recv hK hP rfl cob_2) ⟨Nat.le_of_ble_eq_true rfl, Nat.le_of_ble_eq_true rfl⟩ rfl rfl rfl (Nat.le_of_ble_eq_true rfl) dX3_spread_74 (Nat.le_refl _) (Nat.le_refl _) (fun r10 S9 vd H locs hP hD hS hT => ?_)
          obtain ⟨hi11, hT⟩ := hT
          refine va_iast (f := S9.2.1 18) hx hb hK hP hD hS 18 0 cat_18 rfl hi11 dX3_spread_77 (fun H locs hP hD hS => ?_)
          replace hP := csetP_18 hP
          replace hD := csetD_18 hD
          refine lv_aload_n hx hb dX3_spread_78 rfl (lv_at hl 0 rfl) ?_
          refine cg_X3_30 hx hb hts hown hK hP dX3_spread_79 ?_
          refine lv_aload_n hx hb dX3_spread_82 rfl (lv_at hl 0 rfl) ?_
          refine cg_X3_72 (v := S9.1 6) hx hb hts hown hK hP rfl dX3_spread_83 ?_
          refine lv_aload_n hx hb dX3_spread_86 rfl (lv_at hl 1 rfl) ?_
          refine cg_X3_65 hx hb hts hown hK hP dX3_spread_87 ?_
          refine lv_iload_n hx hb dX3_spread_90 rfl (lv_at hl 2 rfl) ?_
          refine lv_iconst (v := 5) hx hb dX3_spread_91 (by decide) ?_
          refine lv_imul hx hb dX3_spread_92 ?_
          refine lv_iload_n hx hb dX3_spread_93 rfl (lv_at hl 3 rfl) ?_
          refine lv_iadd hx hb dX3_spread_94 ?_
          obtain ⟨hi12, hT⟩ := hT
          refine va_iald (f := S9.2.1 11) hx hb hK hP 11 0 cat_11 rfl hi12 dX3_spread_95 ?_
          obtain ⟨hi13, hT⟩ := hT
          refine va_iast (f := S9.2.1 19) hx hb hK hP hD hS 19 0 cat_19 rfl hi13 dX3_spread_96 (fun H locs hP hD hS => ?_)
          replace hP := csetP_19 hP
          replace hD := csetD_19 hD
          refine lv_aload_n hx hb dX3_spread_97 rfl (lv_at hl 0 rfl) ?_
          refine lv_dup hx hb dX3_spread_98 rfl ?_
          refine cg_X3_72 (v := S9.1 6) hx hb hts hown hK hP rfl dX3_spread_99 ?_
          refine lv_iconst (v := 1) hx hb dX3_spread_102 (by decide) ?_
          refine lv_iadd hx hb dX3_spread_103 ?_
          refine cp_X3_72 hx hb hts hown hK hP hD hS dX3_spread_104 (fun H locs hP hD hS => ?_)
          rw [hB107] at hT
          exact hT _ _ _ _ hP hD hS (lv_sub hl [0, 1, 2, 3] rfl)
    · clear hP hD hS hl H locs ls vd
      intro S x2 x3 hT
      unfold cT_X3_spread_107 at hT
      rw [hB107]
      intro vd H locs ls hP hD hS hl
      refine lv_iinc (v := x3 + 1) (lv' := [(3, .int (x3 + 1)), (0, .ref (ad 2)), (1, .ref (ad 1)), (2, .int x2)]) hx hb dX3_spread_107 hl (k := 3) rfl rfl (by decide) rfl (fun ls hl => ?_)
      refine lv_goto (tgt := 30) hx hb dX3_spread_110 (by decide) ?_
      rw [hB30] at hT
      exact hT _ _ _ _ hP hD hS (lv_sub hl [1, 2, 3, 0] rfl)
    · clear hP hD hS hl H locs ls vd
      intro S x2 hT
      unfold cT_X3_spread_113 at hT
      rw [hB113]
      intro vd H locs ls hP hD hS hl
      refine lv_iinc (v := x2 + 1) (lv' := [(2, .int (x2 + 1)), (0, .ref (ad 2)), (1, .ref (ad 1))]) hx hb dX3_spread_113 hl (k := 2) rfl rfl (by decide) rfl (fun ls hl => ?_)
      refine lv_goto (tgt := 7) hx hb dX3_spread_116 (by decide) ?_
      rw [hB7] at hT
      exact hT _ _ _ _ hP hD hS (lv_sub hl [1, 2, 0] rfl)
  unfold cT_X3_spread_e at hT
  refine lv_aload_n hx hb dX3_spread_0 rfl (lv_at hl 0 rfl) ?_
  refine lv_iconst (v := 0) hx hb dX3_spread_1 (by decide) ?_
  refine cp_X3_72 hx hb hts hown hK hP hD hS dX3_spread_2 (fun H locs hP hD hS => ?_)
  refine lv_iconst (v := 0) hx hb dX3_spread_5 (by decide) ?_
  refine lv_istore_n (lv' := [(2, .int 0), (0, .ref (ad 2)), (1, .ref (ad 1))]) hx hb dX3_spread_6 rfl hl (by decide) rfl (fun ls hl => ?_)
  rw [hB7] at hT
  exact hT _ _ _ _ hP hD hS (lv_sub hl [1, 2, 0] rfl)
abbrev cX_X8_moves (l : Launch) (S : CS) (post : Int32 → CS → Prop) : Prop := cCtI l yX8_moves cX8_moves 1 3 86 0 0 (fun ad => [.ref (ad 0)]) S post
def cT_X8_moves_e (l : Launch) (post : Int32 → CS → Prop) (S0 : CS) : Prop := cX_X3_read l S0 (S0.1 0) (fun S1 => cX_X3_spread l S1 (fun S2 => post (S2.1 6) S2))
set_option maxHeartbeats 4000000 in
set_option maxRecDepth 100000 in
theorem c_X8_moves (l : Launch) (S0 : CS) (post : Int32 → CS → Prop) (h : cT_X8_moves_e l post S0) : cX_X8_moves l S0 post := by
  refine csetI rfl (fun _ => Nat.le_of_ble_eq_true rfl) ?_
  intro p e s m args below meth c D ad vd cI cZ cL cG X A Q hx hb hml hown hts hK hZ hA hret H locs ls hP hD hS hl
  replace hl : lv_has ls 1 [(0, .ref (ad 0))] := hl
  have hT := h
  unfold cT_X8_moves_e at hT
  refine lv_aload_n hx hb dX8_moves_0 rfl (lv_at hl 0 rfl) ?_
  refine cg_X8_19 hx hb hts hown hK hP dX8_moves_1 ?_
  refine lv_aload_n hx hb dX8_moves_4 rfl (lv_at hl 0 rfl) ?_
  refine cg_X8_10 hx hb hts hown hK hP dX8_moves_5 ?_
  refine lv_aload_n hx hb dX8_moves_8 rfl (lv_at hl 0 rfl) ?_
  refine cg_X8_73 (v := S0.1 0) hx hb hts hown hK hP rfl dX8_moves_9 ?_
  refine ccallVV (n := 2) (b := ad 2) (C := RX3) (As := [.ref (ad 1), .int (S0.1 0)]) (rest := []) hT hx hb hml hown hts hK hZ hA hP hD hS hl gc_X8_120 hdc_X3_read (va_recv hK hP rfl cob_2) ⟨Nat.le_of_ble_eq_true rfl, Nat.le_of_ble_eq_true rfl⟩ rfl rfl rfl (Nat.le_of_ble_eq_true rfl) dX8_moves_12 (Nat.le_refl _) (Nat.le_refl _) (fun S1 vd H locs hP hD hS hT => ?_)
  refine lv_aload_n hx hb dX8_moves_15 rfl (lv_at hl 0 rfl) ?_
  refine cg_X8_19 hx hb hts hown hK hP dX8_moves_16 ?_
  refine lv_aload_n hx hb dX8_moves_19 rfl (lv_at hl 0 rfl) ?_
  refine cg_X8_10 hx hb hts hown hK hP dX8_moves_20 ?_
  refine ccallVV (n := 1) (b := ad 2) (C := RX3) (As := [.ref (ad 1)]) (rest := []) hT hx hb hml hown hts hK hZ hA hP hD hS hl gc_X8_167 hdc_X3_spread (va_recv hK hP rfl cob_2) ⟨Nat.le_of_ble_eq_true rfl, Nat.le_of_ble_eq_true rfl⟩ rfl rfl rfl (Nat.le_of_ble_eq_true rfl) dX8_moves_23 (Nat.le_refl _) (Nat.le_refl _) (fun S2 vd H locs hP hD hS hT => ?_)
  refine lv_aload_n hx hb dX8_moves_26 rfl (lv_at hl 0 rfl) ?_
  refine cg_X8_19 hx hb hts hown hK hP dX8_moves_27 ?_
  refine cg_X8_171 (v := S2.1 6) hx hb hts hown hK hP rfl dX8_moves_30 ?_
  exact hret _ _ _ _ _ _ _ _ _ hP hD hS (Nat.le_refl _) (Nat.le_refl _) hT dX8_moves_33
abbrev cX_X6_prepare (l : Launch) (mc ms : Nat) (S : CS) (a1 : Int32) (post : CS → Prop) : Prop := cCtV l yX6_prepare cX6_prepare 2 2 60 mc ms (fun ad => [.ref (ad 5), .int a1]) S post
def cT_X6_prepare_51 (l : Launch) (mc ms : Nat) (a1 : Int32) (post : CS → Prop) (B51 : Nat → Nat → CS → Prop) (kc ks : Nat) (S : CS) : Prop := S.2.2.2 24 < 2147483648 ∧ kc ≤ mc ∧ ks ≤ ms ∧ kc ≤ mc ∧ ks ≤ ms ∧ S.2.2.2 25 < 2147483648 ∧ kc ≤ mc ∧ ks ≤ ms ∧ kc ≤ mc ∧ ks ≤ ms ∧ post (cf (cj (ca (ca S 24 (filI (S.2.1 24) (S.2.2.2 24) (-1))) 23 (filI (S.2.1 23) 128 (-1))) 25 (filL (S.2.2.1 25) (S.2.2.2 25) 0)) 13 0)
def cT_X6_prepare_e (l : Launch) (mc ms : Nat) (a1 : Int32) (post : CS → Prop) (B51 : Nat → Nat → CS → Prop) (S0 : CS) : Prop := (a1 ≤ nI (S0.2.2.2 24) → B51 0 0 S0) ∧ (¬ a1 ≤ nI (S0.2.2.2 24) → ¬ a1 < 0 ∧ a1.toNatClampNeg * 8 ≤ 536870912 ∧ 0 + 1 ≤ mc ∧ 0 + a1.toNatClampNeg ≤ ms ∧ ¬ a1 < 0 ∧ a1.toNatClampNeg * 8 ≤ 536870912 ∧ 0 + 1 + 1 ≤ mc ∧ 0 + a1.toNatClampNeg + a1.toNatClampNeg ≤ ms ∧ ¬ a1 < 0 ∧ a1.toNatClampNeg * 8 ≤ 536870912 ∧ 0 + 1 + 1 + 1 ≤ mc ∧ 0 + a1.toNatClampNeg + a1.toNatClampNeg + a1.toNatClampNeg ≤ ms ∧ ¬ a1 < 0 ∧ a1.toNatClampNeg * 8 ≤ 536870912 ∧ 0 + 1 + 1 + 1 + 1 ≤ mc ∧ 0 + a1.toNatClampNeg + a1.toNatClampNeg + a1.toNatClampNeg + a1.toNatClampNeg ≤ ms ∧ ¬ a1 < 0 ∧ a1.toNatClampNeg * 8 ≤ 536870912 ∧ 0 + 1 + 1 + 1 + 1 + 1 ≤ mc ∧ 0 + a1.toNatClampNeg + a1.toNatClampNeg + a1.toNatClampNeg + a1.toNatClampNeg + a1.toNatClampNeg ≤ ms ∧ ¬ a1 < 0 ∧ a1.toNatClampNeg * 8 ≤ 536870912 ∧ 0 + 1 + 1 + 1 + 1 + 1 + 1 ≤ mc ∧ 0 + a1.toNatClampNeg + a1.toNatClampNeg + a1.toNatClampNeg + a1.toNatClampNeg + a1.toNatClampNeg + a1.toNatClampNeg ≤ ms ∧ B51 (0 + 1 + 1 + 1 + 1 + 1 + 1) (0 + a1.toNatClampNeg + a1.toNatClampNeg + a1.toNatClampNeg + a1.toNatClampNeg + a1.toNatClampNeg + a1.toNatClampNeg) (cn (ca (cn (ca (cn (ca (cn (ca (cn (cj (cn (ca S0 24 (fun _ => 0)) 24 a1.toNatClampNeg) 25 (fun _ => 0)) 25 a1.toNatClampNeg) 26 (fun _ => 0)) 26 a1.toNatClampNeg) 27 (fun _ => 0)) 27 a1.toNatClampNeg) 28 (fun _ => 0)) 28 a1.toNatClampNeg) 29 (fun _ => 0)) 29 a1.toNatClampNeg))
set_option maxHeartbeats 4000000 in
set_option maxRecDepth 100000 in
theorem c_X6_prepare (l : Launch) (mc ms : Nat) (S0 : CS) (a1 : Int32) (post : CS → Prop) (h : ∀ (B51 : Nat → Nat → CS → Prop), (∀ (kc ks : Nat) (S : CS) , cT_X6_prepare_51 l mc ms a1 post B51 kc ks S → B51 kc ks S ) → cT_X6_prepare_e l mc ms a1 post B51 S0) : cX_X6_prepare l mc ms S0 a1 post := by
  refine csetV rfl (fun _ => Nat.le_of_ble_eq_true rfl) ?_
  intro p e s m args below meth c D ad vd cI cZ cL cG X A Q hx hb hml hown hts hK hZ hA hret H locs ls hP hD hS hl
  replace hl : lv_has ls 2 [(0, .ref (ad 5)), (1, .int a1)] := hl
  obtain ⟨B51, hB51⟩ : ∃ B : Nat → Nat → CS → Prop, B = (fun kc ks S => ∀ (vd : Nat → Nat) (H : Heap) (locs : List Loc) (ls : Array Slot), va_P D vwCl (cW ad vd cI cZ cL cG S ++ X) H → va_D A (cW ad vd cI cZ cL cG S ++ X) → va_S A s.heap H locs → lv_has ls 2 [(0, .ref (ad 5))] → W p l e (crm 2 60 mc ms) s m args below meth c H locs kc ks Q (F0 m 51 ls [])) := ⟨_, rfl⟩
  have hT : cT_X6_prepare_e l mc ms a1 post B51 S0 := by
    refine h B51 ?_
    · clear hP hD hS hl H locs ls vd
      intro kc ks S hT
      unfold cT_X6_prepare_51 at hT
      rw [hB51]
      intro vd H locs ls hP hD hS hl
      refine lv_aload_n hx hb dX6_prepare_51 rfl (lv_at hl 0 rfl) ?_
      refine cg_X6_15 hx hb hts hown hK hP dX6_prepare_52 ?_
      refine lv_iconst (v := (-1)) hx hb dX6_prepare_55 (by decide) ?_
      obtain ⟨hn1, hT⟩ := hT
      obtain ⟨hk2, hk3, hT⟩ := hT
      refine cfill_filI (S := S) (f := S.2.1 24) (n := (S.2.2.2 24)) (v := (-1)) 24 cat_24 hn1 hx hb hml hown hts hK hA hP hD hS hl gf_X6_80 ⟨Nat.le_of_ble_eq_true rfl, Nat.le_of_ble_eq_true rfl⟩ (Nat.le_of_ble_eq_true rfl) dX6_prepare_56 hk2 hk3 (fun H locs hP hD hS => ?_)
      replace hP := csetP_24 hP
      replace hD := csetD_24 hD
      refine lv_aload_n hx hb dX6_prepare_59 rfl (lv_at hl 0 rfl) ?_
      refine cg_X6_11 hx hb hts hown hK hP dX6_prepare_60 ?_
      refine lv_iconst (v := (-1)) hx hb dX6_prepare_63 (by decide) ?_
      obtain ⟨hk4, hk5, hT⟩ := hT
      refine cfill_filI (S := ca S 24 (filI (S.2.1 24) (S.2.2.2 24) (-1))) (f := S.2.1 23) (n := 128) (v := (-1)) 23 cat_23 (by decide) hx hb hml hown hts hK hA hP hD hS hl gf_X6_80 ⟨Nat.le_of_ble_eq_true rfl, Nat.le_of_ble_eq_true rfl⟩ (Nat.le_of_ble_eq_true rfl) dX6_prepare_64 hk4 hk5 (fun H locs hP hD hS => ?_)
      replace hP := csetP_23 hP
      replace hD := csetD_23 hD
      refine lv_aload_n hx hb dX6_prepare_67 rfl (lv_at hl 0 rfl) ?_
      refine cg_X6_18 hx hb hts hown hK hP dX6_prepare_68 ?_
      refine lv_lconst (v := 0) hx hb dX6_prepare_71 (by decide) ?_
      obtain ⟨hn6, hT⟩ := hT
      obtain ⟨hk7, hk8, hT⟩ := hT
      refine cfill_filL (S := ca (ca S 24 (filI (S.2.1 24) (S.2.2.2 24) (-1))) 23 (filI (S.2.1 23) 128 (-1))) (f := S.2.2.1 25) (n := (S.2.2.2 25)) (v := 0) 25 cat_25 hn6 hx hb hml hown hts hK hA hP hD hS hl gf_X6_86 ⟨Nat.le_of_ble_eq_true rfl, Nat.le_of_ble_eq_true rfl⟩ (Nat.le_of_ble_eq_true rfl) dX6_prepare_72 hk7 hk8 (fun H locs hP hD hS => ?_)
      replace hP := csetP_25 hP
      replace hD := csetD_25 hD
      refine lv_aload_n hx hb dX6_prepare_75 rfl (lv_at hl 0 rfl) ?_
      refine lv_iconst (v := 0) hx hb dX6_prepare_76 (by decide) ?_
      refine cp_X6_58 hx hb hts hown hK hP hD hS dX6_prepare_77 (fun H locs hP hD hS => ?_)
      obtain ⟨hkc, hks, hT⟩ := hT
      exact hret _ _ _ _ _ _ _ _ hP hD hS hkc hks hT dX6_prepare_80
  unfold cT_X6_prepare_e at hT
  refine lv_aload_n hx hb dX6_prepare_0 rfl (lv_at hl 0 rfl) ?_
  refine cg_X6_15 hx hb hts hown hK hP dX6_prepare_1 ?_
  refine va_alen (v := nI (S0.2.2.2 24)) hx hb hK hP 24 0 cat_24 rfl rfl dX6_prepare_4 ?_
  refine lv_iload_n hx hb dX6_prepare_5 rfl (lv_at hl 1 rfl) ?_
  refine lv_icmp_ge (tgt := 51) hx hb dX6_prepare_6 (by decide) (fun c9 => ?_) (fun c9 => ?_)
  · replace hT := hT.1 c9
    rw [hB51] at hT
    exact hT _ _ _ _ hP hD hS (lv_sub hl [0] rfl)
  · replace hT := hT.2 c9
    refine lv_aload_n hx hb dX6_prepare_9 rfl (lv_at hl 0 rfl) ?_
    refine lv_iload_n hx hb dX6_prepare_10 rfl (lv_at hl 1 rfl) ?_
    obtain ⟨hk10, hk11, hk12, hk13, hT⟩ := hT
    refine cnp_X6_15 hx hb hts hown hK hP hD hS hA hk10 hk11 hk12 hk13 dX6_prepare_11 dX6_prepare_13 (fun vd H locs hP hD hS => ?_)
    refine lv_aload_n hx hb dX6_prepare_16 rfl (lv_at hl 0 rfl) ?_
    refine lv_iload_n hx hb dX6_prepare_17 rfl (lv_at hl 1 rfl) ?_
    obtain ⟨hk14, hk15, hk16, hk17, hT⟩ := hT
    refine cnp_X6_18 hx hb hts hown hK hP hD hS hA hk14 hk15 hk16 hk17 dX6_prepare_18 dX6_prepare_20 (fun vd H locs hP hD hS => ?_)
    refine lv_aload_n hx hb dX6_prepare_23 rfl (lv_at hl 0 rfl) ?_
    refine lv_iload_n hx hb dX6_prepare_24 rfl (lv_at hl 1 rfl) ?_
    obtain ⟨hk18, hk19, hk20, hk21, hT⟩ := hT
    refine cnp_X6_22 hx hb hts hown hK hP hD hS hA hk18 hk19 hk20 hk21 dX6_prepare_25 dX6_prepare_27 (fun vd H locs hP hD hS => ?_)
    refine lv_aload_n hx hb dX6_prepare_30 rfl (lv_at hl 0 rfl) ?_
    refine lv_iload_n hx hb dX6_prepare_31 rfl (lv_at hl 1 rfl) ?_
    obtain ⟨hk22, hk23, hk24, hk25, hT⟩ := hT
    refine cnp_X6_25 hx hb hts hown hK hP hD hS hA hk22 hk23 hk24 hk25 dX6_prepare_32 dX6_prepare_34 (fun vd H locs hP hD hS => ?_)
    refine lv_aload_n hx hb dX6_prepare_37 rfl (lv_at hl 0 rfl) ?_
    refine lv_iload_n hx hb dX6_prepare_38 rfl (lv_at hl 1 rfl) ?_
    obtain ⟨hk26, hk27, hk28, hk29, hT⟩ := hT
    refine cnp_X6_28 hx hb hts hown hK hP hD hS hA hk26 hk27 hk28 hk29 dX6_prepare_39 dX6_prepare_41 (fun vd H locs hP hD hS => ?_)
    refine lv_aload_n hx hb dX6_prepare_44 rfl (lv_at hl 0 rfl) ?_
    refine lv_iload_n hx hb dX6_prepare_45 rfl (lv_at hl 1 rfl) ?_
    obtain ⟨hk30, hk31, hk32, hk33, hT⟩ := hT
    refine cnp_X6_31 hx hb hts hown hK hP hD hS hA hk30 hk31 hk32 hk33 dX6_prepare_46 dX6_prepare_48 (fun vd H locs hP hD hS => ?_)
    rw [hB51] at hT
    exact hT _ _ _ _ hP hD hS (lv_sub hl [0] rfl)
abbrev cX_X6_takeOut (l : Launch) (S : CS) (a1 : Int32) (post : CS → Prop) : Prop := cCtV l yX6_takeOut cX6_takeOut 4 0 0 0 0 (fun ad => [.ref (ad 5), .int a1]) S post
def cT_X6_takeOut_44 (l : Launch) (a1 : Int32) (post : CS → Prop) (B44 : CS → Int32 → Int32 → Prop) (S : CS) (x2 : Int32) (x3 : Int32) : Prop := (x3 = (-1) → post S) ∧ (¬ x3 = (-1) → vp_in x3 (S.2.2.2 28) ∧ post (ca S 28 (upd (S.2.1 28) x3.toNatClampNeg x2)))
def cT_X6_takeOut_e (l : Launch) (a1 : Int32) (post : CS → Prop) (B44 : CS → Int32 → Int32 → Prop) (S0 : CS) : Prop := vp_in a1 (S0.2.2.2 28) ∧ ∀ v2_4 : Int32, v2_4 = S0.2.1 28 a1.toNatClampNeg → vp_in a1 (S0.2.2.2 27) ∧ ∀ v3_6 : Int32, v3_6 = S0.2.1 27 a1.toNatClampNeg → (¬ v2_4 = (-1) → vp_in v2_4 (S0.2.2.2 27) ∧ B44 (ca S0 27 (upd (S0.2.1 27) v2_4.toNatClampNeg v3_6)) v2_4 v3_6) ∧ (v2_4 = (-1) → vp_in a1 (S0.2.2.2 24) ∧ vp_in ((S0.2.1 24 a1.toNatClampNeg) &&& 127) 128 ∧ B44 (ca S0 23 (upd (S0.2.1 23) ((S0.2.1 24 a1.toNatClampNeg) &&& 127).toNatClampNeg v3_6)) v2_4 v3_6)
set_option maxHeartbeats 4000000 in
set_option maxRecDepth 100000 in
theorem c_X6_takeOut (l : Launch) (S0 : CS) (a1 : Int32) (post : CS → Prop) (h : ∀ (B44 : CS → Int32 → Int32 → Prop), (∀ (S : CS) (x2 : Int32) (x3 : Int32), cT_X6_takeOut_44 l a1 post B44 S x2 x3 → B44 S x2 x3) → cT_X6_takeOut_e l a1 post B44 S0) : cX_X6_takeOut l S0 a1 post := by
  refine csetV rfl (fun _ => Nat.le_of_ble_eq_true rfl) ?_
  intro p e s m args below meth c D ad vd cI cZ cL cG X A Q hx hb hml hown hts hK hZ hA hret H locs ls hP hD hS hl
  replace hl : lv_has ls 4 [(0, .ref (ad 5)), (1, .int a1)] := hl
  obtain ⟨B44, hB44⟩ : ∃ B : CS → Int32 → Int32 → Prop, B = (fun S x2 x3 => ∀ (vd : Nat → Nat) (H : Heap) (locs : List Loc) (ls : Array Slot), va_P D vwCl (cW ad vd cI cZ cL cG S ++ X) H → va_D A (cW ad vd cI cZ cL cG S ++ X) → va_S A s.heap H locs → lv_has ls 4 [(0, .ref (ad 5)), (2, .int x2), (3, .int x3)] → W p l e (crm 0 0 0 0) s m args below meth c H locs 0 0 Q (F0 m 44 ls [])) := ⟨_, rfl⟩
  have hT : cT_X6_takeOut_e l a1 post B44 S0 := by
    refine h B44 ?_
    · clear hP hD hS hl H locs ls vd
      intro S x2 x3 hT
      unfold cT_X6_takeOut_44 at hT
      rw [hB44]
      intro vd H locs ls hP hD hS hl
      refine lv_iload_n hx hb dX6_takeOut_44 rfl (lv_at hl 2 rfl) ?_
      refine lv_iconst (v := (-1)) hx hb dX6_takeOut_45 (by decide) ?_
      refine lv_icmp_eq (tgt := 56) hx hb dX6_takeOut_46 (by decide) (fun c1 => ?_) (fun c1 => ?_)
      · replace hT := hT.1 c1
        exact hret _ _ _ _ _ _ _ _ hP hD hS (Nat.le_refl _) (Nat.le_refl _) hT dX6_takeOut_56
      · replace hT := hT.2 c1
        refine lv_aload_n hx hb dX6_takeOut_49 rfl (lv_at hl 0 rfl) ?_
        refine cg_X6_28 hx hb hts hown hK hP dX6_takeOut_50 ?_
        refine lv_iload_n hx hb dX6_takeOut_53 rfl (lv_at hl 2 rfl) ?_
        refine lv_iload_n hx hb dX6_takeOut_54 rfl (lv_at hl 1 rfl) ?_
        obtain ⟨hi2, hT⟩ := hT
        refine va_iast (f := S.2.1 28) hx hb hK hP hD hS 28 0 cat_28 rfl hi2 dX6_takeOut_55 (fun H locs hP hD hS => ?_)
        replace hP := csetP_28 hP
        replace hD := csetD_28 hD
        exact hret _ _ _ _ _ _ _ _ hP hD hS (Nat.le_refl _) (Nat.le_refl _) hT dX6_takeOut_56
  unfold cT_X6_takeOut_e at hT
  refine lv_aload_n hx hb dX6_takeOut_0 rfl (lv_at hl 0 rfl) ?_
  refine cg_X6_28 hx hb hts hown hK hP dX6_takeOut_1 ?_
  refine lv_iload_n hx hb dX6_takeOut_4 rfl (lv_at hl 1 rfl) ?_
  obtain ⟨hi3, hT⟩ := hT
  refine va_iald (f := S0.2.1 28) hx hb hK hP 28 0 cat_28 rfl hi3 dX6_takeOut_5 ?_
  refine lv_topi (fun v2_4 ev2_4 => ?_)
  replace hT := hT v2_4 ev2_4
  refine lv_istore_n (lv' := [(2, .int v2_4), (0, .ref (ad 5)), (1, .int a1)]) hx hb dX6_takeOut_6 rfl hl (by decide) rfl (fun ls hl => ?_)
  refine lv_aload_n hx hb dX6_takeOut_7 rfl (lv_at hl 1 rfl) ?_
  refine cg_X6_25 hx hb hts hown hK hP dX6_takeOut_8 ?_
  refine lv_iload_n hx hb dX6_takeOut_11 rfl (lv_at hl 2 rfl) ?_
  obtain ⟨hi5, hT⟩ := hT
  refine va_iald (f := S0.2.1 27) hx hb hK hP 27 0 cat_27 rfl hi5 dX6_takeOut_12 ?_
  refine lv_topi (fun v3_6 ev3_6 => ?_)
  replace hT := hT v3_6 ev3_6
  refine lv_istore_n (lv' := [(3, .int v3_6), (2, .int v2_4), (0, .ref (ad 5)), (1, .int a1)]) hx hb dX6_takeOut_13 rfl hl (by decide) rfl (fun ls hl => ?_)
  refine lv_iload_n hx hb dX6_takeOut_14 rfl (lv_at hl 1 rfl) ?_
  refine lv_iconst (v := (-1)) hx hb dX6_takeOut_15 (by decide) ?_
  refine lv_icmp_ne (tgt := 37) hx hb dX6_takeOut_16 (by decide) (fun c7 => ?_) (fun c7 => ?_)
  · replace hT := hT.1 c7
    refine lv_aload_n hx hb dX6_takeOut_37 rfl (lv_at hl 2 rfl) ?_
    refine cg_X6_25 hx hb hts hown hK hP dX6_takeOut_38 ?_
    refine lv_iload_n hx hb dX6_takeOut_41 rfl (lv_at hl 1 rfl) ?_
    refine lv_iload_n hx hb dX6_takeOut_42 rfl (lv_at hl 0 rfl) ?_
    obtain ⟨hi8, hT⟩ := hT
    refine va_iast (f := S0.2.1 27) hx hb hK hP hD hS 27 0 cat_27 rfl hi8 dX6_takeOut_43 (fun H locs hP hD hS => ?_)
    replace hP := csetP_27 hP
    replace hD := csetD_27 hD
    rw [hB44] at hT
    exact hT _ _ _ _ hP hD hS (lv_sub hl [2, 1, 0] rfl)
  · replace hT := hT.2 c7
    refine lv_aload_n hx hb dX6_takeOut_19 rfl (lv_at hl 2 rfl) ?_
    refine cg_X6_11 hx hb hts hown hK hP dX6_takeOut_20 ?_
    refine lv_aload_n hx hb dX6_takeOut_23 rfl (lv_at hl 2 rfl) ?_
    refine cg_X6_15 hx hb hts hown hK hP dX6_takeOut_24 ?_
    refine lv_iload_n hx hb dX6_takeOut_27 rfl (lv_at hl 3 rfl) ?_
    obtain ⟨hi9, hT⟩ := hT
    refine va_iald (f := S0.2.1 24) hx hb hK hP 24 0 cat_24 rfl hi9 dX6_takeOut_28 ?_
    refine lv_bipush (v := 127) hx hb dX6_takeOut_29 (by decide) ?_
    refine lv_iand hx hb dX6_takeOut_31 ?_
    refine lv_iload_n hx hb dX6_takeOut_32 rfl (lv_at hl 0 rfl) ?_
    obtain ⟨hi10, hT⟩ := hT
    refine va_iast (f := S0.2.1 23) hx hb hK hP hD hS 23 0 cat_23 rfl hi10 dX6_takeOut_33 (fun H locs hP hD hS => ?_)
    replace hP := csetP_23 hP
    replace hD := csetD_23 hD
    refine lv_goto (tgt := 44) hx hb dX6_takeOut_34 (by decide) ?_
    rw [hB44] at hT
    exact hT _ _ _ _ hP hD hS (lv_sub hl [2, 1, 0] rfl)
abbrev cX_X6_putIn (l : Launch) (S : CS) (a1 : Int32) (post : CS → Prop) : Prop := cCtV l yX6_putIn cX6_putIn 4 0 0 0 0 (fun ad => [.ref (ad 5), .int a1]) S post
def cT_X6_putIn_e (l : Launch) (a1 : Int32) (post : CS → Prop) (S0 : CS) : Prop := vp_in a1 (S0.2.2.2 24) ∧ ∀ v2_2 : Int32, v2_2 = (S0.2.1 24 a1.toNatClampNeg) &&& 127 → vp_in v2_2 128 ∧ ∀ v3_4 : Int32, v3_4 = S0.2.1 23 v2_2.toNatClampNeg → vp_in a1 (S0.2.2.2 28) ∧ vp_in a1 (S0.2.2.2 27) ∧ (v3_4 = (-1) → vp_in v2_2 128 ∧ post (ca (ca (ca S0 28 (upd (S0.2.1 28) a1.toNatClampNeg (-1))) 27 (upd (S0.2.1 27) a1.toNatClampNeg v3_4)) 23 (upd (S0.2.1 23) v2_2.toNatClampNeg a1))) ∧ (¬ v3_4 = (-1) → vp_in v3_4 (S0.2.2.2 28) ∧ vp_in v2_2 128 ∧ post (ca (ca (ca (ca S0 28 (upd (S0.2.1 28) a1.toNatClampNeg (-1))) 27 (upd (S0.2.1 27) a1.toNatClampNeg v3_4)) 28 (upd (upd (S0.2.1 28) a1.toNatClampNeg (-1)) v3_4.toNatClampNeg a1)) 23 (upd (S0.2.1 23) v2_2.toNatClampNeg a1)))
set_option maxHeartbeats 4000000 in
set_option maxRecDepth 100000 in
theorem c_X6_putIn (l : Launch) (S0 : CS) (a1 : Int32) (post : CS → Prop) (h : cT_X6_putIn_e l a1 post S0) : cX_X6_putIn l S0 a1 post := by
  refine csetV rfl (fun _ => Nat.le_of_ble_eq_true rfl) ?_
  intro p e s m args below meth c D ad vd cI cZ cL cG X A Q hx hb hml hown hts hK hZ hA hret H locs ls hP hD hS hl
  replace hl : lv_has ls 4 [(0, .ref (ad 5)), (1, .int a1)] := hl
  have hT := h
  unfold cT_X6_putIn_e at hT
  refine lv_aload_n hx hb dX6_putIn_0 rfl (lv_at hl 0 rfl) ?_
  refine cg_X6_15 hx hb hts hown hK hP dX6_putIn_1 ?_
  refine lv_iload_n hx hb dX6_putIn_4 rfl (lv_at hl 1 rfl) ?_
  obtain ⟨hi1, hT⟩ := hT
  refine va_iald (f := S0.2.1 24) hx hb hK hP 24 0 cat_24 rfl hi1 dX6_putIn_5 ?_
  refine lv_bipush (v := 127) hx hb dX6_putIn_6 (by decide) ?_
  refine lv_iand hx hb dX6_putIn_8 ?_
  refine lv_topi (fun v2_2 ev2_2 => ?_)
  replace hT := hT v2_2 ev2_2
  refine lv_istore_n (lv' := [(2, .int v2_2), (0, .ref (ad 5)), (1, .int a1)]) hx hb dX6_putIn_9 rfl hl (by decide) rfl (fun ls hl => ?_)
  refine lv_aload_n hx hb dX6_putIn_10 rfl (lv_at hl 1 rfl) ?_
  refine cg_X6_11 hx hb hts hown hK hP dX6_putIn_11 ?_
  refine lv_iload_n hx hb dX6_putIn_14 rfl (lv_at hl 0 rfl) ?_
  obtain ⟨hi3, hT⟩ := hT
  refine va_iald (f := S0.2.1 23) hx hb hK hP 23 0 cat_23 rfl hi3 dX6_putIn_15 ?_
  refine lv_topi (fun v3_4 ev3_4 => ?_)
  replace hT := hT v3_4 ev3_4
  refine lv_istore_n (lv' := [(3, .int v3_4), (2, .int v2_2), (0, .ref (ad 5)), (1, .int a1)]) hx hb dX6_putIn_16 rfl hl (by decide) rfl (fun ls hl => ?_)
  refine lv_aload_n hx hb dX6_putIn_17 rfl (lv_at hl 2 rfl) ?_
  refine cg_X6_28 hx hb hts hown hK hP dX6_putIn_18 ?_
  refine lv_iload_n hx hb dX6_putIn_21 rfl (lv_at hl 3 rfl) ?_
  refine lv_iconst (v := (-1)) hx hb dX6_putIn_22 (by decide) ?_
  obtain ⟨hi5, hT⟩ := hT
  refine va_iast (f := S0.2.1 28) hx hb hK hP hD hS 28 0 cat_28 rfl hi5 dX6_putIn_23 (fun H locs hP hD hS => ?_)
  replace hP := csetP_28 hP
  replace hD := csetD_28 hD
  refine lv_aload_n hx hb dX6_putIn_24 rfl (lv_at hl 2 rfl) ?_
  refine cg_X6_25 hx hb hts hown hK hP dX6_putIn_25 ?_
  refine lv_iload_n hx hb dX6_putIn_28 rfl (lv_at hl 3 rfl) ?_
  refine lv_iload_n hx hb dX6_putIn_29 rfl (lv_at hl 0 rfl) ?_
  obtain ⟨hi6, hT⟩ := hT
  refine va_iast (f := S0.2.1 27) hx hb hK hP hD hS 27 0 cat_27 rfl hi6 dX6_putIn_30 (fun H locs hP hD hS => ?_)
  replace hP := csetP_27 hP
  replace hD := csetD_27 hD
  refine lv_iload_n hx hb dX6_putIn_31 rfl (lv_at hl 0 rfl) ?_
  refine lv_iconst (v := (-1)) hx hb dX6_putIn_32 (by decide) ?_
  refine lv_icmp_eq (tgt := 43) hx hb dX6_putIn_33 (by decide) (fun c7 => ?_) (fun c7 => ?_)
  · replace hT := hT.1 c7
    refine lv_aload_n hx hb dX6_putIn_43 rfl (lv_at hl 2 rfl) ?_
    refine cg_X6_11 hx hb hts hown hK hP dX6_putIn_44 ?_
    refine lv_iload_n hx hb dX6_putIn_47 rfl (lv_at hl 1 rfl) ?_
    refine lv_iload_n hx hb dX6_putIn_48 rfl (lv_at hl 3 rfl) ?_
    obtain ⟨hi8, hT⟩ := hT
    refine va_iast (f := S0.2.1 23) hx hb hK hP hD hS 23 0 cat_23 rfl hi8 dX6_putIn_49 (fun H locs hP hD hS => ?_)
    replace hP := csetP_23 hP
    replace hD := csetD_23 hD
    exact hret _ _ _ _ _ _ _ _ hP hD hS (Nat.le_refl _) (Nat.le_refl _) hT dX6_putIn_50
  · replace hT := hT.2 c7
    refine lv_aload_n hx hb dX6_putIn_36 rfl (lv_at hl 2 rfl) ?_
    refine cg_X6_28 hx hb hts hown hK hP dX6_putIn_37 ?_
    refine lv_iload_n hx hb dX6_putIn_40 rfl (lv_at hl 0 rfl) ?_
    refine lv_iload_n hx hb dX6_putIn_41 rfl (lv_at hl 3 rfl) ?_
    obtain ⟨hi9, hT⟩ := hT
    refine va_iast (f := upd (S0.2.1 28) a1.toNatClampNeg (-1)) hx hb hK hP hD hS 28 0 cat_28 rfl hi9 dX6_putIn_42 (fun H locs hP hD hS => ?_)
    replace hP := csetP_28 hP
    replace hD := csetD_28 hD
    refine lv_aload_n hx hb dX6_putIn_43 rfl (lv_at hl 2 rfl) ?_
    refine cg_X6_11 hx hb hts hown hK hP dX6_putIn_44 ?_
    refine lv_iload_n hx hb dX6_putIn_47 rfl (lv_at hl 1 rfl) ?_
    refine lv_iload_n hx hb dX6_putIn_48 rfl (lv_at hl 3 rfl) ?_
    obtain ⟨hi10, hT⟩ := hT
    refine va_iast (f := S0.2.1 23) hx hb hK hP hD hS 23 0 cat_23 rfl hi10 dX6_putIn_49 (fun H locs hP hD hS => ?_)
    replace hP := csetP_23 hP
    replace hD := csetD_23 hD
    exact hret _ _ _ _ _ _ _ _ hP hD hS (Nat.le_refl _) (Nat.le_refl _) hT dX6_putIn_50
