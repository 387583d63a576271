abbrev cX_X2_enter (l : Launch) (S : CS) (a1 : Int32) (post : CS → Prop) : Prop := cCtV l yX2_enter cX2_enter 2 0 0 0 0 (fun ad => [.ref (ad 6), .int a1]) S post
def cT_X2_enter_e (l : Launch) (a1 : Int32) (post : CS → Prop) (S0 : CS) : Prop := vp_in a1 (S0.2.2.2 30) ∧ vp_in a1 (S0.2.2.2 31) ∧ vp_in a1 (S0.2.2.2 32) ∧ vp_in (S0.1 15) (S0.2.2.2 33) ∧ vp_in (S0.1 16) (S0.2.2.2 34) ∧ post (cf (ca (cf (ca (ca (ca (ca (cf S0 14 ((S0.1 14) + 1)) 30 (upd (S0.2.1 30) a1.toNatClampNeg ((S0.1 14) + 1))) 31 (upd (S0.2.1 31) a1.toNatClampNeg ((S0.1 14) + 1))) 32 (upd (S0.2.1 32) a1.toNatClampNeg 0)) 33 (upd (S0.2.1 33) (S0.1 15).toNatClampNeg a1)) 15 ((S0.1 15) + 1)) 34 (upd (S0.2.1 34) (S0.1 16).toNatClampNeg a1)) 16 ((S0.1 16) + 1))
set_option maxHeartbeats 4000000 in
set_option maxRecDepth 100000 in
theorem c_X2_enter (l : Launch) (S0 : CS) (a1 : Int32) (post : CS → Prop) (h : cT_X2_enter_e l a1 post S0) : cX_X2_enter l S0 a1 post := by
  refine csetV rfl (fun _ => Nat.le_of_ble_eq_true rfl) ?_
  intro p e s m args below meth c D ad vd cI cZ cL cG X A Q hx hb hml hown hts hK hZ hA hret H locs ls hP hD hS hl
  replace hl : lv_has ls 2 [(0, .ref (ad 6)), (1, .int a1)] := hl
  have hT := h
  unfold cT_X2_enter_e at hT
  refine lv_aload_n hx hb dX2_enter_0 rfl (lv_at hl 0 rfl) ?_
  refine lv_dup hx hb dX2_enter_1 rfl ?_
  refine cg_X2_72 (v := S0.1 14) hx hb hts hown hK hP rfl dX2_enter_2 ?_
  refine lv_iconst (v := 1) hx hb dX2_enter_5 (by decide) ?_
  refine lv_iadd hx hb dX2_enter_6 ?_
  refine cp_X2_72 hx hb hts hown hK hP hD hS dX2_enter_7 (fun H locs hP hD hS => ?_)
  refine lv_aload_n hx hb dX2_enter_10 rfl (lv_at hl 0 rfl) ?_
  refine cg_X2_9 hx hb hts hown hK hP dX2_enter_11 ?_
  refine lv_iload_n hx hb dX2_enter_14 rfl (lv_at hl 1 rfl) ?_
  refine lv_aload_n hx hb dX2_enter_15 rfl (lv_at hl 0 rfl) ?_
  refine cg_X2_72 (v := (S0.1 14) + 1) hx hb hts hown hK hP rfl dX2_enter_16 ?_
  obtain ⟨hi1, hT⟩ := hT
  refine va_iast (f := S0.2.1 30) hx hb hK hP hD hS 30 0 cat_30 rfl hi1 dX2_enter_19 (fun H locs hP hD hS => ?_)
  replace hP := csetP_30 hP
  replace hD := csetD_30 hD
  refine lv_aload_n hx hb dX2_enter_20 rfl (lv_at hl 0 rfl) ?_
  refine cg_X2_15 hx hb hts hown hK hP dX2_enter_21 ?_
  refine lv_iload_n hx hb dX2_enter_24 rfl (lv_at hl 1 rfl) ?_
  refine lv_aload_n hx hb dX2_enter_25 rfl (lv_at hl 0 rfl) ?_
  refine cg_X2_72 (v := (S0.1 14) + 1) hx hb hts hown hK hP rfl dX2_enter_26 ?_
  obtain ⟨hi2, hT⟩ := hT
  refine va_iast (f := S0.2.1 31) hx hb hK hP hD hS 31 0 cat_31 rfl hi2 dX2_enter_29 (fun H locs hP hD hS => ?_)
  replace hP := csetP_31 hP
  replace hD := csetD_31 hD
  refine lv_aload_n hx hb dX2_enter_30 rfl (lv_at hl 0 rfl) ?_
  refine cg_X2_18 hx hb hts hown hK hP dX2_enter_31 ?_
  refine lv_iload_n hx hb dX2_enter_34 rfl (lv_at hl 1 rfl) ?_
  refine lv_iconst (v := 0) hx hb dX2_enter_35 (by decide) ?_
  obtain ⟨hi3, hT⟩ := hT
  refine va_iast (f := S0.2.1 32) hx hb hK hP hD hS 32 0 cat_32 rfl hi3 dX2_enter_36 (fun H locs hP hD hS => ?_)
  replace hP := csetP_32 hP
  replace hD := csetD_32 hD
  refine lv_aload_n hx hb dX2_enter_37 rfl (lv_at hl 0 rfl) ?_
  refine cg_X2_21 hx hb hts hown hK hP dX2_enter_38 ?_
  refine lv_aload_n hx hb dX2_enter_41 rfl (lv_at hl 0 rfl) ?_
  refine cg_X2_75 (v := S0.1 15) hx hb hts hown hK hP rfl dX2_enter_42 ?_
  refine lv_iload_n hx hb dX2_enter_45 rfl (lv_at hl 1 rfl) ?_
  obtain ⟨hi4, hT⟩ := hT
  refine va_iast (f := S0.2.1 33) hx hb hK hP hD hS 33 0 cat_33 rfl hi4 dX2_enter_46 (fun H locs hP hD hS => ?_)
  replace hP := csetP_33 hP
  replace hD := csetD_33 hD
  refine lv_aload_n hx hb dX2_enter_47 rfl (lv_at hl 0 rfl) ?_
  refine lv_dup hx hb dX2_enter_48 rfl ?_
  refine cg_X2_75 (v := S0.1 15) hx hb hts hown hK hP rfl dX2_enter_49 ?_
  refine lv_iconst (v := 1) hx hb dX2_enter_52 (by decide) ?_
  refine lv_iadd hx hb dX2_enter_53 ?_
  refine cp_X2_75 hx hb hts hown hK hP hD hS dX2_enter_54 (fun H locs hP hD hS => ?_)
  refine lv_aload_n hx hb dX2_enter_57 rfl (lv_at hl 0 rfl) ?_
  refine cg_X2_24 hx hb hts hown hK hP dX2_enter_58 ?_
  refine lv_aload_n hx hb dX2_enter_61 rfl (lv_at hl 0 rfl) ?_
  refine cg_X2_78 (v := S0.1 16) hx hb hts hown hK hP rfl dX2_enter_62 ?_
  refine lv_iload_n hx hb dX2_enter_65 rfl (lv_at hl 1 rfl) ?_
  obtain ⟨hi5, hT⟩ := hT
  refine va_iast (f := S0.2.1 34) hx hb hK hP hD hS 34 0 cat_34 rfl hi5 dX2_enter_66 (fun H locs hP hD hS => ?_)
  replace hP := csetP_34 hP
  replace hD := csetD_34 hD
  refine lv_aload_n hx hb dX2_enter_67 rfl (lv_at hl 0 rfl) ?_
  refine lv_dup hx hb dX2_enter_68 rfl ?_
  refine cg_X2_78 (v := S0.1 16) hx hb hts hown hK hP rfl dX2_enter_69 ?_
  refine lv_iconst (v := 1) hx hb dX2_enter_72 (by decide) ?_
  refine lv_iadd hx hb dX2_enter_73 ?_
  refine cp_X2_78 hx hb hts hown hK hP hD hS dX2_enter_74 (fun H locs hP hD hS => ?_)
  exact hret _ _ _ _ _ _ _ _ hP hD hS (Nat.le_refl _) (Nat.le_refl _) hT dX2_enter_77
abbrev cX_X2_nextUnseen (l : Launch) (S : CS) (a3 : Int32) (post : Int32 → CS → Prop) : Prop := cCtI l yX2_nextUnseen cX2_nextUnseen 6 3 86 0 0 (fun ad => [.ref (ad 6), .ref (ad 1), .ref (ad 2), .int a3]) S post
def cT_X2_nextUnseen_19 (l : Launch) (a3 : Int32) (post : Int32 → CS → Prop) (B19 : CS → Int32 → Prop) (B91 : CS → Int32 → Prop) (S : CS) (x4 : Int32) : Prop := (S.1 6 ≤ x4 → post (-1) S) ∧ (¬ S.1 6 ≤ x4 → vp_in x4 25 ∧ ∀ v5_3 : Int32, v5_3 = S.2.1 18 x4.toNatClampNeg → vp_in v5_3 (S.2.2.2 30) ∧ (¬ S.2.1 30 v5_3.toNatClampNeg = 0 → vp_in v5_3 (S.2.2.2 35) ∧ (¬ S.2.1 35 v5_3.toNatClampNeg = (-1) → B91 S x4) ∧ (S.2.1 35 v5_3.toNatClampNeg = (-1) → vp_in a3 (S.2.2.2 31) ∧ vp_in v5_3 (S.2.2.2 31) ∧ vp_in a3 (S.2.2.2 31) ∧ B91 (ca S 31 (upd (S.2.1 31) a3.toNatClampNeg (if S.2.1 31 v5_3.toNatClampNeg < S.2.1 31 a3.toNatClampNeg then S.2.1 31 v5_3.toNatClampNeg else S.2.1 31 a3.toNatClampNeg))) x4)) ∧ (S.2.1 30 v5_3.toNatClampNeg = 0 → vp_in a3 (S.2.2.2 32) ∧ post v5_3 (ca S 32 (upd (S.2.1 32) a3.toNatClampNeg x4))))
def cT_X2_nextUnseen_91 (l : Launch) (a3 : Int32) (post : Int32 → CS → Prop) (B19 : CS → Int32 → Prop) (B91 : CS → Int32 → Prop) (S : CS) (x4 : Int32) : Prop := B19 S (x4 + 1)
def cT_X2_nextUnseen_e (l : Launch) (a3 : Int32) (post : Int32 → CS → Prop) (B19 : CS → Int32 → Prop) (B91 : CS → Int32 → Prop) (S0 : CS) : Prop := cX_X3_read l S0 a3 (fun S12 => cX_X3_spread l S12 (fun S13 => vp_in a3 (S13.2.2.2 32) ∧ ∀ v4_15 : Int32, v4_15 = S13.2.1 32 a3.toNatClampNeg → B19 S13 v4_15))
set_option maxHeartbeats 4000000 in
set_option maxRecDepth 100000 in
theorem c_X2_nextUnseen (l : Launch) (S0 : CS) (a3 : Int32) (post : Int32 → CS → Prop) (h : ∀ (B19 : CS → Int32 → Prop) (B91 : CS → Int32 → Prop), (∀ (S : CS) (x4 : Int32), cT_X2_nextUnseen_19 l a3 post B19 B91 S x4 → B19 S x4) → (∀ (S : CS) (x4 : Int32), cT_X2_nextUnseen_91 l a3 post B19 B91 S x4 → B91 S x4) → cT_X2_nextUnseen_e l a3 post B19 B91 S0) : cX_X2_nextUnseen l S0 a3 post := by
  refine csetI rfl (fun _ => Nat.le_of_ble_eq_true rfl) ?_
  intro p e s m args below meth c D ad vd cI cZ cL cG X A Q hx hb hml hown hts hK hZ hA hret H locs ls hP hD hS hl
  replace hl : lv_has ls 6 [(0, .ref (ad 6)), (1, .ref (ad 1)), (2, .ref (ad 2)), (3, .int a3)] := hl
  obtain ⟨B19, hB19⟩ : ∃ B : CS → Int32 → Prop, B = (fun S x4 => ∀ (vd : Nat → Nat) (H : Heap) (locs : List Loc) (ls : Array Slot), va_P D vwCl (cW ad vd cI cZ cL cG S ++ X) H → va_D A (cW ad vd cI cZ cL cG S ++ X) → va_S A s.heap H locs → lv_has ls 6 [(0, .ref (ad 6)), (2, .ref (ad 2)), (3, .int a3), (4, .int x4)] → W p l e (crm 3 86 0 0) s m args below meth c H locs 0 0 Q (F0 m 19 ls [])) := ⟨_, rfl⟩
  obtain ⟨B91, hB91⟩ : ∃ B : CS → Int32 → Prop, B = (fun S x4 => ∀ (vd : Nat → Nat) (H : Heap) (locs : List Loc) (ls : Array Slot), va_P D vwCl (cW ad vd cI cZ cL cG S ++ X) H → va_D A (cW ad vd cI cZ cL cG S ++ X) → va_S A s.heap H locs → lv_has ls 6 [(0, .ref (ad 6)), (2, .ref (ad 2)), (3, .int a3), (4, .int x4)] → W p l e (crm 3 86 0 0) s m args below meth c H locs 0 0 Q (F0 m 91 ls [])) := ⟨_, rfl⟩
  have hT : cT_X2_nextUnseen_e l a3 post B19 B91 S0 := by
    refine h B19 B91 ?_ ?_
    · clear hP hD hS hl H locs ls vd
      intro S x4 hT
      unfold cT_X2_nextUnseen_19 at hT
      rw [hB19]
      intro vd H locs ls hP hD hS hl
      refine lv_iload hx hb dX2_nextUnseen_19 (lv_at hl 3 rfl) ?_
      refine lv_aload_n hx hb dX2_nextUnseen_21 rfl (lv_at hl 1 rfl) ?_
      refine cg_X2_98 (v := S.1 6) hx hb hts hown hK hP rfl dX2_nextUnseen_22 ?_
      refine lv_icmp_ge (tgt := 97) hx hb dX2_nextUnseen_25 (by decide) (fun c1 => ?_) (fun c1 => ?_)
      · replace hT := hT.1 c1
        refine lv_iconst (v := (-1)) hx hb dX2_nextUnseen_97 (by decide) ?_
        exact hret _ _ _ _ _ _ _ _ _ hP hD hS (Nat.le_refl _) (Nat.le_refl _) hT dX2_nextUnseen_98
      · replace hT := hT.2 c1
        refine lv_aload_n hx hb dX2_nextUnseen_28 rfl (lv_at hl 1 rfl) ?_
        refine cg_X2_100 hx hb hts hown hK hP dX2_nextUnseen_29 ?_
        refine lv_iload hx hb dX2_nextUnseen_32 (lv_at hl 3 rfl) ?_
        obtain ⟨hi2, hT⟩ := hT
        refine va_iald (f := S.2.1 18) hx hb hK hP 18 0 cat_18 rfl hi2 dX2_nextUnseen_34 ?_
        refine lv_topi (fun v5_3 ev5_3 => ?_)
        replace hT := hT v5_3 ev5_3
        refine lv_istore (lv' := [(5, .int v5_3), (0, .ref (ad 6)), (2, .ref (ad 2)), (3, .int a3), (4, .int x4)]) hx hb dX2_nextUnseen_35 hl (by decide) rfl (fun ls hl => ?_)
        refine lv_aload_n hx hb dX2_nextUnseen_37 rfl (lv_at hl 1 rfl) ?_
        refine cg_X2_9 hx hb hts hown hK hP dX2_nextUnseen_38 ?_
        refine lv_iload hx hb dX2_nextUnseen_41 (lv_at hl 0 rfl) ?_
        obtain ⟨hi4, hT⟩ := hT
        refine va_iald (f := S.2.1 30) hx hb hK hP 30 0 cat_30 rfl hi4 dX2_nextUnseen_43 ?_
        refine lv_if_ne (tgt := 58) hx hb dX2_nextUnseen_44 (by decide) (fun c5 => ?_) (fun c5 => ?_)
        · replace hT := hT.1 c5
          refine lv_aload_n hx hb dX2_nextUnseen_58 rfl (lv_at hl 1 rfl) ?_
          refine cg_X2_27 hx hb hts hown hK hP dX2_nextUnseen_59 ?_
          refine lv_iload hx hb dX2_nextUnseen_62 (lv_at hl 0 rfl) ?_
          obtain ⟨hi6, hT⟩ := hT
          refine va_iald (f := S.2.1 35) hx hb hK hP 35 0 cat_35 rfl hi6 dX2_nextUnseen_64 ?_
          refine lv_iconst (v := (-1)) hx hb dX2_nextUnseen_65 (by decide) ?_
          refine lv_icmp_ne (tgt := 91) hx hb dX2_nextUnseen_66 (by decide) (fun c7 => ?_) (fun c7 => ?_)
          · replace hT := hT.1 c7
            rw [hB91] at hT
            exact hT _ _ _ _ hP hD hS (lv_sub hl [1, 2, 3, 4] rfl)
          · replace hT := hT.2 c7
            refine lv_aload_n hx hb dX2_nextUnseen_69 rfl (lv_at hl 1 rfl) ?_
            refine cg_X2_15 hx hb hts hown hK hP dX2_nextUnseen_70 ?_
            refine lv_iload_n hx hb dX2_nextUnseen_73 rfl (lv_at hl 3 rfl) ?_
            refine lv_aload_n hx hb dX2_nextUnseen_74 rfl (lv_at hl 1 rfl) ?_
            refine cg_X2_15 hx hb hts hown hK hP dX2_nextUnseen_75 ?_
            refine lv_iload_n hx hb dX2_nextUnseen_78 rfl (lv_at hl 3 rfl) ?_
            obtain ⟨hi8, hT⟩ := hT
            refine va_iald (f := S.2.1 31) hx hb hK hP 31 0 cat_31 rfl hi8 dX2_nextUnseen_79 ?_
            refine lv_aload_n hx hb dX2_nextUnseen_80 rfl (lv_at hl 1 rfl) ?_
            refine cg_X2_15 hx hb hts hown hK hP dX2_nextUnseen_81 ?_
            refine lv_iload hx hb dX2_nextUnseen_84 (lv_at hl 0 rfl) ?_
            obtain ⟨hi9, hT⟩ := hT
            refine va_iald (f := S.2.1 31) hx hb hK hP 31 0 cat_31 rfl hi9 dX2_nextUnseen_86 ?_
            refine va_mmin (x := S.2.1 31 a3.toNatClampNeg) (y := S.2.1 31 v5_3.toNatClampNeg) hx hb (hml.trans hl.1.symm) hown (hts _ kc_673) (hts _ kc_609) (hts _ kc_63) (hts _ kc_610) (Nat.le_of_ble_eq_true rfl) (Nat.le_of_ble_eq_true rfl) (Nat.zero_le _) (Nat.zero_le _) dX2_nextUnseen_87 ?_
            obtain ⟨hi10, hT⟩ := hT
            refine va_iast (f := S.2.1 31) hx hb hK hP hD hS 31 0 cat_31 rfl hi10 dX2_nextUnseen_90 (fun H locs hP hD hS => ?_)
            replace hP := csetP_31 hP
            replace hD := csetD_31 hD
            rw [hB91] at hT
            exact hT _ _ _ _ hP hD hS (lv_sub hl [1, 2, 3, 4] rfl)
        · replace hT := hT.2 c5
          refine lv_aload_n hx hb dX2_nextUnseen_47 rfl (lv_at hl 1 rfl) ?_
          refine cg_X2_18 hx hb hts hown hK hP dX2_nextUnseen_48 ?_
          refine lv_iload_n hx hb dX2_nextUnseen_51 rfl (lv_at hl 3 rfl) ?_
          refine lv_iload hx hb dX2_nextUnseen_52 (lv_at hl 4 rfl) ?_
          obtain ⟨hi11, hT⟩ := hT
          refine va_iast (f := S.2.1 32) hx hb hK hP hD hS 32 0 cat_32 rfl hi11 dX2_nextUnseen_54 (fun H locs hP hD hS => ?_)
          replace hP := csetP_32 hP
          replace hD := csetD_32 hD
          refine lv_iload hx hb dX2_nextUnseen_55 (lv_at hl 0 rfl) ?_
          exact hret _ _ _ _ _ _ _ _ _ hP hD hS (Nat.le_refl _) (Nat.le_refl _) hT dX2_nextUnseen_57
    · clear hP hD hS hl H locs ls vd
      intro S x4 hT
      unfold cT_X2_nextUnseen_91 at hT
      rw [hB91]
      intro vd H locs ls hP hD hS hl
      refine lv_iinc (v := x4 + 1) (lv' := [(4, .int (x4 + 1)), (0, .ref (ad 6)), (2, .ref (ad 2)), (3, .int a3)]) hx hb dX2_nextUnseen_91 hl (k := 3) rfl rfl (by decide) rfl (fun ls hl => ?_)
      refine lv_goto (tgt := 19) hx hb dX2_nextUnseen_94 (by decide) ?_
      rw [hB19] at hT
      exact hT _ _ _ _ hP hD hS (lv_sub hl [1, 2, 3, 0] rfl)
  unfold cT_X2_nextUnseen_e at hT
  refine lv_aload_n hx hb dX2_nextUnseen_0 rfl (lv_at hl 2 rfl) ?_
  refine lv_aload_n hx hb dX2_nextUnseen_1 rfl (lv_at hl 1 rfl) ?_
  refine lv_iload_n hx hb dX2_nextUnseen_2 rfl (lv_at hl 3 rfl) ?_
  refine ccallVV (n := 2) (b := ad 2) (C := RX3) (As := [.ref (ad 1), .int a3]) (rest := []) hT hx hb hml hown hts hK hZ hA hP hD hS hl gc_X2_50 hdc_X3_read (va_recv hK hP rfl cob_2) ⟨Nat.le_of_ble_eq_true rfl, Nat.le_of_ble_eq_true rfl⟩ rfl rfl rfl (Nat.le_of_ble_eq_true rfl) dX2_nextUnseen_3 (Nat.le_refl _) (Nat.le_refl _) (fun S12 vd H locs hP hD hS hT => ?_)
  refine lv_aload_n hx hb dX2_nextUnseen_6 rfl (lv_at hl 2 rfl) ?_
  refine lv_aload_n hx hb dX2_nextUnseen_7 rfl (lv_at hl 1 rfl) ?_
  refine ccallVV (n := 1) (b := ad 2) (C := RX3) (As := [.ref (ad 1)]) (rest := []) hT hx hb hml hown hts hK hZ hA hP hD hS hl gc_X2_94 hdc_X3_spread (va_recv hK hP rfl cob_2) ⟨Nat.le_of_ble_eq_true rfl, Nat.le_of_ble_eq_true rfl⟩ rfl rfl rfl (Nat.le_of_ble_eq_true rfl) dX2_nextUnseen_8 (Nat.le_refl _) (Nat.le_refl _) (fun S13 vd H locs hP hD hS hT => ?_)
  refine lv_aload_n hx hb dX2_nextUnseen_11 rfl (lv_at hl 0 rfl) ?_
  refine cg_X2_18 hx hb hts hown hK hP dX2_nextUnseen_12 ?_
  refine lv_iload_n hx hb dX2_nextUnseen_15 rfl (lv_at hl 3 rfl) ?_
  obtain ⟨hi14, hT⟩ := hT
  refine va_iald (f := S13.2.1 32) hx hb hK hP 32 0 cat_32 rfl hi14 dX2_nextUnseen_16 ?_
  refine lv_topi (fun v4_15 ev4_15 => ?_)
  replace hT := hT v4_15 ev4_15
  refine lv_istore (lv' := [(4, .int v4_15), (0, .ref (ad 6)), (1, .ref (ad 1)), (2, .ref (ad 2)), (3, .int a3)]) hx hb dX2_nextUnseen_17 hl (by decide) rfl (fun ls hl => ?_)
  rw [hB19] at hT
  exact hT _ _ _ _ hP hD hS (lv_sub hl [1, 3, 4, 0] rfl)
abbrev cX_X2_leave (l : Launch) (S : CS) (a1 : Int32) (post : CS → Prop) : Prop := cCtV l yX2_leave cX2_leave 4 0 0 0 0 (fun ad => [.ref (ad 6), .int a1]) S post
def cT_X2_leave_28 (l : Launch) (a1 : Int32) (post : CS → Prop) (B28 : CS → Int32 → Prop) (S : CS) (x2 : Int32) : Prop := (x2 = 0 → post (cf S 18 ((S.1 18) + 1))) ∧ (¬ x2 = 0 → (S.1 16 ≤ 0 → post (cf S 18 ((S.1 18) + 1))) ∧ (¬ S.1 16 ≤ 0 → vp_in ((S.1 16) - 1) (S.2.2.2 34) ∧ ∀ v3_4 : Int32, v3_4 = S.2.1 34 ((S.1 16) - 1).toNatClampNeg → vp_in v3_4 (S.2.2.2 35) ∧ vp_in (S.1 18) (S.2.2.2 36) ∧ vp_in (S.1 18) (S.2.2.2 36) ∧ (v3_4 = a1 → B28 (ca (ca (cf S 16 ((S.1 16) - 1)) 35 (upd (S.2.1 35) v3_4.toNatClampNeg (S.1 18))) 36 (upd (S.2.1 36) (S.1 18).toNatClampNeg ((S.2.1 36 (S.1 18).toNatClampNeg) + 1))) 0) ∧ (¬ v3_4 = a1 → B28 (ca (ca (cf S 16 ((S.1 16) - 1)) 35 (upd (S.2.1 35) v3_4.toNatClampNeg (S.1 18))) 36 (upd (S.2.1 36) (S.1 18).toNatClampNeg ((S.2.1 36 (S.1 18).toNatClampNeg) + 1))) 1)))
def cT_X2_leave_e (l : Launch) (a1 : Int32) (post : CS → Prop) (B28 : CS → Int32 → Prop) (S0 : CS) : Prop := vp_in a1 (S0.2.2.2 31) ∧ vp_in a1 (S0.2.2.2 30) ∧ (S0.2.1 31 a1.toNatClampNeg = S0.2.1 30 a1.toNatClampNeg → B28 (cf S0 15 ((S0.1 15) - 1)) 1) ∧ (¬ S0.2.1 31 a1.toNatClampNeg = S0.2.1 30 a1.toNatClampNeg → post (cf S0 15 ((S0.1 15) - 1)))
set_option maxHeartbeats 4000000 in
set_option maxRecDepth 100000 in
theorem c_X2_leave (l : Launch) (S0 : CS) (a1 : Int32) (post : CS → Prop) (h : ∀ (B28 : CS → Int32 → Prop), (∀ (S : CS) (x2 : Int32), cT_X2_leave_28 l a1 post B28 S x2 → B28 S x2) → cT_X2_leave_e l a1 post B28 S0) : cX_X2_leave l S0 a1 post := by
  refine csetV rfl (fun _ => Nat.le_of_ble_eq_true rfl) ?_
  intro p e s m args below meth c D ad vd cI cZ cL cG X A Q hx hb hml hown hts hK hZ hA hret H locs ls hP hD hS hl
  replace hl : lv_has ls 4 [(0, .ref (ad 6)), (1, .int a1)] := hl
  obtain ⟨B28, hB28⟩ : ∃ B : CS → Int32 → Prop, B = (fun S x2 => ∀ (vd : Nat → Nat) (H : Heap) (locs : List Loc) (ls : Array Slot), va_P D vwCl (cW ad vd cI cZ cL cG S ++ X) H → va_D A (cW ad vd cI cZ cL cG S ++ X) → va_S A s.heap H locs → lv_has ls 4 [(0, .ref (ad 6)), (1, .int a1), (2, .int x2)] → W p l e (crm 0 0 0 0) s m args below meth c H locs 0 0 Q (F0 m 28 ls [])) := ⟨_, rfl⟩
  have hT : cT_X2_leave_e l a1 post B28 S0 := by
    refine h B28 ?_
    · clear hP hD hS hl H locs ls vd
      intro S x2 hT
      unfold cT_X2_leave_28 at hT
      rw [hB28]
      intro vd H locs ls hP hD hS hl
      refine lv_iload_n hx hb dX2_leave_28 rfl (lv_at hl 2 rfl) ?_
      refine lv_if_eq (tgt := 96) hx hb dX2_leave_29 (by decide) (fun c1 => ?_) (fun c1 => ?_)
      · replace hT := hT.1 c1
        refine lv_aload_n hx hb dX2_leave_96 rfl (lv_at hl 0 rfl) ?_
        refine lv_dup hx hb dX2_leave_97 rfl ?_
        refine cg_X2_81 (v := S.1 18) hx hb hts hown hK hP rfl dX2_leave_98 ?_
        refine lv_iconst (v := 1) hx hb dX2_leave_101 (by decide) ?_
        refine lv_iadd hx hb dX2_leave_102 ?_
        refine cp_X2_81 hx hb hts hown hK hP hD hS dX2_leave_103 (fun H locs hP hD hS => ?_)
        exact hret _ _ _ _ _ _ _ _ hP hD hS (Nat.le_refl _) (Nat.le_refl _) hT dX2_leave_106
      · replace hT := hT.2 c1
        refine lv_aload_n hx hb dX2_leave_32 rfl (lv_at hl 0 rfl) ?_
        refine cg_X2_78 (v := S.1 16) hx hb hts hown hK hP rfl dX2_leave_33 ?_
        refine lv_if_le (tgt := 96) hx hb dX2_leave_36 (by decide) (fun c2 => ?_) (fun c2 => ?_)
        · replace hT := hT.1 c2
          refine lv_aload_n hx hb dX2_leave_96 rfl (lv_at hl 0 rfl) ?_
          refine lv_dup hx hb dX2_leave_97 rfl ?_
          refine cg_X2_81 (v := S.1 18) hx hb hts hown hK hP rfl dX2_leave_98 ?_
          refine lv_iconst (v := 1) hx hb dX2_leave_101 (by decide) ?_
          refine lv_iadd hx hb dX2_leave_102 ?_
          refine cp_X2_81 hx hb hts hown hK hP hD hS dX2_leave_103 (fun H locs hP hD hS => ?_)
          exact hret _ _ _ _ _ _ _ _ hP hD hS (Nat.le_refl _) (Nat.le_refl _) hT dX2_leave_106
        · replace hT := hT.2 c2
          refine lv_aload_n hx hb dX2_leave_39 rfl (lv_at hl 0 rfl) ?_
          refine lv_dup hx hb dX2_leave_40 rfl ?_
          refine cg_X2_78 (v := S.1 16) hx hb hts hown hK hP rfl dX2_leave_41 ?_
          refine lv_iconst (v := 1) hx hb dX2_leave_44 (by decide) ?_
          refine lv_isub hx hb dX2_leave_45 ?_
          refine cp_X2_78 hx hb hts hown hK hP hD hS dX2_leave_46 (fun H locs hP hD hS => ?_)
          refine lv_aload_n hx hb dX2_leave_49 rfl (lv_at hl 0 rfl) ?_
          refine cg_X2_24 hx hb hts hown hK hP dX2_leave_50 ?_
          refine lv_aload_n hx hb dX2_leave_53 rfl (lv_at hl 0 rfl) ?_
          refine cg_X2_78 (v := (S.1 16) - 1) hx hb hts hown hK hP rfl dX2_leave_54 ?_
          obtain ⟨hi3, hT⟩ := hT
          refine va_iald (f := S.2.1 34) hx hb hK hP 34 0 cat_34 rfl hi3 dX2_leave_57 ?_
          refine lv_topi (fun v3_4 ev3_4 => ?_)
          replace hT := hT v3_4 ev3_4
          refine lv_istore_n (lv' := [(3, .int v3_4), (0, .ref (ad 6)), (1, .int a1), (2, .int x2)]) hx hb dX2_leave_58 rfl hl (by decide) rfl (fun ls hl => ?_)
          refine lv_aload_n hx hb dX2_leave_59 rfl (lv_at hl 1 rfl) ?_
          refine cg_X2_27 hx hb hts hown hK hP dX2_leave_60 ?_
          refine lv_iload_n hx hb dX2_leave_63 rfl (lv_at hl 0 rfl) ?_
          refine lv_aload_n hx hb dX2_leave_64 rfl (lv_at hl 1 rfl) ?_
          refine cg_X2_81 (v := S.1 18) hx hb hts hown hK hP rfl dX2_leave_65 ?_
          obtain ⟨hi5, hT⟩ := hT
          refine va_iast (f := S.2.1 35) hx hb hK hP hD hS 35 0 cat_35 rfl hi5 dX2_leave_68 (fun H locs hP hD hS => ?_)
          replace hP := csetP_35 hP
          replace hD := csetD_35 hD
          refine lv_aload_n hx hb dX2_leave_69 rfl (lv_at hl 1 rfl) ?_
          refine cg_X2_30 hx hb hts hown hK hP dX2_leave_70 ?_
          refine lv_aload_n hx hb dX2_leave_73 rfl (lv_at hl 1 rfl) ?_
          refine cg_X2_81 (v := S.1 18) hx hb hts hown hK hP rfl dX2_leave_74 ?_
          refine lv_dup2_11 hx hb dX2_leave_77 rfl rfl ?_
          obtain ⟨hi6, hT⟩ := hT
          refine va_iald (f := S.2.1 36) hx hb hK hP 36 0 cat_36 rfl hi6 dX2_leave_78 ?_
          refine lv_iconst (v := 1) hx hb dX2_leave_79 (by decide) ?_
          refine lv_iadd hx hb dX2_leave_80 ?_
          obtain ⟨hi7, hT⟩ := hT
          refine va_iast (f := S.2.1 36) hx hb hK hP hD hS 36 0 cat_36 rfl hi7 dX2_leave_81 (fun H locs hP hD hS => ?_)
          replace hP := csetP_36 hP
          replace hD := csetD_36 hD
          refine lv_iload_n hx hb dX2_leave_82 rfl (lv_at hl 0 rfl) ?_
          refine lv_iload_n hx hb dX2_leave_83 rfl (lv_at hl 2 rfl) ?_
          refine lv_icmp_eq (tgt := 91) hx hb dX2_leave_84 (by decide) (fun c8 => ?_) (fun c8 => ?_)
          · replace hT := hT.1 c8
            refine lv_iconst (v := 0) hx hb dX2_leave_91 (by decide) ?_
            refine lv_istore_n (lv' := [(2, .int 0), (3, .int v3_4), (0, .ref (ad 6)), (1, .int a1)]) hx hb dX2_leave_92 rfl hl (by decide) rfl (fun ls hl => ?_)
            refine lv_goto (tgt := 28) hx hb dX2_leave_93 (by decide) ?_
            rw [hB28] at hT
            exact hT _ _ _ _ hP hD hS (lv_sub hl [2, 3, 0] rfl)
          · replace hT := hT.2 c8
            refine lv_iconst (v := 1) hx hb dX2_leave_87 (by decide) ?_
            refine lv_goto (tgt := 92) hx hb dX2_leave_88 (by decide) ?_
            refine lv_istore_n (lv' := [(2, .int 1), (3, .int v3_4), (0, .ref (ad 6)), (1, .int a1)]) hx hb dX2_leave_92 rfl hl (by decide) rfl (fun ls hl => ?_)
            refine lv_goto (tgt := 28) hx hb dX2_leave_93 (by decide) ?_
            rw [hB28] at hT
            exact hT _ _ _ _ hP hD hS (lv_sub hl [2, 3, 0] rfl)
  unfold cT_X2_leave_e at hT
  refine lv_aload_n hx hb dX2_leave_0 rfl (lv_at hl 0 rfl) ?_
  refine lv_dup hx hb dX2_leave_1 rfl ?_
  refine cg_X2_75 (v := S0.1 15) hx hb hts hown hK hP rfl dX2_leave_2 ?_
  refine lv_iconst (v := 1) hx hb dX2_leave_5 (by decide) ?_
  refine lv_isub hx hb dX2_leave_6 ?_
  refine cp_X2_75 hx hb hts hown hK hP hD hS dX2_leave_7 (fun H locs hP hD hS => ?_)
  refine lv_aload_n hx hb dX2_leave_10 rfl (lv_at hl 0 rfl) ?_
  refine cg_X2_15 hx hb hts hown hK hP dX2_leave_11 ?_
  refine lv_iload_n hx hb dX2_leave_14 rfl (lv_at hl 1 rfl) ?_
  obtain ⟨hi9, hT⟩ := hT
  refine va_iald (f := S0.2.1 31) hx hb hK hP 31 0 cat_31 rfl hi9 dX2_leave_15 ?_
  refine lv_aload_n hx hb dX2_leave_16 rfl (lv_at hl 0 rfl) ?_
  refine cg_X2_9 hx hb hts hown hK hP dX2_leave_17 ?_
  refine lv_iload_n hx hb dX2_leave_20 rfl (lv_at hl 1 rfl) ?_
  obtain ⟨hi10, hT⟩ := hT
  refine va_iald (f := S0.2.1 30) hx hb hK hP 30 0 cat_30 rfl hi10 dX2_leave_21 ?_
  refine lv_icmp_eq (tgt := 26) hx hb dX2_leave_22 (by decide) (fun c11 => ?_) (fun c11 => ?_)
  · replace hT := hT.1 c11
    refine lv_iconst (v := 1) hx hb dX2_leave_26 (by decide) ?_
    refine lv_istore_n (lv' := [(2, .int 1), (0, .ref (ad 6)), (1, .int a1)]) hx hb dX2_leave_27 rfl hl (by decide) rfl (fun ls hl => ?_)
    rw [hB28] at hT
    exact hT _ _ _ _ hP hD hS (lv_sub hl [1, 2, 0] rfl)
  · replace hT := hT.2 c11
    exact hret _ _ _ _ _ _ _ _ hP hD hS (Nat.le_refl _) (Nat.le_refl _) hT dX2_leave_25
abbrev cX_X2_walk (l : Launch) (S : CS) (a3 : Int32) (post : CS → Prop) : Prop := cCtV l yX2_walk cX2_walk 7 4 111 0 0 (fun ad => [.ref (ad 6), .ref (ad 1), .ref (ad 2), .int a3]) S post
def cT_X2_walk_8 (l : Launch) (a3 : Int32) (post : CS → Prop) (B8 : CS → Int32 → Prop) (B70 : CS → Int32 → Prop) (S : CS) (x4 : Int32) : Prop := (2 * (S.1 5) ≤ x4 → post S) ∧ (¬ 2 * (S.1 5) ≤ x4 → (S.1 15 ≤ 0 → post S) ∧ (¬ S.1 15 ≤ 0 → vp_in ((S.1 15) - 1) (S.2.2.2 33) ∧ ∀ v5_4 : Int32, v5_4 = S.2.1 33 ((S.1 15) - 1).toNatClampNeg → cX_X2_nextUnseen l S v5_4 (fun r6 S5 => (¬ r6 = (-1) → cX_X2_enter l S5 r6 (fun S8 => B70 S8 x4)) ∧ (r6 = (-1) → cX_X2_leave l S5 v5_4 (fun S9 => B70 S9 x4)))))
def cT_X2_walk_70 (l : Launch) (a3 : Int32) (post : CS → Prop) (B8 : CS → Int32 → Prop) (B70 : CS → Int32 → Prop) (S : CS) (x4 : Int32) : Prop := B8 S (x4 + 1)
def cT_X2_walk_e (l : Launch) (a3 : Int32) (post : CS → Prop) (B8 : CS → Int32 → Prop) (B70 : CS → Int32 → Prop) (S0 : CS) : Prop := cX_X2_enter l S0 a3 (fun S10 => B8 S10 0)
set_option maxHeartbeats 4000000 in
set_option maxRecDepth 100000 in
theorem c_X2_walk (l : Launch) (S0 : CS) (a3 : Int32) (post : CS → Prop) (h : ∀ (B8 : CS → Int32 → Prop) (B70 : CS → Int32 → Prop), (∀ (S : CS) (x4 : Int32), cT_X2_walk_8 l a3 post B8 B70 S x4 → B8 S x4) → (∀ (S : CS) (x4 : Int32), cT_X2_walk_70 l a3 post B8 B70 S x4 → B70 S x4) → cT_X2_walk_e l a3 post B8 B70 S0) : cX_X2_walk l S0 a3 post := by
  refine csetV rfl (fun _ => Nat.le_of_ble_eq_true rfl) ?_
  intro p e s m args below meth c D ad vd cI cZ cL cG X A Q hx hb hml hown hts hK hZ hA hret H locs ls hP hD hS hl
  replace hl : lv_has ls 7 [(0, .ref (ad 6)), (1, .ref (ad 1)), (2, .ref (ad 2)), (3, .int a3)] := hl
  obtain ⟨B8, hB8⟩ : ∃ B : CS → Int32 → Prop, B = (fun S x4 => ∀ (vd : Nat → Nat) (H : Heap) (locs : List Loc) (ls : Array Slot), va_P D vwCl (cW ad vd cI cZ cL cG S ++ X) H → va_D A (cW ad vd cI cZ cL cG S ++ X) → va_S A s.heap H locs → lv_has ls 7 [(0, .ref (ad 6)), (1, .ref (ad 1)), (2, .ref (ad 2)), (4, .int x4)] → W p l e (crm 4 111 0 0) s m args below meth c H locs 0 0 Q (F0 m 8 ls [])) := ⟨_, rfl⟩
  obtain ⟨B70, hB70⟩ : ∃ B : CS → Int32 → Prop, B = (fun S x4 => ∀ (vd : Nat → Nat) (H : Heap) (locs : List Loc) (ls : Array Slot), va_P D vwCl (cW ad vd cI cZ cL cG S ++ X) H → va_D A (cW ad vd cI cZ cL cG S ++ X) → va_S A s.heap H locs → lv_has ls 7 [(0, .ref (ad 6)), (1, .ref (ad 1)), (2, .ref (ad 2)), (4, .int x4)] → W p l e (crm 4 111 0 0) s m args below meth c H locs 0 0 Q (F0 m 70 ls [])) := ⟨_, rfl⟩
  have hT : cT_X2_walk_e l a3 post B8 B70 S0 := by
    refine h B8 B70 ?_ ?_
    · clear hP hD hS hl H locs ls vd
      intro S x4 hT
      unfold cT_X2_walk_8 at hT
      rw [hB8]
      intro vd H locs ls hP hD hS hl
      refine lv_iload hx hb dX2_walk_8 (lv_at hl 3 rfl) ?_
      refine lv_iconst (v := 2) hx hb dX2_walk_10 (by decide) ?_
      refine lv_aload_n hx hb dX2_walk_11 rfl (lv_at hl 1 rfl) ?_
      refine cg_X2_40 (v := S.1 5) hx hb hts hown hK hP rfl dX2_walk_12 ?_
      refine lv_imul hx hb dX2_walk_15 ?_
      refine lv_icmp_ge (tgt := 76) hx hb dX2_walk_16 (by decide) (fun c1 => ?_) (fun c1 => ?_)
      · replace hT := hT.1 c1
        exact hret _ _ _ _ _ _ _ _ hP hD hS (Nat.le_refl _) (Nat.le_refl _) hT dX2_walk_76
      · replace hT := hT.2 c1
        refine lv_aload_n hx hb dX2_walk_19 rfl (lv_at hl 0 rfl) ?_
        refine cg_X2_75 (v := S.1 15) hx hb hts hown hK hP rfl dX2_walk_20 ?_
        refine lv_if_le (tgt := 76) hx hb dX2_walk_23 (by decide) (fun c2 => ?_) (fun c2 => ?_)
        · replace hT := hT.1 c2
          exact hret _ _ _ _ _ _ _ _ hP hD hS (Nat.le_refl _) (Nat.le_refl _) hT dX2_walk_76
        · replace hT := hT.2 c2
          refine lv_aload_n hx hb dX2_walk_26 rfl (lv_at hl 0 rfl) ?_
          refine cg_X2_21 hx hb hts hown hK hP dX2_walk_27 ?_
          refine lv_aload_n hx hb dX2_walk_30 rfl (lv_at hl 0 rfl) ?_
          refine cg_X2_75 (v := S.1 15) hx hb hts hown hK hP rfl dX2_walk_31 ?_
          refine lv_iconst (v := 1) hx hb dX2_walk_34 (by decide) ?_
          refine lv_isub hx hb dX2_walk_35 ?_
          obtain ⟨hi3, hT⟩ := hT
          refine va_iald (f := S.2.1 33) hx hb hK hP 33 0 cat_33 rfl hi3 dX2_walk_36 ?_
          refine lv_topi (fun v5_4 ev5_4 => ?_)
          replace hT := hT v5_4 ev5_4
          refine lv_istore (lv' := [(5, .int v5_4), (0, .ref (ad 6)), (1, .ref (ad 1)), (2, .ref (ad 2)), (4, .int x4)]) hx hb dX2_walk_37 hl (by decide) rfl (fun ls hl => ?_)
          refine lv_aload_n hx hb dX2_walk_39 rfl (lv_at hl 1 rfl) ?_
          refine lv_aload_n hx hb dX2_walk_40 rfl (lv_at hl 2 rfl) ?_
          refine lv_aload_n hx hb dX2_walk_41 rfl (lv_at hl 3 rfl) ?_
          refine lv_iload hx hb dX2_walk_42 (lv_at hl 0 rfl) ?_
          refine ccallVI (n := 3) (b := ad 6) (C := RX2) (As := [.ref (ad 1), .ref (ad 2), .int v5_4]) (rest := []) hT hx hb hml hown hts hK hZ hA hP hD hS hl gc_X2_87 hdc_X2_nextUnseen (va_recv hK hP rfl cob_6) ⟨Nat.le_of_ble_eq_true rfl, Nat.le_of_ble_eq_true rfl⟩ rfl rfl rfl (Nat.le_of_ble_eq_true rfl) dX2_walk_44 (Nat.le_refl _) (Nat.le_refl _) (fun r6 S5 vd H locs hP hD hS hT => ?_)
          refine lv_istore (lv' := [(6, .int r6), (5, .int v5_4), (0, .ref (ad 6)), (1, .ref (ad 1)), (2, .ref (ad 2)), (4, .int x4)]) hx hb dX2_walk_47 hl (by decide) rfl (fun ls hl => ?_)
          refine lv_iload hx hb dX2_walk_49 (lv_at hl 0 rfl) ?_
          refine lv_iconst (v := (-1)) hx hb dX2_walk_51 (by decide) ?_
          refine lv_icmp_ne (tgt := 64) hx hb dX2_walk_52 (by decide) (fun c7 => ?_) (fun c7 => ?_)
          · replace hT := hT.1 c7
            refine lv_aload_n hx hb dX2_walk_64 rfl (lv_at hl 2 rfl) ?_
            refine lv_iload hx hb dX2_walk_65 (lv_at hl 0 rfl) ?_
            refine ccallVV (n := 1) (b := ad 6) (C := RX2) (As := [.int r6]) (rest := []) hT hx hb hml hown hts hK hZ hA hP hD hS hl gc_X2_84 hdc_X2_enter (va_recv hK hP rfl cob_6) ⟨Nat.le_of_ble_eq_true rfl, Nat.le_of_ble_eq_true rfl⟩ rfl rfl rfl (Nat.le_of_ble_eq_true rfl) dX2_walk_67 (Nat.le_refl _) (Nat.le_refl _) (fun S8 vd H locs hP hD hS hT => ?_)
            rw [hB70] at hT
            exact hT _ _ _ _ hP hD hS (lv_sub hl [2, 3, 4, 5] rfl)
          · replace hT := hT.2 c7
            refine lv_aload_n hx hb dX2_walk_55 rfl (lv_at hl 2 rfl) ?_
            refine lv_iload hx hb dX2_walk_56 (lv_at hl 1 rfl) ?_
            refine ccallVV (n := 1) (b := ad 6) (C := RX2) (As := [.int v5_4]) (rest := []) hT hx hb hml hown hts hK hZ hA hP hD hS hl gc_X2_91 hdc_X2_leave (va_recv hK hP rfl cob_6) ⟨Nat.le_of_ble_eq_true rfl, Nat.le_of_ble_eq_true rfl⟩ rfl rfl rfl (Nat.le_of_ble_eq_true rfl) dX2_walk_58 (Nat.le_refl _) (Nat.le_refl _) (fun S9 vd H locs hP hD hS hT => ?_)
            refine lv_goto (tgt := 70) hx hb dX2_walk_61 (by decide) ?_
            rw [hB70] at hT
            exact hT _ _ _ _ hP hD hS (lv_sub hl [2, 3, 4, 5] rfl)
    · clear hP hD hS hl H locs ls vd
      intro S x4 hT
      unfold cT_X2_walk_70 at hT
      rw [hB70]
      intro vd H locs ls hP hD hS hl
      refine lv_iinc (v := x4 + 1) (lv' := [(4, .int (x4 + 1)), (0, .ref (ad 6)), (1, .ref (ad 1)), (2, .ref (ad 2))]) hx hb dX2_walk_70 hl (k := 3) rfl rfl (by decide) rfl (fun ls hl => ?_)
      refine lv_goto (tgt := 8) hx hb dX2_walk_73 (by decide) ?_
      rw [hB8] at hT
      exact hT _ _ _ _ hP hD hS (lv_sub hl [1, 2, 3, 0] rfl)
  unfold cT_X2_walk_e at hT
  refine lv_aload_n hx hb dX2_walk_0 rfl (lv_at hl 0 rfl) ?_
  refine lv_iload_n hx hb dX2_walk_1 rfl (lv_at hl 3 rfl) ?_
  refine ccallVV (n := 1) (b := ad 6) (C := RX2) (As := [.int a3]) (rest := []) hT hx hb hml hown hts hK hZ hA hP hD hS hl gc_X2_84 hdc_X2_enter (va_recv hK hP rfl cob_6) ⟨Nat.le_of_ble_eq_true rfl, Nat.le_of_ble_eq_true rfl⟩ rfl rfl rfl (Nat.le_of_ble_eq_true rfl) dX2_walk_2 (Nat.le_refl _) (Nat.le_refl _) (fun S10 vd H locs hP hD hS hT => ?_)
  refine lv_iconst (v := 0) hx hb dX2_walk_5 (by decide) ?_
  refine lv_istore (lv' := [(4, .int 0), (0, .ref (ad 6)), (1, .ref (ad 1)), (2, .ref (ad 2)), (3, .int a3)]) hx hb dX2_walk_6 hl (by decide) rfl (fun ls hl => ?_)
  rw [hB8] at hT
  exact hT _ _ _ _ hP hD hS (lv_sub hl [1, 2, 3, 0] rfl)
abbrev cX_X2_seekWayOut (l : Launch) (S : CS) (a3 : Int32) (post : CS → Prop) : Prop := cCtV l yX2_seekWayOut cX2_seekWayOut 6 3 86 0 0 (fun ad => [.ref (ad 6), .ref (ad 1), .ref (ad 2), .int a3]) S post
def cT_X2_seekWayOut_34 (l : Launch) (a3 : Int32) (post : CS → Prop) (B34 : CS → Int32 → Int32 → Prop) (B68 : CS → Int32 → Int32 → Prop) (S : CS) (x4 : Int32) (x5 : Int32) : Prop := (S.1 6 ≤ x5 → post S) ∧ (¬ S.1 6 ≤ x5 → vp_in x5 25 ∧ vp_in (S.2.1 18 x5.toNatClampNeg) (S.2.2.2 35) ∧ (S.2.1 35 (S.2.1 18 x5.toNatClampNeg).toNatClampNeg = x4 → B68 S x4 x5) ∧ (¬ S.2.1 35 (S.2.1 18 x5.toNatClampNeg).toNatClampNeg = x4 → vp_in x4 (S.2.2.2 37) ∧ B68 (ca S 37 (upd (S.2.1 37) x4.toNatClampNeg 1)) x4 x5))
def cT_X2_seekWayOut_68 (l : Launch) (a3 : Int32) (post : CS → Prop) (B34 : CS → Int32 → Int32 → Prop) (B68 : CS → Int32 → Int32 → Prop) (S : CS) (x4 : Int32) (x5 : Int32) : Prop := B34 S x4 (x5 + 1)
def cT_X2_seekWayOut_e (l : Launch) (a3 : Int32) (post : CS → Prop) (B34 : CS → Int32 → Int32 → Prop) (B68 : CS → Int32 → Int32 → Prop) (S0 : CS) : Prop := vp_in a3 (S0.2.2.2 35) ∧ ∀ v4_7 : Int32, v4_7 = S0.2.1 35 a3.toNatClampNeg → vp_in v4_7 (S0.2.2.2 37) ∧ (¬ S0.2.1 37 v4_7.toNatClampNeg = 1 → cX_X3_read l S0 a3 (fun S10 => cX_X3_spread l S10 (fun S11 => B34 S11 v4_7 0))) ∧ (S0.2.1 37 v4_7.toNatClampNeg = 1 → post S0)
set_option maxHeartbeats 4000000 in
set_option maxRecDepth 100000 in
theorem c_X2_seekWayOut (l : Launch) (S0 : CS) (a3 : Int32) (post : CS → Prop) (h : ∀ (B34 : CS → Int32 → Int32 → Prop) (B68 : CS → Int32 → Int32 → Prop), (∀ (S : CS) (x4 : Int32) (x5 : Int32), cT_X2_seekWayOut_34 l a3 post B34 B68 S x4 x5 → B34 S x4 x5) → (∀ (S : CS) (x4 : Int32) (x5 : Int32), cT_X2_seekWayOut_68 l a3 post B34 B68 S x4 x5 → B68 S x4 x5) → cT_X2_seekWayOut_e l a3 post B34 B68 S0) : cX_X2_seekWayOut l S0 a3 post := by
  refine csetV rfl (fun _ => Nat.le_of_ble_eq_true rfl) ?_
  intro p e s m args below meth c D ad vd cI cZ cL cG X A Q hx hb hml hown hts hK hZ hA hret H locs ls hP hD hS hl
  replace hl : lv_has ls 6 [(0, .ref (ad 6)), (1, .ref (ad 1)), (2, .ref (ad 2)), (3, .int a3)] := hl
  obtain ⟨B34, hB34⟩ : ∃ B : CS → Int32 → Int32 → Prop, B = (fun S x4 x5 => ∀ (vd : Nat → Nat) (H : Heap) (locs : List Loc) (ls : Array Slot), va_P D vwCl (cW ad vd cI cZ cL cG S ++ X) H → va_D A (cW ad vd cI cZ cL cG S ++ X) → va_S A s.heap H locs → lv_has ls 6 [(0, .ref (ad 6)), (2, .ref (ad 2)), (4, .int x4), (5, .int x5)] → W p l e (crm 3 86 0 0) s m args below meth c H locs 0 0 Q (F0 m 34 ls [])) := ⟨_, rfl⟩
  obtain ⟨B68, hB68⟩ : ∃ B : CS → Int32 → Int32 → Prop, B = (fun S x4 x5 => ∀ (vd : Nat → Nat) (H : Heap) (locs : List Loc) (ls : Array Slot), va_P D vwCl (cW ad vd cI cZ cL cG S ++ X) H → va_D A (cW ad vd cI cZ cL cG S ++ X) → va_S A s.heap H locs → lv_has ls 6 [(0, .ref (ad 6)), (2, .ref (ad 2)), (4, .int x4), (5, .int x5)] → W p l e (crm 3 86 0 0) s m args below meth c H locs 0 0 Q (F0 m 68 ls [])) := ⟨_, rfl⟩
  have hT : cT_X2_seekWayOut_e l a3 post B34 B68 S0 := by
    refine h B34 B68 ?_ ?_
    · clear hP hD hS hl H locs ls vd
      intro S x4 x5 hT
      unfold cT_X2_seekWayOut_34 at hT
      rw [hB34]
      intro vd H locs ls hP hD hS hl
      refine lv_iload hx hb dX2_seekWayOut_34 (lv_at hl 3 rfl) ?_
      refine lv_aload_n hx hb dX2_seekWayOut_36 rfl (lv_at hl 1 rfl) ?_
      refine cg_X2_98 (v := S.1 6) hx hb hts hown hK hP rfl dX2_seekWayOut_37 ?_
      refine lv_icmp_ge (tgt := 74) hx hb dX2_seekWayOut_40 (by decide) (fun c1 => ?_) (fun c1 => ?_)
      · replace hT := hT.1 c1
        exact hret _ _ _ _ _ _ _ _ hP hD hS (Nat.le_refl _) (Nat.le_refl _) hT dX2_seekWayOut_74
      · replace hT := hT.2 c1
        refine lv_aload_n hx hb dX2_seekWayOut_43 rfl (lv_at hl 0 rfl) ?_
        refine cg_X2_27 hx hb hts hown hK hP dX2_seekWayOut_44 ?_
        refine lv_aload_n hx hb dX2_seekWayOut_47 rfl (lv_at hl 1 rfl) ?_
        refine cg_X2_100 hx hb hts hown hK hP dX2_seekWayOut_48 ?_
        refine lv_iload hx hb dX2_seekWayOut_51 (lv_at hl 3 rfl) ?_
        obtain ⟨hi2, hT⟩ := hT
        refine va_iald (f := S.2.1 18) hx hb hK hP 18 0 cat_18 rfl hi2 dX2_seekWayOut_53 ?_
        obtain ⟨hi3, hT⟩ := hT
        refine va_iald (f := S.2.1 35) hx hb hK hP 35 0 cat_35 rfl hi3 dX2_seekWayOut_54 ?_
        refine lv_iload hx hb dX2_seekWayOut_55 (lv_at hl 2 rfl) ?_
        refine lv_icmp_eq (tgt := 68) hx hb dX2_seekWayOut_57 (by decide) (fun c4 => ?_) (fun c4 => ?_)
        · replace hT := hT.1 c4
          rw [hB68] at hT
          exact hT _ _ _ _ hP hD hS (lv_sub hl [0, 1, 2, 3] rfl)
        · replace hT := hT.2 c4
          refine lv_aload_n hx hb dX2_seekWayOut_60 rfl (lv_at hl 0 rfl) ?_
          refine cg_X2_33 hx hb hts hown hK hP dX2_seekWayOut_61 ?_
          refine lv_iload hx hb dX2_seekWayOut_64 (lv_at hl 2 rfl) ?_
          refine lv_iconst (v := 1) hx hb dX2_seekWayOut_66 (by decide) ?_
          obtain ⟨hi5, hT⟩ := hT
          refine va_iast (f := S.2.1 37) hx hb hK hP hD hS 37 0 cat_37 rfl hi5 dX2_seekWayOut_67 (fun H locs hP hD hS => ?_)
          replace hP := csetP_37 hP
          replace hD := csetD_37 hD
          rw [hB68] at hT
          exact hT _ _ _ _ hP hD hS (lv_sub hl [0, 1, 2, 3] rfl)
    · clear hP hD hS hl H locs ls vd
      intro S x4 x5 hT
      unfold cT_X2_seekWayOut_68 at hT
      rw [hB68]
      intro vd H locs ls hP hD hS hl
      refine lv_iinc (v := x5 + 1) (lv' := [(5, .int (x5 + 1)), (0, .ref (ad 6)), (2, .ref (ad 2)), (4, .int x4)]) hx hb dX2_seekWayOut_68 hl (k := 3) rfl rfl (by decide) rfl (fun ls hl => ?_)
      refine lv_goto (tgt := 34) hx hb dX2_seekWayOut_71 (by decide) ?_
      rw [hB34] at hT
      exact hT _ _ _ _ hP hD hS (lv_sub hl [1, 2, 3, 0] rfl)
  unfold cT_X2_seekWayOut_e at hT
  refine lv_aload_n hx hb dX2_seekWayOut_0 rfl (lv_at hl 0 rfl) ?_
  refine cg_X2_27 hx hb hts hown hK hP dX2_seekWayOut_1 ?_
  refine lv_iload_n hx hb dX2_seekWayOut_4 rfl (lv_at hl 3 rfl) ?_
  obtain ⟨hi6, hT⟩ := hT
  refine va_iald (f := S0.2.1 35) hx hb hK hP 35 0 cat_35 rfl hi6 dX2_seekWayOut_5 ?_
  refine lv_topi (fun v4_7 ev4_7 => ?_)
  replace hT := hT v4_7 ev4_7
  refine lv_istore (lv' := [(4, .int v4_7), (0, .ref (ad 6)), (1, .ref (ad 1)), (2, .ref (ad 2)), (3, .int a3)]) hx hb dX2_seekWayOut_6 hl (by decide) rfl (fun ls hl => ?_)
  refine lv_aload_n hx hb dX2_seekWayOut_8 rfl (lv_at hl 1 rfl) ?_
  refine cg_X2_33 hx hb hts hown hK hP dX2_seekWayOut_9 ?_
  refine lv_iload hx hb dX2_seekWayOut_12 (lv_at hl 0 rfl) ?_
  obtain ⟨hi8, hT⟩ := hT
  refine va_iald (f := S0.2.1 37) hx hb hK hP 37 0 cat_37 rfl hi8 dX2_seekWayOut_14 ?_
  refine lv_iconst (v := 1) hx hb dX2_seekWayOut_15 (by decide) ?_
  refine lv_icmp_ne (tgt := 20) hx hb dX2_seekWayOut_16 (by decide) (fun c9 => ?_) (fun c9 => ?_)
  · replace hT := hT.1 c9
    refine lv_aload_n hx hb dX2_seekWayOut_20 rfl (lv_at hl 3 rfl) ?_
    refine lv_aload_n hx hb dX2_seekWayOut_21 rfl (lv_at hl 2 rfl) ?_
    refine lv_iload_n hx hb dX2_seekWayOut_22 rfl (lv_at hl 4 rfl) ?_
    refine ccallVV (n := 2) (b := ad 2) (C := RX3) (As := [.ref (ad 1), .int a3]) (rest := []) hT hx hb hml hown hts hK hZ hA hP hD hS hl gc_X2_50 hdc_X3_read (va_recv hK hP rfl cob_2) ⟨Nat.le_of_ble_eq_true rfl, Nat.le_of_ble_eq_true rfl⟩ rfl rfl rfl (Nat.le_of_ble_eq_true rfl) dX2_seekWayOut_23 (Nat.le_refl _) (Nat.le_refl _) (fun S10 vd H locs hP hD hS hT => ?_)
    refine lv_aload_n hx hb dX2_seekWayOut_26 rfl (lv_at hl 3 rfl) ?_
    refine lv_aload_n hx hb dX2_seekWayOut_27 rfl (lv_at hl 2 rfl) ?_
    refine ccallVV (n := 1) (b := ad 2) (C := RX3) (As := [.ref (ad 1)]) (rest := []) hT hx hb hml hown hts hK hZ hA hP hD hS hl gc_X2_94 hdc_X3_spread (va_recv hK hP rfl cob_2) ⟨Nat.le_of_ble_eq_true rfl, Nat.le_of_ble_eq_true rfl⟩ rfl rfl rfl (Nat.le_of_ble_eq_true rfl) dX2_seekWayOut_28 (Nat.le_refl _) (Nat.le_refl _) (fun S11 vd H locs hP hD hS hT => ?_)
    refine lv_iconst (v := 0) hx hb dX2_seekWayOut_31 (by decide) ?_
    refine lv_istore (lv' := [(5, .int 0), (4, .int v4_7), (0, .ref (ad 6)), (1, .ref (ad 1)), (2, .ref (ad 2)), (3, .int a3)]) hx hb dX2_seekWayOut_32 hl (by decide) rfl (fun ls hl => ?_)
    rw [hB34] at hT
    exact hT _ _ _ _ hP hD hS (lv_sub hl [2, 4, 1, 0] rfl)
  · replace hT := hT.2 c9
    exact hret _ _ _ _ _ _ _ _ hP hD hS (Nat.le_refl _) (Nat.le_refl _) hT dX2_seekWayOut_19
abbrev cX_X2_find (l : Launch) (mc ms : Nat) (S : CS) (post : CS → Prop) : Prop := cCtV l yX2_find cX2_find 4 5 137 mc ms (fun ad => [.ref (ad 6), .ref (ad 1), .ref (ad 2)]) S post
def cT_X2_find_23 (l : Launch) (mc ms : Nat) (post : CS → Prop) (B23 : Nat → Nat → CS → Int32 → Prop) (B60 : Nat → Nat → CS → Int32 → Prop) (B68 : Nat → Nat → CS → Int32 → Prop) (B93 : Nat → Nat → CS → Int32 → Prop) (kc ks : Nat) (S : CS) (x3 : Int32) : Prop := (S.1 5 ≤ x3 → B68 kc ks S 0) ∧ (¬ S.1 5 ≤ x3 → vp_in x3 (S.2.2.2 30) ∧ (¬ S.2.1 30 x3.toNatClampNeg = 0 → B60 kc ks S x3) ∧ (S.2.1 30 x3.toNatClampNeg = 0 → kc ≤ mc ∧ ks ≤ ms ∧ cX_X3_read l S x3 (fun S4 => (S4.1 8 = 0 → B60 kc ks S4 x3) ∧ (¬ S4.1 8 = 0 → kc ≤ mc ∧ ks ≤ ms ∧ cX_X2_walk l S4 x3 (fun S8 => B60 kc ks S8 x3)))))
def cT_X2_find_60 (l : Launch) (mc ms : Nat) (post : CS → Prop) (B23 : Nat → Nat → CS → Int32 → Prop) (B60 : Nat → Nat → CS → Int32 → Prop) (B68 : Nat → Nat → CS → Int32 → Prop) (B93 : Nat → Nat → CS → Int32 → Prop) (kc ks : Nat) (S : CS) (x3 : Int32) : Prop := B23 kc ks S (x3 + 1)
def cT_X2_find_68 (l : Launch) (mc ms : Nat) (post : CS → Prop) (B23 : Nat → Nat → CS → Int32 → Prop) (B60 : Nat → Nat → CS → Int32 → Prop) (B68 : Nat → Nat → CS → Int32 → Prop) (B93 : Nat → Nat → CS → Int32 → Prop) (kc ks : Nat) (S : CS) (x3 : Int32) : Prop := (S.1 5 ≤ x3 → kc ≤ mc ∧ ks ≤ ms ∧ post S) ∧ (¬ S.1 5 ≤ x3 → vp_in x3 (S.2.2.2 35) ∧ (S.2.1 35 x3.toNatClampNeg = (-1) → B93 kc ks S x3) ∧ (¬ S.2.1 35 x3.toNatClampNeg = (-1) → kc ≤ mc ∧ ks ≤ ms ∧ cX_X2_seekWayOut l S x3 (fun S14 => B93 kc ks S14 x3)))
def cT_X2_find_93 (l : Launch) (mc ms : Nat) (post : CS → Prop) (B23 : Nat → Nat → CS → Int32 → Prop) (B60 : Nat → Nat → CS → Int32 → Prop) (B68 : Nat → Nat → CS → Int32 → Prop) (B93 : Nat → Nat → CS → Int32 → Prop) (kc ks : Nat) (S : CS) (x3 : Int32) : Prop := B68 kc ks S (x3 + 1)
def cT_X2_find_e (l : Launch) (mc ms : Nat) (post : CS → Prop) (B23 : Nat → Nat → CS → Int32 → Prop) (B60 : Nat → Nat → CS → Int32 → Prop) (B68 : Nat → Nat → CS → Int32 → Prop) (B93 : Nat → Nat → CS → Int32 → Prop) (S0 : CS) : Prop := (S0.1 17 = 0 → ∃ mc19 ms20 : Nat, 0 + mc19 ≤ mc ∧ 0 + ms20 ≤ ms ∧ cX_X2_prepare l mc19 ms20 (cf S0 17 1) (S0.1 5) (fun S18 => B23 (0 + mc19) (0 + ms20) S18 0)) ∧ (¬ S0.1 17 = 0 → 0 ≤ mc ∧ 0 ≤ ms ∧ post S0)
set_option maxHeartbeats 4000000 in
set_option maxRecDepth 100000 in
theorem c_X2_find (l : Launch) (mc ms : Nat) (S0 : CS) (post : CS → Prop) (h : ∀ (B23 : Nat → Nat → CS → Int32 → Prop) (B60 : Nat → Nat → CS → Int32 → Prop) (B68 : Nat → Nat → CS → Int32 → Prop) (B93 : Nat → Nat → CS → Int32 → Prop), (∀ (kc ks : Nat) (S : CS) (x3 : Int32), cT_X2_find_23 l mc ms post B23 B60 B68 B93 kc ks S x3 → B23 kc ks S x3) → (∀ (kc ks : Nat) (S : CS) (x3 : Int32), cT_X2_find_60 l mc ms post B23 B60 B68 B93 kc ks S x3 → B60 kc ks S x3) → (∀ (kc ks : Nat) (S : CS) (x3 : Int32), cT_X2_find_68 l mc ms post B23 B60 B68 B93 kc ks S x3 → B68 kc ks S x3) → (∀ (kc ks : Nat) (S : CS) (x3 : Int32), cT_X2_find_93 l mc ms post B23 B60 B68 B93 kc ks S x3 → B93 kc ks S x3) → cT_X2_find_e l mc ms post B23 B60 B68 B93 S0) : cX_X2_find l mc ms S0 post := by
  refine csetV rfl (fun _ => Nat.le_of_ble_eq_true rfl) ?_
  intro p e s m args below meth c D ad vd cI cZ cL cG X A Q hx hb hml hown hts hK hZ hA hret H locs ls hP hD hS hl
  replace hl : lv_has ls 4 [(0, .ref (ad 6)), (1, .ref (ad 1)), (2, .ref (ad 2))] := hl
  obtain ⟨B23, hB23⟩ : ∃ B : Nat → Nat → CS → Int32 → Prop, B = (fun kc ks S x3 => ∀ (vd : Nat → Nat) (H : Heap) (locs : List Loc) (ls : Array Slot), va_P D vwCl (cW ad vd cI cZ cL cG S ++ X) H → va_D A (cW ad vd cI cZ cL cG S ++ X) → va_S A s.heap H locs → lv_has ls 4 [(0, .ref (ad 6)), (1, .ref (ad 1)), (2, .ref (ad 2)), (3, .int x3)] → W p l e (crm 5 137 mc ms) s m args below meth c H locs kc ks Q (F0 m 23 ls [])) := ⟨_, rfl⟩
  obtain ⟨B60, hB60⟩ : ∃ B : Nat → Nat → CS → Int32 → Prop, B = (fun kc ks S x3 => ∀ (vd : Nat → Nat) (H : Heap) (locs : List Loc) (ls : Array Slot), va_P D vwCl (cW ad vd cI cZ cL cG S ++ X) H → va_D A (cW ad vd cI cZ cL cG S ++ X) → va_S A s.heap H locs → lv_has ls 4 [(0, .ref (ad 6)), (1, .ref (ad 1)), (2, .ref (ad 2)), (3, .int x3)] → W p l e (crm 5 137 mc ms) s m args below meth c H locs kc ks Q (F0 m 60 ls [])) := ⟨_, rfl⟩
  obtain ⟨B68, hB68⟩ : ∃ B : Nat → Nat → CS → Int32 → Prop, B = (fun kc ks S x3 => ∀ (vd : Nat → Nat) (H : Heap) (locs : List Loc) (ls : Array Slot), va_P D vwCl (cW ad vd cI cZ cL cG S ++ X) H → va_D A (cW ad vd cI cZ cL cG S ++ X) → va_S A s.heap H locs → lv_has ls 4 [(0, .ref (ad 6)), (1, .ref (ad 1)), (2, .ref (ad 2)), (3, .int x3)] → W p l e (crm 5 137 mc ms) s m args below meth c H locs kc ks Q (F0 m 68 ls [])) := ⟨_, rfl⟩
  obtain ⟨B93, hB93⟩ : ∃ B : Nat → Nat → CS → Int32 → Prop, B = (fun kc ks S x3 => ∀ (vd : Nat → Nat) (H : Heap) (locs : List Loc) (ls : Array Slot), va_P D vwCl (cW ad vd cI cZ cL cG S ++ X) H → va_D A (cW ad vd cI cZ cL cG S ++ X) → va_S A s.heap H locs → lv_has ls 4 [(0, .ref (ad 6)), (1, .ref (ad 1)), (2, .ref (ad 2)), (3, .int x3)] → W p l e (crm 5 137 mc ms) s m args below meth c H locs kc ks Q (F0 m 93 ls [])) := ⟨_, rfl⟩
  have hT : cT_X2_find_e l mc ms post B23 B60 B68 B93 S0 := by
    refine h B23 B60 B68 B93 ?_ ?_ ?_ ?_
    · clear hP hD hS hl H locs ls vd
      intro kc ks S x3 hT
      unfold cT_X2_find_23 at hT
      rw [hB23]
      intro vd H locs ls hP hD hS hl
      refine lv_iload_n hx hb dX2_find_23 rfl (lv_at hl 3 rfl) ?_
      refine lv_aload_n hx hb dX2_find_24 rfl (lv_at hl 1 rfl) ?_
      refine cg_X2_40 (v := S.1 5) hx hb hts hown hK hP rfl dX2_find_25 ?_
      refine lv_icmp_ge (tgt := 66) hx hb dX2_find_28 (by decide) (fun c1 => ?_) (fun c1 => ?_)
      · replace hT := hT.1 c1
        refine lv_iconst (v := 0) hx hb dX2_find_66 (by decide) ?_
        refine lv_istore_n (lv' := [(3, .int 0), (0, .ref (ad 6)), (1, .ref (ad 1)), (2, .ref (ad 2))]) hx hb dX2_find_67 rfl hl (by decide) rfl (fun ls hl => ?_)
        rw [hB68] at hT
        exact hT _ _ _ _ hP hD hS (lv_sub hl [1, 2, 3, 0] rfl)
      · replace hT := hT.2 c1
        refine lv_aload_n hx hb dX2_find_31 rfl (lv_at hl 0 rfl) ?_
        refine cg_X2_9 hx hb hts hown hK hP dX2_find_32 ?_
        refine lv_iload_n hx hb dX2_find_35 rfl (lv_at hl 3 rfl) ?_
        obtain ⟨hi2, hT⟩ := hT
        refine va_iald (f := S.2.1 30) hx hb hK hP 30 0 cat_30 rfl hi2 dX2_find_36 ?_
        refine lv_if_ne (tgt := 60) hx hb dX2_find_37 (by decide) (fun c3 => ?_) (fun c3 => ?_)
        · replace hT := hT.1 c3
          rw [hB60] at hT
          exact hT _ _ _ _ hP hD hS (lv_sub hl [0, 1, 2, 3] rfl)
        · replace hT := hT.2 c3
          refine lv_aload_n hx hb dX2_find_40 rfl (lv_at hl 2 rfl) ?_
          refine lv_aload_n hx hb dX2_find_41 rfl (lv_at hl 1 rfl) ?_
          refine lv_iload_n hx hb dX2_find_42 rfl (lv_at hl 3 rfl) ?_
          obtain ⟨hk5, hk6, hT⟩ := hT
          refine ccallVV (n := 2) (b := ad 2) (C := RX3) (As := [.ref (ad 1), .int x3]) (rest := []) hT hx hb hml hown hts hK hZ hA hP hD hS hl gc_X2_50 hdc_X3_read (va_recv hK hP rfl cob_2) ⟨Nat.le_of_ble_eq_true rfl, Nat.le_of_ble_eq_true rfl⟩ rfl rfl rfl (Nat.le_of_ble_eq_true rfl) dX2_find_43 hk5 hk6 (fun S4 vd H locs hP hD hS hT => ?_)
          refine lv_aload_n hx hb dX2_find_46 rfl (lv_at hl 2 rfl) ?_
          refine cg_X2_56 (v := S4.1 8) hx hb hts hown hK hP rfl dX2_find_47 ?_
          refine lv_if_eq (tgt := 60) hx hb dX2_find_50 (by decide) (fun c7 => ?_) (fun c7 => ?_)
          · replace hT := hT.1 c7
            rw [hB60] at hT
            exact hT _ _ _ _ hP hD hS (lv_sub hl [0, 1, 2, 3] rfl)
          · replace hT := hT.2 c7
            refine lv_aload_n hx hb dX2_find_53 rfl (lv_at hl 0 rfl) ?_
            refine lv_aload_n hx hb dX2_find_54 rfl (lv_at hl 1 rfl) ?_
            refine lv_aload_n hx hb dX2_find_55 rfl (lv_at hl 2 rfl) ?_
            refine lv_iload_n hx hb dX2_find_56 rfl (lv_at hl 3 rfl) ?_
            obtain ⟨hk9, hk10, hT⟩ := hT
            refine ccallVV (n := 3) (b := ad 6) (C := RX2) (As := [.ref (ad 1), .ref (ad 2), .int x3]) (rest := []) hT hx hb hml hown hts hK hZ hA hP hD hS hl gc_X2_59 hdc_X2_walk (va_recv hK hP rfl cob_6) ⟨Nat.le_of_ble_eq_true rfl, Nat.le_of_ble_eq_true rfl⟩ rfl rfl rfl (Nat.le_of_ble_eq_true rfl) dX2_find_57 hk9 hk10 (fun S8 vd H locs hP hD hS hT => ?_)
            rw [hB60] at hT
            exact hT _ _ _ _ hP hD hS (lv_sub hl [0, 1, 2, 3] rfl)
    · clear hP hD hS hl H locs ls vd
      intro kc ks S x3 hT
      unfold cT_X2_find_60 at hT
      rw [hB60]
      intro vd H locs ls hP hD hS hl
      refine lv_iinc (v := x3 + 1) (lv' := [(3, .int (x3 + 1)), (0, .ref (ad 6)), (1, .ref (ad 1)), (2, .ref (ad 2))]) hx hb dX2_find_60 hl (k := 3) rfl rfl (by decide) rfl (fun ls hl => ?_)
      refine lv_goto (tgt := 23) hx hb dX2_find_63 (by decide) ?_
      rw [hB23] at hT
      exact hT _ _ _ _ hP hD hS (lv_sub hl [1, 2, 3, 0] rfl)
    · clear hP hD hS hl H locs ls vd
      intro kc ks S x3 hT
      unfold cT_X2_find_68 at hT
      rw [hB68]
      intro vd H locs ls hP hD hS hl
      refine lv_iload_n hx hb dX2_find_68 rfl (lv_at hl 3 rfl) ?_
      refine lv_aload_n hx hb dX2_find_69 rfl (lv_at hl 1 rfl) ?_
      refine cg_X2_40 (v := S.1 5) hx hb hts hown hK hP rfl dX2_find_70 ?_
      refine lv_icmp_ge (tgt := 99) hx hb dX2_find_73 (by decide) (fun c11 => ?_) (fun c11 => ?_)
      · replace hT := hT.1 c11
        obtain ⟨hkc, hks, hT⟩ := hT
        exact hret _ _ _ _ _ _ _ _ hP hD hS hkc hks hT dX2_find_99
      · replace hT := hT.2 c11
        refine lv_aload_n hx hb dX2_find_76 rfl (lv_at hl 0 rfl) ?_
        refine cg_X2_27 hx hb hts hown hK hP dX2_find_77 ?_
        refine lv_iload_n hx hb dX2_find_80 rfl (lv_at hl 3 rfl) ?_
        obtain ⟨hi12, hT⟩ := hT
        refine va_iald (f := S.2.1 35) hx hb hK hP 35 0 cat_35 rfl hi12 dX2_find_81 ?_
        refine lv_iconst (v := (-1)) hx hb dX2_find_82 (by decide) ?_
        refine lv_icmp_eq (tgt := 93) hx hb dX2_find_83 (by decide) (fun c13 => ?_) (fun c13 => ?_)
        · replace hT := hT.1 c13
          rw [hB93] at hT
          exact hT _ _ _ _ hP hD hS (lv_sub hl [0, 1, 2, 3] rfl)
        · replace hT := hT.2 c13
          refine lv_aload_n hx hb dX2_find_86 rfl (lv_at hl 0 rfl) ?_
          refine lv_aload_n hx hb dX2_find_87 rfl (lv_at hl 1 rfl) ?_
          refine lv_aload_n hx hb dX2_find_88 rfl (lv_at hl 2 rfl) ?_
          refine lv_iload_n hx hb dX2_find_89 rfl (lv_at hl 3 rfl) ?_
          obtain ⟨hk15, hk16, hT⟩ := hT
          refine ccallVV (n := 3) (b := ad 6) (C := RX2) (As := [.ref (ad 1), .ref (ad 2), .int x3]) (rest := []) hT hx hb hml hown hts hK hZ hA hP hD hS hl gc_X2_63 hdc_X2_seekWayOut (va_recv hK hP rfl cob_6) ⟨Nat.le_of_ble_eq_true rfl, Nat.le_of_ble_eq_true rfl⟩ rfl rfl rfl (Nat.le_of_ble_eq_true rfl) dX2_find_90 hk15 hk16 (fun S14 vd H locs hP hD hS hT => ?_)
          rw [hB93] at hT
          exact hT _ _ _ _ hP hD hS (lv_sub hl [0, 1, 2, 3] rfl)
    · clear hP hD hS hl H locs ls vd
      intro kc ks S x3 hT
      unfold cT_X2_find_93 at hT
      rw [hB93]
      intro vd H locs ls hP hD hS hl
      refine lv_iinc (v := x3 + 1) (lv' := [(3, .int (x3 + 1)), (0, .ref (ad 6)), (1, .ref (ad 1)), (2, .ref (ad 2))]) hx hb dX2_find_93 hl (k := 3) rfl rfl (by decide) rfl (fun ls hl => ?_)
      refine lv_goto (tgt := 68) hx hb dX2_find_96 (by decide) ?_
      rw [hB68] at hT
      exact hT _ _ _ _ hP hD hS (lv_sub hl [1, 2, 3, 0] rfl)
  unfold cT_X2_find_e at hT
  refine lv_aload_n hx hb dX2_find_0 rfl (lv_at hl 0 rfl) ?_
  refine cg_X2_36 (v := S0.1 17) hx hb hts hown hK hP rfl dX2_find_1 ?_
  refine lv_if_eq (tgt := 8) hx hb dX2_find_4 (by decide) (fun c17 => ?_) (fun c17 => ?_)
  · replace hT := hT.1 c17
    refine lv_aload_n hx hb dX2_find_8 rfl (lv_at hl 0 rfl) ?_
    refine lv_iconst (v := 1) hx hb dX2_find_9 (by decide) ?_
    refine cp_X2_36 hx hb hts hown hK hP hD hS ⟨rfl, rfl⟩ dX2_find_10 (fun H locs hP hD hS => ?_)
    refine lv_aload_n hx hb dX2_find_13 rfl (lv_at hl 0 rfl) ?_
    refine lv_aload_n hx hb dX2_find_14 rfl (lv_at hl 1 rfl) ?_
    refine cg_X2_40 (v := S0.1 5) hx hb hts hown hK hP rfl dX2_find_15 ?_
    obtain ⟨mc19, ms20, hk21, hk22, hT⟩ := hT
    refine ccallVV (n := 1) (b := ad 6) (C := RX2) (As := [.int (S0.1 5)]) (rest := []) hT hx hb hml hown hts hK hZ hA hP hD hS hl gc_X2_46 hdc_X2_prepare (va_recv hK hP rfl cob_6) ⟨Nat.le_of_ble_eq_true rfl, Nat.le_of_ble_eq_true rfl⟩ rfl rfl rfl (Nat.le_of_ble_eq_true rfl) dX2_find_18 hk21 hk22 (fun S18 vd H locs hP hD hS hT => ?_)
    refine lv_iconst (v := 0) hx hb dX2_find_21 (by decide) ?_
    refine lv_istore_n (lv' := [(3, .int 0), (0, .ref (ad 6)), (1, .ref (ad 1)), (2, .ref (ad 2))]) hx hb dX2_find_22 rfl hl (by decide) rfl (fun ls hl => ?_)
    rw [hB23] at hT
    exact hT _ _ _ _ hP hD hS (lv_sub hl [1, 2, 3, 0] rfl)
  · replace hT := hT.2 c17
    obtain ⟨hkc, hks, hT⟩ := hT
    exact hret _ _ _ _ _ _ _ _ hP hD hS hkc hks hT dX2_find_7
