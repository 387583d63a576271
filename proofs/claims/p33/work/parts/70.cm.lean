abbrev cX_X7_castRoles (l : Launch) (S : CS) (a2 : Int32) (a3 : Int32) (post : CS → Prop) : Prop := cCtV l yX7_castRoles cX7_castRoles 5 0 0 0 0 (fun ad => [.ref (ad 8), .ref (ad 7), .int a2, .int a3]) S post
def cT_X7_castRoles_3 (l : Launch) (a2 : Int32) (a3 : Int32) (post : CS → Prop) (B3 : CS → Int32 → Prop) (S : CS) (x4 : Int32) : Prop := (5 ≤ x4 → post S) ∧ (¬ 5 ≤ x4 → vp_in (a3 + 1) 7 ∧ vp_in a3 7 ∧ vp_in ((a2 * 5) + x4) 320 ∧ vp_in (S.2.1 41 ((a2 * 5) + x4).toNatClampNeg) 5 ∧ vp_in x4 5 ∧ B3 (ca S (44 + (a3 + 1).toNatClampNeg) (upd (S.2.1 (44 + (a3 + 1).toNatClampNeg)) x4.toNatClampNeg (S.2.1 (44 + a3.toNatClampNeg) (S.2.1 41 ((a2 * 5) + x4).toNatClampNeg).toNatClampNeg))) (x4 + 1))
def cT_X7_castRoles_e (l : Launch) (a2 : Int32) (a3 : Int32) (post : CS → Prop) (B3 : CS → Int32 → Prop) (S0 : CS) : Prop := B3 S0 0
set_option maxHeartbeats 4000000 in
set_option maxRecDepth 100000 in
theorem c_X7_castRoles (l : Launch) (S0 : CS) (a2 : Int32) (a3 : Int32) (post : CS → Prop) (h : ∀ (B3 : CS → Int32 → Prop), (∀ (S : CS) (x4 : Int32), cT_X7_castRoles_3 l a2 a3 post B3 S x4 → B3 S x4) → cT_X7_castRoles_e l a2 a3 post B3 S0) : cX_X7_castRoles l S0 a2 a3 post := by
  refine csetV rfl (fun _ => Nat.le_of_ble_eq_true rfl) ?_
  intro p e s m args below meth c D ad vd cI cZ cL cG X A Q hx hb hml hown hts hK hZ hA hret H locs ls hP hD hS hl
  replace hl : lv_has ls 5 [(0, .ref (ad 8)), (1, .ref (ad 7)), (2, .int a2), (3, .int a3)] := hl
  obtain ⟨B3, hB3⟩ : ∃ B : CS → Int32 → Prop, B = (fun S x4 => ∀ (vd : Nat → Nat) (H : Heap) (locs : List Loc) (ls : Array Slot), va_P D vwCl (cW ad vd cI cZ cL cG S ++ X) H → va_D A (cW ad vd cI cZ cL cG S ++ X) → va_S A s.heap H locs → lv_has ls 5 [(0, .ref (ad 8)), (1, .ref (ad 7)), (2, .int a2), (3, .int a3), (4, .int x4)] → W p l e (crm 0 0 0 0) s m args below meth c H locs 0 0 Q (F0 m 3 ls [])) := ⟨_, rfl⟩
  have hT : cT_X7_castRoles_e l a2 a3 post B3 S0 := by
    refine h B3 ?_
    · clear hP hD hS hl H locs ls vd
      intro S x4 hT
      unfold cT_X7_castRoles_3 at hT
      rw [hB3]
      intro vd H locs ls hP hD hS hl
      refine lv_iload hx hb dX7_castRoles_3 (lv_at hl 4 rfl) ?_
      refine lv_iconst (v := 5) hx hb dX7_castRoles_5 (by decide) ?_
      refine lv_icmp_ge (tgt := 44) hx hb dX7_castRoles_6 (by decide) (fun c1 => ?_) (fun c1 => ?_)
      · replace hT := hT.1 c1
        exact hret _ _ _ _ _ _ _ _ hP hD hS (Nat.le_refl _) (Nat.le_refl _) hT dX7_castRoles_44
      · replace hT := hT.2 c1
        refine lv_aload_n hx hb dX7_castRoles_9 rfl (lv_at hl 0 rfl) ?_
        refine cg_X7_11 hx hb hts hown hK hP dX7_castRoles_10 ?_
        refine lv_iload_n hx hb dX7_castRoles_13 rfl (lv_at hl 3 rfl) ?_
        refine lv_iconst (v := 1) hx hb dX7_castRoles_14 (by decide) ?_
        refine lv_iadd hx hb dX7_castRoles_15 ?_
        obtain ⟨hi2, hT⟩ := hT
        refine calda hx hb hK hP hi2 dX7_castRoles_16 ?_
        refine lv_iload hx hb dX7_castRoles_17 (lv_at hl 4 rfl) ?_
        refine lv_aload_n hx hb dX7_castRoles_19 rfl (lv_at hl 0 rfl) ?_
        refine cg_X7_11 hx hb hts hown hK hP dX7_castRoles_20 ?_
        refine lv_iload_n hx hb dX7_castRoles_23 rfl (lv_at hl 3 rfl) ?_
        obtain ⟨hi3, hT⟩ := hT
        refine calda hx hb hK hP hi3 dX7_castRoles_24 ?_
        refine lv_aload_n hx hb dX7_castRoles_25 rfl (lv_at hl 1 rfl) ?_
        refine cg_X7_64 hx hb hts hown hK hP dX7_castRoles_26 ?_
        refine lv_iload_n hx hb dX7_castRoles_29 rfl (lv_at hl 2 rfl) ?_
        refine lv_iconst (v := 5) hx hb dX7_castRoles_30 (by decide) ?_
        refine lv_imul hx hb dX7_castRoles_31 ?_
        refine lv_iload hx hb dX7_castRoles_32 (lv_at hl 4 rfl) ?_
        refine lv_iadd hx hb dX7_castRoles_34 ?_
        obtain ⟨hi4, hT⟩ := hT
        refine va_iald (f := S.2.1 41) hx hb hK hP 41 0 cat_41 rfl hi4 dX7_castRoles_35 ?_
        obtain ⟨hi5, hT⟩ := hT
        refine va_iald (f := S.2.1 (44 + a3.toNatClampNeg)) hx hb hK hP (44 + a3.toNatClampNeg) 0 (cat_row hi3) rfl hi5 dX7_castRoles_36 ?_
        obtain ⟨hi6, hT⟩ := hT
        refine va_iast (f := S.2.1 (44 + (a3 + 1).toNatClampNeg)) hx hb hK hP hD hS (44 + (a3 + 1).toNatClampNeg) 0 (cat_row hi2) rfl hi6 dX7_castRoles_37 (fun H locs hP hD hS => ?_)
        replace hP := csetP_row hi2 hP
        replace hD := csetD_row hi2 hD
        refine lv_iinc (v := x4 + 1) (lv' := [(4, .int (x4 + 1)), (0, .ref (ad 8)), (1, .ref (ad 7)), (2, .int a2), (3, .int a3)]) hx hb dX7_castRoles_38 hl (k := 4) rfl rfl (by decide) rfl (fun ls hl => ?_)
        refine lv_goto (tgt := 3) hx hb dX7_castRoles_41 (by decide) ?_
        rw [hB3] at hT
        exact hT _ _ _ _ hP hD hS (lv_sub hl [1, 2, 3, 4, 0] rfl)
  unfold cT_X7_castRoles_e at hT
  refine lv_iconst (v := 0) hx hb dX7_castRoles_0 (by decide) ?_
  refine lv_istore (lv' := [(4, .int 0), (0, .ref (ad 8)), (1, .ref (ad 7)), (2, .int a2), (3, .int a3)]) hx hb dX7_castRoles_1 hl (by decide) rfl (fun ls hl => ?_)
  rw [hB3] at hT
  exact hT _ _ _ _ hP hD hS (lv_sub hl [1, 2, 3, 4, 0] rfl)
abbrev cX_X7_perform (l : Launch) (gd : Nat) (S : CS) (a4 : Int32) (a5 : Int32) (a6 : Int32) (post : Int32 → CS → Prop) : Prop := cCtI l yX7_perform cX7_perform 13 (4 + gd) (111 + gd * 32) 0 0 (fun ad => [.ref (ad 8), .ref (ad 1), .ref (ad 2), .ref (ad 7), .int a4, .int a5, .int a6]) S post
def cT_X7_perform_26 (l : Launch) (gd : Nat) (a4 : Int32) (a5 : Int32) (a6 : Int32) (post : Int32 → CS → Prop) (B26 : CS → Int32 → Prop) (B178 : CS → Int32 → Int32 → Prop) (S : CS) (x7 : Int32) : Prop := vp_in a4 8 ∧ (S.2.1 38 a4.toNatClampNeg ≤ x7 → post 0 S) ∧ (¬ S.2.1 38 a4.toNatClampNeg ≤ x7 → ∀ v8_3 : Int32, v8_3 = (a4 * 8) + x7 → vp_in v8_3 64 ∧ ∀ v9_5 : Int32, v9_5 = a5 - (S.2.1 40 v8_3.toNatClampNeg) → vp_in v8_3 64 ∧ (¬ S.2.1 39 v8_3.toNatClampNeg = (-1) → (v9_5 ≤ 0 → B178 S x7 0) ∧ (¬ v9_5 ≤ 0 → (7 ≤ a6 + 1 → B178 S x7 0) ∧ (¬ 7 ≤ a6 + 1 → cX_X7_castRoles l S v8_3 a6 (fun S10 => vp_in v8_3 64 ∧ ∃ g13 : Nat, gd = g13 + 1 ∧ cX_X7_perform l g13 S10 (S10.2.1 39 v8_3.toNatClampNeg) v9_5 (a6 + 1) (fun r14 S12 => B178 S12 x7 r14))))) ∧ (S.2.1 39 v8_3.toNatClampNeg = (-1) → vp_in a6 7 ∧ vp_in (v8_3 * 5) 320 ∧ vp_in (S.2.1 41 (v8_3 * 5).toNatClampNeg) 5 ∧ ∀ v11_18 : Int32, v11_18 = S.2.1 (44 + a6.toNatClampNeg) (S.2.1 41 (v8_3 * 5).toNatClampNeg).toNatClampNeg → vp_in a6 7 ∧ vp_in ((v8_3 * 5) + 1) 320 ∧ vp_in (S.2.1 41 ((v8_3 * 5) + 1).toNatClampNeg) 5 ∧ ∀ v12_22 : Int32, v12_22 = S.2.1 (44 + a6.toNatClampNeg) (S.2.1 41 ((v8_3 * 5) + 1).toNatClampNeg).toNatClampNeg → cX_X7_shift l S (a5 - 1) v11_18 v12_22 (fun r24 S23 => B178 S23 x7 r24)))
def cT_X7_perform_178 (l : Launch) (gd : Nat) (a4 : Int32) (a5 : Int32) (a6 : Int32) (post : Int32 → CS → Prop) (B26 : CS → Int32 → Prop) (B178 : CS → Int32 → Int32 → Prop) (S : CS) (x7 : Int32) (x10 : Int32) : Prop := (x10 = 0 → B26 S (x7 + 1)) ∧ (¬ x10 = 0 → post x10 S)
def cT_X7_perform_e (l : Launch) (gd : Nat) (a4 : Int32) (a5 : Int32) (a6 : Int32) (post : Int32 → CS → Prop) (B26 : CS → Int32 → Prop) (B178 : CS → Int32 → Int32 → Prop) (S0 : CS) : Prop := ((S0.1 20) + 1 ≤ 5000 → B26 (cf S0 20 ((S0.1 20) + 1)) 0) ∧ (¬ (S0.1 20) + 1 ≤ 5000 → post (-4) (cf S0 20 ((S0.1 20) + 1)))
set_option maxHeartbeats 4000000 in
set_option maxRecDepth 100000 in
theorem c_X7_perform (l : Launch) (gd : Nat) (S0 : CS) (a4 : Int32) (a5 : Int32) (a6 : Int32) (post : Int32 → CS → Prop) (h : ∀ (B26 : CS → Int32 → Prop) (B178 : CS → Int32 → Int32 → Prop), (∀ (S : CS) (x7 : Int32), cT_X7_perform_26 l gd a4 a5 a6 post B26 B178 S x7 → B26 S x7) → (∀ (S : CS) (x7 : Int32) (x10 : Int32), cT_X7_perform_178 l gd a4 a5 a6 post B26 B178 S x7 x10 → B178 S x7 x10) → cT_X7_perform_e l gd a4 a5 a6 post B26 B178 S0) : cX_X7_perform l gd S0 a4 a5 a6 post := by
  refine csetI rfl (fun _ => Nat.le_of_ble_eq_true rfl) ?_
  intro p e s m args below meth c D ad vd cI cZ cL cG X A Q hx hb hml hown hts hK hZ hA hret H locs ls hP hD hS hl
  replace hl : lv_has ls 13 [(0, .ref (ad 8)), (1, .ref (ad 1)), (2, .ref (ad 2)), (3, .ref (ad 7)), (4, .int a4), (5, .int a5), (6, .int a6)] := hl
  obtain ⟨B26, hB26⟩ : ∃ B : CS → Int32 → Prop, B = (fun S x7 => ∀ (vd : Nat → Nat) (H : Heap) (locs : List Loc) (ls : Array Slot), va_P D vwCl (cW ad vd cI cZ cL cG S ++ X) H → va_D A (cW ad vd cI cZ cL cG S ++ X) → va_S A s.heap H locs → lv_has ls 13 [(0, .ref (ad 8)), (1, .ref (ad 1)), (2, .ref (ad 2)), (3, .ref (ad 7)), (4, .int a4), (5, .int a5), (6, .int a6), (7, .int x7)] → W p l e (crm (4 + gd) (111 + gd * 32) 0 0) s m args below meth c H locs 0 0 Q (F0 m 26 ls [])) := ⟨_, rfl⟩
  obtain ⟨B178, hB178⟩ : ∃ B : CS → Int32 → Int32 → Prop, B = (fun S x7 x10 => ∀ (vd : Nat → Nat) (H : Heap) (locs : List Loc) (ls : Array Slot), va_P D vwCl (cW ad vd cI cZ cL cG S ++ X) H → va_D A (cW ad vd cI cZ cL cG S ++ X) → va_S A s.heap H locs → lv_has ls 13 [(0, .ref (ad 8)), (1, .ref (ad 1)), (2, .ref (ad 2)), (3, .ref (ad 7)), (4, .int a4), (5, .int a5), (6, .int a6), (7, .int x7), (10, .int x10)] → W p l e (crm (4 + gd) (111 + gd * 32) 0 0) s m args below meth c H locs 0 0 Q (F0 m 178 ls [])) := ⟨_, rfl⟩
  have hT : cT_X7_perform_e l gd a4 a5 a6 post B26 B178 S0 := by
    refine h B26 B178 ?_ ?_
    · clear hP hD hS hl H locs ls vd
      intro S x7 hT
      unfold cT_X7_perform_26 at hT
      rw [hB26]
      intro vd H locs ls hP hD hS hl
      refine lv_iload hx hb dX7_perform_26 (lv_at hl 7 rfl) ?_
      refine lv_aload_n hx hb dX7_perform_28 rfl (lv_at hl 3 rfl) ?_
      refine cg_X7_53 hx hb hts hown hK hP dX7_perform_29 ?_
      refine lv_iload hx hb dX7_perform_32 (lv_at hl 4 rfl) ?_
      obtain ⟨hi1, hT⟩ := hT
      refine va_iald (f := S.2.1 38) hx hb hK hP 38 0 cat_38 rfl hi1 dX7_perform_34 ?_
      refine lv_icmp_ge (tgt := 192) hx hb dX7_perform_35 (by decide) (fun c2 => ?_) (fun c2 => ?_)
      · replace hT := hT.1 c2
        refine lv_iconst (v := 0) hx hb dX7_perform_192 (by decide) ?_
        exact hret _ _ _ _ _ _ _ _ _ hP hD hS (Nat.le_refl _) (Nat.le_refl _) hT dX7_perform_193
      · replace hT := hT.2 c2
        refine lv_iload hx hb dX7_perform_38 (lv_at hl 4 rfl) ?_
        refine lv_bipush (v := 8) hx hb dX7_perform_40 (by decide) ?_
        refine lv_imul hx hb dX7_perform_42 ?_
        refine lv_iload hx hb dX7_perform_43 (lv_at hl 7 rfl) ?_
        refine lv_iadd hx hb dX7_perform_45 ?_
        refine lv_topi (fun v8_3 ev8_3 => ?_)
        replace hT := hT v8_3 ev8_3
        refine lv_istore (lv' := [(8, .int v8_3), (0, .ref (ad 8)), (1, .ref (ad 1)), (2, .ref (ad 2)), (3, .ref (ad 7)), (4, .int a4), (5, .int a5), (6, .int a6), (7, .int x7)]) hx hb dX7_perform_46 hl (by decide) rfl (fun ls hl => ?_)
        refine lv_iload hx hb dX7_perform_48 (lv_at hl 6 rfl) ?_
        refine lv_aload_n hx hb dX7_perform_50 rfl (lv_at hl 4 rfl) ?_
        refine cg_X7_58 hx hb hts hown hK hP dX7_perform_51 ?_
        refine lv_iload hx hb dX7_perform_54 (lv_at hl 0 rfl) ?_
        obtain ⟨hi4, hT⟩ := hT
        refine va_iald (f := S.2.1 40) hx hb hK hP 40 0 cat_40 rfl hi4 dX7_perform_56 ?_
        refine lv_isub hx hb dX7_perform_57 ?_
        refine lv_topi (fun v9_5 ev9_5 => ?_)
        replace hT := hT v9_5 ev9_5
        refine lv_istore (lv' := [(9, .int v9_5), (8, .int v8_3), (0, .ref (ad 8)), (1, .ref (ad 1)), (2, .ref (ad 2)), (3, .ref (ad 7)), (4, .int a4), (5, .int a5), (6, .int a6), (7, .int x7)]) hx hb dX7_perform_58 hl (by decide) rfl (fun ls hl => ?_)
        refine lv_iconst (v := 0) hx hb dX7_perform_60 (by decide) ?_
        refine lv_istore (lv' := [(10, .int 0), (9, .int v9_5), (8, .int v8_3), (0, .ref (ad 8)), (1, .ref (ad 1)), (2, .ref (ad 2)), (3, .ref (ad 7)), (4, .int a4), (5, .int a5), (6, .int a6), (7, .int x7)]) hx hb dX7_perform_61 hl (by decide) rfl (fun ls hl => ?_)
        refine lv_aload_n hx hb dX7_perform_63 rfl (lv_at hl 6 rfl) ?_
        refine cg_X7_61 hx hb hts hown hK hP dX7_perform_64 ?_
        refine lv_iload hx hb dX7_perform_67 (lv_at hl 2 rfl) ?_
        obtain ⟨hi6, hT⟩ := hT
        refine va_iald (f := S.2.1 39) hx hb hK hP 39 0 cat_39 rfl hi6 dX7_perform_69 ?_
        refine lv_iconst (v := (-1)) hx hb dX7_perform_70 (by decide) ?_
        refine lv_icmp_ne (tgt := 133) hx hb dX7_perform_71 (by decide) (fun c7 => ?_) (fun c7 => ?_)
        · replace hT := hT.1 c7
          refine lv_iload hx hb dX7_perform_133 (lv_at hl 1 rfl) ?_
          refine lv_if_le (tgt := 178) hx hb dX7_perform_135 (by decide) (fun c8 => ?_) (fun c8 => ?_)
          · replace hT := hT.1 c8
            rw [hB178] at hT
            exact hT _ _ _ _ hP hD hS (lv_sub hl [3, 4, 5, 6, 7, 8, 9, 10, 0] rfl)
          · replace hT := hT.2 c8
            refine lv_iload hx hb dX7_perform_138 (lv_at hl 9 rfl) ?_
            refine lv_iconst (v := 1) hx hb dX7_perform_140 (by decide) ?_
            refine lv_iadd hx hb dX7_perform_141 ?_
            refine lv_bipush (v := 7) hx hb dX7_perform_142 (by decide) ?_
            refine lv_icmp_ge (tgt := 178) hx hb dX7_perform_144 (by decide) (fun c9 => ?_) (fun c9 => ?_)
            · replace hT := hT.1 c9
              rw [hB178] at hT
              exact hT _ _ _ _ hP hD hS (lv_sub hl [3, 4, 5, 6, 7, 8, 9, 10, 0] rfl)
            · replace hT := hT.2 c9
              refine lv_aload_n hx hb dX7_perform_147 rfl (lv_at hl 3 rfl) ?_
              refine lv_aload_n hx hb dX7_perform_148 rfl (lv_at hl 6 rfl) ?_
              refine lv_iload hx hb dX7_perform_149 (lv_at hl 2 rfl) ?_
              refine lv_iload hx hb dX7_perform_151 (lv_at hl 9 rfl) ?_
              refine ccallVV (n := 3) (b := ad 8) (C := RX7) (As := [.ref (ad 7), .int v8_3, .int a6]) (rest := []) hT hx hb hml hown hts hK hZ hA hP hD hS hl gc_X7_71 hdc_X7_castRoles (va_recv hK hP rfl cob_8) ⟨by show _ ≤ (4 + gd); omega, by show _ ≤ (111 + gd * 32); omega⟩ rfl rfl rfl (Nat.le_of_ble_eq_true rfl) dX7_perform_153 (Nat.le_refl _) (Nat.le_refl _) (fun S10 vd H locs hP hD hS hT => ?_)
              refine lv_aload_n hx hb dX7_perform_156 rfl (lv_at hl 3 rfl) ?_
              refine lv_aload_n hx hb dX7_perform_157 rfl (lv_at hl 4 rfl) ?_
              refine lv_aload_n hx hb dX7_perform_158 rfl (lv_at hl 5 rfl) ?_
              refine lv_aload_n hx hb dX7_perform_159 rfl (lv_at hl 6 rfl) ?_
              refine lv_aload_n hx hb dX7_perform_160 rfl (lv_at hl 6 rfl) ?_
              refine cg_X7_61 hx hb hts hown hK hP dX7_perform_161 ?_
              refine lv_iload hx hb dX7_perform_164 (lv_at hl 2 rfl) ?_
              obtain ⟨hi11, hT⟩ := hT
              refine va_iald (f := S10.2.1 39) hx hb hK hP 39 0 cat_39 rfl hi11 dX7_perform_166 ?_
              refine lv_iload hx hb dX7_perform_167 (lv_at hl 1 rfl) ?_
              refine lv_iload hx hb dX7_perform_169 (lv_at hl 9 rfl) ?_
              refine lv_iconst (v := 1) hx hb dX7_perform_171 (by decide) ?_
              refine lv_iadd hx hb dX7_perform_172 ?_
              obtain ⟨g13, hgg13, hT⟩ := hT
              refine ccallVI (n := 6) (b := ad 8) (C := RX7) (As := [.ref (ad 1), .ref (ad 2), .ref (ad 7), .int (S10.2.1 39 v8_3.toNatClampNeg), .int v9_5, .int (a6 + 1)]) (rest := []) hT hx hb hml hown hts hK hZ hA hP hD hS hl gc_X7_40 hdc_X7_perform (va_recv hK hP rfl cob_8) ⟨by show _ ≤ (4 + gd); omega, by show _ ≤ (111 + gd * 32); omega⟩ rfl rfl rfl (Nat.le_of_ble_eq_true rfl) dX7_perform_173 (Nat.le_refl _) (Nat.le_refl _) (fun r14 S12 vd H locs hP hD hS hT => ?_)
              refine lv_istore (lv' := [(10, .int r14), (9, .int v9_5), (8, .int v8_3), (0, .ref (ad 8)), (1, .ref (ad 1)), (2, .ref (ad 2)), (3, .ref (ad 7)), (4, .int a4), (5, .int a5), (6, .int a6), (7, .int x7)]) hx hb dX7_perform_176 hl (by decide) rfl (fun ls hl => ?_)
              rw [hB178] at hT
              exact hT _ _ _ _ hP hD hS (lv_sub hl [3, 4, 5, 6, 7, 8, 9, 10, 0] rfl)
        · replace hT := hT.2 c7
          refine lv_aload_n hx hb dX7_perform_74 rfl (lv_at hl 3 rfl) ?_
          refine cg_X7_11 hx hb hts hown hK hP dX7_perform_75 ?_
          refine lv_iload hx hb dX7_perform_78 (lv_at hl 9 rfl) ?_
          obtain ⟨hi15, hT⟩ := hT
          refine calda hx hb hK hP hi15 dX7_perform_80 ?_
          refine lv_aload_n hx hb dX7_perform_81 rfl (lv_at hl 6 rfl) ?_
          refine cg_X7_64 hx hb hts hown hK hP dX7_perform_82 ?_
          refine lv_iload hx hb dX7_perform_85 (lv_at hl 2 rfl) ?_
          refine lv_iconst (v := 5) hx hb dX7_perform_87 (by decide) ?_
          refine lv_imul hx hb dX7_perform_88 ?_
          obtain ⟨hi16, hT⟩ := hT
          refine va_iald (f := S.2.1 41) hx hb hK hP 41 0 cat_41 rfl hi16 dX7_perform_89 ?_
          obtain ⟨hi17, hT⟩ := hT
          refine va_iald (f := S.2.1 (44 + a6.toNatClampNeg)) hx hb hK hP (44 + a6.toNatClampNeg) 0 (cat_row hi15) rfl hi17 dX7_perform_90 ?_
          refine lv_topi (fun v11_18 ev11_18 => ?_)
          replace hT := hT v11_18 ev11_18
          refine lv_istore (lv' := [(11, .int v11_18), (10, .int 0), (9, .int v9_5), (8, .int v8_3), (0, .ref (ad 8)), (1, .ref (ad 1)), (2, .ref (ad 2)), (3, .ref (ad 7)), (4, .int a4), (5, .int a5), (6, .int a6), (7, .int x7)]) hx hb dX7_perform_91 hl (by decide) rfl (fun ls hl => ?_)
          refine lv_aload_n hx hb dX7_perform_93 rfl (lv_at hl 4 rfl) ?_
          refine cg_X7_11 hx hb hts hown hK hP dX7_perform_94 ?_
          refine lv_iload hx hb dX7_perform_97 (lv_at hl 10 rfl) ?_
          obtain ⟨hi19, hT⟩ := hT
          refine calda hx hb hK hP hi19 dX7_perform_99 ?_
          refine lv_aload_n hx hb dX7_perform_100 rfl (lv_at hl 7 rfl) ?_
          refine cg_X7_64 hx hb hts hown hK hP dX7_perform_101 ?_
          refine lv_iload hx hb dX7_perform_104 (lv_at hl 3 rfl) ?_
          refine lv_iconst (v := 5) hx hb dX7_perform_106 (by decide) ?_
          refine lv_imul hx hb dX7_perform_107 ?_
          refine lv_iconst (v := 1) hx hb dX7_perform_108 (by decide) ?_
          refine lv_iadd hx hb dX7_perform_109 ?_
          obtain ⟨hi20, hT⟩ := hT
          refine va_iald (f := S.2.1 41) hx hb hK hP 41 0 cat_41 rfl hi20 dX7_perform_110 ?_
          obtain ⟨hi21, hT⟩ := hT
          refine va_iald (f := S.2.1 (44 + a6.toNatClampNeg)) hx hb hK hP (44 + a6.toNatClampNeg) 0 (cat_row hi19) rfl hi21 dX7_perform_111 ?_
          refine lv_topi (fun v12_22 ev12_22 => ?_)
          replace hT := hT v12_22 ev12_22
          refine lv_istore (lv' := [(12, .int v12_22), (11, .int v11_18), (10, .int 0), (9, .int v9_5), (8, .int v8_3), (0, .ref (ad 8)), (1, .ref (ad 1)), (2, .ref (ad 2)), (3, .ref (ad 7)), (4, .int a4), (5, .int a5), (6, .int a6), (7, .int x7)]) hx hb dX7_perform_112 hl (by decide) rfl (fun ls hl => ?_)
          refine lv_aload_n hx hb dX7_perform_114 rfl (lv_at hl 5 rfl) ?_
          refine lv_aload_n hx hb dX7_perform_115 rfl (lv_at hl 6 rfl) ?_
          refine lv_aload_n hx hb dX7_perform_116 rfl (lv_at hl 7 rfl) ?_
          refine lv_iload hx hb dX7_perform_117 (lv_at hl 10 rfl) ?_
          refine lv_iconst (v := 1) hx hb dX7_perform_119 (by decide) ?_
          refine lv_isub hx hb dX7_perform_120 ?_
          refine lv_iload hx hb dX7_perform_121 (lv_at hl 1 rfl) ?_
          refine lv_iload hx hb dX7_perform_123 (lv_at hl 0 rfl) ?_
          refine ccallVI (n := 5) (b := ad 8) (C := RX7) (As := [.ref (ad 1), .ref (ad 2), .int (a5 - 1), .int v11_18, .int v12_22]) (rest := []) hT hx hb hml hown hts hK hZ hA hP hD hS hl gc_X7_67 hdc_X7_shift (va_recv hK hP rfl cob_8) ⟨by show _ ≤ (4 + gd); omega, by show _ ≤ (111 + gd * 32); omega⟩ rfl rfl rfl (Nat.le_of_ble_eq_true rfl) dX7_perform_125 (Nat.le_refl _) (Nat.le_refl _) (fun r24 S23 vd H locs hP hD hS hT => ?_)
          refine lv_istore (lv' := [(10, .int r24), (12, .int v12_22), (11, .int v11_18), (9, .int v9_5), (8, .int v8_3), (0, .ref (ad 8)), (1, .ref (ad 1)), (2, .ref (ad 2)), (3, .ref (ad 7)), (4, .int a4), (5, .int a5), (6, .int a6), (7, .int x7)]) hx hb dX7_perform_128 hl (by decide) rfl (fun ls hl => ?_)
          refine lv_goto (tgt := 178) hx hb dX7_perform_130 (by decide) ?_
          rw [hB178] at hT
          exact hT _ _ _ _ hP hD hS (lv_sub hl [5, 6, 7, 8, 9, 10, 11, 12, 0] rfl)
    · clear hP hD hS hl H locs ls vd
      intro S x7 x10 hT
      unfold cT_X7_perform_178 at hT
      rw [hB178]
      intro vd H locs ls hP hD hS hl
      refine lv_iload hx hb dX7_perform_178 (lv_at hl 8 rfl) ?_
      refine lv_if_eq (tgt := 186) hx hb dX7_perform_180 (by decide) (fun c25 => ?_) (fun c25 => ?_)
      · replace hT := hT.1 c25
        refine lv_iinc (v := x7 + 1) (lv' := [(7, .int (x7 + 1)), (0, .ref (ad 8)), (1, .ref (ad 1)), (2, .ref (ad 2)), (3, .ref (ad 7)), (4, .int a4), (5, .int a5), (6, .int a6), (10, .int x10)]) hx hb dX7_perform_186 hl (k := 7) rfl rfl (by decide) rfl (fun ls hl => ?_)
        refine lv_goto (tgt := 26) hx hb dX7_perform_189 (by decide) ?_
        rw [hB26] at hT
        exact hT _ _ _ _ hP hD hS (lv_sub hl [1, 2, 3, 4, 5, 6, 7, 0] rfl)
      · replace hT := hT.2 c25
        refine lv_iload hx hb dX7_perform_183 (lv_at hl 8 rfl) ?_
        exact hret _ _ _ _ _ _ _ _ _ hP hD hS (Nat.le_refl _) (Nat.le_refl _) hT dX7_perform_185
  unfold cT_X7_perform_e at hT
  refine lv_aload_n hx hb dX7_perform_0 rfl (lv_at hl 0 rfl) ?_
  refine lv_dup hx hb dX7_perform_1 rfl ?_
  refine cg_X7_20 (v := S0.1 20) hx hb hts hown hK hP rfl dX7_perform_2 ?_
  refine lv_iconst (v := 1) hx hb dX7_perform_5 (by decide) ?_
  refine lv_iadd hx hb dX7_perform_6 ?_
  refine cp_X7_20 hx hb hts hown hK hP hD hS dX7_perform_7 (fun H locs hP hD hS => ?_)
  refine lv_aload_n hx hb dX7_perform_10 rfl (lv_at hl 0 rfl) ?_
  refine cg_X7_20 (v := (S0.1 20) + 1) hx hb hts hown hK hP rfl dX7_perform_11 ?_
  refine lv_sipush (v := 5000) hx hb dX7_perform_14 (by decide) ?_
  refine lv_icmp_le (tgt := 23) hx hb dX7_perform_17 (by decide) (fun c26 => ?_) (fun c26 => ?_)
  · replace hT := hT.1 c26
    refine lv_iconst (v := 0) hx hb dX7_perform_23 (by decide) ?_
    refine lv_istore (lv' := [(7, .int 0), (0, .ref (ad 8)), (1, .ref (ad 1)), (2, .ref (ad 2)), (3, .ref (ad 7)), (4, .int a4), (5, .int a5), (6, .int a6)]) hx hb dX7_perform_24 hl (by decide) rfl (fun ls hl => ?_)
    rw [hB26] at hT
    exact hT _ _ _ _ hP hD hS (lv_sub hl [1, 2, 3, 4, 5, 6, 7, 0] rfl)
  · replace hT := hT.2 c26
    refine lv_bipush (v := (-4)) hx hb dX7_perform_20 (by decide) ?_
    exact hret _ _ _ _ _ _ _ _ _ hP hD hS (Nat.le_refl _) (Nat.le_refl _) hT dX7_perform_22
abbrev cX_X7_run (l : Launch) (S : CS) (a4 : Int32) (a5 : Int32) (post : Int32 → CS → Prop) : Prop := cCtI l yX7_run cX7_run 8 12 367 0 0 (fun ad => [.ref (ad 8), .ref (ad 1), .ref (ad 2), .ref (ad 7), .int a4, .int a5]) S post
def cT_X7_run_29 (l : Launch) (a4 : Int32) (a5 : Int32) (post : Int32 → CS → Prop) (B29 : CS → Int32 → Prop) (B49 : CS → Int32 → Prop) (S : CS) (x6 : Int32) : Prop := (x6 = 0 → cX_X3_read l S (S.1 22) (fun S2 => B49 S2 0)) ∧ (¬ x6 = 0 → post x6 S)
def cT_X7_run_49 (l : Launch) (a4 : Int32) (a5 : Int32) (post : Int32 → CS → Prop) (B29 : CS → Int32 → Prop) (B49 : CS → Int32 → Prop) (S : CS) (x7 : Int32) : Prop := (a5 ≤ x7 → post (S.1 21) S) ∧ (¬ a5 ≤ x7 → vp_in x7 7 ∧ vp_in 0 7 ∧ vp_in 1 5 ∧ (S.2.1 13 x7.toNatClampNeg = S.2.1 (44 + (0 : Int32).toNatClampNeg) (1 : Int32).toNatClampNeg → B49 S (x7 + 1)) ∧ (¬ S.2.1 13 x7.toNatClampNeg = S.2.1 (44 + (0 : Int32).toNatClampNeg) (1 : Int32).toNatClampNeg → post (-3) S))
def cT_X7_run_e (l : Launch) (a4 : Int32) (a5 : Int32) (post : Int32 → CS → Prop) (B29 : CS → Int32 → Prop) (B49 : CS → Int32 → Prop) (S0 : CS) : Prop := cX_X7_perform l 7 S0 a4 a5 0 (fun r9 S8 => (¬ r9 = (-2) → B29 S8 r9) ∧ (r9 = (-2) → B29 (cf S8 23 (S8.1 21)) r9))
set_option maxHeartbeats 4000000 in
set_option maxRecDepth 100000 in
theorem c_X7_run (l : Launch) (S0 : CS) (a4 : Int32) (a5 : Int32) (post : Int32 → CS → Prop) (h : ∀ (B29 : CS → Int32 → Prop) (B49 : CS → Int32 → Prop), (∀ (S : CS) (x6 : Int32), cT_X7_run_29 l a4 a5 post B29 B49 S x6 → B29 S x6) → (∀ (S : CS) (x7 : Int32), cT_X7_run_49 l a4 a5 post B29 B49 S x7 → B49 S x7) → cT_X7_run_e l a4 a5 post B29 B49 S0) : cX_X7_run l S0 a4 a5 post := by
  refine csetI rfl (fun _ => Nat.le_of_ble_eq_true rfl) ?_
  intro p e s m args below meth c D ad vd cI cZ cL cG X A Q hx hb hml hown hts hK hZ hA hret H locs ls hP hD hS hl
  replace hl : lv_has ls 8 [(0, .ref (ad 8)), (1, .ref (ad 1)), (2, .ref (ad 2)), (3, .ref (ad 7)), (4, .int a4), (5, .int a5)] := hl
  obtain ⟨B29, hB29⟩ : ∃ B : CS → Int32 → Prop, B = (fun S x6 => ∀ (vd : Nat → Nat) (H : Heap) (locs : List Loc) (ls : Array Slot), va_P D vwCl (cW ad vd cI cZ cL cG S ++ X) H → va_D A (cW ad vd cI cZ cL cG S ++ X) → va_S A s.heap H locs → lv_has ls 8 [(0, .ref (ad 8)), (1, .ref (ad 1)), (2, .ref (ad 2)), (5, .int a5), (6, .int x6)] → W p l e (crm 12 367 0 0) s m args below meth c H locs 0 0 Q (F0 m 29 ls [])) := ⟨_, rfl⟩
  obtain ⟨B49, hB49⟩ : ∃ B : CS → Int32 → Prop, B = (fun S x7 => ∀ (vd : Nat → Nat) (H : Heap) (locs : List Loc) (ls : Array Slot), va_P D vwCl (cW ad vd cI cZ cL cG S ++ X) H → va_D A (cW ad vd cI cZ cL cG S ++ X) → va_S A s.heap H locs → lv_has ls 8 [(0, .ref (ad 8)), (2, .ref (ad 2)), (5, .int a5), (7, .int x7)] → W p l e (crm 12 367 0 0) s m args below meth c H locs 0 0 Q (F0 m 49 ls [])) := ⟨_, rfl⟩
  have hT : cT_X7_run_e l a4 a5 post B29 B49 S0 := by
    refine h B29 B49 ?_ ?_
    · clear hP hD hS hl H locs ls vd
      intro S x6 hT
      unfold cT_X7_run_29 at hT
      rw [hB29]
      intro vd H locs ls hP hD hS hl
      refine lv_iload hx hb dX7_run_29 (lv_at hl 4 rfl) ?_
      refine lv_if_eq (tgt := 37) hx hb dX7_run_31 (by decide) (fun c1 => ?_) (fun c1 => ?_)
      · replace hT := hT.1 c1
        refine lv_aload_n hx hb dX7_run_37 rfl (lv_at hl 2 rfl) ?_
        refine lv_aload_n hx hb dX7_run_38 rfl (lv_at hl 1 rfl) ?_
        refine lv_aload_n hx hb dX7_run_39 rfl (lv_at hl 0 rfl) ?_
        refine cg_X7_26 (v := S.1 22) hx hb hts hown hK hP rfl dX7_run_40 ?_
        refine ccallVV (n := 2) (b := ad 2) (C := RX3) (As := [.ref (ad 1), .int (S.1 22)]) (rest := []) hT hx hb hml hown hts hK hZ hA hP hD hS hl gc_X7_44 hdc_X3_read (va_recv hK hP rfl cob_2) ⟨Nat.le_of_ble_eq_true rfl, Nat.le_of_ble_eq_true rfl⟩ rfl rfl rfl (Nat.le_of_ble_eq_true rfl) dX7_run_43 (Nat.le_refl _) (Nat.le_refl _) (fun S2 vd H locs hP hD hS hT => ?_)
        refine lv_iconst (v := 0) hx hb dX7_run_46 (by decide) ?_
        refine lv_istore (lv' := [(7, .int 0), (0, .ref (ad 8)), (1, .ref (ad 1)), (2, .ref (ad 2)), (5, .int a5), (6, .int x6)]) hx hb dX7_run_47 hl (by decide) rfl (fun ls hl => ?_)
        rw [hB49] at hT
        exact hT _ _ _ _ hP hD hS (lv_sub hl [1, 3, 4, 0] rfl)
      · replace hT := hT.2 c1
        refine lv_iload hx hb dX7_run_34 (lv_at hl 4 rfl) ?_
        exact hret _ _ _ _ _ _ _ _ _ hP hD hS (Nat.le_refl _) (Nat.le_refl _) hT dX7_run_36
    · clear hP hD hS hl H locs ls vd
      intro S x7 hT
      unfold cT_X7_run_49 at hT
      rw [hB49]
      intro vd H locs ls hP hD hS hl
      refine lv_iload hx hb dX7_run_49 (lv_at hl 3 rfl) ?_
      refine lv_iload hx hb dX7_run_51 (lv_at hl 2 rfl) ?_
      refine lv_icmp_ge (tgt := 83) hx hb dX7_run_53 (by decide) (fun c3 => ?_) (fun c3 => ?_)
      · replace hT := hT.1 c3
        refine lv_aload_n hx hb dX7_run_83 rfl (lv_at hl 0 rfl) ?_
        refine cg_X7_23 (v := S.1 21) hx hb hts hown hK hP rfl dX7_run_84 ?_
        exact hret _ _ _ _ _ _ _ _ _ hP hD hS (Nat.le_refl _) (Nat.le_refl _) hT dX7_run_87
      · replace hT := hT.2 c3
        refine lv_aload_n hx hb dX7_run_56 rfl (lv_at hl 1 rfl) ?_
        refine cg_X7_50 hx hb hts hown hK hP dX7_run_57 ?_
        refine lv_iload hx hb dX7_run_60 (lv_at hl 3 rfl) ?_
        obtain ⟨hi4, hT⟩ := hT
        refine va_iald (f := S.2.1 13) hx hb hK hP 13 0 cat_13 rfl hi4 dX7_run_62 ?_
        refine lv_aload_n hx hb dX7_run_63 rfl (lv_at hl 0 rfl) ?_
        refine cg_X7_11 hx hb hts hown hK hP dX7_run_64 ?_
        refine lv_iconst (v := 0) hx hb dX7_run_67 (by decide) ?_
        obtain ⟨hi5, hT⟩ := hT
        refine calda hx hb hK hP hi5 dX7_run_68 ?_
        refine lv_iconst (v := 1) hx hb dX7_run_69 (by decide) ?_
        obtain ⟨hi6, hT⟩ := hT
        refine va_iald (f := S.2.1 (44 + (0 : Int32).toNatClampNeg)) hx hb hK hP (44 + (0 : Int32).toNatClampNeg) 0 (cat_row hi5) rfl hi6 dX7_run_70 ?_
        refine lv_icmp_eq (tgt := 77) hx hb dX7_run_71 (by decide) (fun c7 => ?_) (fun c7 => ?_)
        · replace hT := hT.1 c7
          refine lv_iinc (v := x7 + 1) (lv' := [(7, .int (x7 + 1)), (0, .ref (ad 8)), (2, .ref (ad 2)), (5, .int a5)]) hx hb dX7_run_77 hl (k := 3) rfl rfl (by decide) rfl (fun ls hl => ?_)
          refine lv_goto (tgt := 49) hx hb dX7_run_80 (by decide) ?_
          rw [hB49] at hT
          exact hT _ _ _ _ hP hD hS (lv_sub hl [1, 2, 3, 0] rfl)
        · replace hT := hT.2 c7
          refine lv_bipush (v := (-3)) hx hb dX7_run_74 (by decide) ?_
          exact hret _ _ _ _ _ _ _ _ _ hP hD hS (Nat.le_refl _) (Nat.le_refl _) hT dX7_run_76
  unfold cT_X7_run_e at hT
  refine lv_aload_n hx hb dX7_run_0 rfl (lv_at hl 0 rfl) ?_
  refine lv_aload_n hx hb dX7_run_1 rfl (lv_at hl 1 rfl) ?_
  refine lv_aload_n hx hb dX7_run_2 rfl (lv_at hl 2 rfl) ?_
  refine lv_aload_n hx hb dX7_run_3 rfl (lv_at hl 3 rfl) ?_
  refine lv_iload hx hb dX7_run_4 (lv_at hl 4 rfl) ?_
  refine lv_iload hx hb dX7_run_6 (lv_at hl 5 rfl) ?_
  refine lv_iconst (v := 0) hx hb dX7_run_8 (by decide) ?_
  refine ccallVI (n := 6) (b := ad 8) (C := RX7) (As := [.ref (ad 1), .ref (ad 2), .ref (ad 7), .int a4, .int a5, .int 0]) (rest := []) hT hx hb hml hown hts hK hZ hA hP hD hS hl gc_X7_40 hdc_X7_perform (va_recv hK hP rfl cob_8) ⟨Nat.le_of_ble_eq_true rfl, Nat.le_of_ble_eq_true rfl⟩ rfl rfl rfl (Nat.le_of_ble_eq_true rfl) dX7_run_9 (Nat.le_refl _) (Nat.le_refl _) (fun r9 S8 vd H locs hP hD hS hT => ?_)
  refine lv_istore (lv' := [(6, .int r9), (0, .ref (ad 8)), (1, .ref (ad 1)), (2, .ref (ad 2)), (3, .ref (ad 7)), (4, .int a4), (5, .int a5)]) hx hb dX7_run_12 hl (by decide) rfl (fun ls hl => ?_)
  refine lv_iload hx hb dX7_run_14 (lv_at hl 0 rfl) ?_
  refine lv_bipush (v := (-2)) hx hb dX7_run_16 (by decide) ?_
  refine lv_icmp_ne (tgt := 29) hx hb dX7_run_18 (by decide) (fun c10 => ?_) (fun c10 => ?_)
  · replace hT := hT.1 c10
    rw [hB29] at hT
    exact hT _ _ _ _ hP hD hS (lv_sub hl [1, 2, 3, 6, 0] rfl)
  · replace hT := hT.2 c10
    refine lv_aload_n hx hb dX7_run_21 rfl (lv_at hl 1 rfl) ?_
    refine lv_aload_n hx hb dX7_run_22 rfl (lv_at hl 1 rfl) ?_
    refine cg_X7_23 (v := S8.1 21) hx hb hts hown hK hP rfl dX7_run_23 ?_
    refine cp_X7_16 hx hb hts hown hK hP hD hS dX7_run_26 (fun H locs hP hD hS => ?_)
    rw [hB29] at hT
    exact hT _ _ _ _ hP hD hS (lv_sub hl [1, 2, 3, 6, 0] rfl)
abbrev cX_X8_tried (l : Launch) (mc ms : Nat) (S : CS) (a1 : Int32) (a2 : Int32) (a3 : Int32) (a4 : Int32) (a5 : Int32) (a6 : Int32) (a7 : Int32) (post : Int32 → CS → Prop) : Prop := cCtI l yX8_tried cX8_tried 9 13 394 mc ms (fun ad => [.ref (ad 0), .int a1, .int a2, .int a3, .int a4, .int a5, .int a6, .int a7]) S post
def cT_X8_tried_79 (l : Launch) (mc ms : Nat) (a1 : Int32) (a2 : Int32) (a3 : Int32) (a4 : Int32) (a5 : Int32) (a6 : Int32) (a7 : Int32) (post : Int32 → CS → Prop) (B79 : Nat → Nat → CS → (Nat → Int32) → Prop) (kc ks : Nat) (S : CS) (yo : (Nat → Int32)) : Prop := kc ≤ mc ∧ ks ≤ ms ∧ cX_X8_none l S 1 (fun r2 S1 => kc ≤ mc ∧ ks ≤ ms ∧ post r2 S1)
def cT_X8_tried_e (l : Launch) (mc ms : Nat) (a1 : Int32) (a2 : Int32) (a3 : Int32) (a4 : Int32) (a5 : Int32) (a6 : Int32) (a7 : Int32) (post : Int32 → CS → Prop) (B79 : Nat → Nat → CS → (Nat → Int32) → Prop) (S0 : CS) : Prop := 0 + 1 ≤ mc ∧ 0 + 5 ≤ ms ∧ 0 + 1 ≤ mc ∧ 0 + 5 ≤ ms ∧ cX_X1_has l (cf S0 23 (-1)) a1 (fun b13 S12 => (bI b13 = 0 → B79 (0 + 1) (0 + 5) S12 (upd (upd (upd (upd (upd (fun _ => 0) (0 : Int32).toNatClampNeg a3) (1 : Int32).toNatClampNeg a4) (2 : Int32).toNatClampNeg a5) (3 : Int32).toNatClampNeg a6) (4 : Int32).toNatClampNeg a7)) ∧ (¬ bI b13 = 0 → (a2 < 1 → B79 (0 + 1) (0 + 5) S12 (upd (upd (upd (upd (upd (fun _ => 0) (0 : Int32).toNatClampNeg a3) (1 : Int32).toNatClampNeg a4) (2 : Int32).toNatClampNeg a5) (3 : Int32).toNatClampNeg a6) (4 : Int32).toNatClampNeg a7)) ∧ (¬ a2 < 1 → (S12.1 4 < a2 → B79 (0 + 1) (0 + 5) S12 (upd (upd (upd (upd (upd (fun _ => 0) (0 : Int32).toNatClampNeg a3) (1 : Int32).toNatClampNeg a4) (2 : Int32).toNatClampNeg a5) (3 : Int32).toNatClampNeg a6) (4 : Int32).toNatClampNeg a7)) ∧ (¬ S12.1 4 < a2 → 0 + 1 ≤ mc ∧ 0 + 5 ≤ ms ∧ cX_X8_isRearrangement l S12 5 (upd (upd (upd (upd (upd (fun _ => 0) (0 : Int32).toNatClampNeg a3) (1 : Int32).toNatClampNeg a4) (2 : Int32).toNatClampNeg a5) (3 : Int32).toNatClampNeg a6) (4 : Int32).toNatClampNeg a7) (S12.1 3) (fun b20 S19 => (¬ bI b20 = 0 → 0 + 1 ≤ mc ∧ 0 + 5 ≤ ms ∧ cX_X7_prepare l (cf S19 2 0) 5 (upd (upd (upd (upd (upd (fun _ => 0) (0 : Int32).toNatClampNeg a3) (1 : Int32).toNatClampNeg a4) (2 : Int32).toNatClampNeg a5) (3 : Int32).toNatClampNeg a6) (4 : Int32).toNatClampNeg a7) (fun S24 => 0 + 1 ≤ mc ∧ 0 + 5 ≤ ms ∧ cX_X7_run l S24 a1 a2 (fun r28 S27 => 0 + 1 ≤ mc ∧ 0 + 5 ≤ ms ∧ post r28 S27))) ∧ (bI b20 = 0 → B79 (0 + 1) (0 + 5) S19 (upd (upd (upd (upd (upd (fun _ => 0) (0 : Int32).toNatClampNeg a3) (1 : Int32).toNatClampNeg a4) (2 : Int32).toNatClampNeg a5) (3 : Int32).toNatClampNeg a6) (4 : Int32).toNatClampNeg a7)))))))
set_option maxHeartbeats 4000000 in
set_option maxRecDepth 100000 in
theorem c_X8_tried (l : Launch) (mc ms : Nat) (S0 : CS) (a1 : Int32) (a2 : Int32) (a3 : Int32) (a4 : Int32) (a5 : Int32) (a6 : Int32) (a7 : Int32) (post : Int32 → CS → Prop) (h : ∀ (B79 : Nat → Nat → CS → (Nat → Int32) → Prop), (∀ (kc ks : Nat) (S : CS) (yo : (Nat → Int32)), cT_X8_tried_79 l mc ms a1 a2 a3 a4 a5 a6 a7 post B79 kc ks S yo → B79 kc ks S yo) → cT_X8_tried_e l mc ms a1 a2 a3 a4 a5 a6 a7 post B79 S0) : cX_X8_tried l mc ms S0 a1 a2 a3 a4 a5 a6 a7 post := by
  refine csetI rfl (fun _ => Nat.le_of_ble_eq_true rfl) ?_
  intro p e s m args below meth c D ad vd cI cZ cL cG X A Q hx hb hml hown hts hK hZ hA hret H locs ls hP hD hS hl
  replace hl : lv_has ls 9 [(0, .ref (ad 0)), (1, .int a1), (2, .int a2), (3, .int a3), (4, .int a4), (5, .int a5), (6, .int a6), (7, .int a7)] := hl
  obtain ⟨B79, hB79⟩ : ∃ B : Nat → Nat → CS → (Nat → Int32) → Prop, B = (fun kc ks S yo => ∀ (vd : Nat → Nat) (qo : Nat) (H : Heap) (locs : List Loc) (ls : Array Slot), va_P D vwCl (cW ad vd cI cZ cL cG S ++ (X ++ [(qo, .inl (cI, 5, .inl yo))])) H → va_D A (cW ad vd cI cZ cL cG S ++ (X ++ [(qo, .inl (cI, 5, .inl yo))])) → va_S A s.heap H locs → lv_has ls 9 [(0, .ref (ad 0))] → W p l e (crm 13 394 mc ms) s m args below meth c H locs kc ks Q (F0 m 79 ls [])) := ⟨_, rfl⟩
  have hT : cT_X8_tried_e l mc ms a1 a2 a3 a4 a5 a6 a7 post B79 S0 := by
    refine h B79 ?_
    · clear hP hD hS hl H locs ls vd
      intro kc ks S yo hT
      unfold cT_X8_tried_79 at hT
      rw [hB79]
      intro vd qo H locs ls hP hD hS hl
      refine lv_aload_n hx hb dX8_tried_79 rfl (lv_at hl 0 rfl) ?_
      refine lv_iconst (v := 1) hx hb dX8_tried_80 (by decide) ?_
      obtain ⟨hk3, hk4, hT⟩ := hT
      refine ccallVI (n := 1) (b := ad 0) (C := RX8) (As := [.int 1]) (rest := []) hT hx hb hml hown hts hK hZ hA hP hD hS hl gc_X8_138 hdc_X8_none (va_recv hK hP rfl cob_0) ⟨Nat.le_of_ble_eq_true rfl, Nat.le_of_ble_eq_true rfl⟩ rfl rfl rfl (Nat.le_of_ble_eq_true rfl) dX8_tried_81 hk3 hk4 (fun r2 S1 vd H locs hP hD hS hT => ?_)
      obtain ⟨hkc, hks, hT⟩ := hT
      replace hP := hP.dropR
      replace hD := hD.dropR
      exact hret _ _ _ _ _ _ _ _ _ hP hD hS hkc hks hT dX8_tried_84
  unfold cT_X8_tried_e at hT
  refine lv_iconst (v := 5) hx hb dX8_tried_0 (by decide) ?_
  obtain ⟨hk5, hk6, hT⟩ := hT
  refine cnewX (N := 5) hx hb hts hK hP hD hS hA rfl (by decide) (by decide) hk5 hk6 dX8_tried_1 (fun qo H hP hD hS => ?_)
  refine lv_dup hx hb dX8_tried_3 rfl ?_
  refine lv_iconst (v := 0) hx hb dX8_tried_4 (by decide) ?_
  refine lv_iload_n hx hb dX8_tried_5 rfl (lv_at hl 3 rfl) ?_
  have hi7 : vp_in (0 : Int32) 5 := by unfold vp_in; decide
  refine cstX hx hb hK hP hD hS hi7 dX8_tried_6 (fun H locs hP hD hS => ?_)
  refine lv_dup hx hb dX8_tried_7 rfl ?_
  refine lv_iconst (v := 1) hx hb dX8_tried_8 (by decide) ?_
  refine lv_iload hx hb dX8_tried_9 (lv_at hl 4 rfl) ?_
  have hi8 : vp_in (1 : Int32) 5 := by unfold vp_in; decide
  refine cstX hx hb hK hP hD hS hi8 dX8_tried_11 (fun H locs hP hD hS => ?_)
  refine lv_dup hx hb dX8_tried_12 rfl ?_
  refine lv_iconst (v := 2) hx hb dX8_tried_13 (by decide) ?_
  refine lv_iload hx hb dX8_tried_14 (lv_at hl 5 rfl) ?_
  have hi9 : vp_in (2 : Int32) 5 := by unfold vp_in; decide
  refine cstX hx hb hK hP hD hS hi9 dX8_tried_16 (fun H locs hP hD hS => ?_)
  refine lv_dup hx hb dX8_tried_17 rfl ?_
  refine lv_iconst (v := 3) hx hb dX8_tried_18 (by decide) ?_
  refine lv_iload hx hb dX8_tried_19 (lv_at hl 6 rfl) ?_
  have hi10 : vp_in (3 : Int32) 5 := by unfold vp_in; decide
  refine cstX hx hb hK hP hD hS hi10 dX8_tried_21 (fun H locs hP hD hS => ?_)
  refine lv_dup hx hb dX8_tried_22 rfl ?_
  refine lv_iconst (v := 4) hx hb dX8_tried_23 (by decide) ?_
  refine lv_iload hx hb dX8_tried_24 (lv_at hl 7 rfl) ?_
  have hi11 : vp_in (4 : Int32) 5 := by unfold vp_in; decide
  refine cstX hx hb hK hP hD hS hi11 dX8_tried_26 (fun H locs hP hD hS => ?_)
  refine lv_astore (lv' := [(8, .ref qo), (0, .ref (ad 0)), (1, .int a1), (2, .int a2), (3, .int a3), (4, .int a4), (5, .int a5), (6, .int a6), (7, .int a7)]) hx hb dX8_tried_27 hl (by decide) rfl (fun ls hl => ?_)
  refine lv_aload_n hx hb dX8_tried_29 rfl (lv_at hl 1 rfl) ?_
  refine cg_X8_61 hx hb hts hown hK hP dX8_tried_30 ?_
  refine lv_iconst (v := (-1)) hx hb dX8_tried_33 (by decide) ?_
  refine cp_X8_259 hx hb hts hown hK hP hD hS dX8_tried_34 (fun H locs hP hD hS => ?_)
  refine lv_aload_n hx hb dX8_tried_37 rfl (lv_at hl 1 rfl) ?_
  refine cg_X8_54 hx hb hts hown hK hP dX8_tried_38 ?_
  refine lv_iload_n hx hb dX8_tried_41 rfl (lv_at hl 2 rfl) ?_
  obtain ⟨hk14, hk15, hT⟩ := hT
  refine ccallVZ (n := 1) (b := ad 7) (C := RX1) (As := [.int a1]) (rest := []) hT hx hb hml hown hts hK hZ hA hP hD hS hl gc_X8_245 hdc_X1_has (va_recv hK hP rfl cob_7) ⟨Nat.le_of_ble_eq_true rfl, Nat.le_of_ble_eq_true rfl⟩ rfl rfl rfl (Nat.le_of_ble_eq_true rfl) dX8_tried_42 hk14 hk15 (fun b13 S12 vd H locs hP hD hS hT => ?_)
  refine lv_if_eq (tgt := 79) hx hb dX8_tried_45 (by decide) (fun c16 => ?_) (fun c16 => ?_)
  · replace hT := hT.1 c16
    rw [hB79] at hT
    exact hT _ _ _ _ _ hP hD hS (lv_sub hl [1] rfl)
  · replace hT := hT.2 c16
    refine lv_iload_n hx hb dX8_tried_48 rfl (lv_at hl 3 rfl) ?_
    refine lv_iconst (v := 1) hx hb dX8_tried_49 (by decide) ?_
    refine lv_icmp_lt (tgt := 79) hx hb dX8_tried_50 (by decide) (fun c17 => ?_) (fun c17 => ?_)
    · replace hT := hT.1 c17
      rw [hB79] at hT
      exact hT _ _ _ _ _ hP hD hS (lv_sub hl [1] rfl)
    · replace hT := hT.2 c17
      refine lv_iload_n hx hb dX8_tried_53 rfl (lv_at hl 3 rfl) ?_
      refine lv_aload_n hx hb dX8_tried_54 rfl (lv_at hl 1 rfl) ?_
      refine cg_X8_10 hx hb hts hown hK hP dX8_tried_55 ?_
      refine cg_X8_127 (v := S12.1 4) hx hb hts hown hK hP rfl dX8_tried_58 ?_
      refine lv_icmp_gt (tgt := 79) hx hb dX8_tried_61 (by decide) (fun c18 => ?_) (fun c18 => ?_)
      · replace hT := hT.1 c18
        rw [hB79] at hT
        exact hT _ _ _ _ _ hP hD hS (lv_sub hl [1] rfl)
      · replace hT := hT.2 c18
        refine lv_aload hx hb dX8_tried_64 (lv_at hl 0 rfl) ?_
        refine lv_aload_n hx hb dX8_tried_66 rfl (lv_at hl 1 rfl) ?_
        refine cg_X8_10 hx hb hts hown hK hP dX8_tried_67 ?_
        refine cg_X8_221 (v := S12.1 3) hx hb hts hown hK hP rfl dX8_tried_70 ?_
        obtain ⟨hk21, hk22, hT⟩ := hT
        refine ccallSZx (n := 2) (qx := qo) (As := [.ref qo, .int (S12.1 3)]) (rest := []) hT hx hb hml hown hts hK hZ hA hP hD hS hl (cXt.own (X := X) (cI := cI) (q := qo) (n := 5) (f := upd (upd (upd (upd (upd (fun _ => 0) (0 : Int32).toNatClampNeg a3) (1 : Int32).toNatClampNeg a4) (2 : Int32).toNatClampNeg a5) (3 : Int32).toNatClampNeg a6) (4 : Int32).toNatClampNeg a7)) gc_X8_224 hdc_X8_isRearrangement ⟨Nat.le_of_ble_eq_true rfl, Nat.le_of_ble_eq_true rfl⟩ rfl rfl rfl (Nat.le_of_ble_eq_true rfl) dX8_tried_73 hk21 hk22 (fun b20 S19 vd H locs hP hD hS hT => ?_)
        refine lv_if_ne (tgt := 85) hx hb dX8_tried_76 (by decide) (fun c23 => ?_) (fun c23 => ?_)
        · replace hT := hT.1 c23
          refine lv_aload_n hx hb dX8_tried_85 rfl (lv_at hl 1 rfl) ?_
          refine lv_iconst (v := 0) hx hb dX8_tried_86 (by decide) ?_
          refine cp_X8_149 hx hb hts hown hK hP hD hS dX8_tried_87 (fun H locs hP hD hS => ?_)
          refine lv_aload_n hx hb dX8_tried_90 rfl (lv_at hl 1 rfl) ?_
          refine cg_X8_61 hx hb hts hown hK hP dX8_tried_91 ?_
          refine lv_aload_n hx hb dX8_tried_94 rfl (lv_at hl 1 rfl) ?_
          refine cg_X8_10 hx hb hts hown hK hP dX8_tried_95 ?_
          refine lv_aload hx hb dX8_tried_98 (lv_at hl 0 rfl) ?_
          obtain ⟨hk25, hk26, hT⟩ := hT
          refine ccallVVx (n := 2) (qx := qo) (b := ad 8) (C := RX7) (As := [.ref (ad 1), .ref qo]) (rest := []) hT hx hb hml hown hts hK hZ hA hP hD hS hl (cXt.own (X := X) (cI := cI) (q := qo) (n := 5) (f := upd (upd (upd (upd (upd (fun _ => 0) (0 : Int32).toNatClampNeg a3) (1 : Int32).toNatClampNeg a4) (2 : Int32).toNatClampNeg a5) (3 : Int32).toNatClampNeg a6) (4 : Int32).toNatClampNeg a7)) gc_X8_262 hdc_X7_prepare (va_recv hK hP rfl cob_8) ⟨Nat.le_of_ble_eq_true rfl, Nat.le_of_ble_eq_true rfl⟩ rfl rfl rfl (Nat.le_of_ble_eq_true rfl) dX8_tried_100 hk25 hk26 (fun S24 vd H locs hP hD hS hT => ?_)
          refine lv_aload_n hx hb dX8_tried_103 rfl (lv_at hl 1 rfl) ?_
          refine cg_X8_61 hx hb hts hown hK hP dX8_tried_104 ?_
          refine lv_aload_n hx hb dX8_tried_107 rfl (lv_at hl 1 rfl) ?_
          refine cg_X8_10 hx hb hts hown hK hP dX8_tried_108 ?_
          refine lv_aload_n hx hb dX8_tried_111 rfl (lv_at hl 1 rfl) ?_
          refine cg_X8_19 hx hb hts hown hK hP dX8_tried_112 ?_
          refine lv_aload_n hx hb dX8_tried_115 rfl (lv_at hl 1 rfl) ?_
          refine cg_X8_54 hx hb hts hown hK hP dX8_tried_116 ?_
          refine lv_iload_n hx hb dX8_tried_119 rfl (lv_at hl 2 rfl) ?_
          refine lv_iload_n hx hb dX8_tried_120 rfl (lv_at hl 3 rfl) ?_
          obtain ⟨hk29, hk30, hT⟩ := hT
          refine ccallVI (n := 5) (b := ad 8) (C := RX7) (As := [.ref (ad 1), .ref (ad 2), .ref (ad 7), .int a1, .int a2]) (rest := []) hT hx hb hml hown hts hK hZ hA hP hD hS hl gc_X8_266 hdc_X7_run (va_recv hK hP rfl cob_8) ⟨Nat.le_of_ble_eq_true rfl, Nat.le_of_ble_eq_true rfl⟩ rfl rfl rfl (Nat.le_of_ble_eq_true rfl) dX8_tried_121 hk29 hk30 (fun r28 S27 vd H locs hP hD hS hT => ?_)
          obtain ⟨hkc, hks, hT⟩ := hT
          replace hP := hP.dropR
          replace hD := hD.dropR
          exact hret _ _ _ _ _ _ _ _ _ hP hD hS hkc hks hT dX8_tried_124
        · replace hT := hT.2 c23
          rw [hB79] at hT
          exact hT _ _ _ _ _ hP hD hS (lv_sub hl [1] rfl)
abbrev cX_X8_failed (l : Launch) (S : CS) (post : Int32 → CS → Prop) : Prop := cCtI l yX8_failed cX8_failed 1 0 0 0 0 (fun ad => [.ref (ad 0)]) S post
def cT_X8_failed_e (l : Launch) (post : Int32 → CS → Prop) (S0 : CS) : Prop := post (S0.1 23) S0
set_option maxHeartbeats 4000000 in
set_option maxRecDepth 100000 in
theorem c_X8_failed (l : Launch) (S0 : CS) (post : Int32 → CS → Prop) (h : cT_X8_failed_e l post S0) : cX_X8_failed l S0 post := by
  refine csetI rfl (fun _ => Nat.le_of_ble_eq_true rfl) ?_
  intro p e s m args below meth c D ad vd cI cZ cL cG X A Q hx hb hml hown hts hK hZ hA hret H locs ls hP hD hS hl
  replace hl : lv_has ls 1 [(0, .ref (ad 0))] := hl
  have hT := h
  unfold cT_X8_failed_e at hT
  refine lv_aload_n hx hb dX8_failed_0 rfl (lv_at hl 0 rfl) ?_
  refine cg_X8_61 hx hb hts hown hK hP dX8_failed_1 ?_
  refine cg_X8_259 (v := S0.1 23) hx hb hts hown hK hP rfl dX8_failed_4 ?_
  exact hret _ _ _ _ _ _ _ _ _ hP hD hS (Nat.le_refl _) (Nat.le_refl _) hT dX8_failed_7
abbrev cX_X8_trouble (l : Launch) (S : CS) (post : Int32 → CS → Prop) : Prop := cCtI l yX8_trouble cX8_trouble 1 0 0 0 0 (fun ad => [.ref (ad 0)]) S post
def cT_X8_trouble_e (l : Launch) (post : Int32 → CS → Prop) (S0 : CS) : Prop := post (S0.1 2) S0
set_option maxHeartbeats 4000000 in
set_option maxRecDepth 100000 in
theorem c_X8_trouble (l : Launch) (S0 : CS) (post : Int32 → CS → Prop) (h : cT_X8_trouble_e l post S0) : cX_X8_trouble l S0 post := by
  refine csetI rfl (fun _ => Nat.le_of_ble_eq_true rfl) ?_
  intro p e s m args below meth c D ad vd cI cZ cL cG X A Q hx hb hml hown hts hK hZ hA hret H locs ls hP hD hS hl
  replace hl : lv_has ls 1 [(0, .ref (ad 0))] := hl
  have hT := h
  unfold cT_X8_trouble_e at hT
  refine lv_aload_n hx hb dX8_trouble_0 rfl (lv_at hl 0 rfl) ?_
  refine cg_X8_149 (v := S0.1 2) hx hb hts hown hK hP rfl dX8_trouble_1 ?_
  exact hret _ _ _ _ _ _ _ _ _ hP hD hS (Nat.le_refl _) (Nat.le_refl _) hT dX8_trouble_4
abbrev cX_X0_sumOfKinds (l : Launch) (S : CS) (post : Int32 → CS → Prop) : Prop := cCtI l yX0_sumOfKinds cX0_sumOfKinds 3 0 0 0 0 (fun ad => [.ref (ad 1)]) S post
def cT_X0_sumOfKinds_4 (l : Launch) (post : Int32 → CS → Prop) (B4 : CS → Int32 → Int32 → Prop) (S : CS) (x1 : Int32) (x2 : Int32) : Prop := (S.1 4 ≤ x2 → post x1 S) ∧ (¬ S.1 4 ≤ x2 → vp_in x2 7 ∧ ∀ v1_3 : Int32, v1_3 = x1 + ((S.2.1 10 x2.toNatClampNeg) <<< ((2 * x2) &&& 31)) → B4 S v1_3 (x2 + 1))
def cT_X0_sumOfKinds_e (l : Launch) (post : Int32 → CS → Prop) (B4 : CS → Int32 → Int32 → Prop) (S0 : CS) : Prop := B4 S0 0 0
set_option maxHeartbeats 4000000 in
set_option maxRecDepth 100000 in
theorem c_X0_sumOfKinds (l : Launch) (S0 : CS) (post : Int32 → CS → Prop) (h : ∀ (B4 : CS → Int32 → Int32 → Prop), (∀ (S : CS) (x1 : Int32) (x2 : Int32), cT_X0_sumOfKinds_4 l post B4 S x1 x2 → B4 S x1 x2) → cT_X0_sumOfKinds_e l post B4 S0) : cX_X0_sumOfKinds l S0 post := by
  refine csetI rfl (fun _ => Nat.le_of_ble_eq_true rfl) ?_
  intro p e s m args below meth c D ad vd cI cZ cL cG X A Q hx hb hml hown hts hK hZ hA hret H locs ls hP hD hS hl
  replace hl : lv_has ls 3 [(0, .ref (ad 1))] := hl
  obtain ⟨B4, hB4⟩ : ∃ B : CS → Int32 → Int32 → Prop, B = (fun S x1 x2 => ∀ (vd : Nat → Nat) (H : Heap) (locs : List Loc) (ls : Array Slot), va_P D vwCl (cW ad vd cI cZ cL cG S ++ X) H → va_D A (cW ad vd cI cZ cL cG S ++ X) → va_S A s.heap H locs → lv_has ls 3 [(0, .ref (ad 1)), (1, .int x1), (2, .int x2)] → W p l e (crm 0 0 0 0) s m args below meth c H locs 0 0 Q (F0 m 4 ls [])) := ⟨_, rfl⟩
  have hT : cT_X0_sumOfKinds_e l post B4 S0 := by
    refine h B4 ?_
    · clear hP hD hS hl H locs ls vd
      intro S x1 x2 hT
      unfold cT_X0_sumOfKinds_4 at hT
      rw [hB4]
      intro vd H locs ls hP hD hS hl
      refine lv_iload_n hx hb dX0_sumOfKinds_4 rfl (lv_at hl 2 rfl) ?_
      refine lv_aload_n hx hb dX0_sumOfKinds_5 rfl (lv_at hl 0 rfl) ?_
      refine cg_X0_29 (v := S.1 4) hx hb hts hown hK hP rfl dX0_sumOfKinds_6 ?_
      refine lv_icmp_ge (tgt := 31) hx hb dX0_sumOfKinds_9 (by decide) (fun c1 => ?_) (fun c1 => ?_)
      · replace hT := hT.1 c1
        refine lv_iload_n hx hb dX0_sumOfKinds_31 rfl (lv_at hl 1 rfl) ?_
        exact hret _ _ _ _ _ _ _ _ _ hP hD hS (Nat.le_refl _) (Nat.le_refl _) hT dX0_sumOfKinds_32
      · replace hT := hT.2 c1
        refine lv_iload_n hx hb dX0_sumOfKinds_12 rfl (lv_at hl 1 rfl) ?_
        refine lv_aload_n hx hb dX0_sumOfKinds_13 rfl (lv_at hl 0 rfl) ?_
        refine cg_X0_15 hx hb hts hown hK hP dX0_sumOfKinds_14 ?_
        refine lv_iload_n hx hb dX0_sumOfKinds_17 rfl (lv_at hl 2 rfl) ?_
        obtain ⟨hi2, hT⟩ := hT
        refine va_iald (f := S.2.1 10) hx hb hK hP 10 0 cat_10 rfl hi2 dX0_sumOfKinds_18 ?_
        refine lv_iconst (v := 2) hx hb dX0_sumOfKinds_19 (by decide) ?_
        refine lv_iload_n hx hb dX0_sumOfKinds_20 rfl (lv_at hl 2 rfl) ?_
        refine lv_imul hx hb dX0_sumOfKinds_21 ?_
        refine lv_ishl hx hb dX0_sumOfKinds_22 ?_
        refine lv_iadd hx hb dX0_sumOfKinds_23 ?_
        refine lv_topi (fun v1_3 ev1_3 => ?_)
        replace hT := hT v1_3 ev1_3
        refine lv_istore_n (lv' := [(1, .int v1_3), (0, .ref (ad 1)), (2, .int x2)]) hx hb dX0_sumOfKinds_24 rfl hl (by decide) rfl (fun ls hl => ?_)
        refine lv_iinc (v := x2 + 1) (lv' := [(2, .int (x2 + 1)), (1, .int v1_3), (0, .ref (ad 1))]) hx hb dX0_sumOfKinds_25 hl (k := 2) rfl rfl (by decide) rfl (fun ls hl => ?_)
        refine lv_goto (tgt := 4) hx hb dX0_sumOfKinds_28 (by decide) ?_
        rw [hB4] at hT
        exact hT _ _ _ _ hP hD hS (lv_sub hl [2, 1, 0] rfl)
  unfold cT_X0_sumOfKinds_e at hT
  refine lv_iconst (v := 0) hx hb dX0_sumOfKinds_0 (by decide) ?_
  refine lv_istore_n (lv' := [(1, .int 0), (0, .ref (ad 1))]) hx hb dX0_sumOfKinds_1 rfl hl (by decide) rfl (fun ls hl => ?_)
  refine lv_iconst (v := 0) hx hb dX0_sumOfKinds_2 (by decide) ?_
  refine lv_istore_n (lv' := [(2, .int 0), (1, .int 0), (0, .ref (ad 1))]) hx hb dX0_sumOfKinds_3 rfl hl (by decide) rfl (fun ls hl => ?_)
  rw [hB4] at hT
  exact hT _ _ _ _ hP hD hS (lv_sub hl [2, 1, 0] rfl)
