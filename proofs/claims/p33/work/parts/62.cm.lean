abbrev cX_X8_number (l : Launch) (S : CS) (a1 : Bool) (post : Int32 → CS → Prop) : Prop := cCtI l yX8_number cX8_number 2 0 0 0 0 (fun ad => [.ref (ad 0), .int (bI a1)]) S post
def cT_X8_number_e (l : Launch) (a1 : Bool) (post : Int32 → CS → Prop) (S0 : CS) : Prop := (bI a1 = 0 → post (S0.1 0) S0) ∧ (¬ bI a1 = 0 → post (S0.1 1) S0)
set_option maxHeartbeats 4000000 in
set_option maxRecDepth 100000 in
theorem c_X8_number (l : Launch) (S0 : CS) (a1 : Bool) (post : Int32 → CS → Prop) (h : cT_X8_number_e l a1 post S0) : cX_X8_number l S0 a1 post := by
  refine csetI rfl (fun _ => Nat.le_of_ble_eq_true rfl) ?_
  intro p e s m args below meth c D ad vd cI cZ cL cG X A Q hx hb hml hown hts hK hZ hA hret H locs ls hP hD hS hl
  replace hl : lv_has ls 2 [(0, .ref (ad 0)), (1, .int (bI a1))] := hl
  have hT := h
  unfold cT_X8_number_e at hT
  refine lv_iload_n hx hb dX8_number_0 rfl (lv_at hl 1 rfl) ?_
  refine lv_if_eq (tgt := 11) hx hb dX8_number_1 (by decide) (fun c1 => ?_) (fun c1 => ?_)
  · replace hT := hT.1 c1
    refine lv_aload_n hx hb dX8_number_11 rfl (lv_at hl 0 rfl) ?_
    refine cg_X8_73 (v := S0.1 0) hx hb hts hown hK hP rfl dX8_number_12 ?_
    exact hret _ _ _ _ _ _ _ _ _ hP hD hS (Nat.le_refl _) (Nat.le_refl _) hT dX8_number_15
  · replace hT := hT.2 c1
    refine lv_aload_n hx hb dX8_number_4 rfl (lv_at hl 0 rfl) ?_
    refine cg_X8_77 (v := S0.1 1) hx hb hts hown hK hP rfl dX8_number_5 ?_
    refine lv_goto (tgt := 15) hx hb dX8_number_8 (by decide) ?_
    exact hret _ _ _ _ _ _ _ _ _ hP hD hS (Nat.le_refl _) (Nat.le_refl _) hT dX8_number_15
abbrev cX_X8_peg (l : Launch) (S : CS) (a1 : Int32) (post : Int32 → CS → Prop) : Prop := cCtI l yX8_peg cX8_peg 2 3 86 0 0 (fun ad => [.ref (ad 0), .int a1]) S post
def cT_X8_peg_e (l : Launch) (a1 : Int32) (post : Int32 → CS → Prop) (S0 : CS) : Prop := cX_X0_isDisc l S0 a1 (fun b2 S1 => (¬ bI b2 = 0 → cX_X3_read l S1 (S1.1 0) (fun S4 => vp_in a1 7 ∧ post (S4.2.1 13 a1.toNatClampNeg) S4)) ∧ (bI b2 = 0 → post (-1) S1))
set_option maxHeartbeats 4000000 in
set_option maxRecDepth 100000 in
theorem c_X8_peg (l : Launch) (S0 : CS) (a1 : Int32) (post : Int32 → CS → Prop) (h : cT_X8_peg_e l a1 post S0) : cX_X8_peg l S0 a1 post := by
  refine csetI rfl (fun _ => Nat.le_of_ble_eq_true rfl) ?_
  intro p e s m args below meth c D ad vd cI cZ cL cG X A Q hx hb hml hown hts hK hZ hA hret H locs ls hP hD hS hl
  replace hl : lv_has ls 2 [(0, .ref (ad 0)), (1, .int a1)] := hl
  have hT := h
  unfold cT_X8_peg_e at hT
  refine lv_aload_n hx hb dX8_peg_0 rfl (lv_at hl 0 rfl) ?_
  refine cg_X8_10 hx hb hts hown hK hP dX8_peg_1 ?_
  refine lv_iload_n hx hb dX8_peg_4 rfl (lv_at hl 1 rfl) ?_
  refine ccallVZ (n := 1) (b := ad 1) (C := RX0) (As := [.int a1]) (rest := []) hT hx hb hml hown hts hK hZ hA hP hD hS hl gc_X8_87 hdc_X0_isDisc (va_recv hK hP rfl cob_1) ⟨Nat.le_of_ble_eq_true rfl, Nat.le_of_ble_eq_true rfl⟩ rfl rfl rfl (Nat.le_of_ble_eq_true rfl) dX8_peg_5 (Nat.le_refl _) (Nat.le_refl _) (fun b2 S1 vd H locs hP hD hS hT => ?_)
  refine lv_if_ne (tgt := 13) hx hb dX8_peg_8 (by decide) (fun c3 => ?_) (fun c3 => ?_)
  · replace hT := hT.1 c3
    refine lv_aload_n hx hb dX8_peg_13 rfl (lv_at hl 0 rfl) ?_
    refine cg_X8_19 hx hb hts hown hK hP dX8_peg_14 ?_
    refine lv_aload_n hx hb dX8_peg_17 rfl (lv_at hl 0 rfl) ?_
    refine cg_X8_10 hx hb hts hown hK hP dX8_peg_18 ?_
    refine lv_aload_n hx hb dX8_peg_21 rfl (lv_at hl 0 rfl) ?_
    refine cg_X8_73 (v := S1.1 0) hx hb hts hown hK hP rfl dX8_peg_22 ?_
    refine ccallVV (n := 2) (b := ad 2) (C := RX3) (As := [.ref (ad 1), .int (S1.1 0)]) (rest := []) hT hx hb hml hown hts hK hZ hA hP hD hS hl gc_X8_120 hdc_X3_read (va_recv hK hP rfl cob_2) ⟨Nat.le_of_ble_eq_true rfl, Nat.le_of_ble_eq_true rfl⟩ rfl rfl rfl (Nat.le_of_ble_eq_true rfl) dX8_peg_25 (Nat.le_refl _) (Nat.le_refl _) (fun S4 vd H locs hP hD hS hT => ?_)
    refine lv_aload_n hx hb dX8_peg_28 rfl (lv_at hl 0 rfl) ?_
    refine cg_X8_19 hx hb hts hown hK hP dX8_peg_29 ?_
    refine cg_X8_124 hx hb hts hown hK hP dX8_peg_32 ?_
    refine lv_iload_n hx hb dX8_peg_35 rfl (lv_at hl 1 rfl) ?_
    obtain ⟨hi5, hT⟩ := hT
    refine va_iald (f := S4.2.1 13) hx hb hK hP 13 0 cat_13 rfl hi5 dX8_peg_36 ?_
    exact hret _ _ _ _ _ _ _ _ _ hP hD hS (Nat.le_refl _) (Nat.le_refl _) hT dX8_peg_37
  · replace hT := hT.2 c3
    refine lv_iconst (v := (-1)) hx hb dX8_peg_11 (by decide) ?_
    exact hret _ _ _ _ _ _ _ _ _ hP hD hS (Nat.le_refl _) (Nat.le_refl _) hT dX8_peg_12
abbrev cX_X8_disc (l : Launch) (S : CS) (a1 : Int32) (a2 : Int32) (post : Int32 → CS → Prop) : Prop := cCtI l yX8_disc cX8_disc 5 3 86 0 0 (fun ad => [.ref (ad 0), .int a1, .int a2]) S post
def cT_X8_disc_45 (l : Launch) (a1 : Int32) (a2 : Int32) (post : Int32 → CS → Prop) (B45 : CS → Int32 → Int32 → Prop) (B75 : CS → Int32 → Int32 → Prop) (S : CS) (x3 : Int32) (x4 : Int32) : Prop := (x4 < 0 → post (-1) S) ∧ (¬ x4 < 0 → vp_in x4 7 ∧ (¬ S.2.1 13 x4.toNatClampNeg = a1 → B75 S x3 x4) ∧ (S.2.1 13 x4.toNatClampNeg = a1 → (¬ x3 = a2 → B75 S (x3 + 1) x4) ∧ (x3 = a2 → post x4 S)))
def cT_X8_disc_75 (l : Launch) (a1 : Int32) (a2 : Int32) (post : Int32 → CS → Prop) (B45 : CS → Int32 → Int32 → Prop) (B75 : CS → Int32 → Int32 → Prop) (S : CS) (x3 : Int32) (x4 : Int32) : Prop := B45 S x3 (x4 + (-1))
def cT_X8_disc_e (l : Launch) (a1 : Int32) (a2 : Int32) (post : Int32 → CS → Prop) (B45 : CS → Int32 → Int32 → Prop) (B75 : CS → Int32 → Int32 → Prop) (S0 : CS) : Prop := cX_X0_isPeg l S0 a1 (fun b6 S5 => (bI b6 = 0 → post (-1) S5) ∧ (¬ bI b6 = 0 → (0 ≤ a2 → cX_X3_read l S5 (S5.1 0) (fun S9 => ∀ v4_10 : Int32, v4_10 = (S9.1 4) - 1 → B45 S9 0 v4_10)) ∧ (¬ 0 ≤ a2 → post (-1) S5)))
set_option maxHeartbeats 4000000 in
set_option maxRecDepth 100000 in
theorem c_X8_disc (l : Launch) (S0 : CS) (a1 : Int32) (a2 : Int32) (post : Int32 → CS → Prop) (h : ∀ (B45 : CS → Int32 → Int32 → Prop) (B75 : CS → Int32 → Int32 → Prop), (∀ (S : CS) (x3 : Int32) (x4 : Int32), cT_X8_disc_45 l a1 a2 post B45 B75 S x3 x4 → B45 S x3 x4) → (∀ (S : CS) (x3 : Int32) (x4 : Int32), cT_X8_disc_75 l a1 a2 post B45 B75 S x3 x4 → B75 S x3 x4) → cT_X8_disc_e l a1 a2 post B45 B75 S0) : cX_X8_disc l S0 a1 a2 post := by
  refine csetI rfl (fun _ => Nat.le_of_ble_eq_true rfl) ?_
  intro p e s m args below meth c D ad vd cI cZ cL cG X A Q hx hb hml hown hts hK hZ hA hret H locs ls hP hD hS hl
  replace hl : lv_has ls 5 [(0, .ref (ad 0)), (1, .int a1), (2, .int a2)] := hl
  obtain ⟨B45, hB45⟩ : ∃ B : CS → Int32 → Int32 → Prop, B = (fun S x3 x4 => ∀ (vd : Nat → Nat) (H : Heap) (locs : List Loc) (ls : Array Slot), va_P D vwCl (cW ad vd cI cZ cL cG S ++ X) H → va_D A (cW ad vd cI cZ cL cG S ++ X) → va_S A s.heap H locs → lv_has ls 5 [(0, .ref (ad 0)), (1, .int a1), (2, .int a2), (3, .int x3), (4, .int x4)] → W p l e (crm 3 86 0 0) s m args below meth c H locs 0 0 Q (F0 m 45 ls [])) := ⟨_, rfl⟩
  obtain ⟨B75, hB75⟩ : ∃ B : CS → Int32 → Int32 → Prop, B = (fun S x3 x4 => ∀ (vd : Nat → Nat) (H : Heap) (locs : List Loc) (ls : Array Slot), va_P D vwCl (cW ad vd cI cZ cL cG S ++ X) H → va_D A (cW ad vd cI cZ cL cG S ++ X) → va_S A s.heap H locs → lv_has ls 5 [(0, .ref (ad 0)), (1, .int a1), (2, .int a2), (3, .int x3), (4, .int x4)] → W p l e (crm 3 86 0 0) s m args below meth c H locs 0 0 Q (F0 m 75 ls [])) := ⟨_, rfl⟩
  have hT : cT_X8_disc_e l a1 a2 post B45 B75 S0 := by
    refine h B45 B75 ?_ ?_
    · clear hP hD hS hl H locs ls vd
      intro S x3 x4 hT
      unfold cT_X8_disc_45 at hT
      rw [hB45]
      intro vd H locs ls hP hD hS hl
      refine lv_iload hx hb dX8_disc_45 (lv_at hl 4 rfl) ?_
      refine lv_if_lt (tgt := 81) hx hb dX8_disc_47 (by decide) (fun c1 => ?_) (fun c1 => ?_)
      · replace hT := hT.1 c1
        refine lv_iconst (v := (-1)) hx hb dX8_disc_81 (by decide) ?_
        exact hret _ _ _ _ _ _ _ _ _ hP hD hS (Nat.le_refl _) (Nat.le_refl _) hT dX8_disc_82
      · replace hT := hT.2 c1
        refine lv_aload_n hx hb dX8_disc_50 rfl (lv_at hl 0 rfl) ?_
        refine cg_X8_19 hx hb hts hown hK hP dX8_disc_51 ?_
        refine cg_X8_124 hx hb hts hown hK hP dX8_disc_54 ?_
        refine lv_iload hx hb dX8_disc_57 (lv_at hl 4 rfl) ?_
        obtain ⟨hi2, hT⟩ := hT
        refine va_iald (f := S.2.1 13) hx hb hK hP 13 0 cat_13 rfl hi2 dX8_disc_59 ?_
        refine lv_iload_n hx hb dX8_disc_60 rfl (lv_at hl 1 rfl) ?_
        refine lv_icmp_ne (tgt := 75) hx hb dX8_disc_61 (by decide) (fun c3 => ?_) (fun c3 => ?_)
        · replace hT := hT.1 c3
          rw [hB75] at hT
          exact hT _ _ _ _ hP hD hS (lv_sub hl [0, 1, 2, 3, 4] rfl)
        · replace hT := hT.2 c3
          refine lv_iload_n hx hb dX8_disc_64 rfl (lv_at hl 3 rfl) ?_
          refine lv_iload_n hx hb dX8_disc_65 rfl (lv_at hl 2 rfl) ?_
          refine lv_icmp_ne (tgt := 72) hx hb dX8_disc_66 (by decide) (fun c4 => ?_) (fun c4 => ?_)
          · replace hT := hT.1 c4
            refine lv_iinc (v := x3 + 1) (lv' := [(3, .int (x3 + 1)), (0, .ref (ad 0)), (1, .int a1), (2, .int a2), (4, .int x4)]) hx hb dX8_disc_72 hl (k := 3) rfl rfl (by decide) rfl (fun ls hl => ?_)
            rw [hB75] at hT
            exact hT _ _ _ _ hP hD hS (lv_sub hl [1, 2, 3, 0, 4] rfl)
          · replace hT := hT.2 c4
            refine lv_iload hx hb dX8_disc_69 (lv_at hl 4 rfl) ?_
            exact hret _ _ _ _ _ _ _ _ _ hP hD hS (Nat.le_refl _) (Nat.le_refl _) hT dX8_disc_71
    · clear hP hD hS hl H locs ls vd
      intro S x3 x4 hT
      unfold cT_X8_disc_75 at hT
      rw [hB75]
      intro vd H locs ls hP hD hS hl
      refine lv_iinc (v := x4 + (-1)) (lv' := [(4, .int (x4 + (-1))), (0, .ref (ad 0)), (1, .int a1), (2, .int a2), (3, .int x3)]) hx hb dX8_disc_75 hl (k := 4) rfl rfl (by decide) rfl (fun ls hl => ?_)
      refine lv_goto (tgt := 45) hx hb dX8_disc_78 (by decide) ?_
      rw [hB45] at hT
      exact hT _ _ _ _ hP hD hS (lv_sub hl [1, 2, 3, 4, 0] rfl)
  unfold cT_X8_disc_e at hT
  refine lv_aload_n hx hb dX8_disc_0 rfl (lv_at hl 0 rfl) ?_
  refine cg_X8_10 hx hb hts hown hK hP dX8_disc_1 ?_
  refine lv_iload_n hx hb dX8_disc_4 rfl (lv_at hl 1 rfl) ?_
  refine ccallVZ (n := 1) (b := ad 1) (C := RX0) (As := [.int a1]) (rest := []) hT hx hb hml hown hts hK hZ hA hP hD hS hl gc_X8_97 hdc_X0_isPeg (va_recv hK hP rfl cob_1) ⟨Nat.le_of_ble_eq_true rfl, Nat.le_of_ble_eq_true rfl⟩ rfl rfl rfl (Nat.le_of_ble_eq_true rfl) dX8_disc_5 (Nat.le_refl _) (Nat.le_refl _) (fun b6 S5 vd H locs hP hD hS hT => ?_)
  refine lv_if_eq (tgt := 15) hx hb dX8_disc_8 (by decide) (fun c7 => ?_) (fun c7 => ?_)
  · replace hT := hT.1 c7
    refine lv_iconst (v := (-1)) hx hb dX8_disc_15 (by decide) ?_
    exact hret _ _ _ _ _ _ _ _ _ hP hD hS (Nat.le_refl _) (Nat.le_refl _) hT dX8_disc_16
  · replace hT := hT.2 c7
    refine lv_iload_n hx hb dX8_disc_11 rfl (lv_at hl 2 rfl) ?_
    refine lv_if_ge (tgt := 17) hx hb dX8_disc_12 (by decide) (fun c8 => ?_) (fun c8 => ?_)
    · replace hT := hT.1 c8
      refine lv_aload_n hx hb dX8_disc_17 rfl (lv_at hl 0 rfl) ?_
      refine cg_X8_19 hx hb hts hown hK hP dX8_disc_18 ?_
      refine lv_aload_n hx hb dX8_disc_21 rfl (lv_at hl 0 rfl) ?_
      refine cg_X8_10 hx hb hts hown hK hP dX8_disc_22 ?_
      refine lv_aload_n hx hb dX8_disc_25 rfl (lv_at hl 0 rfl) ?_
      refine cg_X8_73 (v := S5.1 0) hx hb hts hown hK hP rfl dX8_disc_26 ?_
      refine ccallVV (n := 2) (b := ad 2) (C := RX3) (As := [.ref (ad 1), .int (S5.1 0)]) (rest := []) hT hx hb hml hown hts hK hZ hA hP hD hS hl gc_X8_120 hdc_X3_read (va_recv hK hP rfl cob_2) ⟨Nat.le_of_ble_eq_true rfl, Nat.le_of_ble_eq_true rfl⟩ rfl rfl rfl (Nat.le_of_ble_eq_true rfl) dX8_disc_29 (Nat.le_refl _) (Nat.le_refl _) (fun S9 vd H locs hP hD hS hT => ?_)
      refine lv_iconst (v := 0) hx hb dX8_disc_32 (by decide) ?_
      refine lv_istore_n (lv' := [(3, .int 0), (0, .ref (ad 0)), (1, .int a1), (2, .int a2)]) hx hb dX8_disc_33 rfl hl (by decide) rfl (fun ls hl => ?_)
      refine lv_aload_n hx hb dX8_disc_34 rfl (lv_at hl 1 rfl) ?_
      refine cg_X8_10 hx hb hts hown hK hP dX8_disc_35 ?_
      refine cg_X8_127 (v := S9.1 4) hx hb hts hown hK hP rfl dX8_disc_38 ?_
      refine lv_iconst (v := 1) hx hb dX8_disc_41 (by decide) ?_
      refine lv_isub hx hb dX8_disc_42 ?_
      refine lv_topi (fun v4_10 ev4_10 => ?_)
      replace hT := hT v4_10 ev4_10
      refine lv_istore (lv' := [(4, .int v4_10), (3, .int 0), (0, .ref (ad 0)), (1, .int a1), (2, .int a2)]) hx hb dX8_disc_43 hl (by decide) rfl (fun ls hl => ?_)
      rw [hB45] at hT
      exact hT _ _ _ _ hP hD hS (lv_sub hl [2, 3, 4, 1, 0] rfl)
    · replace hT := hT.2 c8
      refine lv_iconst (v := (-1)) hx hb dX8_disc_15 (by decide) ?_
      exact hret _ _ _ _ _ _ _ _ _ hP hD hS (Nat.le_refl _) (Nat.le_refl _) hT dX8_disc_16
abbrev cX_X3_hindrance (l : Launch) (S : CS) (a2 : Int32) (a3 : Int32) (post : Int32 → CS → Prop) : Prop := cCtI l yX3_hindrance cX3_hindrance 6 0 0 0 0 (fun ad => [.ref (ad 2), .ref (ad 1), .int a2, .int a3]) S post
def cT_X3_hindrance_52 (l : Launch) (a2 : Int32) (a3 : Int32) (post : Int32 → CS → Prop) (B52 : CS → Int32 → Prop) (B67 : CS → Int32 → Prop) (S : CS) (x4 : Int32) : Prop := vp_in ((a2 * 5) + a3) 25 ∧ (¬ S.2.1 12 ((a2 * 5) + a3).toNatClampNeg = 0 → B67 S x4) ∧ (S.2.1 12 ((a2 * 5) + a3).toNatClampNeg = 0 → post 3 S)
def cT_X3_hindrance_67 (l : Launch) (a2 : Int32) (a3 : Int32) (post : Int32 → CS → Prop) (B52 : CS → Int32 → Prop) (B67 : CS → Int32 → Prop) (S : CS) (x4 : Int32) : Prop := vp_in a3 5 ∧ ∀ v5_4 : Int32, v5_4 = S.2.1 14 a3.toNatClampNeg → (¬ v5_4 = (-1) → vp_in a2 5 ∧ (S.2.1 15 a2.toNatClampNeg ≤ v5_4 → vp_in v5_4 7 ∧ (¬ S.2.1 10 v5_4.toNatClampNeg = 2 → post 0 S) ∧ (S.2.1 10 v5_4.toNatClampNeg = 2 → (x4 = 2 → post 0 S) ∧ (¬ x4 = 2 → post 5 S))) ∧ (¬ S.2.1 15 a2.toNatClampNeg ≤ v5_4 → post 4 S)) ∧ (v5_4 = (-1) → post 0 S)
def cT_X3_hindrance_e (l : Launch) (a2 : Int32) (a3 : Int32) (post : Int32 → CS → Prop) (B52 : CS → Int32 → Prop) (B67 : CS → Int32 → Prop) (S0 : CS) : Prop := vp_in ((a2 * 5) + a3) 25 ∧ (¬ S0.2.1 11 ((a2 * 5) + a3).toNatClampNeg = 0 → vp_in a2 5 ∧ (¬ S0.2.1 14 a2.toNatClampNeg = (-1) → vp_in a2 5 ∧ vp_in (S0.2.1 15 a2.toNatClampNeg) 7 ∧ ∀ v4_17 : Int32, v4_17 = S0.2.1 10 (S0.2.1 15 a2.toNatClampNeg).toNatClampNeg → (v4_17 = 1 → B52 S0 v4_17) ∧ (¬ v4_17 = 1 → (¬ v4_17 = 2 → B67 S0 v4_17) ∧ (v4_17 = 2 → B52 S0 v4_17))) ∧ (S0.2.1 14 a2.toNatClampNeg = (-1) → post 2 S0)) ∧ (S0.2.1 11 ((a2 * 5) + a3).toNatClampNeg = 0 → post 1 S0)
set_option maxHeartbeats 4000000 in
set_option maxRecDepth 100000 in
theorem c_X3_hindrance (l : Launch) (S0 : CS) (a2 : Int32) (a3 : Int32) (post : Int32 → CS → Prop) (h : ∀ (B52 : CS → Int32 → Prop) (B67 : CS → Int32 → Prop), (∀ (S : CS) (x4 : Int32), cT_X3_hindrance_52 l a2 a3 post B52 B67 S x4 → B52 S x4) → (∀ (S : CS) (x4 : Int32), cT_X3_hindrance_67 l a2 a3 post B52 B67 S x4 → B67 S x4) → cT_X3_hindrance_e l a2 a3 post B52 B67 S0) : cX_X3_hindrance l S0 a2 a3 post := by
  refine csetI rfl (fun _ => Nat.le_of_ble_eq_true rfl) ?_
  intro p e s m args below meth c D ad vd cI cZ cL cG X A Q hx hb hml hown hts hK hZ hA hret H locs ls hP hD hS hl
  replace hl : lv_has ls 6 [(0, .ref (ad 2)), (1, .ref (ad 1)), (2, .int a2), (3, .int a3)] := hl
  obtain ⟨B52, hB52⟩ : ∃ B : CS → Int32 → Prop, B = (fun S x4 => ∀ (vd : Nat → Nat) (H : Heap) (locs : List Loc) (ls : Array Slot), va_P D vwCl (cW ad vd cI cZ cL cG S ++ X) H → va_D A (cW ad vd cI cZ cL cG S ++ X) → va_S A s.heap H locs → lv_has ls 6 [(0, .ref (ad 2)), (1, .ref (ad 1)), (2, .int a2), (3, .int a3), (4, .int x4)] → W p l e (crm 0 0 0 0) s m args below meth c H locs 0 0 Q (F0 m 52 ls [])) := ⟨_, rfl⟩
  obtain ⟨B67, hB67⟩ : ∃ B : CS → Int32 → Prop, B = (fun S x4 => ∀ (vd : Nat → Nat) (H : Heap) (locs : List Loc) (ls : Array Slot), va_P D vwCl (cW ad vd cI cZ cL cG S ++ X) H → va_D A (cW ad vd cI cZ cL cG S ++ X) → va_S A s.heap H locs → lv_has ls 6 [(0, .ref (ad 2)), (1, .ref (ad 1)), (2, .int a2), (3, .int a3), (4, .int x4)] → W p l e (crm 0 0 0 0) s m args below meth c H locs 0 0 Q (F0 m 67 ls [])) := ⟨_, rfl⟩
  have hT : cT_X3_hindrance_e l a2 a3 post B52 B67 S0 := by
    refine h B52 B67 ?_ ?_
    · clear hP hD hS hl H locs ls vd
      intro S x4 hT
      unfold cT_X3_hindrance_52 at hT
      rw [hB52]
      intro vd H locs ls hP hD hS hl
      refine lv_aload_n hx hb dX3_hindrance_52 rfl (lv_at hl 1 rfl) ?_
      refine cg_X3_68 hx hb hts hown hK hP dX3_hindrance_53 ?_
      refine lv_iload_n hx hb dX3_hindrance_56 rfl (lv_at hl 2 rfl) ?_
      refine lv_iconst (v := 5) hx hb dX3_hindrance_57 (by decide) ?_
      refine lv_imul hx hb dX3_hindrance_58 ?_
      refine lv_iload_n hx hb dX3_hindrance_59 rfl (lv_at hl 3 rfl) ?_
      refine lv_iadd hx hb dX3_hindrance_60 ?_
      obtain ⟨hi1, hT⟩ := hT
      refine va_zald (f := S.2.1 12) hx hb hK hP 12 1 cat_12 rfl hi1 dX3_hindrance_61 ?_
      refine lv_if_ne (tgt := 67) hx hb dX3_hindrance_62 (by decide) (fun c2 => ?_) (fun c2 => ?_)
      · replace hT := hT.1 c2
        rw [hB67] at hT
        exact hT _ _ _ _ hP hD hS (lv_sub hl [0, 1, 2, 3, 4] rfl)
      · replace hT := hT.2 c2
        refine lv_iconst (v := 3) hx hb dX3_hindrance_65 (by decide) ?_
        exact hret _ _ _ _ _ _ _ _ _ hP hD hS (Nat.le_refl _) (Nat.le_refl _) hT dX3_hindrance_66
    · clear hP hD hS hl H locs ls vd
      intro S x4 hT
      unfold cT_X3_hindrance_67 at hT
      rw [hB67]
      intro vd H locs ls hP hD hS hl
      refine lv_aload_n hx hb dX3_hindrance_67 rfl (lv_at hl 0 rfl) ?_
      refine cg_X3_15 hx hb hts hown hK hP dX3_hindrance_68 ?_
      refine lv_iload_n hx hb dX3_hindrance_71 rfl (lv_at hl 3 rfl) ?_
      obtain ⟨hi3, hT⟩ := hT
      refine va_iald (f := S.2.1 14) hx hb hK hP 14 0 cat_14 rfl hi3 dX3_hindrance_72 ?_
      refine lv_topi (fun v5_4 ev5_4 => ?_)
      replace hT := hT v5_4 ev5_4
      refine lv_istore (lv' := [(5, .int v5_4), (0, .ref (ad 2)), (1, .ref (ad 1)), (2, .int a2), (3, .int a3), (4, .int x4)]) hx hb dX3_hindrance_73 hl (by decide) rfl (fun ls hl => ?_)
      refine lv_iload hx hb dX3_hindrance_75 (lv_at hl 0 rfl) ?_
      refine lv_iconst (v := (-1)) hx hb dX3_hindrance_77 (by decide) ?_
      refine lv_icmp_ne (tgt := 83) hx hb dX3_hindrance_78 (by decide) (fun c5 => ?_) (fun c5 => ?_)
      · replace hT := hT.1 c5
        refine lv_iload hx hb dX3_hindrance_83 (lv_at hl 0 rfl) ?_
        refine lv_aload_n hx hb dX3_hindrance_85 rfl (lv_at hl 1 rfl) ?_
        refine cg_X3_18 hx hb hts hown hK hP dX3_hindrance_86 ?_
        refine lv_iload_n hx hb dX3_hindrance_89 rfl (lv_at hl 3 rfl) ?_
        obtain ⟨hi6, hT⟩ := hT
        refine va_iald (f := S.2.1 15) hx hb hK hP 15 0 cat_15 rfl hi6 dX3_hindrance_90 ?_
        refine lv_icmp_ge (tgt := 96) hx hb dX3_hindrance_91 (by decide) (fun c7 => ?_) (fun c7 => ?_)
        · replace hT := hT.1 c7
          refine lv_aload_n hx hb dX3_hindrance_96 rfl (lv_at hl 2 rfl) ?_
          refine cg_X3_62 hx hb hts hown hK hP dX3_hindrance_97 ?_
          refine lv_iload hx hb dX3_hindrance_100 (lv_at hl 0 rfl) ?_
          obtain ⟨hi8, hT⟩ := hT
          refine va_iald (f := S.2.1 10) hx hb hK hP 10 0 cat_10 rfl hi8 dX3_hindrance_102 ?_
          refine lv_iconst (v := 2) hx hb dX3_hindrance_103 (by decide) ?_
          refine lv_icmp_ne (tgt := 117) hx hb dX3_hindrance_104 (by decide) (fun c9 => ?_) (fun c9 => ?_)
          · replace hT := hT.1 c9
            refine lv_iconst (v := 0) hx hb dX3_hindrance_117 (by decide) ?_
            exact hret _ _ _ _ _ _ _ _ _ hP hD hS (Nat.le_refl _) (Nat.le_refl _) hT dX3_hindrance_118
          · replace hT := hT.2 c9
            refine lv_iload hx hb dX3_hindrance_107 (lv_at hl 5 rfl) ?_
            refine lv_iconst (v := 2) hx hb dX3_hindrance_109 (by decide) ?_
            refine lv_icmp_eq (tgt := 117) hx hb dX3_hindrance_110 (by decide) (fun c10 => ?_) (fun c10 => ?_)
            · replace hT := hT.1 c10
              refine lv_iconst (v := 0) hx hb dX3_hindrance_117 (by decide) ?_
              exact hret _ _ _ _ _ _ _ _ _ hP hD hS (Nat.le_refl _) (Nat.le_refl _) hT dX3_hindrance_118
            · replace hT := hT.2 c10
              refine lv_iconst (v := 5) hx hb dX3_hindrance_113 (by decide) ?_
              refine lv_goto (tgt := 118) hx hb dX3_hindrance_114 (by decide) ?_
              exact hret _ _ _ _ _ _ _ _ _ hP hD hS (Nat.le_refl _) (Nat.le_refl _) hT dX3_hindrance_118
        · replace hT := hT.2 c7
          refine lv_iconst (v := 4) hx hb dX3_hindrance_94 (by decide) ?_
          exact hret _ _ _ _ _ _ _ _ _ hP hD hS (Nat.le_refl _) (Nat.le_refl _) hT dX3_hindrance_95
      · replace hT := hT.2 c5
        refine lv_iconst (v := 0) hx hb dX3_hindrance_81 (by decide) ?_
        exact hret _ _ _ _ _ _ _ _ _ hP hD hS (Nat.le_refl _) (Nat.le_refl _) hT dX3_hindrance_82
  unfold cT_X3_hindrance_e at hT
  refine lv_aload_n hx hb dX3_hindrance_0 rfl (lv_at hl 1 rfl) ?_
  refine cg_X3_65 hx hb hts hown hK hP dX3_hindrance_1 ?_
  refine lv_iload_n hx hb dX3_hindrance_4 rfl (lv_at hl 2 rfl) ?_
  refine lv_iconst (v := 5) hx hb dX3_hindrance_5 (by decide) ?_
  refine lv_imul hx hb dX3_hindrance_6 ?_
  refine lv_iload_n hx hb dX3_hindrance_7 rfl (lv_at hl 3 rfl) ?_
  refine lv_iadd hx hb dX3_hindrance_8 ?_
  obtain ⟨hi11, hT⟩ := hT
  refine va_iald (f := S0.2.1 11) hx hb hK hP 11 0 cat_11 rfl hi11 dX3_hindrance_9 ?_
  refine lv_if_ne (tgt := 15) hx hb dX3_hindrance_10 (by decide) (fun c12 => ?_) (fun c12 => ?_)
  · replace hT := hT.1 c12
    refine lv_aload_n hx hb dX3_hindrance_15 rfl (lv_at hl 0 rfl) ?_
    refine cg_X3_15 hx hb hts hown hK hP dX3_hindrance_16 ?_
    refine lv_iload_n hx hb dX3_hindrance_19 rfl (lv_at hl 2 rfl) ?_
    obtain ⟨hi13, hT⟩ := hT
    refine va_iald (f := S0.2.1 14) hx hb hK hP 14 0 cat_14 rfl hi13 dX3_hindrance_20 ?_
    refine lv_iconst (v := (-1)) hx hb dX3_hindrance_21 (by decide) ?_
    refine lv_icmp_ne (tgt := 27) hx hb dX3_hindrance_22 (by decide) (fun c14 => ?_) (fun c14 => ?_)
    · replace hT := hT.1 c14
      refine lv_aload_n hx hb dX3_hindrance_27 rfl (lv_at hl 1 rfl) ?_
      refine cg_X3_62 hx hb hts hown hK hP dX3_hindrance_28 ?_
      refine lv_aload_n hx hb dX3_hindrance_31 rfl (lv_at hl 0 rfl) ?_
      refine cg_X3_18 hx hb hts hown hK hP dX3_hindrance_32 ?_
      refine lv_iload_n hx hb dX3_hindrance_35 rfl (lv_at hl 2 rfl) ?_
      obtain ⟨hi15, hT⟩ := hT
      refine va_iald (f := S0.2.1 15) hx hb hK hP 15 0 cat_15 rfl hi15 dX3_hindrance_36 ?_
      obtain ⟨hi16, hT⟩ := hT
      refine va_iald (f := S0.2.1 10) hx hb hK hP 10 0 cat_10 rfl hi16 dX3_hindrance_37 ?_
      refine lv_topi (fun v4_17 ev4_17 => ?_)
      replace hT := hT v4_17 ev4_17
      refine lv_istore (lv' := [(4, .int v4_17), (0, .ref (ad 2)), (1, .ref (ad 1)), (2, .int a2), (3, .int a3)]) hx hb dX3_hindrance_38 hl (by decide) rfl (fun ls hl => ?_)
      refine lv_iload hx hb dX3_hindrance_40 (lv_at hl 0 rfl) ?_
      refine lv_iconst (v := 1) hx hb dX3_hindrance_42 (by decide) ?_
      refine lv_icmp_eq (tgt := 52) hx hb dX3_hindrance_43 (by decide) (fun c18 => ?_) (fun c18 => ?_)
      · replace hT := hT.1 c18
        rw [hB52] at hT
        exact hT _ _ _ _ hP hD hS (lv_sub hl [1, 2, 3, 4, 0] rfl)
      · replace hT := hT.2 c18
        refine lv_iload hx hb dX3_hindrance_46 (lv_at hl 0 rfl) ?_
        refine lv_iconst (v := 2) hx hb dX3_hindrance_48 (by decide) ?_
        refine lv_icmp_ne (tgt := 67) hx hb dX3_hindrance_49 (by decide) (fun c19 => ?_) (fun c19 => ?_)
        · replace hT := hT.1 c19
          rw [hB67] at hT
          exact hT _ _ _ _ hP hD hS (lv_sub hl [1, 2, 3, 4, 0] rfl)
        · replace hT := hT.2 c19
          rw [hB52] at hT
          exact hT _ _ _ _ hP hD hS (lv_sub hl [1, 2, 3, 4, 0] rfl)
    · replace hT := hT.2 c14
      refine lv_iconst (v := 2) hx hb dX3_hindrance_25 (by decide) ?_
      exact hret _ _ _ _ _ _ _ _ _ hP hD hS (Nat.le_refl _) (Nat.le_refl _) hT dX3_hindrance_26
  · replace hT := hT.2 c12
    refine lv_iconst (v := 1) hx hb dX3_hindrance_13 (by decide) ?_
    exact hret _ _ _ _ _ _ _ _ _ hP hD hS (Nat.le_refl _) (Nat.le_refl _) hT dX3_hindrance_14
abbrev cX_X8_why (l : Launch) (S : CS) (a1 : Int32) (a2 : Int32) (post : Int32 → CS → Prop) : Prop := cCtI l yX8_why cX8_why 3 3 86 0 0 (fun ad => [.ref (ad 0), .int a1, .int a2]) S post
def cT_X8_why_e (l : Launch) (a1 : Int32) (a2 : Int32) (post : Int32 → CS → Prop) (S0 : CS) : Prop := cX_X0_isPeg l S0 a1 (fun b2 S1 => (bI b2 = 0 → post (-1) S1) ∧ (¬ bI b2 = 0 → cX_X0_isPeg l S1 a2 (fun b5 S4 => (¬ bI b5 = 0 → cX_X3_read l S4 (S4.1 0) (fun S7 => cX_X3_hindrance l S7 a1 a2 (fun r9 S8 => post r9 S8))) ∧ (bI b5 = 0 → post (-1) S4))))
set_option maxHeartbeats 4000000 in
set_option maxRecDepth 100000 in
theorem c_X8_why (l : Launch) (S0 : CS) (a1 : Int32) (a2 : Int32) (post : Int32 → CS → Prop) (h : cT_X8_why_e l a1 a2 post S0) : cX_X8_why l S0 a1 a2 post := by
  refine csetI rfl (fun _ => Nat.le_of_ble_eq_true rfl) ?_
  intro p e s m args below meth c D ad vd cI cZ cL cG X A Q hx hb hml hown hts hK hZ hA hret H locs ls hP hD hS hl
  replace hl : lv_has ls 3 [(0, .ref (ad 0)), (1, .int a1), (2, .int a2)] := hl
  have hT := h
  unfold cT_X8_why_e at hT
  refine lv_aload_n hx hb dX8_why_0 rfl (lv_at hl 0 rfl) ?_
  refine cg_X8_10 hx hb hts hown hK hP dX8_why_1 ?_
  refine lv_iload_n hx hb dX8_why_4 rfl (lv_at hl 1 rfl) ?_
  refine ccallVZ (n := 1) (b := ad 1) (C := RX0) (As := [.int a1]) (rest := []) hT hx hb hml hown hts hK hZ hA hP hD hS hl gc_X8_97 hdc_X0_isPeg (va_recv hK hP rfl cob_1) ⟨Nat.le_of_ble_eq_true rfl, Nat.le_of_ble_eq_true rfl⟩ rfl rfl rfl (Nat.le_of_ble_eq_true rfl) dX8_why_5 (Nat.le_refl _) (Nat.le_refl _) (fun b2 S1 vd H locs hP hD hS hT => ?_)
  refine lv_if_eq (tgt := 22) hx hb dX8_why_8 (by decide) (fun c3 => ?_) (fun c3 => ?_)
  · replace hT := hT.1 c3
    refine lv_iconst (v := (-1)) hx hb dX8_why_22 (by decide) ?_
    exact hret _ _ _ _ _ _ _ _ _ hP hD hS (Nat.le_refl _) (Nat.le_refl _) hT dX8_why_23
  · replace hT := hT.2 c3
    refine lv_aload_n hx hb dX8_why_11 rfl (lv_at hl 0 rfl) ?_
    refine cg_X8_10 hx hb hts hown hK hP dX8_why_12 ?_
    refine lv_iload_n hx hb dX8_why_15 rfl (lv_at hl 2 rfl) ?_
    refine ccallVZ (n := 1) (b := ad 1) (C := RX0) (As := [.int a2]) (rest := []) hT hx hb hml hown hts hK hZ hA hP hD hS hl gc_X8_97 hdc_X0_isPeg (va_recv hK hP rfl cob_1) ⟨Nat.le_of_ble_eq_true rfl, Nat.le_of_ble_eq_true rfl⟩ rfl rfl rfl (Nat.le_of_ble_eq_true rfl) dX8_why_16 (Nat.le_refl _) (Nat.le_refl _) (fun b5 S4 vd H locs hP hD hS hT => ?_)
    refine lv_if_ne (tgt := 24) hx hb dX8_why_19 (by decide) (fun c6 => ?_) (fun c6 => ?_)
    · replace hT := hT.1 c6
      refine lv_aload_n hx hb dX8_why_24 rfl (lv_at hl 0 rfl) ?_
      refine cg_X8_19 hx hb hts hown hK hP dX8_why_25 ?_
      refine lv_aload_n hx hb dX8_why_28 rfl (lv_at hl 0 rfl) ?_
      refine cg_X8_10 hx hb hts hown hK hP dX8_why_29 ?_
      refine lv_aload_n hx hb dX8_why_32 rfl (lv_at hl 0 rfl) ?_
      refine cg_X8_73 (v := S4.1 0) hx hb hts hown hK hP rfl dX8_why_33 ?_
      refine ccallVV (n := 2) (b := ad 2) (C := RX3) (As := [.ref (ad 1), .int (S4.1 0)]) (rest := []) hT hx hb hml hown hts hK hZ hA hP hD hS hl gc_X8_120 hdc_X3_read (va_recv hK hP rfl cob_2) ⟨Nat.le_of_ble_eq_true rfl, Nat.le_of_ble_eq_true rfl⟩ rfl rfl rfl (Nat.le_of_ble_eq_true rfl) dX8_why_36 (Nat.le_refl _) (Nat.le_refl _) (fun S7 vd H locs hP hD hS hT => ?_)
      refine lv_aload_n hx hb dX8_why_39 rfl (lv_at hl 0 rfl) ?_
      refine cg_X8_19 hx hb hts hown hK hP dX8_why_40 ?_
      refine lv_aload_n hx hb dX8_why_43 rfl (lv_at hl 0 rfl) ?_
      refine cg_X8_10 hx hb hts hown hK hP dX8_why_44 ?_
      refine lv_iload_n hx hb dX8_why_47 rfl (lv_at hl 1 rfl) ?_
      refine lv_iload_n hx hb dX8_why_48 rfl (lv_at hl 2 rfl) ?_
      refine ccallVI (n := 3) (b := ad 2) (C := RX3) (As := [.ref (ad 1), .int a1, .int a2]) (rest := []) hT hx hb hml hown hts hK hZ hA hP hD hS hl gc_X8_130 hdc_X3_hindrance (va_recv hK hP rfl cob_2) ⟨Nat.le_of_ble_eq_true rfl, Nat.le_of_ble_eq_true rfl⟩ rfl rfl rfl (Nat.le_of_ble_eq_true rfl) dX8_why_49 (Nat.le_refl _) (Nat.le_refl _) (fun r9 S8 vd H locs hP hD hS hT => ?_)
      exact hret _ _ _ _ _ _ _ _ _ hP hD hS (Nat.le_refl _) (Nat.le_refl _) hT dX8_why_52
    · replace hT := hT.2 c6
      refine lv_iconst (v := (-1)) hx hb dX8_why_22 (by decide) ?_
      exact hret _ _ _ _ _ _ _ _ _ hP hD hS (Nat.le_refl _) (Nat.le_refl _) hT dX8_why_23
abbrev cX_X8_none (l : Launch) (S : CS) (a1 : Int32) (post : Int32 → CS → Prop) : Prop := cCtI l yX8_none cX8_none 2 0 0 0 0 (fun ad => [.ref (ad 0), .int a1]) S post
def cT_X8_none_e (l : Launch) (a1 : Int32) (post : Int32 → CS → Prop) (S0 : CS) : Prop := post (-1) (cf S0 2 a1)
set_option maxHeartbeats 4000000 in
set_option maxRecDepth 100000 in
theorem c_X8_none (l : Launch) (S0 : CS) (a1 : Int32) (post : Int32 → CS → Prop) (h : cT_X8_none_e l a1 post S0) : cX_X8_none l S0 a1 post := by
  refine csetI rfl (fun _ => Nat.le_of_ble_eq_true rfl) ?_
  intro p e s m args below meth c D ad vd cI cZ cL cG X A Q hx hb hml hown hts hK hZ hA hret H locs ls hP hD hS hl
  replace hl : lv_has ls 2 [(0, .ref (ad 0)), (1, .int a1)] := hl
  have hT := h
  unfold cT_X8_none_e at hT
  refine lv_aload_n hx hb dX8_none_0 rfl (lv_at hl 0 rfl) ?_
  refine lv_iload_n hx hb dX8_none_1 rfl (lv_at hl 1 rfl) ?_
  refine cp_X8_149 hx hb hts hown hK hP hD hS dX8_none_2 (fun H locs hP hD hS => ?_)
  refine lv_iconst (v := (-1)) hx hb dX8_none_5 (by decide) ?_
  exact hret _ _ _ _ _ _ _ _ _ hP hD hS (Nat.le_refl _) (Nat.le_refl _) hT dX8_none_6
abbrev cX_X4_keep (l : Launch) (S : CS) (a1 : Int32) (post : CS → Prop) : Prop := cCtV l yX4_keep cX4_keep 2 2 60 0 0 (fun ad => [.ref (ad 3), .int a1]) S post
def cT_X4_keep_36 (l : Launch) (a1 : Int32) (post : CS → Prop) (B36 : CS → Prop) (S : CS) : Prop := vp_in (S.1 9) 200 ∧ post (cf (cf (ca S 20 (upd (S.2.1 20) (S.1 9).toNatClampNeg a1)) 9 ((S.1 9) + 1)) 10 0)
def cT_X4_keep_e (l : Launch) (a1 : Int32) (post : CS → Prop) (B36 : CS → Prop) (S0 : CS) : Prop := (¬ S0.1 9 = 200 → B36 S0) ∧ (S0.1 9 = 200 → B36 (cf (ca S0 20 (va_cpy (S0.2.1 20) (S0.2.1 20) (1 : Int32).toNatClampNeg (0 : Int32).toNatClampNeg (199 : Int32).toNatClampNeg)) 9 ((S0.1 9) - 1)))
set_option maxHeartbeats 4000000 in
set_option maxRecDepth 100000 in
theorem c_X4_keep (l : Launch) (S0 : CS) (a1 : Int32) (post : CS → Prop) (h : ∀ (B36 : CS → Prop), (∀ (S : CS) , cT_X4_keep_36 l a1 post B36 S → B36 S ) → cT_X4_keep_e l a1 post B36 S0) : cX_X4_keep l S0 a1 post := by
  refine csetV rfl (fun _ => Nat.le_of_ble_eq_true rfl) ?_
  intro p e s m args below meth c D ad vd cI cZ cL cG X A Q hx hb hml hown hts hK hZ hA hret H locs ls hP hD hS hl
  replace hl : lv_has ls 2 [(0, .ref (ad 3)), (1, .int a1)] := hl
  obtain ⟨B36, hB36⟩ : ∃ B : CS → Prop, B = (fun S => ∀ (vd : Nat → Nat) (H : Heap) (locs : List Loc) (ls : Array Slot), va_P D vwCl (cW ad vd cI cZ cL cG S ++ X) H → va_D A (cW ad vd cI cZ cL cG S ++ X) → va_S A s.heap H locs → lv_has ls 2 [(0, .ref (ad 3)), (1, .int a1)] → W p l e (crm 2 60 0 0) s m args below meth c H locs 0 0 Q (F0 m 36 ls [])) := ⟨_, rfl⟩
  have hT : cT_X4_keep_e l a1 post B36 S0 := by
    refine h B36 ?_
    · clear hP hD hS hl H locs ls vd
      intro S hT
      unfold cT_X4_keep_36 at hT
      rw [hB36]
      intro vd H locs ls hP hD hS hl
      refine lv_aload_n hx hb dX4_keep_36 rfl (lv_at hl 0 rfl) ?_
      refine cg_X4_9 hx hb hts hown hK hP dX4_keep_37 ?_
      refine lv_aload_n hx hb dX4_keep_40 rfl (lv_at hl 0 rfl) ?_
      refine cg_X4_18 (v := S.1 9) hx hb hts hown hK hP rfl dX4_keep_41 ?_
      refine lv_iload_n hx hb dX4_keep_44 rfl (lv_at hl 1 rfl) ?_
      obtain ⟨hi1, hT⟩ := hT
      refine va_iast (f := S.2.1 20) hx hb hK hP hD hS 20 0 cat_20 rfl hi1 dX4_keep_45 (fun H locs hP hD hS => ?_)
      replace hP := csetP_20 hP
      replace hD := csetD_20 hD
      refine lv_aload_n hx hb dX4_keep_46 rfl (lv_at hl 0 rfl) ?_
      refine lv_dup hx hb dX4_keep_47 rfl ?_
      refine cg_X4_18 (v := S.1 9) hx hb hts hown hK hP rfl dX4_keep_48 ?_
      refine lv_iconst (v := 1) hx hb dX4_keep_51 (by decide) ?_
      refine lv_iadd hx hb dX4_keep_52 ?_
      refine cp_X4_18 hx hb hts hown hK hP hD hS dX4_keep_53 (fun H locs hP hD hS => ?_)
      refine lv_aload_n hx hb dX4_keep_56 rfl (lv_at hl 0 rfl) ?_
      refine lv_iconst (v := 0) hx hb dX4_keep_57 (by decide) ?_
      refine cp_X4_22 hx hb hts hown hK hP hD hS dX4_keep_58 (fun H locs hP hD hS => ?_)
      exact hret _ _ _ _ _ _ _ _ hP hD hS (Nat.le_refl _) (Nat.le_refl _) hT dX4_keep_61
  unfold cT_X4_keep_e at hT
  refine lv_aload_n hx hb dX4_keep_0 rfl (lv_at hl 0 rfl) ?_
  refine cg_X4_18 (v := S0.1 9) hx hb hts hown hK hP rfl dX4_keep_1 ?_
  refine lv_sipush (v := 200) hx hb dX4_keep_4 (by decide) ?_
  refine lv_icmp_ne (tgt := 36) hx hb dX4_keep_7 (by decide) (fun c2 => ?_) (fun c2 => ?_)
  · replace hT := hT.1 c2
    rw [hB36] at hT
    exact hT _ _ _ _ hP hD hS (lv_sub hl [0, 1] rfl)
  · replace hT := hT.2 c2
    refine lv_aload_n hx hb dX4_keep_10 rfl (lv_at hl 0 rfl) ?_
    refine cg_X4_9 hx hb hts hown hK hP dX4_keep_11 ?_
    refine lv_iconst (v := 1) hx hb dX4_keep_14 (by decide) ?_
    refine lv_aload_n hx hb dX4_keep_15 rfl (lv_at hl 0 rfl) ?_
    refine cg_X4_9 hx hb hts hown hK hP dX4_keep_16 ?_
    refine lv_iconst (v := 0) hx hb dX4_keep_19 (by decide) ?_
    refine lv_sipush (v := 199) hx hb dX4_keep_20 (by decide) ?_
    refine va_copyi (f := S0.2.1 20) (g := S0.2.1 20) (ty := .int) hx hb (hml.trans hl.1.symm) hown (hts _ kc_499) (hts _ kc_501) (hts _ kc_500) (hts _ kc_62) hK hP hD hS 20 20 0 0 cat_20 cat_20 rfl rfl rfl (by decide) (by decide) (by decide) (by decide) (by decide) (fun _ _ => rfl) (Nat.le_of_ble_eq_true rfl) (Nat.le_of_ble_eq_true rfl) dX4_keep_23 (fun H locs hP hD hS => ?_)
    replace hP := csetP_20 hP
    replace hD := csetD_20 hD
    refine lv_aload_n hx hb dX4_keep_26 rfl (lv_at hl 0 rfl) ?_
    refine lv_dup hx hb dX4_keep_27 rfl ?_
    refine cg_X4_18 (v := S0.1 9) hx hb hts hown hK hP rfl dX4_keep_28 ?_
    refine lv_iconst (v := 1) hx hb dX4_keep_31 (by decide) ?_
    refine lv_isub hx hb dX4_keep_32 ?_
    refine cp_X4_18 hx hb hts hown hK hP hD hS dX4_keep_33 (fun H locs hP hD hS => ?_)
    rw [hB36] at hT
    exact hT _ _ _ _ hP hD hS (lv_sub hl [0, 1] rfl)
abbrev cX_X3_landing (l : Launch) (S : CS) (a1 : Int32) (a2 : Int32) (post : Int32 → CS → Prop) : Prop := cCtI l yX3_landing cX3_landing 3 0 0 0 0 (fun ad => [.ref (ad 2), .int a1, .int a2]) S post
def cT_X3_landing_e (l : Launch) (a1 : Int32) (a2 : Int32) (post : Int32 → CS → Prop) (S0 : CS) : Prop := vp_in a1 5 ∧ post ((S0.1 7) + ((a2 - a1) * (S0.2.1 16 a1.toNatClampNeg))) S0
set_option maxHeartbeats 4000000 in
set_option maxRecDepth 100000 in
theorem c_X3_landing (l : Launch) (S0 : CS) (a1 : Int32) (a2 : Int32) (post : Int32 → CS → Prop) (h : cT_X3_landing_e l a1 a2 post S0) : cX_X3_landing l S0 a1 a2 post := by
  refine csetI rfl (fun _ => Nat.le_of_ble_eq_true rfl) ?_
  intro p e s m args below meth c D ad vd cI cZ cL cG X A Q hx hb hml hown hts hK hZ hA hret H locs ls hP hD hS hl
  replace hl : lv_has ls 3 [(0, .ref (ad 2)), (1, .int a1), (2, .int a2)] := hl
  have hT := h
  unfold cT_X3_landing_e at hT
  refine lv_aload_n hx hb dX3_landing_0 rfl (lv_at hl 0 rfl) ?_
  refine cg_X3_33 (v := S0.1 7) hx hb hts hown hK hP rfl dX3_landing_1 ?_
  refine lv_iload_n hx hb dX3_landing_4 rfl (lv_at hl 2 rfl) ?_
  refine lv_iload_n hx hb dX3_landing_5 rfl (lv_at hl 1 rfl) ?_
  refine lv_isub hx hb dX3_landing_6 ?_
  refine lv_aload_n hx hb dX3_landing_7 rfl (lv_at hl 0 rfl) ?_
  refine cg_X3_21 hx hb hts hown hK hP dX3_landing_8 ?_
  refine lv_iload_n hx hb dX3_landing_11 rfl (lv_at hl 1 rfl) ?_
  obtain ⟨hi1, hT⟩ := hT
  refine va_iald (f := S0.2.1 16) hx hb hK hP 16 0 cat_16 rfl hi1 dX3_landing_12 ?_
  refine lv_imul hx hb dX3_landing_13 ?_
  refine lv_iadd hx hb dX3_landing_14 ?_
  exact hret _ _ _ _ _ _ _ _ _ hP hD hS (Nat.le_refl _) (Nat.le_refl _) hT dX3_landing_15
abbrev cX_X3_packSize (l : Launch) (S : CS) (a1 : Int32) (post : Int32 → CS → Prop) : Prop := cCtI l yX3_packSize cX3_packSize 2 0 0 0 0 (fun ad => [.ref (ad 2), .int a1]) S post
def cT_X3_packSize_e (l : Launch) (a1 : Int32) (post : Int32 → CS → Prop) (S0 : CS) : Prop := vp_in a1 5 ∧ vp_in a1 5 ∧ post (((S0.2.1 15 a1.toNatClampNeg) - (S0.2.1 14 a1.toNatClampNeg)) + 1) S0
set_option maxHeartbeats 4000000 in
set_option maxRecDepth 100000 in
theorem c_X3_packSize (l : Launch) (S0 : CS) (a1 : Int32) (post : Int32 → CS → Prop) (h : cT_X3_packSize_e l a1 post S0) : cX_X3_packSize l S0 a1 post := by
  refine csetI rfl (fun _ => Nat.le_of_ble_eq_true rfl) ?_
  intro p e s m args below meth c D ad vd cI cZ cL cG X A Q hx hb hml hown hts hK hZ hA hret H locs ls hP hD hS hl
  replace hl : lv_has ls 2 [(0, .ref (ad 2)), (1, .int a1)] := hl
  have hT := h
  unfold cT_X3_packSize_e at hT
  refine lv_aload_n hx hb dX3_packSize_0 rfl (lv_at hl 0 rfl) ?_
  refine cg_X3_18 hx hb hts hown hK hP dX3_packSize_1 ?_
  refine lv_iload_n hx hb dX3_packSize_4 rfl (lv_at hl 1 rfl) ?_
  obtain ⟨hi1, hT⟩ := hT
  refine va_iald (f := S0.2.1 15) hx hb hK hP 15 0 cat_15 rfl hi1 dX3_packSize_5 ?_
  refine lv_aload_n hx hb dX3_packSize_6 rfl (lv_at hl 0 rfl) ?_
  refine cg_X3_15 hx hb hts hown hK hP dX3_packSize_7 ?_
  refine lv_iload_n hx hb dX3_packSize_10 rfl (lv_at hl 1 rfl) ?_
  obtain ⟨hi2, hT⟩ := hT
  refine va_iald (f := S0.2.1 14) hx hb hK hP 14 0 cat_14 rfl hi2 dX3_packSize_11 ?_
  refine lv_isub hx hb dX3_packSize_12 ?_
  refine lv_iconst (v := 1) hx hb dX3_packSize_13 (by decide) ?_
  refine lv_iadd hx hb dX3_packSize_14 ?_
  exact hret _ _ _ _ _ _ _ _ _ hP hD hS (Nat.le_refl _) (Nat.le_refl _) hT dX3_packSize_15
abbrev cX_X8_move (l : Launch) (S : CS) (a1 : Int32) (a2 : Int32) (post : Int32 → CS → Prop) : Prop := cCtI l yX8_move cX8_move 4 4 108 0 0 (fun ad => [.ref (ad 0), .int a1, .int a2]) S post
def cT_X8_move_e (l : Launch) (a1 : Int32) (a2 : Int32) (post : Int32 → CS → Prop) (S0 : CS) : Prop := cX_X8_why l S0 a1 a2 (fun r2 S1 => (¬ r2 = (-1) → (r2 = 0 → cX_X4_keep l S1 (S1.1 0) (fun S5 => cX_X3_landing l S5 a1 a2 (fun r7 S6 => cX_X3_packSize l (cf (cf S6 0 r7) 2 0) a1 (fun r9 S8 => post r9 S8)))) ∧ (¬ r2 = 0 → cX_X8_none l S1 4 (fun r11 S10 => post r11 S10))) ∧ (r2 = (-1) → cX_X8_none l S1 1 (fun r13 S12 => post r13 S12)))
set_option maxHeartbeats 4000000 in
set_option maxRecDepth 100000 in
theorem c_X8_move (l : Launch) (S0 : CS) (a1 : Int32) (a2 : Int32) (post : Int32 → CS → Prop) (h : cT_X8_move_e l a1 a2 post S0) : cX_X8_move l S0 a1 a2 post := by
  refine csetI rfl (fun _ => Nat.le_of_ble_eq_true rfl) ?_
  intro p e s m args below meth c D ad vd cI cZ cL cG X A Q hx hb hml hown hts hK hZ hA hret H locs ls hP hD hS hl
  replace hl : lv_has ls 4 [(0, .ref (ad 0)), (1, .int a1), (2, .int a2)] := hl
  have hT := h
  unfold cT_X8_move_e at hT
  refine lv_aload_n hx hb dX8_move_0 rfl (lv_at hl 0 rfl) ?_
  refine lv_iload_n hx hb dX8_move_1 rfl (lv_at hl 1 rfl) ?_
  refine lv_iload_n hx hb dX8_move_2 rfl (lv_at hl 2 rfl) ?_
  refine ccallVI (n := 2) (b := ad 0) (C := RX8) (As := [.int a1, .int a2]) (rest := []) hT hx hb hml hown hts hK hZ hA hP hD hS hl gc_X8_134 hdc_X8_why (va_recv hK hP rfl cob_0) ⟨Nat.le_of_ble_eq_true rfl, Nat.le_of_ble_eq_true rfl⟩ rfl rfl rfl (Nat.le_of_ble_eq_true rfl) dX8_move_3 (Nat.le_refl _) (Nat.le_refl _) (fun r2 S1 vd H locs hP hD hS hT => ?_)
  refine lv_istore_n (lv' := [(3, .int r2), (0, .ref (ad 0)), (1, .int a1), (2, .int a2)]) hx hb dX8_move_6 rfl hl (by decide) rfl (fun ls hl => ?_)
  refine lv_iload_n hx hb dX8_move_7 rfl (lv_at hl 0 rfl) ?_
  refine lv_iconst (v := (-1)) hx hb dX8_move_8 (by decide) ?_
  refine lv_icmp_ne (tgt := 18) hx hb dX8_move_9 (by decide) (fun c3 => ?_) (fun c3 => ?_)
  · replace hT := hT.1 c3
    refine lv_iload_n hx hb dX8_move_18 rfl (lv_at hl 0 rfl) ?_
    refine lv_if_eq (tgt := 28) hx hb dX8_move_19 (by decide) (fun c4 => ?_) (fun c4 => ?_)
    · replace hT := hT.1 c4
      refine lv_aload_n hx hb dX8_move_28 rfl (lv_at hl 1 rfl) ?_
      refine cg_X8_26 hx hb hts hown hK hP dX8_move_29 ?_
      refine lv_aload_n hx hb dX8_move_32 rfl (lv_at hl 1 rfl) ?_
      refine cg_X8_73 (v := S1.1 0) hx hb hts hown hK hP rfl dX8_move_33 ?_
      refine ccallVV (n := 1) (b := ad 3) (C := RX4) (As := [.int (S1.1 0)]) (rest := []) hT hx hb hml hown hts hK hZ hA hP hD hS hl gc_X8_142 hdc_X4_keep (va_recv hK hP rfl cob_3) ⟨Nat.le_of_ble_eq_true rfl, Nat.le_of_ble_eq_true rfl⟩ rfl rfl rfl (Nat.le_of_ble_eq_true rfl) dX8_move_36 (Nat.le_refl _) (Nat.le_refl _) (fun S5 vd H locs hP hD hS hT => ?_)
      refine lv_aload_n hx hb dX8_move_39 rfl (lv_at hl 1 rfl) ?_
      refine lv_aload_n hx hb dX8_move_40 rfl (lv_at hl 1 rfl) ?_
      refine cg_X8_19 hx hb hts hown hK hP dX8_move_41 ?_
      refine lv_iload_n hx hb dX8_move_44 rfl (lv_at hl 2 rfl) ?_
      refine lv_iload_n hx hb dX8_move_45 rfl (lv_at hl 3 rfl) ?_
      refine ccallVI (n := 2) (b := ad 2) (C := RX3) (As := [.int a1, .int a2]) (rest := [.ref (ad 0)]) hT hx hb hml hown hts hK hZ hA hP hD hS hl gc_X8_146 hdc_X3_landing (va_recv hK hP rfl cob_2) ⟨Nat.le_of_ble_eq_true rfl, Nat.le_of_ble_eq_true rfl⟩ rfl rfl rfl (Nat.le_of_ble_eq_true rfl) dX8_move_46 (Nat.le_refl _) (Nat.le_refl _) (fun r7 S6 vd H locs hP hD hS hT => ?_)
      refine cp_X8_73 hx hb hts hown hK hP hD hS dX8_move_49 (fun H locs hP hD hS => ?_)
      refine lv_aload_n hx hb dX8_move_52 rfl (lv_at hl 1 rfl) ?_
      refine lv_iconst (v := 0) hx hb dX8_move_53 (by decide) ?_
      refine cp_X8_149 hx hb hts hown hK hP hD hS dX8_move_54 (fun H locs hP hD hS => ?_)
      refine lv_aload_n hx hb dX8_move_57 rfl (lv_at hl 1 rfl) ?_
      refine cg_X8_19 hx hb hts hown hK hP dX8_move_58 ?_
      refine lv_iload_n hx hb dX8_move_61 rfl (lv_at hl 2 rfl) ?_
      refine ccallVI (n := 1) (b := ad 2) (C := RX3) (As := [.int a1]) (rest := []) hT hx hb hml hown hts hK hZ hA hP hD hS hl gc_X8_152 hdc_X3_packSize (va_recv hK hP rfl cob_2) ⟨Nat.le_of_ble_eq_true rfl, Nat.le_of_ble_eq_true rfl⟩ rfl rfl rfl (Nat.le_of_ble_eq_true rfl) dX8_move_62 (Nat.le_refl _) (Nat.le_refl _) (fun r9 S8 vd H locs hP hD hS hT => ?_)
      exact hret _ _ _ _ _ _ _ _ _ hP hD hS (Nat.le_refl _) (Nat.le_refl _) hT dX8_move_65
    · replace hT := hT.2 c4
      refine lv_aload_n hx hb dX8_move_22 rfl (lv_at hl 1 rfl) ?_
      refine lv_iconst (v := 4) hx hb dX8_move_23 (by decide) ?_
      refine ccallVI (n := 1) (b := ad 0) (C := RX8) (As := [.int 4]) (rest := []) hT hx hb hml hown hts hK hZ hA hP hD hS hl gc_X8_138 hdc_X8_none (va_recv hK hP rfl cob_0) ⟨Nat.le_of_ble_eq_true rfl, Nat.le_of_ble_eq_true rfl⟩ rfl rfl rfl (Nat.le_of_ble_eq_true rfl) dX8_move_24 (Nat.le_refl _) (Nat.le_refl _) (fun r11 S10 vd H locs hP hD hS hT => ?_)
      exact hret _ _ _ _ _ _ _ _ _ hP hD hS (Nat.le_refl _) (Nat.le_refl _) hT dX8_move_27
  · replace hT := hT.2 c3
    refine lv_aload_n hx hb dX8_move_12 rfl (lv_at hl 1 rfl) ?_
    refine lv_iconst (v := 1) hx hb dX8_move_13 (by decide) ?_
    refine ccallVI (n := 1) (b := ad 0) (C := RX8) (As := [.int 1]) (rest := []) hT hx hb hml hown hts hK hZ hA hP hD hS hl gc_X8_138 hdc_X8_none (va_recv hK hP rfl cob_0) ⟨Nat.le_of_ble_eq_true rfl, Nat.le_of_ble_eq_true rfl⟩ rfl rfl rfl (Nat.le_of_ble_eq_true rfl) dX8_move_14 (Nat.le_refl _) (Nat.le_refl _) (fun r13 S12 vd H locs hP hD hS hT => ?_)
    exact hret _ _ _ _ _ _ _ _ _ hP hD hS (Nat.le_refl _) (Nat.le_refl _) hT dX8_move_17
