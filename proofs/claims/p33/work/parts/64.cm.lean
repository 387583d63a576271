abbrev cX_X6_offer (l : Launch) (S : CS) (a1 : Int32) (a2 : Int32) (a3 : Int64) (post : CS → Prop) : Prop := cCtV l yX6_offer cX6_offer 6 1 23 0 0 (fun ad => [.ref (ad 5), .int a1, .int a2, .long a3]) S post
def cT_X6_offer_39 (l : Launch) (a1 : Int32) (a2 : Int32) (a3 : Int64) (post : CS → Prop) (B39 : CS → Int32 → Prop) (B50 : CS → Prop) (S : CS) (x5 : Int32) : Prop := (x5 = (-1) → B50 S) ∧ (¬ x5 = (-1) → cX_X6_takeOut l S a1 (fun S2 => B50 S2))
def cT_X6_offer_50 (l : Launch) (a1 : Int32) (a2 : Int32) (a3 : Int64) (post : CS → Prop) (B39 : CS → Int32 → Prop) (B50 : CS → Prop) (S : CS) : Prop := vp_in a1 (S.2.2.2 24) ∧ vp_in a1 (S.2.2.2 25) ∧ cX_X6_putIn l (cj (ca S 24 (upd (S.2.1 24) a1.toNatClampNeg a2)) 25 (vp_updL (S.2.2.1 25) a1.toNatClampNeg a3)) a1 (fun S5 => post S5)
def cT_X6_offer_e (l : Launch) (a1 : Int32) (a2 : Int32) (a3 : Int64) (post : CS → Prop) (B39 : CS → Int32 → Prop) (B50 : CS → Prop) (S0 : CS) : Prop := vp_in a1 (S0.2.2.2 24) ∧ ∀ v5_7 : Int32, v5_7 = S0.2.1 24 a1.toNatClampNeg → (¬ v5_7 = a2 → (v5_7 = (-1) → B39 S0 v5_7) ∧ (¬ v5_7 = (-1) → (v5_7 ≤ a2 → post S0) ∧ (¬ v5_7 ≤ a2 → B39 S0 v5_7))) ∧ (v5_7 = a2 → vp_in a1 (S0.2.2.2 25) ∧ vp_in a1 (S0.2.2.2 25) ∧ post (cj S0 25 (vp_updL (S0.2.2.1 25) a1.toNatClampNeg ((S0.2.2.1 25 a1.toNatClampNeg) + a3))))
set_option maxHeartbeats 4000000 in
set_option maxRecDepth 100000 in
theorem c_X6_offer (l : Launch) (S0 : CS) (a1 : Int32) (a2 : Int32) (a3 : Int64) (post : CS → Prop) (h : ∀ (B39 : CS → Int32 → Prop) (B50 : CS → Prop), (∀ (S : CS) (x5 : Int32), cT_X6_offer_39 l a1 a2 a3 post B39 B50 S x5 → B39 S x5) → (∀ (S : CS) , cT_X6_offer_50 l a1 a2 a3 post B39 B50 S → B50 S ) → cT_X6_offer_e l a1 a2 a3 post B39 B50 S0) : cX_X6_offer l S0 a1 a2 a3 post := by
  refine csetV rfl (fun _ => Nat.le_of_ble_eq_true rfl) ?_
  intro p e s m args below meth c D ad vd cI cZ cL cG X A Q hx hb hml hown hts hK hZ hA hret H locs ls hP hD hS hl
  replace hl : lv_has ls 6 [(0, .ref (ad 5)), (1, .int a1), (2, .int a2), (3, .long a3)] := hl
  obtain ⟨B39, hB39⟩ : ∃ B : CS → Int32 → Prop, B = (fun S x5 => ∀ (vd : Nat → Nat) (H : Heap) (locs : List Loc) (ls : Array Slot), va_P D vwCl (cW ad vd cI cZ cL cG S ++ X) H → va_D A (cW ad vd cI cZ cL cG S ++ X) → va_S A s.heap H locs → lv_has ls 6 [(0, .ref (ad 5)), (1, .int a1), (2, .int a2), (3, .long a3), (5, .int x5)] → W p l e (crm 1 23 0 0) s m args below meth c H locs 0 0 Q (F0 m 39 ls [])) := ⟨_, rfl⟩
  obtain ⟨B50, hB50⟩ : ∃ B : CS → Prop, B = (fun S => ∀ (vd : Nat → Nat) (H : Heap) (locs : List Loc) (ls : Array Slot), va_P D vwCl (cW ad vd cI cZ cL cG S ++ X) H → va_D A (cW ad vd cI cZ cL cG S ++ X) → va_S A s.heap H locs → lv_has ls 6 [(0, .ref (ad 5)), (1, .int a1), (2, .int a2), (3, .long a3)] → W p l e (crm 1 23 0 0) s m args below meth c H locs 0 0 Q (F0 m 50 ls [])) := ⟨_, rfl⟩
  have hT : cT_X6_offer_e l a1 a2 a3 post B39 B50 S0 := by
    refine h B39 B50 ?_ ?_
    · clear hP hD hS hl H locs ls vd
      intro S x5 hT
      unfold cT_X6_offer_39 at hT
      rw [hB39]
      intro vd H locs ls hP hD hS hl
      refine lv_iload hx hb dX6_offer_39 (lv_at hl 4 rfl) ?_
      refine lv_iconst (v := (-1)) hx hb dX6_offer_41 (by decide) ?_
      refine lv_icmp_eq (tgt := 50) hx hb dX6_offer_42 (by decide) (fun c1 => ?_) (fun c1 => ?_)
      · replace hT := hT.1 c1
        rw [hB50] at hT
        exact hT _ _ _ _ hP hD hS (lv_sub hl [0, 1, 2, 3] rfl)
      · replace hT := hT.2 c1
        refine lv_aload_n hx hb dX6_offer_45 rfl (lv_at hl 0 rfl) ?_
        refine lv_iload_n hx hb dX6_offer_46 rfl (lv_at hl 1 rfl) ?_
        refine ccallVV (n := 1) (b := ad 5) (C := RX6) (As := [.int a1]) (rest := []) hT hx hb hml hown hts hK hZ hA hP hD hS hl gc_X6_55 hdc_X6_takeOut (va_recv hK hP rfl cob_5) ⟨Nat.le_of_ble_eq_true rfl, Nat.le_of_ble_eq_true rfl⟩ rfl rfl rfl (Nat.le_of_ble_eq_true rfl) dX6_offer_47 (Nat.le_refl _) (Nat.le_refl _) (fun S2 vd H locs hP hD hS hT => ?_)
        rw [hB50] at hT
        exact hT _ _ _ _ hP hD hS (lv_sub hl [0, 1, 2, 3] rfl)
    · clear hP hD hS hl H locs ls vd
      intro S hT
      unfold cT_X6_offer_50 at hT
      rw [hB50]
      intro vd H locs ls hP hD hS hl
      refine lv_aload_n hx hb dX6_offer_50 rfl (lv_at hl 0 rfl) ?_
      refine cg_X6_15 hx hb hts hown hK hP dX6_offer_51 ?_
      refine lv_iload_n hx hb dX6_offer_54 rfl (lv_at hl 1 rfl) ?_
      refine lv_iload_n hx hb dX6_offer_55 rfl (lv_at hl 2 rfl) ?_
      obtain ⟨hi3, hT⟩ := hT
      refine va_iast (f := S.2.1 24) hx hb hK hP hD hS 24 0 cat_24 rfl hi3 dX6_offer_56 (fun H locs hP hD hS => ?_)
      replace hP := csetP_24 hP
      replace hD := csetD_24 hD
      refine lv_aload_n hx hb dX6_offer_57 rfl (lv_at hl 0 rfl) ?_
      refine cg_X6_18 hx hb hts hown hK hP dX6_offer_58 ?_
      refine lv_iload_n hx hb dX6_offer_61 rfl (lv_at hl 1 rfl) ?_
      refine lv_lload_n hx hb dX6_offer_62 rfl (lv_at hl 3 rfl) ?_
      obtain ⟨hi4, hT⟩ := hT
      refine va_last (f := S.2.2.1 25) hx hb hK hP hD hS 25 2 cat_25 rfl hi4 dX6_offer_63 (fun H locs hP hD hS => ?_)
      replace hP := csetP_25 hP
      replace hD := csetD_25 hD
      refine lv_aload_n hx hb dX6_offer_64 rfl (lv_at hl 0 rfl) ?_
      refine lv_iload_n hx hb dX6_offer_65 rfl (lv_at hl 1 rfl) ?_
      refine ccallVV (n := 1) (b := ad 5) (C := RX6) (As := [.int a1]) (rest := []) hT hx hb hml hown hts hK hZ hA hP hD hS hl gc_X6_89 hdc_X6_putIn (va_recv hK hP rfl cob_5) ⟨Nat.le_of_ble_eq_true rfl, Nat.le_of_ble_eq_true rfl⟩ rfl rfl rfl (Nat.le_of_ble_eq_true rfl) dX6_offer_66 (Nat.le_refl _) (Nat.le_refl _) (fun S5 vd H locs hP hD hS hT => ?_)
      exact hret _ _ _ _ _ _ _ _ hP hD hS (Nat.le_refl _) (Nat.le_refl _) hT dX6_offer_69
  unfold cT_X6_offer_e at hT
  refine lv_aload_n hx hb dX6_offer_0 rfl (lv_at hl 0 rfl) ?_
  refine cg_X6_15 hx hb hts hown hK hP dX6_offer_1 ?_
  refine lv_iload_n hx hb dX6_offer_4 rfl (lv_at hl 1 rfl) ?_
  obtain ⟨hi6, hT⟩ := hT
  refine va_iald (f := S0.2.1 24) hx hb hK hP 24 0 cat_24 rfl hi6 dX6_offer_5 ?_
  refine lv_topi (fun v5_7 ev5_7 => ?_)
  replace hT := hT v5_7 ev5_7
  refine lv_istore (lv' := [(5, .int v5_7), (0, .ref (ad 5)), (1, .int a1), (2, .int a2), (3, .long a3)]) hx hb dX6_offer_6 hl (by decide) rfl (fun ls hl => ?_)
  refine lv_iload hx hb dX6_offer_8 (lv_at hl 0 rfl) ?_
  refine lv_iload_n hx hb dX6_offer_10 rfl (lv_at hl 3 rfl) ?_
  refine lv_icmp_ne (tgt := 27) hx hb dX6_offer_11 (by decide) (fun c8 => ?_) (fun c8 => ?_)
  · replace hT := hT.1 c8
    refine lv_iload hx hb dX6_offer_27 (lv_at hl 0 rfl) ?_
    refine lv_iconst (v := (-1)) hx hb dX6_offer_29 (by decide) ?_
    refine lv_icmp_eq (tgt := 39) hx hb dX6_offer_30 (by decide) (fun c9 => ?_) (fun c9 => ?_)
    · replace hT := hT.1 c9
      rw [hB39] at hT
      exact hT _ _ _ _ hP hD hS (lv_sub hl [1, 2, 3, 4, 0] rfl)
    · replace hT := hT.2 c9
      refine lv_iload_n hx hb dX6_offer_33 rfl (lv_at hl 3 rfl) ?_
      refine lv_iload hx hb dX6_offer_34 (lv_at hl 0 rfl) ?_
      refine lv_icmp_ge (tgt := 69) hx hb dX6_offer_36 (by decide) (fun c10 => ?_) (fun c10 => ?_)
      · replace hT := hT.1 c10
        exact hret _ _ _ _ _ _ _ _ hP hD hS (Nat.le_refl _) (Nat.le_refl _) hT dX6_offer_69
      · replace hT := hT.2 c10
        rw [hB39] at hT
        exact hT _ _ _ _ hP hD hS (lv_sub hl [1, 2, 3, 4, 0] rfl)
  · replace hT := hT.2 c8
    refine lv_aload_n hx hb dX6_offer_14 rfl (lv_at hl 1 rfl) ?_
    refine cg_X6_18 hx hb hts hown hK hP dX6_offer_15 ?_
    refine lv_iload_n hx hb dX6_offer_18 rfl (lv_at hl 2 rfl) ?_
    refine lv_dup2_11 hx hb dX6_offer_19 rfl rfl ?_
    obtain ⟨hi11, hT⟩ := hT
    refine va_lald (f := S0.2.2.1 25) hx hb hK hP 25 2 cat_25 rfl hi11 dX6_offer_20 ?_
    refine lv_lload_n hx hb dX6_offer_21 rfl (lv_at hl 4 rfl) ?_
    refine lv_ladd hx hb dX6_offer_22 ?_
    obtain ⟨hi12, hT⟩ := hT
    refine va_last (f := S0.2.2.1 25) hx hb hK hP hD hS 25 2 cat_25 rfl hi12 dX6_offer_23 (fun H locs hP hD hS => ?_)
    replace hP := csetP_25 hP
    replace hD := csetD_25 hD
    refine lv_goto (tgt := 69) hx hb dX6_offer_24 (by decide) ?_
    exact hret _ _ _ _ _ _ _ _ hP hD hS (Nat.le_refl _) (Nat.le_refl _) hT dX6_offer_69
abbrev cX_X6_slotFrom (l : Launch) (S : CS) (a1 : Int32) (post : Int32 → CS → Prop) : Prop := cCtI l yX6_slotFrom cX6_slotFrom 4 0 0 0 0 (fun ad => [.ref (ad 5), .int a1]) S post
def cT_X6_slotFrom_2 (l : Launch) (a1 : Int32) (post : Int32 → CS → Prop) (B2 : CS → Int32 → Prop) (S : CS) (x2 : Int32) : Prop := (128 ≤ x2 → post (-1) S) ∧ (¬ 128 ≤ x2 → ∀ v3_2 : Int32, v3_2 = (a1 + x2) &&& 127 → vp_in v3_2 128 ∧ (S.2.1 23 v3_2.toNatClampNeg = (-1) → B2 S (x2 + 1)) ∧ (¬ S.2.1 23 v3_2.toNatClampNeg = (-1) → post v3_2 S))
def cT_X6_slotFrom_e (l : Launch) (a1 : Int32) (post : Int32 → CS → Prop) (B2 : CS → Int32 → Prop) (S0 : CS) : Prop := B2 S0 0
set_option maxHeartbeats 4000000 in
set_option maxRecDepth 100000 in
theorem c_X6_slotFrom (l : Launch) (S0 : CS) (a1 : Int32) (post : Int32 → CS → Prop) (h : ∀ (B2 : CS → Int32 → Prop), (∀ (S : CS) (x2 : Int32), cT_X6_slotFrom_2 l a1 post B2 S x2 → B2 S x2) → cT_X6_slotFrom_e l a1 post B2 S0) : cX_X6_slotFrom l S0 a1 post := by
  refine csetI rfl (fun _ => Nat.le_of_ble_eq_true rfl) ?_
  intro p e s m args below meth c D ad vd cI cZ cL cG X A Q hx hb hml hown hts hK hZ hA hret H locs ls hP hD hS hl
  replace hl : lv_has ls 4 [(0, .ref (ad 5)), (1, .int a1)] := hl
  obtain ⟨B2, hB2⟩ : ∃ B : CS → Int32 → Prop, B = (fun S x2 => ∀ (vd : Nat → Nat) (H : Heap) (locs : List Loc) (ls : Array Slot), va_P D vwCl (cW ad vd cI cZ cL cG S ++ X) H → va_D A (cW ad vd cI cZ cL cG S ++ X) → va_S A s.heap H locs → lv_has ls 4 [(0, .ref (ad 5)), (1, .int a1), (2, .int x2)] → W p l e (crm 0 0 0 0) s m args below meth c H locs 0 0 Q (F0 m 2 ls [])) := ⟨_, rfl⟩
  have hT : cT_X6_slotFrom_e l a1 post B2 S0 := by
    refine h B2 ?_
    · clear hP hD hS hl H locs ls vd
      intro S x2 hT
      unfold cT_X6_slotFrom_2 at hT
      rw [hB2]
      intro vd H locs ls hP hD hS hl
      refine lv_iload_n hx hb dX6_slotFrom_2 rfl (lv_at hl 2 rfl) ?_
      refine lv_sipush (v := 128) hx hb dX6_slotFrom_3 (by decide) ?_
      refine lv_icmp_ge (tgt := 34) hx hb dX6_slotFrom_6 (by decide) (fun c1 => ?_) (fun c1 => ?_)
      · replace hT := hT.1 c1
        refine lv_iconst (v := (-1)) hx hb dX6_slotFrom_34 (by decide) ?_
        exact hret _ _ _ _ _ _ _ _ _ hP hD hS (Nat.le_refl _) (Nat.le_refl _) hT dX6_slotFrom_35
      · replace hT := hT.2 c1
        refine lv_iload_n hx hb dX6_slotFrom_9 rfl (lv_at hl 1 rfl) ?_
        refine lv_iload_n hx hb dX6_slotFrom_10 rfl (lv_at hl 2 rfl) ?_
        refine lv_iadd hx hb dX6_slotFrom_11 ?_
        refine lv_bipush (v := 127) hx hb dX6_slotFrom_12 (by decide) ?_
        refine lv_iand hx hb dX6_slotFrom_14 ?_
        refine lv_topi (fun v3_2 ev3_2 => ?_)
        replace hT := hT v3_2 ev3_2
        refine lv_istore_n (lv' := [(3, .int v3_2), (0, .ref (ad 5)), (1, .int a1), (2, .int x2)]) hx hb dX6_slotFrom_15 rfl hl (by decide) rfl (fun ls hl => ?_)
        refine lv_aload_n hx hb dX6_slotFrom_16 rfl (lv_at hl 1 rfl) ?_
        refine cg_X6_11 hx hb hts hown hK hP dX6_slotFrom_17 ?_
        refine lv_iload_n hx hb dX6_slotFrom_20 rfl (lv_at hl 0 rfl) ?_
        obtain ⟨hi3, hT⟩ := hT
        refine va_iald (f := S.2.1 23) hx hb hK hP 23 0 cat_23 rfl hi3 dX6_slotFrom_21 ?_
        refine lv_iconst (v := (-1)) hx hb dX6_slotFrom_22 (by decide) ?_
        refine lv_icmp_eq (tgt := 28) hx hb dX6_slotFrom_23 (by decide) (fun c4 => ?_) (fun c4 => ?_)
        · replace hT := hT.1 c4
          refine lv_iinc (v := x2 + 1) (lv' := [(2, .int (x2 + 1)), (3, .int v3_2), (0, .ref (ad 5)), (1, .int a1)]) hx hb dX6_slotFrom_28 hl (k := 3) rfl rfl (by decide) rfl (fun ls hl => ?_)
          refine lv_goto (tgt := 2) hx hb dX6_slotFrom_31 (by decide) ?_
          rw [hB2] at hT
          exact hT _ _ _ _ hP hD hS (lv_sub hl [2, 3, 0] rfl)
        · replace hT := hT.2 c4
          refine lv_iload_n hx hb dX6_slotFrom_26 rfl (lv_at hl 0 rfl) ?_
          exact hret _ _ _ _ _ _ _ _ _ hP hD hS (Nat.le_refl _) (Nat.le_refl _) hT dX6_slotFrom_27
  unfold cT_X6_slotFrom_e at hT
  refine lv_iconst (v := 0) hx hb dX6_slotFrom_0 (by decide) ?_
  refine lv_istore_n (lv' := [(2, .int 0), (0, .ref (ad 5)), (1, .int a1)]) hx hb dX6_slotFrom_1 rfl hl (by decide) rfl (fun ls hl => ?_)
  rw [hB2] at hT
  exact hT _ _ _ _ hP hD hS (lv_sub hl [1, 2, 0] rfl)
abbrev cX_X6_from (l : Launch) (mc ms : Nat) (S : CS) (a3 : Int32) (post : CS → Prop) : Prop := cCtV l yX6_from cX6_from 9 3 86 mc ms (fun ad => [.ref (ad 5), .ref (ad 1), .ref (ad 2), .int a3]) S post
def cT_X6_from_35 (l : Launch) (mc ms : Nat) (a3 : Int32) (post : CS → Prop) (B35 : Nat → Nat → CS → Int32 → Int32 → Prop) (B121 : Nat → Nat → CS → Int32 → Int32 → Int32 → Int32 → Prop) (kc ks : Nat) (S : CS) (x4 : Int32) (x5 : Int32) : Prop := (S.1 5 ≤ x5 → kc ≤ mc ∧ ks ≤ ms ∧ post S) ∧ (¬ S.1 5 ≤ x5 → kc ≤ mc ∧ ks ≤ ms ∧ cX_X6_slotFrom l S x4 (fun r3 S2 => (¬ r3 = (-1) → vp_in r3 128 ∧ ∀ v7_8 : Int32, v7_8 = S2.2.1 23 r3.toNatClampNeg → kc ≤ mc ∧ ks ≤ ms ∧ cX_X6_takeOut l S2 v7_8 (fun S9 => vp_in v7_8 (S9.2.2.2 24) ∧ ∀ v4_13 : Int32, v4_13 = S9.2.1 24 v7_8.toNatClampNeg → vp_in (S9.1 13) (S9.2.2.2 26) ∧ kc ≤ mc ∧ ks ≤ ms ∧ cX_X3_read l (cf (ca S9 26 (upd (S9.2.1 26) (S9.1 13).toNatClampNeg v7_8)) 13 ((S9.1 13) + 1)) v7_8 (fun S15 => kc ≤ mc ∧ ks ≤ ms ∧ cX_X3_spread l S15 (fun S18 => B121 kc ks S18 v4_13 x5 v7_8 0)))) ∧ (r3 = (-1) → kc ≤ mc ∧ ks ≤ ms ∧ post S2)))
def cT_X6_from_121 (l : Launch) (mc ms : Nat) (a3 : Int32) (post : CS → Prop) (B35 : Nat → Nat → CS → Int32 → Int32 → Prop) (B121 : Nat → Nat → CS → Int32 → Int32 → Int32 → Int32 → Prop) (kc ks : Nat) (S : CS) (x4 : Int32) (x5 : Int32) (x7 : Int32) (x8 : Int32) : Prop := (S.1 6 ≤ x8 → B35 kc ks S x4 (x5 + 1)) ∧ (¬ S.1 6 ≤ x8 → vp_in x8 25 ∧ vp_in x8 25 ∧ vp_in x7 (S.2.2.2 25) ∧ kc ≤ mc ∧ ks ≤ ms ∧ cX_X6_offer l S (S.2.1 18 x8.toNatClampNeg) (x4 + (S.2.1 19 x8.toNatClampNeg)) (S.2.2.1 25 x7.toNatClampNeg) (fun S25 => B121 kc ks S25 x4 x5 x7 (x8 + 1)))
def cT_X6_from_e (l : Launch) (mc ms : Nat) (a3 : Int32) (post : CS → Prop) (B35 : Nat → Nat → CS → Int32 → Int32 → Prop) (B121 : Nat → Nat → CS → Int32 → Int32 → Int32 → Int32 → Prop) (S0 : CS) : Prop := (¬ S0.1 12 = a3 → ∃ mc30 ms31 : Nat, 0 + mc30 ≤ mc ∧ 0 + ms31 ≤ ms ∧ cX_X6_prepare l mc30 ms31 (cf S0 12 a3) (S0.1 5) (fun S29 => 0 + mc30 ≤ mc ∧ 0 + ms31 ≤ ms ∧ cX_X6_offer l S29 a3 0 1 (fun S34 => B35 (0 + mc30) (0 + ms31) S34 0 0))) ∧ (S0.1 12 = a3 → 0 ≤ mc ∧ 0 ≤ ms ∧ post S0)
set_option maxHeartbeats 4000000 in
set_option maxRecDepth 100000 in
theorem c_X6_from (l : Launch) (mc ms : Nat) (S0 : CS) (a3 : Int32) (post : CS → Prop) (h : ∀ (B35 : Nat → Nat → CS → Int32 → Int32 → Prop) (B121 : Nat → Nat → CS → Int32 → Int32 → Int32 → Int32 → Prop), (∀ (kc ks : Nat) (S : CS) (x4 : Int32) (x5 : Int32), cT_X6_from_35 l mc ms a3 post B35 B121 kc ks S x4 x5 → B35 kc ks S x4 x5) → (∀ (kc ks : Nat) (S : CS) (x4 : Int32) (x5 : Int32) (x7 : Int32) (x8 : Int32), cT_X6_from_121 l mc ms a3 post B35 B121 kc ks S x4 x5 x7 x8 → B121 kc ks S x4 x5 x7 x8) → cT_X6_from_e l mc ms a3 post B35 B121 S0) : cX_X6_from l mc ms S0 a3 post := by
  refine csetV rfl (fun _ => Nat.le_of_ble_eq_true rfl) ?_
  intro p e s m args below meth c D ad vd cI cZ cL cG X A Q hx hb hml hown hts hK hZ hA hret H locs ls hP hD hS hl
  replace hl : lv_has ls 9 [(0, .ref (ad 5)), (1, .ref (ad 1)), (2, .ref (ad 2)), (3, .int a3)] := hl
  obtain ⟨B35, hB35⟩ : ∃ B : Nat → Nat → CS → Int32 → Int32 → Prop, B = (fun kc ks S x4 x5 => ∀ (vd : Nat → Nat) (H : Heap) (locs : List Loc) (ls : Array Slot), va_P D vwCl (cW ad vd cI cZ cL cG S ++ X) H → va_D A (cW ad vd cI cZ cL cG S ++ X) → va_S A s.heap H locs → lv_has ls 9 [(0, .ref (ad 5)), (1, .ref (ad 1)), (2, .ref (ad 2)), (4, .int x4), (5, .int x5)] → W p l e (crm 3 86 mc ms) s m args below meth c H locs kc ks Q (F0 m 35 ls [])) := ⟨_, rfl⟩
  obtain ⟨B121, hB121⟩ : ∃ B : Nat → Nat → CS → Int32 → Int32 → Int32 → Int32 → Prop, B = (fun kc ks S x4 x5 x7 x8 => ∀ (vd : Nat → Nat) (H : Heap) (locs : List Loc) (ls : Array Slot), va_P D vwCl (cW ad vd cI cZ cL cG S ++ X) H → va_D A (cW ad vd cI cZ cL cG S ++ X) → va_S A s.heap H locs → lv_has ls 9 [(0, .ref (ad 5)), (1, .ref (ad 1)), (2, .ref (ad 2)), (4, .int x4), (5, .int x5), (7, .int x7), (8, .int x8)] → W p l e (crm 3 86 mc ms) s m args below meth c H locs kc ks Q (F0 m 121 ls [])) := ⟨_, rfl⟩
  have hT : cT_X6_from_e l mc ms a3 post B35 B121 S0 := by
    refine h B35 B121 ?_ ?_
    · clear hP hD hS hl H locs ls vd
      intro kc ks S x4 x5 hT
      unfold cT_X6_from_35 at hT
      rw [hB35]
      intro vd H locs ls hP hD hS hl
      refine lv_iload hx hb dX6_from_35 (lv_at hl 4 rfl) ?_
      refine lv_aload_n hx hb dX6_from_37 rfl (lv_at hl 1 rfl) ?_
      refine cg_X6_38 (v := S.1 5) hx hb hts hown hK hP rfl dX6_from_38 ?_
      refine lv_icmp_ge (tgt := 170) hx hb dX6_from_41 (by decide) (fun c1 => ?_) (fun c1 => ?_)
      · replace hT := hT.1 c1
        obtain ⟨hkc, hks, hT⟩ := hT
        exact hret _ _ _ _ _ _ _ _ hP hD hS hkc hks hT dX6_from_170
      · replace hT := hT.2 c1
        refine lv_aload_n hx hb dX6_from_44 rfl (lv_at hl 0 rfl) ?_
        refine lv_iload hx hb dX6_from_45 (lv_at hl 3 rfl) ?_
        obtain ⟨hk4, hk5, hT⟩ := hT
        refine ccallVI (n := 1) (b := ad 5) (C := RX6) (As := [.int x4]) (rest := []) hT hx hb hml hown hts hK hZ hA hP hD hS hl gc_X6_51 hdc_X6_slotFrom (va_recv hK hP rfl cob_5) ⟨Nat.le_of_ble_eq_true rfl, Nat.le_of_ble_eq_true rfl⟩ rfl rfl rfl (Nat.le_of_ble_eq_true rfl) dX6_from_47 hk4 hk5 (fun r3 S2 vd H locs hP hD hS hT => ?_)
        refine lv_istore (lv' := [(6, .int r3), (0, .ref (ad 5)), (1, .ref (ad 1)), (2, .ref (ad 2)), (4, .int x4), (5, .int x5)]) hx hb dX6_from_50 hl (by decide) rfl (fun ls hl => ?_)
        refine lv_iload hx hb dX6_from_52 (lv_at hl 0 rfl) ?_
        refine lv_iconst (v := (-1)) hx hb dX6_from_54 (by decide) ?_
        refine lv_icmp_ne (tgt := 61) hx hb dX6_from_55 (by decide) (fun c6 => ?_) (fun c6 => ?_)
        · replace hT := hT.1 c6
          refine lv_aload_n hx hb dX6_from_61 rfl (lv_at hl 1 rfl) ?_
          refine cg_X6_11 hx hb hts hown hK hP dX6_from_62 ?_
          refine lv_iload hx hb dX6_from_65 (lv_at hl 0 rfl) ?_
          obtain ⟨hi7, hT⟩ := hT
          refine va_iald (f := S2.2.1 23) hx hb hK hP 23 0 cat_23 rfl hi7 dX6_from_67 ?_
          refine lv_topi (fun v7_8 ev7_8 => ?_)
          replace hT := hT v7_8 ev7_8
          refine lv_istore (lv' := [(7, .int v7_8), (6, .int r3), (0, .ref (ad 5)), (1, .ref (ad 1)), (2, .ref (ad 2)), (4, .int x4), (5, .int x5)]) hx hb dX6_from_68 hl (by decide) rfl (fun ls hl => ?_)
          refine lv_aload_n hx hb dX6_from_70 rfl (lv_at hl 2 rfl) ?_
          refine lv_iload hx hb dX6_from_71 (lv_at hl 0 rfl) ?_
          obtain ⟨hk10, hk11, hT⟩ := hT
          refine ccallVV (n := 1) (b := ad 5) (C := RX6) (As := [.int v7_8]) (rest := []) hT hx hb hml hown hts hK hZ hA hP hD hS hl gc_X6_55 hdc_X6_takeOut (va_recv hK hP rfl cob_5) ⟨Nat.le_of_ble_eq_true rfl, Nat.le_of_ble_eq_true rfl⟩ rfl rfl rfl (Nat.le_of_ble_eq_true rfl) dX6_from_73 hk10 hk11 (fun S9 vd H locs hP hD hS hT => ?_)
          refine lv_aload_n hx hb dX6_from_76 rfl (lv_at hl 2 rfl) ?_
          refine cg_X6_15 hx hb hts hown hK hP dX6_from_77 ?_
          refine lv_iload hx hb dX6_from_80 (lv_at hl 0 rfl) ?_
          obtain ⟨hi12, hT⟩ := hT
          refine va_iald (f := S9.2.1 24) hx hb hK hP 24 0 cat_24 rfl hi12 dX6_from_82 ?_
          refine lv_topi (fun v4_13 ev4_13 => ?_)
          replace hT := hT v4_13 ev4_13
          refine lv_istore (lv' := [(4, .int v4_13), (7, .int v7_8), (6, .int r3), (0, .ref (ad 5)), (1, .ref (ad 1)), (2, .ref (ad 2)), (5, .int x5)]) hx hb dX6_from_83 hl (by decide) rfl (fun ls hl => ?_)
          refine lv_aload_n hx hb dX6_from_85 rfl (lv_at hl 3 rfl) ?_
          refine cg_X6_22 hx hb hts hown hK hP dX6_from_86 ?_
          refine lv_aload_n hx hb dX6_from_89 rfl (lv_at hl 3 rfl) ?_
          refine cg_X6_58 (v := S9.1 13) hx hb hts hown hK hP rfl dX6_from_90 ?_
          refine lv_iload hx hb dX6_from_93 (lv_at hl 1 rfl) ?_
          obtain ⟨hi14, hT⟩ := hT
          refine va_iast (f := S9.2.1 26) hx hb hK hP hD hS 26 0 cat_26 rfl hi14 dX6_from_95 (fun H locs hP hD hS => ?_)
          replace hP := csetP_26 hP
          replace hD := csetD_26 hD
          refine lv_aload_n hx hb dX6_from_96 rfl (lv_at hl 3 rfl) ?_
          refine lv_dup hx hb dX6_from_97 rfl ?_
          refine cg_X6_58 (v := S9.1 13) hx hb hts hown hK hP rfl dX6_from_98 ?_
          refine lv_iconst (v := 1) hx hb dX6_from_101 (by decide) ?_
          refine lv_iadd hx hb dX6_from_102 ?_
          refine cp_X6_58 hx hb hts hown hK hP hD hS dX6_from_103 (fun H locs hP hD hS => ?_)
          refine lv_aload_n hx hb dX6_from_106 rfl (lv_at hl 5 rfl) ?_
          refine lv_aload_n hx hb dX6_from_107 rfl (lv_at hl 4 rfl) ?_
          refine lv_iload hx hb dX6_from_108 (lv_at hl 1 rfl) ?_
          obtain ⟨hk16, hk17, hT⟩ := hT
          refine ccallVV (n := 2) (b := ad 2) (C := RX3) (As := [.ref (ad 1), .int v7_8]) (rest := []) hT hx hb hml hown hts hK hZ hA hP hD hS hl gc_X6_61 hdc_X3_read (va_recv hK hP rfl cob_2) ⟨Nat.le_of_ble_eq_true rfl, Nat.le_of_ble_eq_true rfl⟩ rfl rfl rfl (Nat.le_of_ble_eq_true rfl) dX6_from_110 hk16 hk17 (fun S15 vd H locs hP hD hS hT => ?_)
          refine lv_aload_n hx hb dX6_from_113 rfl (lv_at hl 5 rfl) ?_
          refine lv_aload_n hx hb dX6_from_114 rfl (lv_at hl 4 rfl) ?_
          obtain ⟨hk19, hk20, hT⟩ := hT
          refine ccallVV (n := 1) (b := ad 2) (C := RX3) (As := [.ref (ad 1)]) (rest := []) hT hx hb hml hown hts hK hZ hA hP hD hS hl gc_X6_67 hdc_X3_spread (va_recv hK hP rfl cob_2) ⟨Nat.le_of_ble_eq_true rfl, Nat.le_of_ble_eq_true rfl⟩ rfl rfl rfl (Nat.le_of_ble_eq_true rfl) dX6_from_115 hk19 hk20 (fun S18 vd H locs hP hD hS hT => ?_)
          refine lv_iconst (v := 0) hx hb dX6_from_118 (by decide) ?_
          refine lv_istore (lv' := [(8, .int 0), (4, .int v4_13), (7, .int v7_8), (6, .int r3), (0, .ref (ad 5)), (1, .ref (ad 1)), (2, .ref (ad 2)), (5, .int x5)]) hx hb dX6_from_119 hl (by decide) rfl (fun ls hl => ?_)
          rw [hB121] at hT
          exact hT _ _ _ _ hP hD hS (lv_sub hl [4, 5, 6, 1, 7, 2, 0] rfl)
        · replace hT := hT.2 c6
          refine lv_goto (tgt := 170) hx hb dX6_from_58 (by decide) ?_
          obtain ⟨hkc, hks, hT⟩ := hT
          exact hret _ _ _ _ _ _ _ _ hP hD hS hkc hks hT dX6_from_170
    · clear hP hD hS hl H locs ls vd
      intro kc ks S x4 x5 x7 x8 hT
      unfold cT_X6_from_121 at hT
      rw [hB121]
      intro vd H locs ls hP hD hS hl
      refine lv_iload hx hb dX6_from_121 (lv_at hl 6 rfl) ?_
      refine lv_aload_n hx hb dX6_from_123 rfl (lv_at hl 2 rfl) ?_
      refine cg_X6_71 (v := S.1 6) hx hb hts hown hK hP rfl dX6_from_124 ?_
      refine lv_icmp_ge (tgt := 164) hx hb dX6_from_127 (by decide) (fun c21 => ?_) (fun c21 => ?_)
      · replace hT := hT.1 c21
        refine lv_iinc (v := x5 + 1) (lv' := [(5, .int (x5 + 1)), (0, .ref (ad 5)), (1, .ref (ad 1)), (2, .ref (ad 2)), (4, .int x4), (7, .int x7), (8, .int x8)]) hx hb dX6_from_164 hl (k := 4) rfl rfl (by decide) rfl (fun ls hl => ?_)
        refine lv_goto (tgt := 35) hx hb dX6_from_167 (by decide) ?_
        rw [hB35] at hT
        exact hT _ _ _ _ hP hD hS (lv_sub hl [1, 2, 3, 4, 0] rfl)
      · replace hT := hT.2 c21
        refine lv_aload_n hx hb dX6_from_130 rfl (lv_at hl 0 rfl) ?_
        refine lv_aload_n hx hb dX6_from_131 rfl (lv_at hl 2 rfl) ?_
        refine cg_X6_74 hx hb hts hown hK hP dX6_from_132 ?_
        refine lv_iload hx hb dX6_from_135 (lv_at hl 6 rfl) ?_
        obtain ⟨hi22, hT⟩ := hT
        refine va_iald (f := S.2.1 18) hx hb hK hP 18 0 cat_18 rfl hi22 dX6_from_137 ?_
        refine lv_iload hx hb dX6_from_138 (lv_at hl 3 rfl) ?_
        refine lv_aload_n hx hb dX6_from_140 rfl (lv_at hl 2 rfl) ?_
        refine cg_X6_77 hx hb hts hown hK hP dX6_from_141 ?_
        refine lv_iload hx hb dX6_from_144 (lv_at hl 6 rfl) ?_
        obtain ⟨hi23, hT⟩ := hT
        refine va_iald (f := S.2.1 19) hx hb hK hP 19 0 cat_19 rfl hi23 dX6_from_146 ?_
        refine lv_iadd hx hb dX6_from_147 ?_
        refine lv_aload_n hx hb dX6_from_148 rfl (lv_at hl 0 rfl) ?_
        refine cg_X6_18 hx hb hts hown hK hP dX6_from_149 ?_
        refine lv_iload hx hb dX6_from_152 (lv_at hl 5 rfl) ?_
        obtain ⟨hi24, hT⟩ := hT
        refine va_lald (f := S.2.2.1 25) hx hb hK hP 25 2 cat_25 rfl hi24 dX6_from_154 ?_
        obtain ⟨hk26, hk27, hT⟩ := hT
        refine ccallVV (n := 3) (b := ad 5) (C := RX6) (As := [.int (S.2.1 18 x8.toNatClampNeg), .int (x4 + (S.2.1 19 x8.toNatClampNeg)), .long (S.2.2.1 25 x7.toNatClampNeg)]) (rest := []) hT hx hb hml hown hts hK hZ hA hP hD hS hl gc_X6_47 hdc_X6_offer (va_recv hK hP rfl cob_5) ⟨Nat.le_of_ble_eq_true rfl, Nat.le_of_ble_eq_true rfl⟩ rfl rfl rfl (Nat.le_of_ble_eq_true rfl) dX6_from_155 hk26 hk27 (fun S25 vd H locs hP hD hS hT => ?_)
        refine lv_iinc (v := x8 + 1) (lv' := [(8, .int (x8 + 1)), (0, .ref (ad 5)), (1, .ref (ad 1)), (2, .ref (ad 2)), (4, .int x4), (5, .int x5), (7, .int x7)]) hx hb dX6_from_158 hl (k := 6) rfl rfl (by decide) rfl (fun ls hl => ?_)
        refine lv_goto (tgt := 121) hx hb dX6_from_161 (by decide) ?_
        rw [hB121] at hT
        exact hT _ _ _ _ hP hD hS (lv_sub hl [1, 2, 3, 4, 5, 6, 0] rfl)
  unfold cT_X6_from_e at hT
  refine lv_aload_n hx hb dX6_from_0 rfl (lv_at hl 0 rfl) ?_
  refine cg_X6_34 (v := S0.1 12) hx hb hts hown hK hP rfl dX6_from_1 ?_
  refine lv_iload_n hx hb dX6_from_4 rfl (lv_at hl 3 rfl) ?_
  refine lv_icmp_ne (tgt := 9) hx hb dX6_from_5 (by decide) (fun c28 => ?_) (fun c28 => ?_)
  · replace hT := hT.1 c28
    refine lv_aload_n hx hb dX6_from_9 rfl (lv_at hl 0 rfl) ?_
    refine lv_iload_n hx hb dX6_from_10 rfl (lv_at hl 3 rfl) ?_
    refine cp_X6_34 hx hb hts hown hK hP hD hS dX6_from_11 (fun H locs hP hD hS => ?_)
    refine lv_aload_n hx hb dX6_from_14 rfl (lv_at hl 0 rfl) ?_
    refine lv_aload_n hx hb dX6_from_15 rfl (lv_at hl 1 rfl) ?_
    refine cg_X6_38 (v := S0.1 5) hx hb hts hown hK hP rfl dX6_from_16 ?_
    obtain ⟨mc30, ms31, hk32, hk33, hT⟩ := hT
    refine ccallVV (n := 1) (b := ad 5) (C := RX6) (As := [.int (S0.1 5)]) (rest := []) hT hx hb hml hown hts hK hZ hA hP hD hS hl gc_X6_43 hdc_X6_prepare (va_recv hK hP rfl cob_5) ⟨Nat.le_of_ble_eq_true rfl, Nat.le_of_ble_eq_true rfl⟩ rfl rfl rfl (Nat.le_of_ble_eq_true rfl) dX6_from_19 hk32 hk33 (fun S29 vd H locs hP hD hS hT => ?_)
    refine lv_aload_n hx hb dX6_from_22 rfl (lv_at hl 0 rfl) ?_
    refine lv_iload_n hx hb dX6_from_23 rfl (lv_at hl 3 rfl) ?_
    refine lv_iconst (v := 0) hx hb dX6_from_24 (by decide) ?_
    refine lv_lconst (v := 1) hx hb dX6_from_25 (by decide) ?_
    obtain ⟨hk35, hk36, hT⟩ := hT
    refine ccallVV (n := 3) (b := ad 5) (C := RX6) (As := [.int a3, .int 0, .long 1]) (rest := []) hT hx hb hml hown hts hK hZ hA hP hD hS hl gc_X6_47 hdc_X6_offer (va_recv hK hP rfl cob_5) ⟨Nat.le_of_ble_eq_true rfl, Nat.le_of_ble_eq_true rfl⟩ rfl rfl rfl (Nat.le_of_ble_eq_true rfl) dX6_from_26 hk35 hk36 (fun S34 vd H locs hP hD hS hT => ?_)
    refine lv_iconst (v := 0) hx hb dX6_from_29 (by decide) ?_
    refine lv_istore (lv' := [(4, .int 0), (0, .ref (ad 5)), (1, .ref (ad 1)), (2, .ref (ad 2)), (3, .int a3)]) hx hb dX6_from_30 hl (by decide) rfl (fun ls hl => ?_)
    refine lv_iconst (v := 0) hx hb dX6_from_32 (by decide) ?_
    refine lv_istore (lv' := [(5, .int 0), (4, .int 0), (0, .ref (ad 5)), (1, .ref (ad 1)), (2, .ref (ad 2)), (3, .int a3)]) hx hb dX6_from_33 hl (by decide) rfl (fun ls hl => ?_)
    rw [hB35] at hT
    exact hT _ _ _ _ hP hD hS (lv_sub hl [2, 3, 4, 1, 0] rfl)
  · replace hT := hT.2 c28
    obtain ⟨hkc, hks, hT⟩ := hT
    exact hret _ _ _ _ _ _ _ _ hP hD hS hkc hks hT dX6_from_8
abbrev cX_X8_searched (l : Launch) (mc ms : Nat) (S : CS) (post : Bool → CS → Prop) : Prop := cCtZ l yX8_searched cX8_searched 1 4 114 mc ms (fun ad => [.ref (ad 0)]) S post
def cT_X8_searched_e (l : Launch) (mc ms : Nat) (post : Bool → CS → Prop) (S0 : CS) : Prop := (S0.1 5 ≤ 20000 → ∃ mc3 ms4 : Nat, 0 + mc3 ≤ mc ∧ 0 + ms4 ≤ ms ∧ cX_X6_from l mc3 ms4 S0 (S0.1 0) (fun S2 => 0 + mc3 ≤ mc ∧ 0 + ms4 ≤ ms ∧ cX_X8_accept l S2 (fun b8 S7 => 0 + mc3 ≤ mc ∧ 0 + ms4 ≤ ms ∧ post b8 S7))) ∧ (¬ S0.1 5 ≤ 20000 → 0 ≤ mc ∧ 0 ≤ ms ∧ cX_X8_refuse l S0 2 (fun b12 S11 => 0 ≤ mc ∧ 0 ≤ ms ∧ post b12 S11))
set_option maxHeartbeats 4000000 in
set_option maxRecDepth 100000 in
theorem c_X8_searched (l : Launch) (mc ms : Nat) (S0 : CS) (post : Bool → CS → Prop) (h : cT_X8_searched_e l mc ms post S0) : cX_X8_searched l mc ms S0 post := by
  refine csetZ rfl (fun _ => Nat.le_of_ble_eq_true rfl) ?_
  intro p e s m args below meth c D ad vd cI cZ cL cG X A Q hx hb hml hown hts hK hZ hA hret H locs ls hP hD hS hl
  replace hl : lv_has ls 1 [(0, .ref (ad 0))] := hl
  have hT := h
  unfold cT_X8_searched_e at hT
  refine lv_aload_n hx hb dX8_searched_0 rfl (lv_at hl 0 rfl) ?_
  refine cg_X8_10 hx hb hts hown hK hP dX8_searched_1 ?_
  refine cg_X8_114 (v := S0.1 5) hx hb hts hown hK hP rfl dX8_searched_4 ?_
  refine lv_sipush (v := 20000) hx hb dX8_searched_7 (by decide) ?_
  refine lv_icmp_le (tgt := 19) hx hb dX8_searched_10 (by decide) (fun c1 => ?_) (fun c1 => ?_)
  · replace hT := hT.1 c1
    refine lv_aload_n hx hb dX8_searched_19 rfl (lv_at hl 0 rfl) ?_
    refine cg_X8_40 hx hb hts hown hK hP dX8_searched_20 ?_
    refine lv_aload_n hx hb dX8_searched_23 rfl (lv_at hl 0 rfl) ?_
    refine cg_X8_10 hx hb hts hown hK hP dX8_searched_24 ?_
    refine lv_aload_n hx hb dX8_searched_27 rfl (lv_at hl 0 rfl) ?_
    refine cg_X8_19 hx hb hts hown hK hP dX8_searched_28 ?_
    refine lv_aload_n hx hb dX8_searched_31 rfl (lv_at hl 0 rfl) ?_
    refine cg_X8_73 (v := S0.1 0) hx hb hts hown hK hP rfl dX8_searched_32 ?_
    obtain ⟨mc3, ms4, hk5, hk6, hT⟩ := hT
    refine ccallVV (n := 3) (b := ad 5) (C := RX6) (As := [.ref (ad 1), .ref (ad 2), .int (S0.1 0)]) (rest := []) hT hx hb hml hown hts hK hZ hA hP hD hS hl gc_X8_279 hdc_X6_from (va_recv hK hP rfl cob_5) ⟨Nat.le_of_ble_eq_true rfl, Nat.le_of_ble_eq_true rfl⟩ rfl rfl rfl (Nat.le_of_ble_eq_true rfl) dX8_searched_35 hk5 hk6 (fun S2 vd H locs hP hD hS hT => ?_)
    refine lv_aload_n hx hb dX8_searched_38 rfl (lv_at hl 0 rfl) ?_
    obtain ⟨hk9, hk10, hT⟩ := hT
    refine ccallVZ (n := 0) (b := ad 0) (C := RX8) (As := []) (rest := []) hT hx hb hml hown hts hK hZ hA hP hD hS hl gc_X8_83 hdc_X8_accept (va_recv hK hP rfl cob_0) ⟨Nat.le_of_ble_eq_true rfl, Nat.le_of_ble_eq_true rfl⟩ rfl rfl rfl (Nat.le_of_ble_eq_true rfl) dX8_searched_39 hk9 hk10 (fun b8 S7 vd H locs hP hD hS hT => ?_)
    obtain ⟨hkc, hks, hT⟩ := hT
    exact hret b8 _ _ _ _ _ _ _ _ hP hD hS hkc hks hT dX8_searched_42
  · replace hT := hT.2 c1
    refine lv_aload_n hx hb dX8_searched_13 rfl (lv_at hl 0 rfl) ?_
    refine lv_iconst (v := 2) hx hb dX8_searched_14 (by decide) ?_
    obtain ⟨hk13, hk14, hT⟩ := hT
    refine ccallVZ (n := 1) (b := ad 0) (C := RX8) (As := [.int 2]) (rest := []) hT hx hb hml hown hts hK hZ hA hP hD hS hl gc_X8_65 hdc_X8_refuse (va_recv hK hP rfl cob_0) ⟨Nat.le_of_ble_eq_true rfl, Nat.le_of_ble_eq_true rfl⟩ rfl rfl rfl (Nat.le_of_ble_eq_true rfl) dX8_searched_15 hk13 hk14 (fun b12 S11 vd H locs hP hD hS hT => ?_)
    obtain ⟨hkc, hks, hT⟩ := hT
    exact hret b12 _ _ _ _ _ _ _ _ hP hD hS hkc hks hT dX8_searched_18
abbrev cX_X6_costTo (l : Launch) (S : CS) (a1 : Int32) (post : Int32 → CS → Prop) : Prop := cCtI l yX6_costTo cX6_costTo 2 0 0 0 0 (fun ad => [.ref (ad 5), .int a1]) S post
def cT_X6_costTo_e (l : Launch) (a1 : Int32) (post : Int32 → CS → Prop) (S0 : CS) : Prop := vp_in a1 (S0.2.2.2 24) ∧ post (S0.2.1 24 a1.toNatClampNeg) S0
set_option maxHeartbeats 4000000 in
set_option maxRecDepth 100000 in
theorem c_X6_costTo (l : Launch) (S0 : CS) (a1 : Int32) (post : Int32 → CS → Prop) (h : cT_X6_costTo_e l a1 post S0) : cX_X6_costTo l S0 a1 post := by
  refine csetI rfl (fun _ => Nat.le_of_ble_eq_true rfl) ?_
  intro p e s m args below meth c D ad vd cI cZ cL cG X A Q hx hb hml hown hts hK hZ hA hret H locs ls hP hD hS hl
  replace hl : lv_has ls 2 [(0, .ref (ad 5)), (1, .int a1)] := hl
  have hT := h
  unfold cT_X6_costTo_e at hT
  refine lv_aload_n hx hb dX6_costTo_0 rfl (lv_at hl 0 rfl) ?_
  refine cg_X6_15 hx hb hts hown hK hP dX6_costTo_1 ?_
  refine lv_iload_n hx hb dX6_costTo_4 rfl (lv_at hl 1 rfl) ?_
  obtain ⟨hi1, hT⟩ := hT
  refine va_iald (f := S0.2.1 24) hx hb hK hP 24 0 cat_24 rfl hi1 dX6_costTo_5 ?_
  exact hret _ _ _ _ _ _ _ _ _ hP hD hS (Nat.le_refl _) (Nat.le_refl _) hT dX6_costTo_6
abbrev cX_X8_fewest (l : Launch) (mc ms : Nat) (S : CS) (post : Int32 → CS → Prop) : Prop := cCtI l yX8_fewest cX8_fewest 2 5 134 mc ms (fun ad => [.ref (ad 0)]) S post
def cT_X8_fewest_e (l : Launch) (mc ms : Nat) (post : Int32 → CS → Prop) (S0 : CS) : Prop := ∃ mc2 ms3 : Nat, 0 + mc2 ≤ mc ∧ 0 + ms3 ≤ ms ∧ cX_X8_searched l mc2 ms3 S0 (fun b6 S1 => (¬ bI b6 = 0 → 0 + mc2 ≤ mc ∧ 0 + ms3 ≤ ms ∧ cX_X6_costTo l S1 (S1.1 1) (fun r9 S8 => (¬ r9 = (-1) → 0 + mc2 ≤ mc ∧ 0 + ms3 ≤ ms ∧ post r9 S8) ∧ (r9 = (-1) → 0 + mc2 ≤ mc ∧ 0 + ms3 ≤ ms ∧ post (-2) S8))) ∧ (bI b6 = 0 → 0 + mc2 ≤ mc ∧ 0 + ms3 ≤ ms ∧ post (-1) S1))
set_option maxHeartbeats 4000000 in
set_option maxRecDepth 100000 in
theorem c_X8_fewest (l : Launch) (mc ms : Nat) (S0 : CS) (post : Int32 → CS → Prop) (h : cT_X8_fewest_e l mc ms post S0) : cX_X8_fewest l mc ms S0 post := by
  refine csetI rfl (fun _ => Nat.le_of_ble_eq_true rfl) ?_
  intro p e s m args below meth c D ad vd cI cZ cL cG X A Q hx hb hml hown hts hK hZ hA hret H locs ls hP hD hS hl
  replace hl : lv_has ls 2 [(0, .ref (ad 0))] := hl
  have hT := h
  unfold cT_X8_fewest_e at hT
  refine lv_aload_n hx hb dX8_fewest_0 rfl (lv_at hl 0 rfl) ?_
  obtain ⟨mc2, ms3, hk4, hk5, hT⟩ := hT
  refine ccallVZ (n := 0) (b := ad 0) (C := RX8) (As := []) (rest := []) hT hx hb hml hown hts hK hZ hA hP hD hS hl gc_X8_174 hdc_X8_searched (va_recv hK hP rfl cob_0) ⟨Nat.le_of_ble_eq_true rfl, Nat.le_of_ble_eq_true rfl⟩ rfl rfl rfl (Nat.le_of_ble_eq_true rfl) dX8_fewest_1 hk4 hk5 (fun b6 S1 vd H locs hP hD hS hT => ?_)
  refine lv_if_ne (tgt := 9) hx hb dX8_fewest_4 (by decide) (fun c7 => ?_) (fun c7 => ?_)
  · replace hT := hT.1 c7
    refine lv_aload_n hx hb dX8_fewest_9 rfl (lv_at hl 0 rfl) ?_
    refine cg_X8_40 hx hb hts hown hK hP dX8_fewest_10 ?_
    refine lv_aload_n hx hb dX8_fewest_13 rfl (lv_at hl 0 rfl) ?_
    refine cg_X8_77 (v := S1.1 1) hx hb hts hown hK hP rfl dX8_fewest_14 ?_
    obtain ⟨hk10, hk11, hT⟩ := hT
    refine ccallVI (n := 1) (b := ad 5) (C := RX6) (As := [.int (S1.1 1)]) (rest := []) hT hx hb hml hown hts hK hZ hA hP hD hS hl gc_X8_177 hdc_X6_costTo (va_recv hK hP rfl cob_5) ⟨Nat.le_of_ble_eq_true rfl, Nat.le_of_ble_eq_true rfl⟩ rfl rfl rfl (Nat.le_of_ble_eq_true rfl) dX8_fewest_17 hk10 hk11 (fun r9 S8 vd H locs hP hD hS hT => ?_)
    refine lv_istore_n (lv' := [(1, .int r9), (0, .ref (ad 0))]) hx hb dX8_fewest_20 rfl hl (by decide) rfl (fun ls hl => ?_)
    refine lv_iload_n hx hb dX8_fewest_21 rfl (lv_at hl 0 rfl) ?_
    refine lv_iconst (v := (-1)) hx hb dX8_fewest_22 (by decide) ?_
    refine lv_icmp_ne (tgt := 31) hx hb dX8_fewest_23 (by decide) (fun c12 => ?_) (fun c12 => ?_)
    · replace hT := hT.1 c12
      refine lv_iload_n hx hb dX8_fewest_31 rfl (lv_at hl 0 rfl) ?_
      obtain ⟨hkc, hks, hT⟩ := hT
      exact hret _ _ _ _ _ _ _ _ _ hP hD hS hkc hks hT dX8_fewest_32
    · replace hT := hT.2 c12
      refine lv_bipush (v := (-2)) hx hb dX8_fewest_26 (by decide) ?_
      refine lv_goto (tgt := 32) hx hb dX8_fewest_28 (by decide) ?_
      obtain ⟨hkc, hks, hT⟩ := hT
      exact hret _ _ _ _ _ _ _ _ _ hP hD hS hkc hks hT dX8_fewest_32
  · replace hT := hT.2 c7
    refine lv_iconst (v := (-1)) hx hb dX8_fewest_7 (by decide) ?_
    obtain ⟨hkc, hks, hT⟩ := hT
    exact hret _ _ _ _ _ _ _ _ _ hP hD hS hkc hks hT dX8_fewest_8
abbrev cX_X6_firstLeading (l : Launch) (S : CS) (a3 : Int32) (post : Int32 → CS → Prop) : Prop := cCtI l yX6_firstLeading cX6_firstLeading 6 3 86 0 0 (fun ad => [.ref (ad 5), .ref (ad 1), .ref (ad 2), .int a3]) S post
def cT_X6_firstLeading_14 (l : Launch) (a3 : Int32) (post : Int32 → CS → Prop) (B14 : CS → Int32 → Prop) (B70 : CS → Int32 → Prop) (S : CS) (x4 : Int32) : Prop := (S.1 6 ≤ x4 → post (-1) S) ∧ (¬ S.1 6 ≤ x4 → vp_in x4 25 ∧ ∀ v5_3 : Int32, v5_3 = S.2.1 18 x4.toNatClampNeg → vp_in v5_3 (S.2.2.2 29) ∧ (¬ S.2.1 29 v5_3.toNatClampNeg = 1 → B70 S x4) ∧ (S.2.1 29 v5_3.toNatClampNeg = 1 → vp_in v5_3 (S.2.2.2 24) ∧ vp_in a3 (S.2.2.2 24) ∧ vp_in x4 25 ∧ (¬ S.2.1 24 v5_3.toNatClampNeg = (S.2.1 24 a3.toNatClampNeg) + (S.2.1 19 x4.toNatClampNeg) → B70 S x4) ∧ (S.2.1 24 v5_3.toNatClampNeg = (S.2.1 24 a3.toNatClampNeg) + (S.2.1 19 x4.toNatClampNeg) → post x4 S)))
def cT_X6_firstLeading_70 (l : Launch) (a3 : Int32) (post : Int32 → CS → Prop) (B14 : CS → Int32 → Prop) (B70 : CS → Int32 → Prop) (S : CS) (x4 : Int32) : Prop := B14 S (x4 + 1)
def cT_X6_firstLeading_e (l : Launch) (a3 : Int32) (post : Int32 → CS → Prop) (B14 : CS → Int32 → Prop) (B70 : CS → Int32 → Prop) (S0 : CS) : Prop := cX_X3_read l S0 a3 (fun S10 => cX_X3_spread l S10 (fun S11 => B14 S11 0))
set_option maxHeartbeats 4000000 in
set_option maxRecDepth 100000 in
theorem c_X6_firstLeading (l : Launch) (S0 : CS) (a3 : Int32) (post : Int32 → CS → Prop) (h : ∀ (B14 : CS → Int32 → Prop) (B70 : CS → Int32 → Prop), (∀ (S : CS) (x4 : Int32), cT_X6_firstLeading_14 l a3 post B14 B70 S x4 → B14 S x4) → (∀ (S : CS) (x4 : Int32), cT_X6_firstLeading_70 l a3 post B14 B70 S x4 → B70 S x4) → cT_X6_firstLeading_e l a3 post B14 B70 S0) : cX_X6_firstLeading l S0 a3 post := by
  refine csetI rfl (fun _ => Nat.le_of_ble_eq_true rfl) ?_
  intro p e s m args below meth c D ad vd cI cZ cL cG X A Q hx hb hml hown hts hK hZ hA hret H locs ls hP hD hS hl
  replace hl : lv_has ls 6 [(0, .ref (ad 5)), (1, .ref (ad 1)), (2, .ref (ad 2)), (3, .int a3)] := hl
  obtain ⟨B14, hB14⟩ : ∃ B : CS → Int32 → Prop, B = (fun S x4 => ∀ (vd : Nat → Nat) (H : Heap) (locs : List Loc) (ls : Array Slot), va_P D vwCl (cW ad vd cI cZ cL cG S ++ X) H → va_D A (cW ad vd cI cZ cL cG S ++ X) → va_S A s.heap H locs → lv_has ls 6 [(0, .ref (ad 5)), (2, .ref (ad 2)), (3, .int a3), (4, .int x4)] → W p l e (crm 3 86 0 0) s m args below meth c H locs 0 0 Q (F0 m 14 ls [])) := ⟨_, rfl⟩
  obtain ⟨B70, hB70⟩ : ∃ B : CS → Int32 → Prop, B = (fun S x4 => ∀ (vd : Nat → Nat) (H : Heap) (locs : List Loc) (ls : Array Slot), va_P D vwCl (cW ad vd cI cZ cL cG S ++ X) H → va_D A (cW ad vd cI cZ cL cG S ++ X) → va_S A s.heap H locs → lv_has ls 6 [(0, .ref (ad 5)), (2, .ref (ad 2)), (3, .int a3), (4, .int x4)] → W p l e (crm 3 86 0 0) s m args below meth c H locs 0 0 Q (F0 m 70 ls [])) := ⟨_, rfl⟩
  have hT : cT_X6_firstLeading_e l a3 post B14 B70 S0 := by
    refine h B14 B70 ?_ ?_
    · clear hP hD hS hl H locs ls vd
      intro S x4 hT
      unfold cT_X6_firstLeading_14 at hT
      rw [hB14]
      intro vd H locs ls hP hD hS hl
      refine lv_iload hx hb dX6_firstLeading_14 (lv_at hl 3 rfl) ?_
      refine lv_aload_n hx hb dX6_firstLeading_16 rfl (lv_at hl 1 rfl) ?_
      refine cg_X6_71 (v := S.1 6) hx hb hts hown hK hP rfl dX6_firstLeading_17 ?_
      refine lv_icmp_ge (tgt := 76) hx hb dX6_firstLeading_20 (by decide) (fun c1 => ?_) (fun c1 => ?_)
      · replace hT := hT.1 c1
        refine lv_iconst (v := (-1)) hx hb dX6_firstLeading_76 (by decide) ?_
        exact hret _ _ _ _ _ _ _ _ _ hP hD hS (Nat.le_refl _) (Nat.le_refl _) hT dX6_firstLeading_77
      · replace hT := hT.2 c1
        refine lv_aload_n hx hb dX6_firstLeading_23 rfl (lv_at hl 1 rfl) ?_
        refine cg_X6_74 hx hb hts hown hK hP dX6_firstLeading_24 ?_
        refine lv_iload hx hb dX6_firstLeading_27 (lv_at hl 3 rfl) ?_
        obtain ⟨hi2, hT⟩ := hT
        refine va_iald (f := S.2.1 18) hx hb hK hP 18 0 cat_18 rfl hi2 dX6_firstLeading_29 ?_
        refine lv_topi (fun v5_3 ev5_3 => ?_)
        replace hT := hT v5_3 ev5_3
        refine lv_istore (lv' := [(5, .int v5_3), (0, .ref (ad 5)), (2, .ref (ad 2)), (3, .int a3), (4, .int x4)]) hx hb dX6_firstLeading_30 hl (by decide) rfl (fun ls hl => ?_)
        refine lv_aload_n hx hb dX6_firstLeading_32 rfl (lv_at hl 1 rfl) ?_
        refine cg_X6_31 hx hb hts hown hK hP dX6_firstLeading_33 ?_
        refine lv_iload hx hb dX6_firstLeading_36 (lv_at hl 0 rfl) ?_
        obtain ⟨hi4, hT⟩ := hT
        refine va_iald (f := S.2.1 29) hx hb hK hP 29 0 cat_29 rfl hi4 dX6_firstLeading_38 ?_
        refine lv_iconst (v := 1) hx hb dX6_firstLeading_39 (by decide) ?_
        refine lv_icmp_ne (tgt := 70) hx hb dX6_firstLeading_40 (by decide) (fun c5 => ?_) (fun c5 => ?_)
        · replace hT := hT.1 c5
          rw [hB70] at hT
          exact hT _ _ _ _ hP hD hS (lv_sub hl [1, 2, 3, 4] rfl)
        · replace hT := hT.2 c5
          refine lv_aload_n hx hb dX6_firstLeading_43 rfl (lv_at hl 1 rfl) ?_
          refine cg_X6_15 hx hb hts hown hK hP dX6_firstLeading_44 ?_
          refine lv_iload hx hb dX6_firstLeading_47 (lv_at hl 0 rfl) ?_
          obtain ⟨hi6, hT⟩ := hT
          refine va_iald (f := S.2.1 24) hx hb hK hP 24 0 cat_24 rfl hi6 dX6_firstLeading_49 ?_
          refine lv_aload_n hx hb dX6_firstLeading_50 rfl (lv_at hl 1 rfl) ?_
          refine cg_X6_15 hx hb hts hown hK hP dX6_firstLeading_51 ?_
          refine lv_iload_n hx hb dX6_firstLeading_54 rfl (lv_at hl 3 rfl) ?_
          obtain ⟨hi7, hT⟩ := hT
          refine va_iald (f := S.2.1 24) hx hb hK hP 24 0 cat_24 rfl hi7 dX6_firstLeading_55 ?_
          refine lv_aload_n hx hb dX6_firstLeading_56 rfl (lv_at hl 2 rfl) ?_
          refine cg_X6_77 hx hb hts hown hK hP dX6_firstLeading_57 ?_
          refine lv_iload hx hb dX6_firstLeading_60 (lv_at hl 4 rfl) ?_
          obtain ⟨hi8, hT⟩ := hT
          refine va_iald (f := S.2.1 19) hx hb hK hP 19 0 cat_19 rfl hi8 dX6_firstLeading_62 ?_
          refine lv_iadd hx hb dX6_firstLeading_63 ?_
          refine lv_icmp_ne (tgt := 70) hx hb dX6_firstLeading_64 (by decide) (fun c9 => ?_) (fun c9 => ?_)
          · replace hT := hT.1 c9
            rw [hB70] at hT
            exact hT _ _ _ _ hP hD hS (lv_sub hl [1, 2, 3, 4] rfl)
          · replace hT := hT.2 c9
            refine lv_iload hx hb dX6_firstLeading_67 (lv_at hl 4 rfl) ?_
            exact hret _ _ _ _ _ _ _ _ _ hP hD hS (Nat.le_refl _) (Nat.le_refl _) hT dX6_firstLeading_69
    · clear hP hD hS hl H locs ls vd
      intro S x4 hT
      unfold cT_X6_firstLeading_70 at hT
      rw [hB70]
      intro vd H locs ls hP hD hS hl
      refine lv_iinc (v := x4 + 1) (lv' := [(4, .int (x4 + 1)), (0, .ref (ad 5)), (2, .ref (ad 2)), (3, .int a3)]) hx hb dX6_firstLeading_70 hl (k := 3) rfl rfl (by decide) rfl (fun ls hl => ?_)
      refine lv_goto (tgt := 14) hx hb dX6_firstLeading_73 (by decide) ?_
      rw [hB14] at hT
      exact hT _ _ _ _ hP hD hS (lv_sub hl [1, 2, 3, 0] rfl)
  unfold cT_X6_firstLeading_e at hT
  refine lv_aload_n hx hb dX6_firstLeading_0 rfl (lv_at hl 2 rfl) ?_
  refine lv_aload_n hx hb dX6_firstLeading_1 rfl (lv_at hl 1 rfl) ?_
  refine lv_iload_n hx hb dX6_firstLeading_2 rfl (lv_at hl 3 rfl) ?_
  refine ccallVV (n := 2) (b := ad 2) (C := RX3) (As := [.ref (ad 1), .int a3]) (rest := []) hT hx hb hml hown hts hK hZ hA hP hD hS hl gc_X6_61 hdc_X3_read (va_recv hK hP rfl cob_2) ⟨Nat.le_of_ble_eq_true rfl, Nat.le_of_ble_eq_true rfl⟩ rfl rfl rfl (Nat.le_of_ble_eq_true rfl) dX6_firstLeading_3 (Nat.le_refl _) (Nat.le_refl _) (fun S10 vd H locs hP hD hS hT => ?_)
  refine lv_aload_n hx hb dX6_firstLeading_6 rfl (lv_at hl 2 rfl) ?_
  refine lv_aload_n hx hb dX6_firstLeading_7 rfl (lv_at hl 1 rfl) ?_
  refine ccallVV (n := 1) (b := ad 2) (C := RX3) (As := [.ref (ad 1)]) (rest := []) hT hx hb hml hown hts hK hZ hA hP hD hS hl gc_X6_67 hdc_X3_spread (va_recv hK hP rfl cob_2) ⟨Nat.le_of_ble_eq_true rfl, Nat.le_of_ble_eq_true rfl⟩ rfl rfl rfl (Nat.le_of_ble_eq_true rfl) dX6_firstLeading_8 (Nat.le_refl _) (Nat.le_refl _) (fun S11 vd H locs hP hD hS hT => ?_)
  refine lv_iconst (v := 0) hx hb dX6_firstLeading_11 (by decide) ?_
  refine lv_istore (lv' := [(4, .int 0), (0, .ref (ad 5)), (1, .ref (ad 1)), (2, .ref (ad 2)), (3, .int a3)]) hx hb dX6_firstLeading_12 hl (by decide) rfl (fun ls hl => ?_)
  rw [hB14] at hT
  exact hT _ _ _ _ hP hD hS (lv_sub hl [1, 3, 4, 0] rfl)
abbrev cX_X6_markLeading (l : Launch) (S : CS) (a3 : Int32) (post : CS → Prop) : Prop := cCtV l yX6_markLeading cX6_markLeading 6 4 111 0 0 (fun ad => [.ref (ad 5), .ref (ad 1), .ref (ad 2), .int a3]) S post
def cT_X6_markLeading_23 (l : Launch) (a3 : Int32) (post : CS → Prop) (B23 : CS → Int32 → Prop) (B73 : CS → Int32 → Prop) (S : CS) (x4 : Int32) : Prop := (x4 < 0 → post S) ∧ (¬ x4 < 0 → vp_in x4 (S.2.2.2 26) ∧ ∀ v5_3 : Int32, v5_3 = S.2.1 26 x4.toNatClampNeg → vp_in v5_3 (S.2.2.2 24) ∧ vp_in a3 (S.2.2.2 24) ∧ (S.2.1 24 a3.toNatClampNeg ≤ S.2.1 24 v5_3.toNatClampNeg → B73 S x4) ∧ (¬ S.2.1 24 a3.toNatClampNeg ≤ S.2.1 24 v5_3.toNatClampNeg → cX_X6_firstLeading l S v5_3 (fun r8 S7 => (r8 = (-1) → B73 S7 x4) ∧ (¬ r8 = (-1) → vp_in v5_3 (S7.2.2.2 29) ∧ B73 (ca S7 29 (upd (S7.2.1 29) v5_3.toNatClampNeg 1)) x4))))
def cT_X6_markLeading_73 (l : Launch) (a3 : Int32) (post : CS → Prop) (B23 : CS → Int32 → Prop) (B73 : CS → Int32 → Prop) (S : CS) (x4 : Int32) : Prop := B23 S (x4 + (-1))
def cT_X6_markLeading_e (l : Launch) (a3 : Int32) (post : CS → Prop) (B23 : CS → Int32 → Prop) (B73 : CS → Int32 → Prop) (S0 : CS) : Prop := S0.2.2.2 29 < 2147483648 ∧ vp_in a3 (S0.2.2.2 29) ∧ ∀ v4_13 : Int32, v4_13 = (S0.1 13) - 1 → B23 (ca (ca S0 29 (filI (S0.2.1 29) (S0.2.2.2 29) 0)) 29 (upd (filI (S0.2.1 29) (S0.2.2.2 29) 0) a3.toNatClampNeg 1)) v4_13
set_option maxHeartbeats 4000000 in
set_option maxRecDepth 100000 in
theorem c_X6_markLeading (l : Launch) (S0 : CS) (a3 : Int32) (post : CS → Prop) (h : ∀ (B23 : CS → Int32 → Prop) (B73 : CS → Int32 → Prop), (∀ (S : CS) (x4 : Int32), cT_X6_markLeading_23 l a3 post B23 B73 S x4 → B23 S x4) → (∀ (S : CS) (x4 : Int32), cT_X6_markLeading_73 l a3 post B23 B73 S x4 → B73 S x4) → cT_X6_markLeading_e l a3 post B23 B73 S0) : cX_X6_markLeading l S0 a3 post := by
  refine csetV rfl (fun _ => Nat.le_of_ble_eq_true rfl) ?_
  intro p e s m args below meth c D ad vd cI cZ cL cG X A Q hx hb hml hown hts hK hZ hA hret H locs ls hP hD hS hl
  replace hl : lv_has ls 6 [(0, .ref (ad 5)), (1, .ref (ad 1)), (2, .ref (ad 2)), (3, .int a3)] := hl
  obtain ⟨B23, hB23⟩ : ∃ B : CS → Int32 → Prop, B = (fun S x4 => ∀ (vd : Nat → Nat) (H : Heap) (locs : List Loc) (ls : Array Slot), va_P D vwCl (cW ad vd cI cZ cL cG S ++ X) H → va_D A (cW ad vd cI cZ cL cG S ++ X) → va_S A s.heap H locs → lv_has ls 6 [(0, .ref (ad 5)), (1, .ref (ad 1)), (2, .ref (ad 2)), (3, .int a3), (4, .int x4)] → W p l e (crm 4 111 0 0) s m args below meth c H locs 0 0 Q (F0 m 23 ls [])) := ⟨_, rfl⟩
  obtain ⟨B73, hB73⟩ : ∃ B : CS → Int32 → Prop, B = (fun S x4 => ∀ (vd : Nat → Nat) (H : Heap) (locs : List Loc) (ls : Array Slot), va_P D vwCl (cW ad vd cI cZ cL cG S ++ X) H → va_D A (cW ad vd cI cZ cL cG S ++ X) → va_S A s.heap H locs → lv_has ls 6 [(0, .ref (ad 5)), (1, .ref (ad 1)), (2, .ref (ad 2)), (3, .int a3), (4, .int x4)] → W p l e (crm 4 111 0 0) s m args below meth c H locs 0 0 Q (F0 m 73 ls [])) := ⟨_, rfl⟩
  have hT : cT_X6_markLeading_e l a3 post B23 B73 S0 := by
    refine h B23 B73 ?_ ?_
    · clear hP hD hS hl H locs ls vd
      intro S x4 hT
      unfold cT_X6_markLeading_23 at hT
      rw [hB23]
      intro vd H locs ls hP hD hS hl
      refine lv_iload hx hb dX6_markLeading_23 (lv_at hl 4 rfl) ?_
      refine lv_if_lt (tgt := 79) hx hb dX6_markLeading_25 (by decide) (fun c1 => ?_) (fun c1 => ?_)
      · replace hT := hT.1 c1
        exact hret _ _ _ _ _ _ _ _ hP hD hS (Nat.le_refl _) (Nat.le_refl _) hT dX6_markLeading_79
      · replace hT := hT.2 c1
        refine lv_aload_n hx hb dX6_markLeading_28 rfl (lv_at hl 0 rfl) ?_
        refine cg_X6_22 hx hb hts hown hK hP dX6_markLeading_29 ?_
        refine lv_iload hx hb dX6_markLeading_32 (lv_at hl 4 rfl) ?_
        obtain ⟨hi2, hT⟩ := hT
        refine va_iald (f := S.2.1 26) hx hb hK hP 26 0 cat_26 rfl hi2 dX6_markLeading_34 ?_
        refine lv_topi (fun v5_3 ev5_3 => ?_)
        replace hT := hT v5_3 ev5_3
        refine lv_istore (lv' := [(5, .int v5_3), (0, .ref (ad 5)), (1, .ref (ad 1)), (2, .ref (ad 2)), (3, .int a3), (4, .int x4)]) hx hb dX6_markLeading_35 hl (by decide) rfl (fun ls hl => ?_)
        refine lv_aload_n hx hb dX6_markLeading_37 rfl (lv_at hl 1 rfl) ?_
        refine cg_X6_15 hx hb hts hown hK hP dX6_markLeading_38 ?_
        refine lv_iload hx hb dX6_markLeading_41 (lv_at hl 0 rfl) ?_
        obtain ⟨hi4, hT⟩ := hT
        refine va_iald (f := S.2.1 24) hx hb hK hP 24 0 cat_24 rfl hi4 dX6_markLeading_43 ?_
        refine lv_aload_n hx hb dX6_markLeading_44 rfl (lv_at hl 1 rfl) ?_
        refine cg_X6_15 hx hb hts hown hK hP dX6_markLeading_45 ?_
        refine lv_iload_n hx hb dX6_markLeading_48 rfl (lv_at hl 4 rfl) ?_
        obtain ⟨hi5, hT⟩ := hT
        refine va_iald (f := S.2.1 24) hx hb hK hP 24 0 cat_24 rfl hi5 dX6_markLeading_49 ?_
        refine lv_icmp_ge (tgt := 73) hx hb dX6_markLeading_50 (by decide) (fun c6 => ?_) (fun c6 => ?_)
        · replace hT := hT.1 c6
          rw [hB73] at hT
          exact hT _ _ _ _ hP hD hS (lv_sub hl [1, 2, 3, 4, 5] rfl)
        · replace hT := hT.2 c6
          refine lv_aload_n hx hb dX6_markLeading_53 rfl (lv_at hl 1 rfl) ?_
          refine lv_aload_n hx hb dX6_markLeading_54 rfl (lv_at hl 2 rfl) ?_
          refine lv_aload_n hx hb dX6_markLeading_55 rfl (lv_at hl 3 rfl) ?_
          refine lv_iload hx hb dX6_markLeading_56 (lv_at hl 0 rfl) ?_
          refine ccallVI (n := 3) (b := ad 5) (C := RX6) (As := [.ref (ad 1), .ref (ad 2), .int v5_3]) (rest := []) hT hx hb hml hown hts hK hZ hA hP hD hS hl gc_X6_105 hdc_X6_firstLeading (va_recv hK hP rfl cob_5) ⟨Nat.le_of_ble_eq_true rfl, Nat.le_of_ble_eq_true rfl⟩ rfl rfl rfl (Nat.le_of_ble_eq_true rfl) dX6_markLeading_58 (Nat.le_refl _) (Nat.le_refl _) (fun r8 S7 vd H locs hP hD hS hT => ?_)
          refine lv_iconst (v := (-1)) hx hb dX6_markLeading_61 (by decide) ?_
          refine lv_icmp_eq (tgt := 73) hx hb dX6_markLeading_62 (by decide) (fun c9 => ?_) (fun c9 => ?_)
          · replace hT := hT.1 c9
            rw [hB73] at hT
            exact hT _ _ _ _ hP hD hS (lv_sub hl [1, 2, 3, 4, 5] rfl)
          · replace hT := hT.2 c9
            refine lv_aload_n hx hb dX6_markLeading_65 rfl (lv_at hl 1 rfl) ?_
            refine cg_X6_31 hx hb hts hown hK hP dX6_markLeading_66 ?_
            refine lv_iload hx hb dX6_markLeading_69 (lv_at hl 0 rfl) ?_
            refine lv_iconst (v := 1) hx hb dX6_markLeading_71 (by decide) ?_
            obtain ⟨hi10, hT⟩ := hT
            refine va_iast (f := S7.2.1 29) hx hb hK hP hD hS 29 0 cat_29 rfl hi10 dX6_markLeading_72 (fun H locs hP hD hS => ?_)
            replace hP := csetP_29 hP
            replace hD := csetD_29 hD
            rw [hB73] at hT
            exact hT _ _ _ _ hP hD hS (lv_sub hl [1, 2, 3, 4, 5] rfl)
    · clear hP hD hS hl H locs ls vd
      intro S x4 hT
      unfold cT_X6_markLeading_73 at hT
      rw [hB73]
      intro vd H locs ls hP hD hS hl
      refine lv_iinc (v := x4 + (-1)) (lv' := [(4, .int (x4 + (-1))), (0, .ref (ad 5)), (1, .ref (ad 1)), (2, .ref (ad 2)), (3, .int a3)]) hx hb dX6_markLeading_73 hl (k := 4) rfl rfl (by decide) rfl (fun ls hl => ?_)
      refine lv_goto (tgt := 23) hx hb dX6_markLeading_76 (by decide) ?_
      rw [hB23] at hT
      exact hT _ _ _ _ hP hD hS (lv_sub hl [1, 2, 3, 4, 0] rfl)
  unfold cT_X6_markLeading_e at hT
  refine lv_aload_n hx hb dX6_markLeading_0 rfl (lv_at hl 0 rfl) ?_
  refine cg_X6_31 hx hb hts hown hK hP dX6_markLeading_1 ?_
  refine lv_iconst (v := 0) hx hb dX6_markLeading_4 (by decide) ?_
  obtain ⟨hn11, hT⟩ := hT
  refine cfill_filI (S := S0) (f := S0.2.1 29) (n := (S0.2.2.2 29)) (v := 0) 29 cat_29 hn11 hx hb hml hown hts hK hA hP hD hS hl gf_X6_80 ⟨Nat.le_of_ble_eq_true rfl, Nat.le_of_ble_eq_true rfl⟩ (Nat.le_of_ble_eq_true rfl) dX6_markLeading_5 (Nat.le_refl _) (Nat.le_refl _) (fun H locs hP hD hS => ?_)
  replace hP := csetP_29 hP
  replace hD := csetD_29 hD
  refine lv_aload_n hx hb dX6_markLeading_8 rfl (lv_at hl 0 rfl) ?_
  refine cg_X6_31 hx hb hts hown hK hP dX6_markLeading_9 ?_
  refine lv_iload_n hx hb dX6_markLeading_12 rfl (lv_at hl 3 rfl) ?_
  refine lv_iconst (v := 1) hx hb dX6_markLeading_13 (by decide) ?_
  obtain ⟨hi12, hT⟩ := hT
  refine va_iast (f := filI (S0.2.1 29) (S0.2.2.2 29) 0) hx hb hK hP hD hS 29 0 cat_29 rfl hi12 dX6_markLeading_14 (fun H locs hP hD hS => ?_)
  replace hP := csetP_29 hP
  replace hD := csetD_29 hD
  refine lv_aload_n hx hb dX6_markLeading_15 rfl (lv_at hl 0 rfl) ?_
  refine cg_X6_58 (v := S0.1 13) hx hb hts hown hK hP rfl dX6_markLeading_16 ?_
  refine lv_iconst (v := 1) hx hb dX6_markLeading_19 (by decide) ?_
  refine lv_isub hx hb dX6_markLeading_20 ?_
  refine lv_topi (fun v4_13 ev4_13 => ?_)
  replace hT := hT v4_13 ev4_13
  refine lv_istore (lv' := [(4, .int v4_13), (0, .ref (ad 5)), (1, .ref (ad 1)), (2, .ref (ad 2)), (3, .int a3)]) hx hb dX6_markLeading_21 hl (by decide) rfl (fun ls hl => ?_)
  rw [hB23] at hT
  exact hT _ _ _ _ hP hD hS (lv_sub hl [1, 2, 3, 4, 0] rfl)
