abbrev mX_leads (l : Launch) (S : MS) (a1 : Int32) (a2 : Int32) (post : Int32 → MS → Prop) : Prop := mCtI l yX9_leads cX9_leads 4 2 49 (fun ad => [.int a1, .int a2]) S post
def mT_leads_22 (l : Launch) (a1 : Int32) (a2 : Int32) (post : Int32 → MS → Prop) (B22 : MS → Int32 → Prop) (S : MS) (x3 : Int32) : Prop := (S.1 1 ≤ x3 → mX_moved l S 9 a1 a2 (fun r3 S2 => (r3 ≤ 0 → post (-1) S2) ∧ (¬ r3 ≤ 0 → mX_pack l S2 9 (fun r6 S5 => post r6 S5)))) ∧ (¬ S.1 1 ≤ x3 → vp_in x3 7 ∧ vp_in x3 7 ∧ B22 (ma S 9 (upd (S.2.1 9) x3.toNatClampNeg (S.2.1 8 x3.toNatClampNeg))) (x3 + 1))
def mT_leads_e (l : Launch) (a1 : Int32) (a2 : Int32) (post : Int32 → MS → Prop) (B22 : MS → Int32 → Prop) (S0 : MS) : Prop := (a1 = a2 → post (-1) S0) ∧ (¬ a1 = a2 → mX_whyOf l S0 8 a1 a2 (fun r11 S10 => (r11 ≤ 0 → B22 S10 0) ∧ (¬ r11 ≤ 0 → post (-1) S10)))
set_option maxHeartbeats 4000000 in
set_option maxRecDepth 100000 in
theorem m_leads (l : Launch) (S0 : MS) (a1 : Int32) (a2 : Int32) (post : Int32 → MS → Prop) (h : ∀ (B22 : MS → Int32 → Prop), (∀ (S : MS) (x3 : Int32), mT_leads_22 l a1 a2 post B22 S x3 → B22 S x3) → mT_leads_e l a1 a2 post B22 S0) : mX_leads l S0 a1 a2 post := by
  refine msetI rfl (fun _ => Nat.le_of_ble_eq_true rfl) ?_
  intro p e s m args below meth c D ad cI cZ cL A Q hx hb hml hown hts hK hA hret H locs ls hP hD hS hl
  replace hl : lv_has ls 4 [(0, .ref (ad 0)), (1, .int a1), (2, .int a2)] := hl
  obtain ⟨B22, hB22⟩ : ∃ B : MS → Int32 → Prop, B = (fun S x3 => ∀ (H : Heap) (locs : List Loc) (ls : Array Slot), va_P D vwCl (mW ad cI cZ cL S) H → va_D A (mW ad cI cZ cL S) → va_S A s.heap H locs → lv_has ls 4 [(0, .ref (ad 0)), (1, .int a1), (2, .int a2), (3, .int x3)] → W p l e (mrm 2 49) s m args below meth c H locs 0 0 Q (F0 m 22 ls [])) := ⟨_, rfl⟩
  have hT : mT_leads_e l a1 a2 post B22 S0 := by
    refine h B22 ?_
    · clear hP hD hS hl H locs ls
      intro S x3 hT
      unfold mT_leads_22 at hT
      rw [hB22]
      intro H locs ls hP hD hS hl
      refine lv_iload_n hx hb dX9_leads_22 rfl (lv_at hl 3 rfl) ?_
      refine lv_aload_n hx hb dX9_leads_23 rfl (lv_at hl 0 rfl) ?_
      refine mg_discs (v := S.1 1) hx hb hts hown hK hP rfl dX9_leads_24 ?_
      refine lv_icmp_ge (tgt := 48) hx hb dX9_leads_27 (by decide) (fun c1 => ?_) (fun c1 => ?_)
      · replace hT := hT.1 c1
        refine lv_aload_n hx hb dX9_leads_48 rfl (lv_at hl 0 rfl) ?_
        refine lv_aload_n hx hb dX9_leads_49 rfl (lv_at hl 0 rfl) ?_
        refine mg_next hx hb hts hown hK hP dX9_leads_50 ?_
        refine lv_iload_n hx hb dX9_leads_53 rfl (lv_at hl 1 rfl) ?_
        refine lv_iload_n hx hb dX9_leads_54 rfl (lv_at hl 2 rfl) ?_
        refine mcallI (n := 3) (rest := []) hT hx hb hml hown hts hK hA hP hD hS hl gg_196 hd_X9_moved ⟨Nat.le_of_ble_eq_true rfl, Nat.le_of_ble_eq_true rfl⟩ rfl rfl (Nat.le_of_ble_eq_true rfl) dX9_leads_55 (Nat.zero_le _) (Nat.zero_le _) (fun r3 S2 H locs hP hD hS hT => ?_)
        refine lv_istore_n (lv' := [(3, .int r3), (0, .ref (ad 0)), (1, .int a1), (2, .int a2)]) hx hb dX9_leads_58 rfl hl (by decide) rfl (fun ls hl => ?_)
        refine lv_iload_n hx hb dX9_leads_59 rfl (lv_at hl 0 rfl) ?_
        refine lv_if_le (tgt := 74) hx hb dX9_leads_60 (by decide) (fun c4 => ?_) (fun c4 => ?_)
        · replace hT := hT.1 c4
          refine lv_iconst (v := (-1)) hx hb dX9_leads_74 (by decide) ?_
          exact hret _ _ _ _ _ _ hP hD hS hT dX9_leads_75
        · replace hT := hT.2 c4
          refine lv_aload_n hx hb dX9_leads_63 rfl (lv_at hl 1 rfl) ?_
          refine lv_aload_n hx hb dX9_leads_64 rfl (lv_at hl 1 rfl) ?_
          refine mg_next hx hb hts hown hK hP dX9_leads_65 ?_
          refine mcallI (n := 1) (rest := []) hT hx hb hml hown hts hK hA hP hD hS hl gg_184 hd_X9_pack ⟨Nat.le_of_ble_eq_true rfl, Nat.le_of_ble_eq_true rfl⟩ rfl rfl (Nat.le_of_ble_eq_true rfl) dX9_leads_68 (Nat.zero_le _) (Nat.zero_le _) (fun r6 S5 H locs hP hD hS hT => ?_)
          refine lv_goto (tgt := 75) hx hb dX9_leads_71 (by decide) ?_
          exact hret _ _ _ _ _ _ hP hD hS hT dX9_leads_75
      · replace hT := hT.2 c1
        refine lv_aload_n hx hb dX9_leads_30 rfl (lv_at hl 0 rfl) ?_
        refine mg_next hx hb hts hown hK hP dX9_leads_31 ?_
        refine lv_iload_n hx hb dX9_leads_34 rfl (lv_at hl 3 rfl) ?_
        refine lv_aload_n hx hb dX9_leads_35 rfl (lv_at hl 0 rfl) ?_
        refine mg_at hx hb hts hown hK hP dX9_leads_36 ?_
        refine lv_iload_n hx hb dX9_leads_39 rfl (lv_at hl 3 rfl) ?_
        obtain ⟨hi7, hT⟩ := hT
        refine va_iald (f := S.2.1 8) hx hb hK hP 8 0 mat_8 rfl hi7 dX9_leads_40 ?_
        obtain ⟨hi8, hT⟩ := hT
        refine va_iast (f := S.2.1 9) hx hb hK hP hD hS 9 0 mat_9 rfl hi8 dX9_leads_41 (fun H locs hP hD hS => ?_)
        replace hP := msetP_9 hP
        replace hD := msetD_9 hD
        refine lv_iinc (v := x3 + 1) (lv' := [(3, .int (x3 + 1)), (0, .ref (ad 0)), (1, .int a1), (2, .int a2)]) hx hb dX9_leads_42 hl (k := 3) rfl rfl (by decide) rfl (fun ls hl => ?_)
        refine lv_goto (tgt := 22) hx hb dX9_leads_45 (by decide) ?_
        rw [hB22] at hT
        exact hT _ _ _ hP hD hS (lv_sub hl [1, 2, 3, 0] rfl)
  unfold mT_leads_e at hT
  refine lv_iload_n hx hb dX9_leads_0 rfl (lv_at hl 1 rfl) ?_
  refine lv_iload_n hx hb dX9_leads_1 rfl (lv_at hl 2 rfl) ?_
  refine lv_icmp_eq (tgt := 18) hx hb dX9_leads_2 (by decide) (fun c9 => ?_) (fun c9 => ?_)
  · replace hT := hT.1 c9
    refine lv_iconst (v := (-1)) hx hb dX9_leads_18 (by decide) ?_
    exact hret _ _ _ _ _ _ hP hD hS hT dX9_leads_19
  · replace hT := hT.2 c9
    refine lv_aload_n hx hb dX9_leads_5 rfl (lv_at hl 0 rfl) ?_
    refine lv_aload_n hx hb dX9_leads_6 rfl (lv_at hl 0 rfl) ?_
    refine mg_at hx hb hts hown hK hP dX9_leads_7 ?_
    refine lv_iload_n hx hb dX9_leads_10 rfl (lv_at hl 1 rfl) ?_
    refine lv_iload_n hx hb dX9_leads_11 rfl (lv_at hl 2 rfl) ?_
    refine mcallI (n := 3) (rest := []) hT hx hb hml hown hts hK hA hP hD hS hl gg_188 hd_X9_whyOf ⟨Nat.le_of_ble_eq_true rfl, Nat.le_of_ble_eq_true rfl⟩ rfl rfl (Nat.le_of_ble_eq_true rfl) dX9_leads_12 (Nat.zero_le _) (Nat.zero_le _) (fun r11 S10 H locs hP hD hS hT => ?_)
    refine lv_if_le (tgt := 20) hx hb dX9_leads_15 (by decide) (fun c12 => ?_) (fun c12 => ?_)
    · replace hT := hT.1 c12
      refine lv_iconst (v := 0) hx hb dX9_leads_20 (by decide) ?_
      refine lv_istore_n (lv' := [(3, .int 0), (0, .ref (ad 0)), (1, .int a1), (2, .int a2)]) hx hb dX9_leads_21 rfl hl (by decide) rfl (fun ls hl => ?_)
      rw [hB22] at hT
      exact hT _ _ _ hP hD hS (lv_sub hl [1, 2, 3, 0] rfl)
    · replace hT := hT.2 c12
      refine lv_iconst (v := (-1)) hx hb dX9_leads_18 (by decide) ?_
      exact hret _ _ _ _ _ _ hP hD hS hT dX9_leads_19
abbrev mX_measure (l : Launch) (S : MS) (post : MS → Prop) : Prop := mCtV l yX9_measure cX9_measure 9 3 72 (fun ad => []) S post
def mT_measure_7 (l : Launch) (post : MS → Prop) (B7 : MS → Int32 → Int32 → Prop) (B35 : MS → Int32 → Prop) (B76 : MS → Int32 → Int32 → Prop) (B86 : MS → Int32 → Int32 → Int32 → Prop) (B157 : MS → Int32 → Int32 → Int32 → Int32 → Prop) (B169 : MS → Int32 → Int32 → Int32 → Int32 → Int32 → Prop) (B255 : MS → Int32 → Int32 → Int32 → Int32 → Int32 → Int32 → Prop) (B275 : MS → Int32 → Int32 → Int32 → Int32 → Int32 → Prop) (S : MS) (x1 : Int32) (x2 : Int32) : Prop := (x1 ≤ x2 → B35 S 0) ∧ (¬ x1 ≤ x2 → vp_in x2 20000 ∧ vp_in x2 20000 ∧ B7 (ma (ma S 10 (upd (S.2.1 10) x2.toNatClampNeg 2147483647)) 17 (upd (S.2.1 17) x2.toNatClampNeg (vp_nar .boolean 0))) x1 (x2 + 1))
def mT_measure_35 (l : Launch) (post : MS → Prop) (B7 : MS → Int32 → Int32 → Prop) (B35 : MS → Int32 → Prop) (B76 : MS → Int32 → Int32 → Prop) (B86 : MS → Int32 → Int32 → Int32 → Prop) (B157 : MS → Int32 → Int32 → Int32 → Int32 → Prop) (B169 : MS → Int32 → Int32 → Int32 → Int32 → Int32 → Prop) (B255 : MS → Int32 → Int32 → Int32 → Int32 → Int32 → Int32 → Prop) (B275 : MS → Int32 → Int32 → Int32 → Int32 → Int32 → Prop) (S : MS) (x2 : Int32) : Prop := (101 ≤ x2 → mX_pack l (mf S 7 0) 2 (fun r6 S5 => mX_link l S5 r6 0 (fun S7 => B76 S7 1 0))) ∧ (¬ 101 ≤ x2 → vp_in x2 101 ∧ B35 (ma S 13 (upd (S.2.1 13) x2.toNatClampNeg (-1))) (x2 + 1))
def mT_measure_76 (l : Launch) (post : MS → Prop) (B7 : MS → Int32 → Int32 → Prop) (B35 : MS → Int32 → Prop) (B76 : MS → Int32 → Int32 → Prop) (B86 : MS → Int32 → Int32 → Int32 → Prop) (B157 : MS → Int32 → Int32 → Int32 → Int32 → Prop) (B169 : MS → Int32 → Int32 → Int32 → Int32 → Int32 → Prop) (B255 : MS → Int32 → Int32 → Int32 → Int32 → Int32 → Int32 → Prop) (B275 : MS → Int32 → Int32 → Int32 → Int32 → Int32 → Prop) (S : MS) (x2 : Int32) (x3 : Int32) : Prop := (x2 ≤ 0 → post S) ∧ (¬ x2 ≤ 0 → ∀ v4_10 : Int32, v4_10 = x3 - x3 / 101 * 101 → B86 S x2 x3 v4_10)
def mT_measure_86 (l : Launch) (post : MS → Prop) (B7 : MS → Int32 → Int32 → Prop) (B35 : MS → Int32 → Prop) (B76 : MS → Int32 → Int32 → Prop) (B86 : MS → Int32 → Int32 → Int32 → Prop) (B157 : MS → Int32 → Int32 → Int32 → Int32 → Prop) (B169 : MS → Int32 → Int32 → Int32 → Int32 → Int32 → Prop) (B255 : MS → Int32 → Int32 → Int32 → Int32 → Int32 → Int32 → Prop) (B275 : MS → Int32 → Int32 → Int32 → Int32 → Int32 → Prop) (S : MS) (x2 : Int32) (x3 : Int32) (x4 : Int32) : Prop := vp_in x4 101 ∧ (S.2.1 13 x4.toNatClampNeg = (-1) → B76 S x2 (x3 + 1)) ∧ (¬ S.2.1 13 x4.toNatClampNeg = (-1) → vp_in x4 101 ∧ ∀ v5_14 : Int32, v5_14 = S.2.1 13 x4.toNatClampNeg → mX_unlink l S v5_14 (fun S15 => vp_in v5_14 20000 ∧ vp_in (S15.1 7) 20000 ∧ mX_unpack l (mf (ma (ma S15 17 (upd (S15.2.1 17) v5_14.toNatClampNeg (vp_nar .boolean 1))) 14 (upd (S15.2.1 14) (S15.1 7).toNatClampNeg v5_14)) 7 ((S15.1 7) + 1)) v5_14 8 (fun S18 => B157 S18 (x2 + (-1)) x3 x4 0)))
def mT_measure_157 (l : Launch) (post : MS → Prop) (B7 : MS → Int32 → Int32 → Prop) (B35 : MS → Int32 → Prop) (B76 : MS → Int32 → Int32 → Prop) (B86 : MS → Int32 → Int32 → Int32 → Prop) (B157 : MS → Int32 → Int32 → Int32 → Int32 → Prop) (B169 : MS → Int32 → Int32 → Int32 → Int32 → Int32 → Prop) (B255 : MS → Int32 → Int32 → Int32 → Int32 → Int32 → Int32 → Prop) (B275 : MS → Int32 → Int32 → Int32 → Int32 → Int32 → Prop) (S : MS) (x2 : Int32) (x3 : Int32) (x4 : Int32) (x6 : Int32) : Prop := (S.1 0 ≤ x6 → B86 S x2 x3 x4) ∧ (¬ S.1 0 ≤ x6 → B169 S x2 x3 x4 x6 0)
def mT_measure_169 (l : Launch) (post : MS → Prop) (B7 : MS → Int32 → Int32 → Prop) (B35 : MS → Int32 → Prop) (B76 : MS → Int32 → Int32 → Prop) (B86 : MS → Int32 → Int32 → Int32 → Prop) (B157 : MS → Int32 → Int32 → Int32 → Int32 → Prop) (B169 : MS → Int32 → Int32 → Int32 → Int32 → Int32 → Prop) (B255 : MS → Int32 → Int32 → Int32 → Int32 → Int32 → Int32 → Prop) (B275 : MS → Int32 → Int32 → Int32 → Int32 → Int32 → Prop) (S : MS) (x2 : Int32) (x3 : Int32) (x4 : Int32) (x6 : Int32) (x7 : Int32) : Prop := (S.1 0 ≤ x7 → B157 S x2 x3 x4 (x6 + 1)) ∧ (¬ S.1 0 ≤ x7 → mX_leads l S x6 x7 (fun r22 S21 => (r22 = (-1) → B275 S21 x2 x3 x4 x6 x7) ∧ (¬ r22 = (-1) → vp_in r22 20000 ∧ (¬ S21.2.1 17 r22.toNatClampNeg = 0 → B275 S21 x2 x3 x4 x6 x7) ∧ (S21.2.1 17 r22.toNatClampNeg = 0 → vp_in r22 20000 ∧ vp_in ((5 * x6) + x7) 25 ∧ (x3 + (S21.2.1 4 ((5 * x6) + x7).toNatClampNeg) < S21.2.1 10 r22.toNatClampNeg → vp_in r22 20000 ∧ (¬ S21.2.1 10 r22.toNatClampNeg = 2147483647 → mX_unlink l S21 r22 (fun S31 => B255 S31 x2 x3 x4 x6 x7 r22)) ∧ (S21.2.1 10 r22.toNatClampNeg = 2147483647 → B255 S21 (x2 + 1) x3 x4 x6 x7 r22)) ∧ (¬ x3 + (S21.2.1 4 ((5 * x6) + x7).toNatClampNeg) < S21.2.1 10 r22.toNatClampNeg → B275 S21 x2 x3 x4 x6 x7)))))
def mT_measure_255 (l : Launch) (post : MS → Prop) (B7 : MS → Int32 → Int32 → Prop) (B35 : MS → Int32 → Prop) (B76 : MS → Int32 → Int32 → Prop) (B86 : MS → Int32 → Int32 → Int32 → Prop) (B157 : MS → Int32 → Int32 → Int32 → Int32 → Prop) (B169 : MS → Int32 → Int32 → Int32 → Int32 → Int32 → Prop) (B255 : MS → Int32 → Int32 → Int32 → Int32 → Int32 → Int32 → Prop) (B275 : MS → Int32 → Int32 → Int32 → Int32 → Int32 → Prop) (S : MS) (x2 : Int32) (x3 : Int32) (x4 : Int32) (x6 : Int32) (x7 : Int32) (x8 : Int32) : Prop := vp_in ((5 * x6) + x7) 25 ∧ mX_link l S x8 (x3 + (S.2.1 4 ((5 * x6) + x7).toNatClampNeg)) (fun S33 => B275 S33 x2 x3 x4 x6 x7)
def mT_measure_275 (l : Launch) (post : MS → Prop) (B7 : MS → Int32 → Int32 → Prop) (B35 : MS → Int32 → Prop) (B76 : MS → Int32 → Int32 → Prop) (B86 : MS → Int32 → Int32 → Int32 → Prop) (B157 : MS → Int32 → Int32 → Int32 → Int32 → Prop) (B169 : MS → Int32 → Int32 → Int32 → Int32 → Int32 → Prop) (B255 : MS → Int32 → Int32 → Int32 → Int32 → Int32 → Int32 → Prop) (B275 : MS → Int32 → Int32 → Int32 → Int32 → Int32 → Prop) (S : MS) (x2 : Int32) (x3 : Int32) (x4 : Int32) (x6 : Int32) (x7 : Int32) : Prop := B169 S x2 x3 x4 x6 (x7 + 1)
def mT_measure_e (l : Launch) (post : MS → Prop) (B7 : MS → Int32 → Int32 → Prop) (B35 : MS → Int32 → Prop) (B76 : MS → Int32 → Int32 → Prop) (B86 : MS → Int32 → Int32 → Int32 → Prop) (B157 : MS → Int32 → Int32 → Int32 → Int32 → Prop) (B169 : MS → Int32 → Int32 → Int32 → Int32 → Int32 → Prop) (B255 : MS → Int32 → Int32 → Int32 → Int32 → Int32 → Int32 → Prop) (B275 : MS → Int32 → Int32 → Int32 → Int32 → Int32 → Prop) (S0 : MS) : Prop := mX_stands l S0 (fun r35 S34 => B7 S34 r35 0)
set_option maxHeartbeats 4000000 in
set_option maxRecDepth 100000 in
theorem m_measure (l : Launch) (S0 : MS) (post : MS → Prop) (h : ∀ (B7 : MS → Int32 → Int32 → Prop) (B35 : MS → Int32 → Prop) (B76 : MS → Int32 → Int32 → Prop) (B86 : MS → Int32 → Int32 → Int32 → Prop) (B157 : MS → Int32 → Int32 → Int32 → Int32 → Prop) (B169 : MS → Int32 → Int32 → Int32 → Int32 → Int32 → Prop) (B255 : MS → Int32 → Int32 → Int32 → Int32 → Int32 → Int32 → Prop) (B275 : MS → Int32 → Int32 → Int32 → Int32 → Int32 → Prop), (∀ (S : MS) (x1 : Int32) (x2 : Int32), mT_measure_7 l post B7 B35 B76 B86 B157 B169 B255 B275 S x1 x2 → B7 S x1 x2) → (∀ (S : MS) (x2 : Int32), mT_measure_35 l post B7 B35 B76 B86 B157 B169 B255 B275 S x2 → B35 S x2) → (∀ (S : MS) (x2 : Int32) (x3 : Int32), mT_measure_76 l post B7 B35 B76 B86 B157 B169 B255 B275 S x2 x3 → B76 S x2 x3) → (∀ (S : MS) (x2 : Int32) (x3 : Int32) (x4 : Int32), mT_measure_86 l post B7 B35 B76 B86 B157 B169 B255 B275 S x2 x3 x4 → B86 S x2 x3 x4) → (∀ (S : MS) (x2 : Int32) (x3 : Int32) (x4 : Int32) (x6 : Int32), mT_measure_157 l post B7 B35 B76 B86 B157 B169 B255 B275 S x2 x3 x4 x6 → B157 S x2 x3 x4 x6) → (∀ (S : MS) (x2 : Int32) (x3 : Int32) (x4 : Int32) (x6 : Int32) (x7 : Int32), mT_measure_169 l post B7 B35 B76 B86 B157 B169 B255 B275 S x2 x3 x4 x6 x7 → B169 S x2 x3 x4 x6 x7) → (∀ (S : MS) (x2 : Int32) (x3 : Int32) (x4 : Int32) (x6 : Int32) (x7 : Int32) (x8 : Int32), mT_measure_255 l post B7 B35 B76 B86 B157 B169 B255 B275 S x2 x3 x4 x6 x7 x8 → B255 S x2 x3 x4 x6 x7 x8) → (∀ (S : MS) (x2 : Int32) (x3 : Int32) (x4 : Int32) (x6 : Int32) (x7 : Int32), mT_measure_275 l post B7 B35 B76 B86 B157 B169 B255 B275 S x2 x3 x4 x6 x7 → B275 S x2 x3 x4 x6 x7) → mT_measure_e l post B7 B35 B76 B86 B157 B169 B255 B275 S0) : mX_measure l S0 post := by
  refine msetV rfl (fun _ => Nat.le_of_ble_eq_true rfl) ?_
  intro p e s m args below meth c D ad cI cZ cL A Q hx hb hml hown hts hK hA hret H locs ls hP hD hS hl
  replace hl : lv_has ls 9 [(0, .ref (ad 0))] := hl
  obtain ⟨B7, hB7⟩ : ∃ B : MS → Int32 → Int32 → Prop, B = (fun S x1 x2 => ∀ (H : Heap) (locs : List Loc) (ls : Array Slot), va_P D vwCl (mW ad cI cZ cL S) H → va_D A (mW ad cI cZ cL S) → va_S A s.heap H locs → lv_has ls 9 [(0, .ref (ad 0)), (1, .int x1), (2, .int x2)] → W p l e (mrm 3 72) s m args below meth c H locs 0 0 Q (F0 m 7 ls [])) := ⟨_, rfl⟩
  obtain ⟨B35, hB35⟩ : ∃ B : MS → Int32 → Prop, B = (fun S x2 => ∀ (H : Heap) (locs : List Loc) (ls : Array Slot), va_P D vwCl (mW ad cI cZ cL S) H → va_D A (mW ad cI cZ cL S) → va_S A s.heap H locs → lv_has ls 9 [(0, .ref (ad 0)), (2, .int x2)] → W p l e (mrm 3 72) s m args below meth c H locs 0 0 Q (F0 m 35 ls [])) := ⟨_, rfl⟩
  obtain ⟨B76, hB76⟩ : ∃ B : MS → Int32 → Int32 → Prop, B = (fun S x2 x3 => ∀ (H : Heap) (locs : List Loc) (ls : Array Slot), va_P D vwCl (mW ad cI cZ cL S) H → va_D A (mW ad cI cZ cL S) → va_S A s.heap H locs → lv_has ls 9 [(0, .ref (ad 0)), (2, .int x2), (3, .int x3)] → W p l e (mrm 3 72) s m args below meth c H locs 0 0 Q (F0 m 76 ls [])) := ⟨_, rfl⟩
  obtain ⟨B86, hB86⟩ : ∃ B : MS → Int32 → Int32 → Int32 → Prop, B = (fun S x2 x3 x4 => ∀ (H : Heap) (locs : List Loc) (ls : Array Slot), va_P D vwCl (mW ad cI cZ cL S) H → va_D A (mW ad cI cZ cL S) → va_S A s.heap H locs → lv_has ls 9 [(0, .ref (ad 0)), (2, .int x2), (3, .int x3), (4, .int x4)] → W p l e (mrm 3 72) s m args below meth c H locs 0 0 Q (F0 m 86 ls [])) := ⟨_, rfl⟩
  obtain ⟨B157, hB157⟩ : ∃ B : MS → Int32 → Int32 → Int32 → Int32 → Prop, B = (fun S x2 x3 x4 x6 => ∀ (H : Heap) (locs : List Loc) (ls : Array Slot), va_P D vwCl (mW ad cI cZ cL S) H → va_D A (mW ad cI cZ cL S) → va_S A s.heap H locs → lv_has ls 9 [(0, .ref (ad 0)), (2, .int x2), (3, .int x3), (4, .int x4), (6, .int x6)] → W p l e (mrm 3 72) s m args below meth c H locs 0 0 Q (F0 m 157 ls [])) := ⟨_, rfl⟩
  obtain ⟨B169, hB169⟩ : ∃ B : MS → Int32 → Int32 → Int32 → Int32 → Int32 → Prop, B = (fun S x2 x3 x4 x6 x7 => ∀ (H : Heap) (locs : List Loc) (ls : Array Slot), va_P D vwCl (mW ad cI cZ cL S) H → va_D A (mW ad cI cZ cL S) → va_S A s.heap H locs → lv_has ls 9 [(0, .ref (ad 0)), (2, .int x2), (3, .int x3), (4, .int x4), (6, .int x6), (7, .int x7)] → W p l e (mrm 3 72) s m args below meth c H locs 0 0 Q (F0 m 169 ls [])) := ⟨_, rfl⟩
  obtain ⟨B255, hB255⟩ : ∃ B : MS → Int32 → Int32 → Int32 → Int32 → Int32 → Int32 → Prop, B = (fun S x2 x3 x4 x6 x7 x8 => ∀ (H : Heap) (locs : List Loc) (ls : Array Slot), va_P D vwCl (mW ad cI cZ cL S) H → va_D A (mW ad cI cZ cL S) → va_S A s.heap H locs → lv_has ls 9 [(0, .ref (ad 0)), (2, .int x2), (3, .int x3), (4, .int x4), (6, .int x6), (7, .int x7), (8, .int x8)] → W p l e (mrm 3 72) s m args below meth c H locs 0 0 Q (F0 m 255 ls [])) := ⟨_, rfl⟩
  obtain ⟨B275, hB275⟩ : ∃ B : MS → Int32 → Int32 → Int32 → Int32 → Int32 → Prop, B = (fun S x2 x3 x4 x6 x7 => ∀ (H : Heap) (locs : List Loc) (ls : Array Slot), va_P D vwCl (mW ad cI cZ cL S) H → va_D A (mW ad cI cZ cL S) → va_S A s.heap H locs → lv_has ls 9 [(0, .ref (ad 0)), (2, .int x2), (3, .int x3), (4, .int x4), (6, .int x6), (7, .int x7)] → W p l e (mrm 3 72) s m args below meth c H locs 0 0 Q (F0 m 275 ls [])) := ⟨_, rfl⟩
  have hT : mT_measure_e l post B7 B35 B76 B86 B157 B169 B255 B275 S0 := by
    refine h B7 B35 B76 B86 B157 B169 B255 B275 ?_ ?_ ?_ ?_ ?_ ?_ ?_ ?_
    · clear hP hD hS hl H locs ls
      intro S x1 x2 hT
      unfold mT_measure_7 at hT
      rw [hB7]
      intro H locs ls hP hD hS hl
      refine lv_iload_n hx hb dX9_measure_7 rfl (lv_at hl 2 rfl) ?_
      refine lv_iload_n hx hb dX9_measure_8 rfl (lv_at hl 1 rfl) ?_
      refine lv_icmp_ge (tgt := 33) hx hb dX9_measure_9 (by decide) (fun c1 => ?_) (fun c1 => ?_)
      · replace hT := hT.1 c1
        refine lv_iconst (v := 0) hx hb dX9_measure_33 (by decide) ?_
        refine lv_istore_n (lv' := [(2, .int 0), (0, .ref (ad 0)), (1, .int x1)]) hx hb dX9_measure_34 rfl hl (by decide) rfl (fun ls hl => ?_)
        rw [hB35] at hT
        exact hT _ _ _ hP hD hS (lv_sub hl [1, 0] rfl)
      · replace hT := hT.2 c1
        refine lv_aload_n hx hb dX9_measure_12 rfl (lv_at hl 0 rfl) ?_
        refine mg_far hx hb hts hown hK hP dX9_measure_13 ?_
        refine lv_iload_n hx hb dX9_measure_16 rfl (lv_at hl 2 rfl) ?_
        refine lv_ldc (v := 2147483647) hx hb hown (hts _ k_1101) dX9_measure_17 ?_
        obtain ⟨hi2, hT⟩ := hT
        refine va_iast (f := S.2.1 10) hx hb hK hP hD hS 10 0 mat_10 rfl hi2 dX9_measure_19 (fun H locs hP hD hS => ?_)
        replace hP := msetP_10 hP
        replace hD := msetD_10 hD
        refine lv_aload_n hx hb dX9_measure_20 rfl (lv_at hl 0 rfl) ?_
        refine mg_isDone hx hb hts hown hK hP dX9_measure_21 ?_
        refine lv_iload_n hx hb dX9_measure_24 rfl (lv_at hl 2 rfl) ?_
        refine lv_iconst (v := 0) hx hb dX9_measure_25 (by decide) ?_
        obtain ⟨hi3, hT⟩ := hT
        refine va_zast (f := S.2.1 17) hx hb hK hP hD hS 17 1 mat_17 rfl hi3 dX9_measure_26 (fun H locs hP hD hS => ?_)
        replace hP := msetP_17 hP
        replace hD := msetD_17 hD
        refine lv_iinc (v := x2 + 1) (lv' := [(2, .int (x2 + 1)), (0, .ref (ad 0)), (1, .int x1)]) hx hb dX9_measure_27 hl (k := 2) rfl rfl (by decide) rfl (fun ls hl => ?_)
        refine lv_goto (tgt := 7) hx hb dX9_measure_30 (by decide) ?_
        rw [hB7] at hT
        exact hT _ _ _ hP hD hS (lv_sub hl [1, 2, 0] rfl)
    · clear hP hD hS hl H locs ls
      intro S x2 hT
      unfold mT_measure_35 at hT
      rw [hB35]
      intro H locs ls hP hD hS hl
      refine lv_iload_n hx hb dX9_measure_35 rfl (lv_at hl 1 rfl) ?_
      refine lv_bipush (v := 101) hx hb dX9_measure_36 (by decide) ?_
      refine lv_icmp_ge (tgt := 54) hx hb dX9_measure_38 (by decide) (fun c4 => ?_) (fun c4 => ?_)
      · replace hT := hT.1 c4
        refine lv_aload_n hx hb dX9_measure_54 rfl (lv_at hl 0 rfl) ?_
        refine lv_iconst (v := 0) hx hb dX9_measure_55 (by decide) ?_
        refine mp_metMany hx hb hts hown hK hP hD hS dX9_measure_56 (fun H locs hP hD hS => ?_)
        refine lv_aload_n hx hb dX9_measure_59 rfl (lv_at hl 0 rfl) ?_
        refine lv_aload_n hx hb dX9_measure_60 rfl (lv_at hl 0 rfl) ?_
        refine lv_aload_n hx hb dX9_measure_61 rfl (lv_at hl 0 rfl) ?_
        refine mg_stand hx hb hts hown hK hP dX9_measure_62 ?_
        refine mcallI (n := 1) (rest := [.ref (ad 0)]) hT hx hb hml hown hts hK hA hP hD hS hl gg_184 hd_X9_pack ⟨Nat.le_of_ble_eq_true rfl, Nat.le_of_ble_eq_true rfl⟩ rfl rfl (Nat.le_of_ble_eq_true rfl) dX9_measure_65 (Nat.zero_le _) (Nat.zero_le _) (fun r6 S5 H locs hP hD hS hT => ?_)
        refine lv_iconst (v := 0) hx hb dX9_measure_68 (by decide) ?_
        refine mcallV (n := 2) (rest := []) hT hx hb hml hown hts hK hA hP hD hS hl gg_203 hd_X9_link ⟨Nat.le_of_ble_eq_true rfl, Nat.le_of_ble_eq_true rfl⟩ rfl rfl (Nat.le_of_ble_eq_true rfl) dX9_measure_69 (Nat.zero_le _) (Nat.zero_le _) (fun S7 H locs hP hD hS hT => ?_)
        refine lv_iconst (v := 1) hx hb dX9_measure_72 (by decide) ?_
        refine lv_istore_n (lv' := [(2, .int 1), (0, .ref (ad 0))]) hx hb dX9_measure_73 rfl hl (by decide) rfl (fun ls hl => ?_)
        refine lv_iconst (v := 0) hx hb dX9_measure_74 (by decide) ?_
        refine lv_istore_n (lv' := [(3, .int 0), (2, .int 1), (0, .ref (ad 0))]) hx hb dX9_measure_75 rfl hl (by decide) rfl (fun ls hl => ?_)
        rw [hB76] at hT
        exact hT _ _ _ hP hD hS (lv_sub hl [2, 1, 0] rfl)
      · replace hT := hT.2 c4
        refine lv_aload_n hx hb dX9_measure_41 rfl (lv_at hl 0 rfl) ?_
        refine mg_heads hx hb hts hown hK hP dX9_measure_42 ?_
        refine lv_iload_n hx hb dX9_measure_45 rfl (lv_at hl 1 rfl) ?_
        refine lv_iconst (v := (-1)) hx hb dX9_measure_46 (by decide) ?_
        obtain ⟨hi8, hT⟩ := hT
        refine va_iast (f := S.2.1 13) hx hb hK hP hD hS 13 0 mat_13 rfl hi8 dX9_measure_47 (fun H locs hP hD hS => ?_)
        replace hP := msetP_13 hP
        replace hD := msetD_13 hD
        refine lv_iinc (v := x2 + 1) (lv' := [(2, .int (x2 + 1)), (0, .ref (ad 0))]) hx hb dX9_measure_48 hl (k := 1) rfl rfl (by decide) rfl (fun ls hl => ?_)
        refine lv_goto (tgt := 35) hx hb dX9_measure_51 (by decide) ?_
        rw [hB35] at hT
        exact hT _ _ _ hP hD hS (lv_sub hl [1, 0] rfl)
    · clear hP hD hS hl H locs ls
      intro S x2 x3 hT
      unfold mT_measure_76 at hT
      rw [hB76]
      intro H locs ls hP hD hS hl
      refine lv_iload_n hx hb dX9_measure_76 rfl (lv_at hl 1 rfl) ?_
      refine lv_if_le (tgt := 296) hx hb dX9_measure_77 (by decide) (fun c9 => ?_) (fun c9 => ?_)
      · replace hT := hT.1 c9
        exact hret _ _ _ _ _ hP hD hS hT dX9_measure_296
      · replace hT := hT.2 c9
        refine lv_iload_n hx hb dX9_measure_80 rfl (lv_at hl 2 rfl) ?_
        refine lv_bipush (v := 101) hx hb dX9_measure_81 (by decide) ?_
        refine lv_irem hx hb dX9_measure_83 (by decide) ?_
        refine lv_topi (fun v4_10 ev4_10 => ?_)
        replace hT := hT v4_10 ev4_10
        refine lv_istore (lv' := [(4, .int v4_10), (0, .ref (ad 0)), (2, .int x2), (3, .int x3)]) hx hb dX9_measure_84 hl (by decide) rfl (fun ls hl => ?_)
        rw [hB86] at hT
        exact hT _ _ _ hP hD hS (lv_sub hl [1, 2, 3, 0] rfl)
    · clear hP hD hS hl H locs ls
      intro S x2 x3 x4 hT
      unfold mT_measure_86 at hT
      rw [hB86]
      intro H locs ls hP hD hS hl
      refine lv_aload_n hx hb dX9_measure_86 rfl (lv_at hl 0 rfl) ?_
      refine mg_heads hx hb hts hown hK hP dX9_measure_87 ?_
      refine lv_iload hx hb dX9_measure_90 (lv_at hl 3 rfl) ?_
      obtain ⟨hi11, hT⟩ := hT
      refine va_iald (f := S.2.1 13) hx hb hK hP 13 0 mat_13 rfl hi11 dX9_measure_92 ?_
      refine lv_iconst (v := (-1)) hx hb dX9_measure_93 (by decide) ?_
      refine lv_icmp_eq (tgt := 290) hx hb dX9_measure_94 (by decide) (fun c12 => ?_) (fun c12 => ?_)
      · replace hT := hT.1 c12
        refine lv_iinc (v := x3 + 1) (lv' := [(3, .int (x3 + 1)), (0, .ref (ad 0)), (2, .int x2), (4, .int x4)]) hx hb dX9_measure_290 hl (k := 2) rfl rfl (by decide) rfl (fun ls hl => ?_)
        refine lv_goto (tgt := 76) hx hb dX9_measure_293 (by decide) ?_
        rw [hB76] at hT
        exact hT _ _ _ hP hD hS (lv_sub hl [1, 2, 0] rfl)
      · replace hT := hT.2 c12
        refine lv_aload_n hx hb dX9_measure_97 rfl (lv_at hl 0 rfl) ?_
        refine mg_heads hx hb hts hown hK hP dX9_measure_98 ?_
        refine lv_iload hx hb dX9_measure_101 (lv_at hl 3 rfl) ?_
        obtain ⟨hi13, hT⟩ := hT
        refine va_iald (f := S.2.1 13) hx hb hK hP 13 0 mat_13 rfl hi13 dX9_measure_103 ?_
        refine lv_topi (fun v5_14 ev5_14 => ?_)
        replace hT := hT v5_14 ev5_14
        refine lv_istore (lv' := [(5, .int v5_14), (0, .ref (ad 0)), (2, .int x2), (3, .int x3), (4, .int x4)]) hx hb dX9_measure_104 hl (by decide) rfl (fun ls hl => ?_)
        refine lv_aload_n hx hb dX9_measure_106 rfl (lv_at hl 1 rfl) ?_
        refine lv_iload hx hb dX9_measure_107 (lv_at hl 0 rfl) ?_
        refine mcallV (n := 1) (rest := []) hT hx hb hml hown hts hK hA hP hD hS hl gg_207 hd_X9_unlink ⟨Nat.le_of_ble_eq_true rfl, Nat.le_of_ble_eq_true rfl⟩ rfl rfl (Nat.le_of_ble_eq_true rfl) dX9_measure_109 (Nat.zero_le _) (Nat.zero_le _) (fun S15 H locs hP hD hS hT => ?_)
        refine lv_aload_n hx hb dX9_measure_112 rfl (lv_at hl 1 rfl) ?_
        refine mg_isDone hx hb hts hown hK hP dX9_measure_113 ?_
        refine lv_iload hx hb dX9_measure_116 (lv_at hl 0 rfl) ?_
        refine lv_iconst (v := 1) hx hb dX9_measure_118 (by decide) ?_
        obtain ⟨hi16, hT⟩ := hT
        refine va_zast (f := S15.2.1 17) hx hb hK hP hD hS 17 1 mat_17 rfl hi16 dX9_measure_119 (fun H locs hP hD hS => ?_)
        replace hP := msetP_17 hP
        replace hD := msetD_17 hD
        refine lv_iinc (v := x2 + (-1)) (lv' := [(2, .int (x2 + (-1))), (5, .int v5_14), (0, .ref (ad 0)), (3, .int x3), (4, .int x4)]) hx hb dX9_measure_120 hl (k := 2) rfl rfl (by decide) rfl (fun ls hl => ?_)
        refine lv_aload_n hx hb dX9_measure_123 rfl (lv_at hl 2 rfl) ?_
        refine mg_met hx hb hts hown hK hP dX9_measure_124 ?_
        refine lv_aload_n hx hb dX9_measure_127 rfl (lv_at hl 2 rfl) ?_
        refine mg_metMany (v := S15.1 7) hx hb hts hown hK hP rfl dX9_measure_128 ?_
        refine lv_iload hx hb dX9_measure_131 (lv_at hl 1 rfl) ?_
        obtain ⟨hi17, hT⟩ := hT
        refine va_iast (f := S15.2.1 14) hx hb hK hP hD hS 14 0 mat_14 rfl hi17 dX9_measure_133 (fun H locs hP hD hS => ?_)
        replace hP := msetP_14 hP
        replace hD := msetD_14 hD
        refine lv_aload_n hx hb dX9_measure_134 rfl (lv_at hl 2 rfl) ?_
        refine lv_dup hx hb dX9_measure_135 rfl ?_
        refine mg_metMany (v := S15.1 7) hx hb hts hown hK hP rfl dX9_measure_136 ?_
        refine lv_iconst (v := 1) hx hb dX9_measure_139 (by decide) ?_
        refine lv_iadd hx hb dX9_measure_140 ?_
        refine mp_metMany hx hb hts hown hK hP hD hS dX9_measure_141 (fun H locs hP hD hS => ?_)
        refine lv_aload_n hx hb dX9_measure_144 rfl (lv_at hl 2 rfl) ?_
        refine lv_iload hx hb dX9_measure_145 (lv_at hl 1 rfl) ?_
        refine lv_aload_n hx hb dX9_measure_147 rfl (lv_at hl 2 rfl) ?_
        refine mg_at hx hb hts hown hK hP dX9_measure_148 ?_
        refine mcallV (n := 2) (rest := []) hT hx hb hml hown hts hK hA hP hD hS hl gg_180 hd_X9_unpack ⟨Nat.le_of_ble_eq_true rfl, Nat.le_of_ble_eq_true rfl⟩ rfl rfl (Nat.le_of_ble_eq_true rfl) dX9_measure_151 (Nat.zero_le _) (Nat.zero_le _) (fun S18 H locs hP hD hS hT => ?_)
        refine lv_iconst (v := 0) hx hb dX9_measure_154 (by decide) ?_
        refine lv_istore (lv' := [(6, .int 0), (2, .int (x2 + (-1))), (5, .int v5_14), (0, .ref (ad 0)), (3, .int x3), (4, .int x4)]) hx hb dX9_measure_155 hl (by decide) rfl (fun ls hl => ?_)
        rw [hB157] at hT
        exact hT _ _ _ hP hD hS (lv_sub hl [3, 1, 4, 5, 0] rfl)
    · clear hP hD hS hl H locs ls
      intro S x2 x3 x4 x6 hT
      unfold mT_measure_157 at hT
      rw [hB157]
      intro H locs ls hP hD hS hl
      refine lv_iload hx hb dX9_measure_157 (lv_at hl 4 rfl) ?_
      refine lv_aload_n hx hb dX9_measure_159 rfl (lv_at hl 0 rfl) ?_
      refine mg_pegs (v := S.1 0) hx hb hts hown hK hP rfl dX9_measure_160 ?_
      refine lv_icmp_ge (tgt := 287) hx hb dX9_measure_163 (by decide) (fun c19 => ?_) (fun c19 => ?_)
      · replace hT := hT.1 c19
        refine lv_goto (tgt := 86) hx hb dX9_measure_287 (by decide) ?_
        rw [hB86] at hT
        exact hT _ _ _ hP hD hS (lv_sub hl [0, 1, 2, 3] rfl)
      · replace hT := hT.2 c19
        refine lv_iconst (v := 0) hx hb dX9_measure_166 (by decide) ?_
        refine lv_istore (lv' := [(7, .int 0), (0, .ref (ad 0)), (2, .int x2), (3, .int x3), (4, .int x4), (6, .int x6)]) hx hb dX9_measure_167 hl (by decide) rfl (fun ls hl => ?_)
        rw [hB169] at hT
        exact hT _ _ _ hP hD hS (lv_sub hl [1, 2, 3, 4, 5, 0] rfl)
    · clear hP hD hS hl H locs ls
      intro S x2 x3 x4 x6 x7 hT
      unfold mT_measure_169 at hT
      rw [hB169]
      intro H locs ls hP hD hS hl
      refine lv_iload hx hb dX9_measure_169 (lv_at hl 5 rfl) ?_
      refine lv_aload_n hx hb dX9_measure_171 rfl (lv_at hl 0 rfl) ?_
      refine mg_pegs (v := S.1 0) hx hb hts hown hK hP rfl dX9_measure_172 ?_
      refine lv_icmp_ge (tgt := 281) hx hb dX9_measure_175 (by decide) (fun c20 => ?_) (fun c20 => ?_)
      · replace hT := hT.1 c20
        refine lv_iinc (v := x6 + 1) (lv' := [(6, .int (x6 + 1)), (0, .ref (ad 0)), (2, .int x2), (3, .int x3), (4, .int x4), (7, .int x7)]) hx hb dX9_measure_281 hl (k := 4) rfl rfl (by decide) rfl (fun ls hl => ?_)
        refine lv_goto (tgt := 157) hx hb dX9_measure_284 (by decide) ?_
        rw [hB157] at hT
        exact hT _ _ _ hP hD hS (lv_sub hl [1, 2, 3, 4, 0] rfl)
      · replace hT := hT.2 c20
        refine lv_aload_n hx hb dX9_measure_178 rfl (lv_at hl 0 rfl) ?_
        refine lv_iload hx hb dX9_measure_179 (lv_at hl 4 rfl) ?_
        refine lv_iload hx hb dX9_measure_181 (lv_at hl 5 rfl) ?_
        refine mcallI (n := 2) (rest := []) hT hx hb hml hown hts hK hA hP hD hS hl gg_211 hd_X9_leads ⟨Nat.le_of_ble_eq_true rfl, Nat.le_of_ble_eq_true rfl⟩ rfl rfl (Nat.le_of_ble_eq_true rfl) dX9_measure_183 (Nat.zero_le _) (Nat.zero_le _) (fun r22 S21 H locs hP hD hS hT => ?_)
        refine lv_istore (lv' := [(8, .int r22), (0, .ref (ad 0)), (2, .int x2), (3, .int x3), (4, .int x4), (6, .int x6), (7, .int x7)]) hx hb dX9_measure_186 hl (by decide) rfl (fun ls hl => ?_)
        refine lv_iload hx hb dX9_measure_188 (lv_at hl 0 rfl) ?_
        refine lv_iconst (v := (-1)) hx hb dX9_measure_190 (by decide) ?_
        refine lv_icmp_eq (tgt := 275) hx hb dX9_measure_191 (by decide) (fun c23 => ?_) (fun c23 => ?_)
        · replace hT := hT.1 c23
          rw [hB275] at hT
          exact hT _ _ _ hP hD hS (lv_sub hl [1, 2, 3, 4, 5, 6] rfl)
        · replace hT := hT.2 c23
          refine lv_aload_n hx hb dX9_measure_194 rfl (lv_at hl 1 rfl) ?_
          refine mg_isDone hx hb hts hown hK hP dX9_measure_195 ?_
          refine lv_iload hx hb dX9_measure_198 (lv_at hl 0 rfl) ?_
          obtain ⟨hi24, hT⟩ := hT
          refine va_zald (f := S21.2.1 17) hx hb hK hP 17 1 mat_17 rfl hi24 dX9_measure_200 ?_
          refine lv_if_ne (tgt := 275) hx hb dX9_measure_201 (by decide) (fun c25 => ?_) (fun c25 => ?_)
          · replace hT := hT.1 c25
            rw [hB275] at hT
            exact hT _ _ _ hP hD hS (lv_sub hl [1, 2, 3, 4, 5, 6] rfl)
          · replace hT := hT.2 c25
            refine lv_aload_n hx hb dX9_measure_204 rfl (lv_at hl 1 rfl) ?_
            refine mg_far hx hb hts hown hK hP dX9_measure_205 ?_
            refine lv_iload hx hb dX9_measure_208 (lv_at hl 0 rfl) ?_
            obtain ⟨hi26, hT⟩ := hT
            refine va_iald (f := S21.2.1 10) hx hb hK hP 10 0 mat_10 rfl hi26 dX9_measure_210 ?_
            refine lv_iload_n hx hb dX9_measure_211 rfl (lv_at hl 3 rfl) ?_
            refine lv_aload_n hx hb dX9_measure_212 rfl (lv_at hl 1 rfl) ?_
            refine mg_costs hx hb hts hown hK hP dX9_measure_213 ?_
            refine lv_iconst (v := 5) hx hb dX9_measure_216 (by decide) ?_
            refine lv_iload hx hb dX9_measure_217 (lv_at hl 5 rfl) ?_
            refine lv_imul hx hb dX9_measure_219 ?_
            refine lv_iload hx hb dX9_measure_220 (lv_at hl 6 rfl) ?_
            refine lv_iadd hx hb dX9_measure_222 ?_
            obtain ⟨hi27, hT⟩ := hT
            refine va_iald (f := S21.2.1 4) hx hb hK hP 4 0 mat_4 rfl hi27 dX9_measure_223 ?_
            refine lv_iadd hx hb dX9_measure_224 ?_
            refine lv_icmp_gt (tgt := 231) hx hb dX9_measure_225 (by decide) (fun c28 => ?_) (fun c28 => ?_)
            · replace hT := hT.1 c28
              refine lv_aload_n hx hb dX9_measure_231 rfl (lv_at hl 1 rfl) ?_
              refine mg_far hx hb hts hown hK hP dX9_measure_232 ?_
              refine lv_iload hx hb dX9_measure_235 (lv_at hl 0 rfl) ?_
              obtain ⟨hi29, hT⟩ := hT
              refine va_iald (f := S21.2.1 10) hx hb hK hP 10 0 mat_10 rfl hi29 dX9_measure_237 ?_
              refine lv_ldc (v := 2147483647) hx hb hown (hts _ k_1101) dX9_measure_238 ?_
              refine lv_icmp_ne (tgt := 249) hx hb dX9_measure_240 (by decide) (fun c30 => ?_) (fun c30 => ?_)
              · replace hT := hT.1 c30
                refine lv_aload_n hx hb dX9_measure_249 rfl (lv_at hl 1 rfl) ?_
                refine lv_iload hx hb dX9_measure_250 (lv_at hl 0 rfl) ?_
                refine mcallV (n := 1) (rest := []) hT hx hb hml hown hts hK hA hP hD hS hl gg_207 hd_X9_unlink ⟨Nat.le_of_ble_eq_true rfl, Nat.le_of_ble_eq_true rfl⟩ rfl rfl (Nat.le_of_ble_eq_true rfl) dX9_measure_252 (Nat.zero_le _) (Nat.zero_le _) (fun S31 H locs hP hD hS hT => ?_)
                rw [hB255] at hT
                exact hT _ _ _ hP hD hS (lv_sub hl [1, 2, 3, 4, 5, 6, 0] rfl)
              · replace hT := hT.2 c30
                refine lv_iinc (v := x2 + 1) (lv' := [(2, .int (x2 + 1)), (8, .int r22), (0, .ref (ad 0)), (3, .int x3), (4, .int x4), (6, .int x6), (7, .int x7)]) hx hb dX9_measure_243 hl (k := 2) rfl rfl (by decide) rfl (fun ls hl => ?_)
                refine lv_goto (tgt := 255) hx hb dX9_measure_246 (by decide) ?_
                rw [hB255] at hT
                exact hT _ _ _ hP hD hS (lv_sub hl [2, 0, 3, 4, 5, 6, 1] rfl)
            · replace hT := hT.2 c28
              refine lv_goto (tgt := 275) hx hb dX9_measure_228 (by decide) ?_
              rw [hB275] at hT
              exact hT _ _ _ hP hD hS (lv_sub hl [1, 2, 3, 4, 5, 6] rfl)
    · clear hP hD hS hl H locs ls
      intro S x2 x3 x4 x6 x7 x8 hT
      unfold mT_measure_255 at hT
      rw [hB255]
      intro H locs ls hP hD hS hl
      refine lv_aload_n hx hb dX9_measure_255 rfl (lv_at hl 0 rfl) ?_
      refine lv_iload hx hb dX9_measure_256 (lv_at hl 6 rfl) ?_
      refine lv_iload_n hx hb dX9_measure_258 rfl (lv_at hl 2 rfl) ?_
      refine lv_aload_n hx hb dX9_measure_259 rfl (lv_at hl 0 rfl) ?_
      refine mg_costs hx hb hts hown hK hP dX9_measure_260 ?_
      refine lv_iconst (v := 5) hx hb dX9_measure_263 (by decide) ?_
      refine lv_iload hx hb dX9_measure_264 (lv_at hl 4 rfl) ?_
      refine lv_imul hx hb dX9_measure_266 ?_
      refine lv_iload hx hb dX9_measure_267 (lv_at hl 5 rfl) ?_
      refine lv_iadd hx hb dX9_measure_269 ?_
      obtain ⟨hi32, hT⟩ := hT
      refine va_iald (f := S.2.1 4) hx hb hK hP 4 0 mat_4 rfl hi32 dX9_measure_270 ?_
      refine lv_iadd hx hb dX9_measure_271 ?_
      refine mcallV (n := 2) (rest := []) hT hx hb hml hown hts hK hA hP hD hS hl gg_203 hd_X9_link ⟨Nat.le_of_ble_eq_true rfl, Nat.le_of_ble_eq_true rfl⟩ rfl rfl (Nat.le_of_ble_eq_true rfl) dX9_measure_272 (Nat.zero_le _) (Nat.zero_le _) (fun S33 H locs hP hD hS hT => ?_)
      rw [hB275] at hT
      exact hT _ _ _ hP hD hS (lv_sub hl [0, 1, 2, 3, 4, 5] rfl)
    · clear hP hD hS hl H locs ls
      intro S x2 x3 x4 x6 x7 hT
      unfold mT_measure_275 at hT
      rw [hB275]
      intro H locs ls hP hD hS hl
      refine lv_iinc (v := x7 + 1) (lv' := [(7, .int (x7 + 1)), (0, .ref (ad 0)), (2, .int x2), (3, .int x3), (4, .int x4), (6, .int x6)]) hx hb dX9_measure_275 hl (k := 5) rfl rfl (by decide) rfl (fun ls hl => ?_)
      refine lv_goto (tgt := 169) hx hb dX9_measure_278 (by decide) ?_
      rw [hB169] at hT
      exact hT _ _ _ hP hD hS (lv_sub hl [1, 2, 3, 4, 5, 0] rfl)
  unfold mT_measure_e at hT
  refine lv_aload_n hx hb dX9_measure_0 rfl (lv_at hl 0 rfl) ?_
  refine mcallI (n := 0) (rest := []) hT hx hb hml hown hts hK hA hP hD hS hl gg_177 hd_X9_stands ⟨Nat.le_of_ble_eq_true rfl, Nat.le_of_ble_eq_true rfl⟩ rfl rfl (Nat.le_of_ble_eq_true rfl) dX9_measure_1 (Nat.zero_le _) (Nat.zero_le _) (fun r35 S34 H locs hP hD hS hT => ?_)
  refine lv_istore_n (lv' := [(1, .int r35), (0, .ref (ad 0))]) hx hb dX9_measure_4 rfl hl (by decide) rfl (fun ls hl => ?_)
  refine lv_iconst (v := 0) hx hb dX9_measure_5 (by decide) ?_
  refine lv_istore_n (lv' := [(2, .int 0), (1, .int r35), (0, .ref (ad 0))]) hx hb dX9_measure_6 rfl hl (by decide) rfl (fun ls hl => ?_)
  rw [hB7] at hT
  exact hT _ _ _ hP hD hS (lv_sub hl [2, 1, 0] rfl)
abbrev mX_fewest (l : Launch) (S : MS) (post : Int32 → MS → Prop) : Prop := mCtI l yX9_fewest cX9_fewest 2 4 100 (fun ad => []) S post
def mT_fewest_e (l : Launch) (post : Int32 → MS → Prop) (S0 : MS) : Prop := mX_fits l (mf S0 3 0) (fun b2 S1 => (¬ bI b2 = 0 → mX_measure l (mf S1 2 0) (fun S4 => mX_pack l S4 3 (fun r6 S5 => vp_in r6 20000 ∧ ∀ v1_8 : Int32, v1_8 = S5.2.1 10 r6.toNatClampNeg → (¬ v1_8 = 2147483647 → post v1_8 S5) ∧ (v1_8 = 2147483647 → post (-2) S5)))) ∧ (bI b2 = 0 → mX_no l S1 2 (fun r11 S10 => post r11 S10)))
set_option maxHeartbeats 4000000 in
set_option maxRecDepth 100000 in
theorem m_fewest (l : Launch) (S0 : MS) (post : Int32 → MS → Prop) (h : mT_fewest_e l post S0) : mX_fewest l S0 post := by
  refine msetI rfl (fun _ => Nat.le_of_ble_eq_true rfl) ?_
  intro p e s m args below meth c D ad cI cZ cL A Q hx hb hml hown hts hK hA hret H locs ls hP hD hS hl
  replace hl : lv_has ls 2 [(0, .ref (ad 0))] := hl
  have hT := h
  unfold mT_fewest_e at hT
  refine lv_aload_n hx hb dX9_fewest_0 rfl (lv_at hl 0 rfl) ?_
  refine lv_iconst (v := 0) hx hb dX9_fewest_1 (by decide) ?_
  refine mp_thrown hx hb hts hown hK hP hD hS dX9_fewest_2 (fun H locs hP hD hS => ?_)
  refine lv_aload_n hx hb dX9_fewest_5 rfl (lv_at hl 0 rfl) ?_
  refine mcallZ (n := 0) (rest := []) hT hx hb hml hown hts hK hA hP hD hS hl gg_215 hd_X9_fits ⟨Nat.le_of_ble_eq_true rfl, Nat.le_of_ble_eq_true rfl⟩ rfl rfl (Nat.le_of_ble_eq_true rfl) dX9_fewest_6 (Nat.zero_le _) (Nat.zero_le _) (fun b2 S1 H locs hP hD hS hT => ?_)
  refine lv_if_ne (tgt := 18) hx hb dX9_fewest_9 (by decide) (fun c3 => ?_) (fun c3 => ?_)
  · replace hT := hT.1 c3
    refine lv_aload_n hx hb dX9_fewest_18 rfl (lv_at hl 0 rfl) ?_
    refine lv_iconst (v := 0) hx hb dX9_fewest_19 (by decide) ?_
    refine mp_trouble hx hb hts hown hK hP hD hS dX9_fewest_20 (fun H locs hP hD hS => ?_)
    refine lv_aload_n hx hb dX9_fewest_23 rfl (lv_at hl 0 rfl) ?_
    refine mcallV (n := 0) (rest := []) hT hx hb hml hown hts hK hA hP hD hS hl gg_219 hd_X9_measure ⟨Nat.le_of_ble_eq_true rfl, Nat.le_of_ble_eq_true rfl⟩ rfl rfl (Nat.le_of_ble_eq_true rfl) dX9_fewest_24 (Nat.zero_le _) (Nat.zero_le _) (fun S4 H locs hP hD hS hT => ?_)
    refine lv_aload_n hx hb dX9_fewest_27 rfl (lv_at hl 0 rfl) ?_
    refine mg_far hx hb hts hown hK hP dX9_fewest_28 ?_
    refine lv_aload_n hx hb dX9_fewest_31 rfl (lv_at hl 0 rfl) ?_
    refine lv_aload_n hx hb dX9_fewest_32 rfl (lv_at hl 0 rfl) ?_
    refine mg_goal hx hb hts hown hK hP dX9_fewest_33 ?_
    refine mcallI (n := 1) (rest := [.ref (ad 10)]) hT hx hb hml hown hts hK hA hP hD hS hl gg_184 hd_X9_pack ⟨Nat.le_of_ble_eq_true rfl, Nat.le_of_ble_eq_true rfl⟩ rfl rfl (Nat.le_of_ble_eq_true rfl) dX9_fewest_36 (Nat.zero_le _) (Nat.zero_le _) (fun r6 S5 H locs hP hD hS hT => ?_)
    obtain ⟨hi7, hT⟩ := hT
    refine va_iald (f := S5.2.1 10) hx hb hK hP 10 0 mat_10 rfl hi7 dX9_fewest_39 ?_
    refine lv_topi (fun v1_8 ev1_8 => ?_)
    replace hT := hT v1_8 ev1_8
    refine lv_istore_n (lv' := [(1, .int v1_8), (0, .ref (ad 0))]) hx hb dX9_fewest_40 rfl hl (by decide) rfl (fun ls hl => ?_)
    refine lv_iload_n hx hb dX9_fewest_41 rfl (lv_at hl 0 rfl) ?_
    refine lv_ldc (v := 2147483647) hx hb hown (hts _ k_1101) dX9_fewest_42 ?_
    refine lv_icmp_ne (tgt := 52) hx hb dX9_fewest_44 (by decide) (fun c9 => ?_) (fun c9 => ?_)
    · replace hT := hT.1 c9
      refine lv_iload_n hx hb dX9_fewest_52 rfl (lv_at hl 0 rfl) ?_
      exact hret _ _ _ _ _ _ hP hD hS hT dX9_fewest_53
    · replace hT := hT.2 c9
      refine lv_bipush (v := (-2)) hx hb dX9_fewest_47 (by decide) ?_
      refine lv_goto (tgt := 53) hx hb dX9_fewest_49 (by decide) ?_
      exact hret _ _ _ _ _ _ hP hD hS hT dX9_fewest_53
  · replace hT := hT.2 c3
    refine lv_aload_n hx hb dX9_fewest_12 rfl (lv_at hl 0 rfl) ?_
    refine lv_iconst (v := 2) hx hb dX9_fewest_13 (by decide) ?_
    refine mcallI (n := 1) (rest := []) hT hx hb hml hown hts hK hA hP hD hS hl gg_192 hd_X9_no ⟨Nat.le_of_ble_eq_true rfl, Nat.le_of_ble_eq_true rfl⟩ rfl rfl (Nat.le_of_ble_eq_true rfl) dX9_fewest_14 (Nat.zero_le _) (Nat.zero_le _) (fun r11 S10 H locs hP hD hS hT => ?_)
    exact hret _ _ _ _ _ _ hP hD hS hT dX9_fewest_17
abbrev mX_isNear (l : Launch) (S : MS) (a1 : Int32) (a2 : Int32) (a3 : Int32) (a4 : Int32) (post : Bool → MS → Prop) : Prop := mCtZ l yX9_isNear cX9_isNear 5 0 0 (fun ad => [.int a1, .int a2, .int a3, .int a4]) S post
def mT_isNear_e (l : Launch) (a1 : Int32) (a2 : Int32) (a3 : Int32) (a4 : Int32) (post : Bool → MS → Prop) (S0 : MS) : Prop := (a2 = (-1) → post false S0) ∧ (¬ a2 = (-1) → vp_in a2 20000 ∧ vp_in a1 20000 ∧ vp_in ((5 * a3) + a4) 25 ∧ (¬ S0.2.1 10 a2.toNatClampNeg = (S0.2.1 10 a1.toNatClampNeg) + (S0.2.1 4 ((5 * a3) + a4).toNatClampNeg) → post false S0) ∧ (S0.2.1 10 a2.toNatClampNeg = (S0.2.1 10 a1.toNatClampNeg) + (S0.2.1 4 ((5 * a3) + a4).toNatClampNeg) → post true S0))
set_option maxHeartbeats 4000000 in
set_option maxRecDepth 100000 in
theorem m_isNear (l : Launch) (S0 : MS) (a1 : Int32) (a2 : Int32) (a3 : Int32) (a4 : Int32) (post : Bool → MS → Prop) (h : mT_isNear_e l a1 a2 a3 a4 post S0) : mX_isNear l S0 a1 a2 a3 a4 post := by
  refine msetZ rfl (fun _ => Nat.le_of_ble_eq_true rfl) ?_
  intro p e s m args below meth c D ad cI cZ cL A Q hx hb hml hown hts hK hA hret H locs ls hP hD hS hl
  replace hl : lv_has ls 5 [(0, .ref (ad 0)), (1, .int a1), (2, .int a2), (3, .int a3), (4, .int a4)] := hl
  have hT := h
  unfold mT_isNear_e at hT
  refine lv_iload_n hx hb dX9_isNear_0 rfl (lv_at hl 2 rfl) ?_
  refine lv_iconst (v := (-1)) hx hb dX9_isNear_1 (by decide) ?_
  refine lv_icmp_eq (tgt := 36) hx hb dX9_isNear_2 (by decide) (fun c1 => ?_) (fun c1 => ?_)
  · replace hT := hT.1 c1
    refine lv_iconst (v := 0) hx hb dX9_isNear_36 (by decide) ?_
    exact hret false _ _ _ _ _ hP hD hS hT dX9_isNear_37
  · replace hT := hT.2 c1
    refine lv_aload_n hx hb dX9_isNear_5 rfl (lv_at hl 0 rfl) ?_
    refine mg_far hx hb hts hown hK hP dX9_isNear_6 ?_
    refine lv_iload_n hx hb dX9_isNear_9 rfl (lv_at hl 2 rfl) ?_
    obtain ⟨hi2, hT⟩ := hT
    refine va_iald (f := S0.2.1 10) hx hb hK hP 10 0 mat_10 rfl hi2 dX9_isNear_10 ?_
    refine lv_aload_n hx hb dX9_isNear_11 rfl (lv_at hl 0 rfl) ?_
    refine mg_far hx hb hts hown hK hP dX9_isNear_12 ?_
    refine lv_iload_n hx hb dX9_isNear_15 rfl (lv_at hl 1 rfl) ?_
    obtain ⟨hi3, hT⟩ := hT
    refine va_iald (f := S0.2.1 10) hx hb hK hP 10 0 mat_10 rfl hi3 dX9_isNear_16 ?_
    refine lv_aload_n hx hb dX9_isNear_17 rfl (lv_at hl 0 rfl) ?_
    refine mg_costs hx hb hts hown hK hP dX9_isNear_18 ?_
    refine lv_iconst (v := 5) hx hb dX9_isNear_21 (by decide) ?_
    refine lv_iload_n hx hb dX9_isNear_22 rfl (lv_at hl 3 rfl) ?_
    refine lv_imul hx hb dX9_isNear_23 ?_
    refine lv_iload hx hb dX9_isNear_24 (lv_at hl 4 rfl) ?_
    refine lv_iadd hx hb dX9_isNear_26 ?_
    obtain ⟨hi4, hT⟩ := hT
    refine va_iald (f := S0.2.1 4) hx hb hK hP 4 0 mat_4 rfl hi4 dX9_isNear_27 ?_
    refine lv_iadd hx hb dX9_isNear_28 ?_
    refine lv_icmp_ne (tgt := 36) hx hb dX9_isNear_29 (by decide) (fun c5 => ?_) (fun c5 => ?_)
    · replace hT := hT.1 c5
      refine lv_iconst (v := 0) hx hb dX9_isNear_36 (by decide) ?_
      exact hret false _ _ _ _ _ hP hD hS hT dX9_isNear_37
    · replace hT := hT.2 c5
      refine lv_iconst (v := 1) hx hb dX9_isNear_32 (by decide) ?_
      refine lv_goto (tgt := 37) hx hb dX9_isNear_33 (by decide) ?_
      exact hret true _ _ _ _ _ hP hD hS hT dX9_isNear_37
abbrev mX_plan (l : Launch) (S : MS) (post : Int32 → MS → Prop) : Prop := mCtI l yX9_plan cX9_plan 7 4 100 (fun ad => []) S post
def mT_plan_57 (l : Launch) (post : Int32 → MS → Prop) (B57 : MS → Int32 → Int32 → Prop) (B96 : MS → Int32 → Int32 → Int32 → Int32 → Prop) (B108 : MS → Int32 → Int32 → Int32 → Int32 → Int32 → Prop) (B158 : MS → Int32 → Int32 → Int32 → Int32 → Int32 → Prop) (B190 : MS → Int32 → Int32 → Prop) (B209 : MS → Int32 → Int32 → Int32 → Int32 → Prop) (B226 : MS → Int32 → Int32 → Int32 → Int32 → Int32 → Prop) (B307 : MS → Int32 → Int32 → Int32 → Int32 → Int32 → Prop) (B313 : MS → Int32 → Int32 → Int32 → Int32 → Prop) (B319 : MS → Int32 → Int32 → Prop) (S : MS) (x1 : Int32) (x2 : Int32) : Prop := (x2 < 0 → mX_pack l (mf S 6 0) 2 (fun r3 S2 => B190 S2 x1 r3)) ∧ (¬ x2 < 0 → vp_in x2 20000 ∧ ∀ v3_5 : Int32, v3_5 = S.2.1 14 x2.toNatClampNeg → (¬ v3_5 = x1 → vp_in v3_5 20000 ∧ mX_unpack l (ma S 16 (upd (S.2.1 16) v3_5.toNatClampNeg (vp_nar .boolean 0))) v3_5 8 (fun S8 => B96 S8 x1 x2 v3_5 0)) ∧ (v3_5 = x1 → vp_in v3_5 20000 ∧ mX_unpack l (ma S 16 (upd (S.2.1 16) v3_5.toNatClampNeg (vp_nar .boolean 1))) v3_5 8 (fun S10 => B96 S10 x1 x2 v3_5 0)))
def mT_plan_96 (l : Launch) (post : Int32 → MS → Prop) (B57 : MS → Int32 → Int32 → Prop) (B96 : MS → Int32 → Int32 → Int32 → Int32 → Prop) (B108 : MS → Int32 → Int32 → Int32 → Int32 → Int32 → Prop) (B158 : MS → Int32 → Int32 → Int32 → Int32 → Int32 → Prop) (B190 : MS → Int32 → Int32 → Prop) (B209 : MS → Int32 → Int32 → Int32 → Int32 → Prop) (B226 : MS → Int32 → Int32 → Int32 → Int32 → Int32 → Prop) (B307 : MS → Int32 → Int32 → Int32 → Int32 → Int32 → Prop) (B313 : MS → Int32 → Int32 → Int32 → Int32 → Prop) (B319 : MS → Int32 → Int32 → Prop) (S : MS) (x1 : Int32) (x2 : Int32) (x3 : Int32) (x4 : Int32) : Prop := (S.1 0 ≤ x4 → B57 S x1 (x2 + (-1))) ∧ (¬ S.1 0 ≤ x4 → B108 S x1 x2 x3 x4 0)
def mT_plan_108 (l : Launch) (post : Int32 → MS → Prop) (B57 : MS → Int32 → Int32 → Prop) (B96 : MS → Int32 → Int32 → Int32 → Int32 → Prop) (B108 : MS → Int32 → Int32 → Int32 → Int32 → Int32 → Prop) (B158 : MS → Int32 → Int32 → Int32 → Int32 → Int32 → Prop) (B190 : MS → Int32 → Int32 → Prop) (B209 : MS → Int32 → Int32 → Int32 → Int32 → Prop) (B226 : MS → Int32 → Int32 → Int32 → Int32 → Int32 → Prop) (B307 : MS → Int32 → Int32 → Int32 → Int32 → Int32 → Prop) (B313 : MS → Int32 → Int32 → Int32 → Int32 → Prop) (B319 : MS → Int32 → Int32 → Prop) (S : MS) (x1 : Int32) (x2 : Int32) (x3 : Int32) (x4 : Int32) (x5 : Int32) : Prop := (S.1 0 ≤ x5 → B96 S x1 x2 x3 (x4 + 1)) ∧ (¬ S.1 0 ≤ x5 → mX_leads l S x4 x5 (fun r14 S13 => mX_isNear l S13 x3 r14 x4 x5 (fun b16 S15 => (bI b16 = 0 → B158 S15 x1 x2 x3 x4 x5) ∧ (¬ bI b16 = 0 → vp_in r14 20000 ∧ (S15.2.1 16 r14.toNatClampNeg = 0 → B158 S15 x1 x2 x3 x4 x5) ∧ (¬ S15.2.1 16 r14.toNatClampNeg = 0 → vp_in x3 20000 ∧ B158 (ma S15 16 (upd (S15.2.1 16) x3.toNatClampNeg (vp_nar .boolean 1))) x1 x2 x3 x4 x5)))))
def mT_plan_158 (l : Launch) (post : Int32 → MS → Prop) (B57 : MS → Int32 → Int32 → Prop) (B96 : MS → Int32 → Int32 → Int32 → Int32 → Prop) (B108 : MS → Int32 → Int32 → Int32 → Int32 → Int32 → Prop) (B158 : MS → Int32 → Int32 → Int32 → Int32 → Int32 → Prop) (B190 : MS → Int32 → Int32 → Prop) (B209 : MS → Int32 → Int32 → Int32 → Int32 → Prop) (B226 : MS → Int32 → Int32 → Int32 → Int32 → Int32 → Prop) (B307 : MS → Int32 → Int32 → Int32 → Int32 → Int32 → Prop) (B313 : MS → Int32 → Int32 → Int32 → Int32 → Prop) (B319 : MS → Int32 → Int32 → Prop) (S : MS) (x1 : Int32) (x2 : Int32) (x3 : Int32) (x4 : Int32) (x5 : Int32) : Prop := B108 S x1 x2 x3 x4 (x5 + 1)
def mT_plan_190 (l : Launch) (post : Int32 → MS → Prop) (B57 : MS → Int32 → Int32 → Prop) (B96 : MS → Int32 → Int32 → Int32 → Int32 → Prop) (B108 : MS → Int32 → Int32 → Int32 → Int32 → Int32 → Prop) (B158 : MS → Int32 → Int32 → Int32 → Int32 → Int32 → Prop) (B190 : MS → Int32 → Int32 → Prop) (B209 : MS → Int32 → Int32 → Int32 → Int32 → Prop) (B226 : MS → Int32 → Int32 → Int32 → Int32 → Int32 → Prop) (B307 : MS → Int32 → Int32 → Int32 → Int32 → Int32 → Prop) (B313 : MS → Int32 → Int32 → Int32 → Int32 → Prop) (B319 : MS → Int32 → Int32 → Prop) (S : MS) (x1 : Int32) (x2 : Int32) : Prop := (x2 = x1 → post (S.1 6) S) ∧ (¬ x2 = x1 → mX_unpack l S x2 8 (fun S22 => B209 S22 x1 x2 (-1) 0))
def mT_plan_209 (l : Launch) (post : Int32 → MS → Prop) (B57 : MS → Int32 → Int32 → Prop) (B96 : MS → Int32 → Int32 → Int32 → Int32 → Prop) (B108 : MS → Int32 → Int32 → Int32 → Int32 → Int32 → Prop) (B158 : MS → Int32 → Int32 → Int32 → Int32 → Int32 → Prop) (B190 : MS → Int32 → Int32 → Prop) (B209 : MS → Int32 → Int32 → Int32 → Int32 → Prop) (B226 : MS → Int32 → Int32 → Int32 → Int32 → Int32 → Prop) (B307 : MS → Int32 → Int32 → Int32 → Int32 → Int32 → Prop) (B313 : MS → Int32 → Int32 → Int32 → Int32 → Prop) (B319 : MS → Int32 → Int32 → Prop) (S : MS) (x1 : Int32) (x2 : Int32) (x3 : Int32) (x4 : Int32) : Prop := (S.1 0 ≤ x4 → B319 S x1 x3) ∧ (¬ S.1 0 ≤ x4 → (¬ x3 = (-1) → B319 S x1 x3) ∧ (x3 = (-1) → B226 S x1 x2 x3 x4 0))
def mT_plan_226 (l : Launch) (post : Int32 → MS → Prop) (B57 : MS → Int32 → Int32 → Prop) (B96 : MS → Int32 → Int32 → Int32 → Int32 → Prop) (B108 : MS → Int32 → Int32 → Int32 → Int32 → Int32 → Prop) (B158 : MS → Int32 → Int32 → Int32 → Int32 → Int32 → Prop) (B190 : MS → Int32 → Int32 → Prop) (B209 : MS → Int32 → Int32 → Int32 → Int32 → Prop) (B226 : MS → Int32 → Int32 → Int32 → Int32 → Int32 → Prop) (B307 : MS → Int32 → Int32 → Int32 → Int32 → Int32 → Prop) (B313 : MS → Int32 → Int32 → Int32 → Int32 → Prop) (B319 : MS → Int32 → Int32 → Prop) (S : MS) (x1 : Int32) (x2 : Int32) (x3 : Int32) (x4 : Int32) (x5 : Int32) : Prop := (S.1 0 ≤ x5 → B313 S x1 x2 x3 x4) ∧ (¬ S.1 0 ≤ x5 → (¬ x3 = (-1) → B313 S x1 x2 x3 x4) ∧ (x3 = (-1) → mX_leads l S x4 x5 (fun r28 S27 => mX_isNear l S27 x2 r28 x4 x5 (fun b30 S29 => (bI b30 = 0 → B307 S29 x1 x2 x3 x4 x5) ∧ (¬ bI b30 = 0 → vp_in r28 20000 ∧ (¬ S29.2.1 16 r28.toNatClampNeg = 0 → vp_in (S29.1 6) 20000 ∧ B307 (mf (ma S29 7 (upd (S29.2.1 7) (S29.1 6).toNatClampNeg ((10 * x4) + x5))) 6 ((S29.1 6) + 1)) x1 x2 r28 x4 x5) ∧ (S29.2.1 16 r28.toNatClampNeg = 0 → B307 S29 x1 x2 x3 x4 x5))))))
def mT_plan_307 (l : Launch) (post : Int32 → MS → Prop) (B57 : MS → Int32 → Int32 → Prop) (B96 : MS → Int32 → Int32 → Int32 → Int32 → Prop) (B108 : MS → Int32 → Int32 → Int32 → Int32 → Int32 → Prop) (B158 : MS → Int32 → Int32 → Int32 → Int32 → Int32 → Prop) (B190 : MS → Int32 → Int32 → Prop) (B209 : MS → Int32 → Int32 → Int32 → Int32 → Prop) (B226 : MS → Int32 → Int32 → Int32 → Int32 → Int32 → Prop) (B307 : MS → Int32 → Int32 → Int32 → Int32 → Int32 → Prop) (B313 : MS → Int32 → Int32 → Int32 → Int32 → Prop) (B319 : MS → Int32 → Int32 → Prop) (S : MS) (x1 : Int32) (x2 : Int32) (x3 : Int32) (x4 : Int32) (x5 : Int32) : Prop := B226 S x1 x2 x3 x4 (x5 + 1)
def mT_plan_313 (l : Launch) (post : Int32 → MS → Prop) (B57 : MS → Int32 → Int32 → Prop) (B96 : MS → Int32 → Int32 → Int32 → Int32 → Prop) (B108 : MS → Int32 → Int32 → Int32 → Int32 → Int32 → Prop) (B158 : MS → Int32 → Int32 → Int32 → Int32 → Int32 → Prop) (B190 : MS → Int32 → Int32 → Prop) (B209 : MS → Int32 → Int32 → Int32 → Int32 → Prop) (B226 : MS → Int32 → Int32 → Int32 → Int32 → Int32 → Prop) (B307 : MS → Int32 → Int32 → Int32 → Int32 → Int32 → Prop) (B313 : MS → Int32 → Int32 → Int32 → Int32 → Prop) (B319 : MS → Int32 → Int32 → Prop) (S : MS) (x1 : Int32) (x2 : Int32) (x3 : Int32) (x4 : Int32) : Prop := B209 S x1 x2 x3 (x4 + 1)
def mT_plan_319 (l : Launch) (post : Int32 → MS → Prop) (B57 : MS → Int32 → Int32 → Prop) (B96 : MS → Int32 → Int32 → Int32 → Int32 → Prop) (B108 : MS → Int32 → Int32 → Int32 → Int32 → Int32 → Prop) (B158 : MS → Int32 → Int32 → Int32 → Int32 → Int32 → Prop) (B190 : MS → Int32 → Int32 → Prop) (B209 : MS → Int32 → Int32 → Int32 → Int32 → Prop) (B226 : MS → Int32 → Int32 → Int32 → Int32 → Int32 → Prop) (B307 : MS → Int32 → Int32 → Int32 → Int32 → Int32 → Prop) (B313 : MS → Int32 → Int32 → Int32 → Int32 → Prop) (B319 : MS → Int32 → Int32 → Prop) (S : MS) (x1 : Int32) (x3 : Int32) : Prop := B190 S x1 x3
def mT_plan_e (l : Launch) (post : Int32 → MS → Prop) (B57 : MS → Int32 → Int32 → Prop) (B96 : MS → Int32 → Int32 → Int32 → Int32 → Prop) (B108 : MS → Int32 → Int32 → Int32 → Int32 → Int32 → Prop) (B158 : MS → Int32 → Int32 → Int32 → Int32 → Int32 → Prop) (B190 : MS → Int32 → Int32 → Prop) (B209 : MS → Int32 → Int32 → Int32 → Int32 → Prop) (B226 : MS → Int32 → Int32 → Int32 → Int32 → Int32 → Prop) (B307 : MS → Int32 → Int32 → Int32 → Int32 → Int32 → Prop) (B313 : MS → Int32 → Int32 → Int32 → Int32 → Prop) (B319 : MS → Int32 → Int32 → Prop) (S0 : MS) : Prop := mX_fits l (mf S0 3 0) (fun b36 S35 => (¬ bI b36 = 0 → mX_measure l (mf S35 2 0) (fun S38 => mX_pack l S38 3 (fun r40 S39 => vp_in r40 20000 ∧ (¬ S39.2.1 10 r40.toNatClampNeg = 2147483647 → ∀ v2_43 : Int32, v2_43 = (S39.1 7) - 1 → B57 S39 r40 v2_43) ∧ (S39.2.1 10 r40.toNatClampNeg = 2147483647 → post (-2) S39)))) ∧ (bI b36 = 0 → mX_no l S35 2 (fun r45 S44 => post r45 S44)))
set_option maxHeartbeats 4000000 in
set_option maxRecDepth 100000 in
theorem m_plan (l : Launch) (S0 : MS) (post : Int32 → MS → Prop) (h : ∀ (B57 : MS → Int32 → Int32 → Prop) (B96 : MS → Int32 → Int32 → Int32 → Int32 → Prop) (B108 : MS → Int32 → Int32 → Int32 → Int32 → Int32 → Prop) (B158 : MS → Int32 → Int32 → Int32 → Int32 → Int32 → Prop) (B190 : MS → Int32 → Int32 → Prop) (B209 : MS → Int32 → Int32 → Int32 → Int32 → Prop) (B226 : MS → Int32 → Int32 → Int32 → Int32 → Int32 → Prop) (B307 : MS → Int32 → Int32 → Int32 → Int32 → Int32 → Prop) (B313 : MS → Int32 → Int32 → Int32 → Int32 → Prop) (B319 : MS → Int32 → Int32 → Prop), (∀ (S : MS) (x1 : Int32) (x2 : Int32), mT_plan_57 l post B57 B96 B108 B158 B190 B209 B226 B307 B313 B319 S x1 x2 → B57 S x1 x2) → (∀ (S : MS) (x1 : Int32) (x2 : Int32) (x3 : Int32) (x4 : Int32), mT_plan_96 l post B57 B96 B108 B158 B190 B209 B226 B307 B313 B319 S x1 x2 x3 x4 → B96 S x1 x2 x3 x4) → (∀ (S : MS) (x1 : Int32) (x2 : Int32) (x3 : Int32) (x4 : Int32) (x5 : Int32), mT_plan_108 l post B57 B96 B108 B158 B190 B209 B226 B307 B313 B319 S x1 x2 x3 x4 x5 → B108 S x1 x2 x3 x4 x5) → (∀ (S : MS) (x1 : Int32) (x2 : Int32) (x3 : Int32) (x4 : Int32) (x5 : Int32), mT_plan_158 l post B57 B96 B108 B158 B190 B209 B226 B307 B313 B319 S x1 x2 x3 x4 x5 → B158 S x1 x2 x3 x4 x5) → (∀ (S : MS) (x1 : Int32) (x2 : Int32), mT_plan_190 l post B57 B96 B108 B158 B190 B209 B226 B307 B313 B319 S x1 x2 → B190 S x1 x2) → (∀ (S : MS) (x1 : Int32) (x2 : Int32) (x3 : Int32) (x4 : Int32), mT_plan_209 l post B57 B96 B108 B158 B190 B209 B226 B307 B313 B319 S x1 x2 x3 x4 → B209 S x1 x2 x3 x4) → (∀ (S : MS) (x1 : Int32) (x2 : Int32) (x3 : Int32) (x4 : Int32) (x5 : Int32), mT_plan_226 l post B57 B96 B108 B158 B190 B209 B226 B307 B313 B319 S x1 x2 x3 x4 x5 → B226 S x1 x2 x3 x4 x5) → (∀ (S : MS) (x1 : Int32) (x2 : Int32) (x3 : Int32) (x4 : Int32) (x5 : Int32), mT_plan_307 l post B57 B96 B108 B158 B190 B209 B226 B307 B313 B319 S x1 x2 x3 x4 x5 → B307 S x1 x2 x3 x4 x5) → (∀ (S : MS) (x1 : Int32) (x2 : Int32) (x3 : Int32) (x4 : Int32), mT_plan_313 l post B57 B96 B108 B158 B190 B209 B226 B307 B313 B319 S x1 x2 x3 x4 → B313 S x1 x2 x3 x4) → (∀ (S : MS) (x1 : Int32) (x3 : Int32), mT_plan_319 l post B57 B96 B108 B158 B190 B209 B226 B307 B313 B319 S x1 x3 → B319 S x1 x3) → mT_plan_e l post B57 B96 B108 B158 B190 B209 B226 B307 B313 B319 S0) : mX_plan l S0 post := by
  refine msetI rfl (fun _ => Nat.le_of_ble_eq_true rfl) ?_
  intro p e s m args below meth c D ad cI cZ cL A Q hx hb hml hown hts hK hA hret H locs ls hP hD hS hl
  replace hl : lv_has ls 7 [(0, .ref (ad 0))] := hl
  obtain ⟨B57, hB57⟩ : ∃ B : MS → Int32 → Int32 → Prop, B = (fun S x1 x2 => ∀ (H : Heap) (locs : List Loc) (ls : Array Slot), va_P D vwCl (mW ad cI cZ cL S) H → va_D A (mW ad cI cZ cL S) → va_S A s.heap H locs → lv_has ls 7 [(0, .ref (ad 0)), (1, .int x1), (2, .int x2)] → W p l e (mrm 4 100) s m args below meth c H locs 0 0 Q (F0 m 57 ls [])) := ⟨_, rfl⟩
  obtain ⟨B96, hB96⟩ : ∃ B : MS → Int32 → Int32 → Int32 → Int32 → Prop, B = (fun S x1 x2 x3 x4 => ∀ (H : Heap) (locs : List Loc) (ls : Array Slot), va_P D vwCl (mW ad cI cZ cL S) H → va_D A (mW ad cI cZ cL S) → va_S A s.heap H locs → lv_has ls 7 [(0, .ref (ad 0)), (1, .int x1), (2, .int x2), (3, .int x3), (4, .int x4)] → W p l e (mrm 4 100) s m args below meth c H locs 0 0 Q (F0 m 96 ls [])) := ⟨_, rfl⟩
  obtain ⟨B108, hB108⟩ : ∃ B : MS → Int32 → Int32 → Int32 → Int32 → Int32 → Prop, B = (fun S x1 x2 x3 x4 x5 => ∀ (H : Heap) (locs : List Loc) (ls : Array Slot), va_P D vwCl (mW ad cI cZ cL S) H → va_D A (mW ad cI cZ cL S) → va_S A s.heap H locs → lv_has ls 7 [(0, .ref (ad 0)), (1, .int x1), (2, .int x2), (3, .int x3), (4, .int x4), (5, .int x5)] → W p l e (mrm 4 100) s m args below meth c H locs 0 0 Q (F0 m 108 ls [])) := ⟨_, rfl⟩
  obtain ⟨B158, hB158⟩ : ∃ B : MS → Int32 → Int32 → Int32 → Int32 → Int32 → Prop, B = (fun S x1 x2 x3 x4 x5 => ∀ (H : Heap) (locs : List Loc) (ls : Array Slot), va_P D vwCl (mW ad cI cZ cL S) H → va_D A (mW ad cI cZ cL S) → va_S A s.heap H locs → lv_has ls 7 [(0, .ref (ad 0)), (1, .int x1), (2, .int x2), (3, .int x3), (4, .int x4), (5, .int x5)] → W p l e (mrm 4 100) s m args below meth c H locs 0 0 Q (F0 m 158 ls [])) := ⟨_, rfl⟩
  obtain ⟨B190, hB190⟩ : ∃ B : MS → Int32 → Int32 → Prop, B = (fun S x1 x2 => ∀ (H : Heap) (locs : List Loc) (ls : Array Slot), va_P D vwCl (mW ad cI cZ cL S) H → va_D A (mW ad cI cZ cL S) → va_S A s.heap H locs → lv_has ls 7 [(0, .ref (ad 0)), (1, .int x1), (2, .int x2)] → W p l e (mrm 4 100) s m args below meth c H locs 0 0 Q (F0 m 190 ls [])) := ⟨_, rfl⟩
  obtain ⟨B209, hB209⟩ : ∃ B : MS → Int32 → Int32 → Int32 → Int32 → Prop, B = (fun S x1 x2 x3 x4 => ∀ (H : Heap) (locs : List Loc) (ls : Array Slot), va_P D vwCl (mW ad cI cZ cL S) H → va_D A (mW ad cI cZ cL S) → va_S A s.heap H locs → lv_has ls 7 [(0, .ref (ad 0)), (1, .int x1), (2, .int x2), (3, .int x3), (4, .int x4)] → W p l e (mrm 4 100) s m args below meth c H locs 0 0 Q (F0 m 209 ls [])) := ⟨_, rfl⟩
  obtain ⟨B226, hB226⟩ : ∃ B : MS → Int32 → Int32 → Int32 → Int32 → Int32 → Prop, B = (fun S x1 x2 x3 x4 x5 => ∀ (H : Heap) (locs : List Loc) (ls : Array Slot), va_P D vwCl (mW ad cI cZ cL S) H → va_D A (mW ad cI cZ cL S) → va_S A s.heap H locs → lv_has ls 7 [(0, .ref (ad 0)), (1, .int x1), (2, .int x2), (3, .int x3), (4, .int x4), (5, .int x5)] → W p l e (mrm 4 100) s m args below meth c H locs 0 0 Q (F0 m 226 ls [])) := ⟨_, rfl⟩
  obtain ⟨B307, hB307⟩ : ∃ B : MS → Int32 → Int32 → Int32 → Int32 → Int32 → Prop, B = (fun S x1 x2 x3 x4 x5 => ∀ (H : Heap) (locs : List Loc) (ls : Array Slot), va_P D vwCl (mW ad cI cZ cL S) H → va_D A (mW ad cI cZ cL S) → va_S A s.heap H locs → lv_has ls 7 [(0, .ref (ad 0)), (1, .int x1), (2, .int x2), (3, .int x3), (4, .int x4), (5, .int x5)] → W p l e (mrm 4 100) s m args below meth c H locs 0 0 Q (F0 m 307 ls [])) := ⟨_, rfl⟩
  obtain ⟨B313, hB313⟩ : ∃ B : MS → Int32 → Int32 → Int32 → Int32 → Prop, B = (fun S x1 x2 x3 x4 => ∀ (H : Heap) (locs : List Loc) (ls : Array Slot), va_P D vwCl (mW ad cI cZ cL S) H → va_D A (mW ad cI cZ cL S) → va_S A s.heap H locs → lv_has ls 7 [(0, .ref (ad 0)), (1, .int x1), (2, .int x2), (3, .int x3), (4, .int x4)] → W p l e (mrm 4 100) s m args below meth c H locs 0 0 Q (F0 m 313 ls [])) := ⟨_, rfl⟩
  obtain ⟨B319, hB319⟩ : ∃ B : MS → Int32 → Int32 → Prop, B = (fun S x1 x3 => ∀ (H : Heap) (locs : List Loc) (ls : Array Slot), va_P D vwCl (mW ad cI cZ cL S) H → va_D A (mW ad cI cZ cL S) → va_S A s.heap H locs → lv_has ls 7 [(0, .ref (ad 0)), (1, .int x1), (3, .int x3)] → W p l e (mrm 4 100) s m args below meth c H locs 0 0 Q (F0 m 319 ls [])) := ⟨_, rfl⟩
  have hT : mT_plan_e l post B57 B96 B108 B158 B190 B209 B226 B307 B313 B319 S0 := by
    refine h B57 B96 B108 B158 B190 B209 B226 B307 B313 B319 ?_ ?_ ?_ ?_ ?_ ?_ ?_ ?_ ?_ ?_
    · clear hP hD hS hl H locs ls
      intro S x1 x2 hT
      unfold mT_plan_57 at hT
      rw [hB57]
      intro H locs ls hP hD hS hl
      refine lv_iload_n hx hb dX9_plan_57 rfl (lv_at hl 2 rfl) ?_
      refine lv_if_lt (tgt := 176) hx hb dX9_plan_58 (by decide) (fun c1 => ?_) (fun c1 => ?_)
      · replace hT := hT.1 c1
        refine lv_aload_n hx hb dX9_plan_176 rfl (lv_at hl 0 rfl) ?_
        refine lv_iconst (v := 0) hx hb dX9_plan_177 (by decide) ?_
        refine mp_planned hx hb hts hown hK hP hD hS dX9_plan_178 (fun H locs hP hD hS => ?_)
        refine lv_aload_n hx hb dX9_plan_181 rfl (lv_at hl 0 rfl) ?_
        refine lv_aload_n hx hb dX9_plan_182 rfl (lv_at hl 0 rfl) ?_
        refine mg_stand hx hb hts hown hK hP dX9_plan_183 ?_
        refine mcallI (n := 1) (rest := []) hT hx hb hml hown hts hK hA hP hD hS hl gg_184 hd_X9_pack ⟨Nat.le_of_ble_eq_true rfl, Nat.le_of_ble_eq_true rfl⟩ rfl rfl (Nat.le_of_ble_eq_true rfl) dX9_plan_186 (Nat.zero_le _) (Nat.zero_le _) (fun r3 S2 H locs hP hD hS hT => ?_)
        refine lv_istore_n (lv' := [(2, .int r3), (0, .ref (ad 0)), (1, .int x1)]) hx hb dX9_plan_189 rfl hl (by decide) rfl (fun ls hl => ?_)
        rw [hB190] at hT
        exact hT _ _ _ hP hD hS (lv_sub hl [1, 2, 0] rfl)
      · replace hT := hT.2 c1
        refine lv_aload_n hx hb dX9_plan_61 rfl (lv_at hl 0 rfl) ?_
        refine mg_met hx hb hts hown hK hP dX9_plan_62 ?_
        refine lv_iload_n hx hb dX9_plan_65 rfl (lv_at hl 2 rfl) ?_
        obtain ⟨hi4, hT⟩ := hT
        refine va_iald (f := S.2.1 14) hx hb hK hP 14 0 mat_14 rfl hi4 dX9_plan_66 ?_
        refine lv_topi (fun v3_5 ev3_5 => ?_)
        replace hT := hT v3_5 ev3_5
        refine lv_istore_n (lv' := [(3, .int v3_5), (0, .ref (ad 0)), (1, .int x1), (2, .int x2)]) hx hb dX9_plan_67 rfl hl (by decide) rfl (fun ls hl => ?_)
        refine lv_aload_n hx hb dX9_plan_68 rfl (lv_at hl 1 rfl) ?_
        refine mg_isGood hx hb hts hown hK hP dX9_plan_69 ?_
        refine lv_iload_n hx hb dX9_plan_72 rfl (lv_at hl 0 rfl) ?_
        refine lv_iload_n hx hb dX9_plan_73 rfl (lv_at hl 0 rfl) ?_
        refine lv_iload_n hx hb dX9_plan_74 rfl (lv_at hl 2 rfl) ?_
        refine lv_icmp_ne (tgt := 82) hx hb dX9_plan_75 (by decide) (fun c6 => ?_) (fun c6 => ?_)
        · replace hT := hT.1 c6
          refine lv_iconst (v := 0) hx hb dX9_plan_82 (by decide) ?_
          obtain ⟨hi7, hT⟩ := hT
          refine va_zast (f := S.2.1 16) hx hb hK hP hD hS 16 1 mat_16 rfl hi7 dX9_plan_83 (fun H locs hP hD hS => ?_)
          replace hP := msetP_16 hP
          replace hD := msetD_16 hD
          refine lv_aload_n hx hb dX9_plan_84 rfl (lv_at hl 1 rfl) ?_
          refine lv_iload_n hx hb dX9_plan_85 rfl (lv_at hl 0 rfl) ?_
          refine lv_aload_n hx hb dX9_plan_86 rfl (lv_at hl 1 rfl) ?_
          refine mg_at hx hb hts hown hK hP dX9_plan_87 ?_
          refine mcallV (n := 2) (rest := []) hT hx hb hml hown hts hK hA hP hD hS hl gg_180 hd_X9_unpack ⟨Nat.le_of_ble_eq_true rfl, Nat.le_of_ble_eq_true rfl⟩ rfl rfl (Nat.le_of_ble_eq_true rfl) dX9_plan_90 (Nat.zero_le _) (Nat.zero_le _) (fun S8 H locs hP hD hS hT => ?_)
          refine lv_iconst (v := 0) hx hb dX9_plan_93 (by decide) ?_
          refine lv_istore (lv' := [(4, .int 0), (3, .int v3_5), (0, .ref (ad 0)), (1, .int x1), (2, .int x2)]) hx hb dX9_plan_94 hl (by decide) rfl (fun ls hl => ?_)
          rw [hB96] at hT
          exact hT _ _ _ hP hD hS (lv_sub hl [2, 3, 4, 1, 0] rfl)
        · replace hT := hT.2 c6
          refine lv_iconst (v := 1) hx hb dX9_plan_78 (by decide) ?_
          refine lv_goto (tgt := 83) hx hb dX9_plan_79 (by decide) ?_
          obtain ⟨hi9, hT⟩ := hT
          refine va_zast (f := S.2.1 16) hx hb hK hP hD hS 16 1 mat_16 rfl hi9 dX9_plan_83 (fun H locs hP hD hS => ?_)
          replace hP := msetP_16 hP
          replace hD := msetD_16 hD
          refine lv_aload_n hx hb dX9_plan_84 rfl (lv_at hl 1 rfl) ?_
          refine lv_iload_n hx hb dX9_plan_85 rfl (lv_at hl 0 rfl) ?_
          refine lv_aload_n hx hb dX9_plan_86 rfl (lv_at hl 1 rfl) ?_
          refine mg_at hx hb hts hown hK hP dX9_plan_87 ?_
          refine mcallV (n := 2) (rest := []) hT hx hb hml hown hts hK hA hP hD hS hl gg_180 hd_X9_unpack ⟨Nat.le_of_ble_eq_true rfl, Nat.le_of_ble_eq_true rfl⟩ rfl rfl (Nat.le_of_ble_eq_true rfl) dX9_plan_90 (Nat.zero_le _) (Nat.zero_le _) (fun S10 H locs hP hD hS hT => ?_)
          refine lv_iconst (v := 0) hx hb dX9_plan_93 (by decide) ?_
          refine lv_istore (lv' := [(4, .int 0), (3, .int v3_5), (0, .ref (ad 0)), (1, .int x1), (2, .int x2)]) hx hb dX9_plan_94 hl (by decide) rfl (fun ls hl => ?_)
          rw [hB96] at hT
          exact hT _ _ _ hP hD hS (lv_sub hl [2, 3, 4, 1, 0] rfl)
    · clear hP hD hS hl H locs ls
      intro S x1 x2 x3 x4 hT
      unfold mT_plan_96 at hT
      rw [hB96]
      intro H locs ls hP hD hS hl
      refine lv_iload hx hb dX9_plan_96 (lv_at hl 4 rfl) ?_
      refine lv_aload_n hx hb dX9_plan_98 rfl (lv_at hl 0 rfl) ?_
      refine mg_pegs (v := S.1 0) hx hb hts hown hK hP rfl dX9_plan_99 ?_
      refine lv_icmp_ge (tgt := 170) hx hb dX9_plan_102 (by decide) (fun c11 => ?_) (fun c11 => ?_)
      · replace hT := hT.1 c11
        refine lv_iinc (v := x2 + (-1)) (lv' := [(2, .int (x2 + (-1))), (0, .ref (ad 0)), (1, .int x1), (3, .int x3), (4, .int x4)]) hx hb dX9_plan_170 hl (k := 2) rfl rfl (by decide) rfl (fun ls hl => ?_)
        refine lv_goto (tgt := 57) hx hb dX9_plan_173 (by decide) ?_
        rw [hB57] at hT
        exact hT _ _ _ hP hD hS (lv_sub hl [1, 2, 0] rfl)
      · replace hT := hT.2 c11
        refine lv_iconst (v := 0) hx hb dX9_plan_105 (by decide) ?_
        refine lv_istore (lv' := [(5, .int 0), (0, .ref (ad 0)), (1, .int x1), (2, .int x2), (3, .int x3), (4, .int x4)]) hx hb dX9_plan_106 hl (by decide) rfl (fun ls hl => ?_)
        rw [hB108] at hT
        exact hT _ _ _ hP hD hS (lv_sub hl [1, 2, 3, 4, 5, 0] rfl)
    · clear hP hD hS hl H locs ls
      intro S x1 x2 x3 x4 x5 hT
      unfold mT_plan_108 at hT
      rw [hB108]
      intro H locs ls hP hD hS hl
      refine lv_iload hx hb dX9_plan_108 (lv_at hl 5 rfl) ?_
      refine lv_aload_n hx hb dX9_plan_110 rfl (lv_at hl 0 rfl) ?_
      refine mg_pegs (v := S.1 0) hx hb hts hown hK hP rfl dX9_plan_111 ?_
      refine lv_icmp_ge (tgt := 164) hx hb dX9_plan_114 (by decide) (fun c12 => ?_) (fun c12 => ?_)
      · replace hT := hT.1 c12
        refine lv_iinc (v := x4 + 1) (lv' := [(4, .int (x4 + 1)), (0, .ref (ad 0)), (1, .int x1), (2, .int x2), (3, .int x3), (5, .int x5)]) hx hb dX9_plan_164 hl (k := 4) rfl rfl (by decide) rfl (fun ls hl => ?_)
        refine lv_goto (tgt := 96) hx hb dX9_plan_167 (by decide) ?_
        rw [hB96] at hT
        exact hT _ _ _ hP hD hS (lv_sub hl [1, 2, 3, 4, 0] rfl)
      · replace hT := hT.2 c12
        refine lv_aload_n hx hb dX9_plan_117 rfl (lv_at hl 0 rfl) ?_
        refine lv_iload hx hb dX9_plan_118 (lv_at hl 4 rfl) ?_
        refine lv_iload hx hb dX9_plan_120 (lv_at hl 5 rfl) ?_
        refine mcallI (n := 2) (rest := []) hT hx hb hml hown hts hK hA hP hD hS hl gg_211 hd_X9_leads ⟨Nat.le_of_ble_eq_true rfl, Nat.le_of_ble_eq_true rfl⟩ rfl rfl (Nat.le_of_ble_eq_true rfl) dX9_plan_122 (Nat.zero_le _) (Nat.zero_le _) (fun r14 S13 H locs hP hD hS hT => ?_)
        refine lv_istore (lv' := [(6, .int r14), (0, .ref (ad 0)), (1, .int x1), (2, .int x2), (3, .int x3), (4, .int x4), (5, .int x5)]) hx hb dX9_plan_125 hl (by decide) rfl (fun ls hl => ?_)
        refine lv_aload_n hx hb dX9_plan_127 rfl (lv_at hl 1 rfl) ?_
        refine lv_iload_n hx hb dX9_plan_128 rfl (lv_at hl 4 rfl) ?_
        refine lv_iload hx hb dX9_plan_129 (lv_at hl 0 rfl) ?_
        refine lv_iload hx hb dX9_plan_131 (lv_at hl 5 rfl) ?_
        refine lv_iload hx hb dX9_plan_133 (lv_at hl 6 rfl) ?_
        refine mcallZ (n := 4) (rest := []) hT hx hb hml hown hts hK hA hP hD hS hl gg_222 hd_X9_isNear ⟨Nat.le_of_ble_eq_true rfl, Nat.le_of_ble_eq_true rfl⟩ rfl rfl (Nat.le_of_ble_eq_true rfl) dX9_plan_135 (Nat.zero_le _) (Nat.zero_le _) (fun b16 S15 H locs hP hD hS hT => ?_)
        refine lv_if_eq (tgt := 158) hx hb dX9_plan_138 (by decide) (fun c17 => ?_) (fun c17 => ?_)
        · replace hT := hT.1 c17
          rw [hB158] at hT
          exact hT _ _ _ hP hD hS (lv_sub hl [1, 2, 3, 4, 5, 6] rfl)
        · replace hT := hT.2 c17
          refine lv_aload_n hx hb dX9_plan_141 rfl (lv_at hl 1 rfl) ?_
          refine mg_isGood hx hb hts hown hK hP dX9_plan_142 ?_
          refine lv_iload hx hb dX9_plan_145 (lv_at hl 0 rfl) ?_
          obtain ⟨hi18, hT⟩ := hT
          refine va_zald (f := S15.2.1 16) hx hb hK hP 16 1 mat_16 rfl hi18 dX9_plan_147 ?_
          refine lv_if_eq (tgt := 158) hx hb dX9_plan_148 (by decide) (fun c19 => ?_) (fun c19 => ?_)
          · replace hT := hT.1 c19
            rw [hB158] at hT
            exact hT _ _ _ hP hD hS (lv_sub hl [1, 2, 3, 4, 5, 6] rfl)
          · replace hT := hT.2 c19
            refine lv_aload_n hx hb dX9_plan_151 rfl (lv_at hl 1 rfl) ?_
            refine mg_isGood hx hb hts hown hK hP dX9_plan_152 ?_
            refine lv_iload_n hx hb dX9_plan_155 rfl (lv_at hl 4 rfl) ?_
            refine lv_iconst (v := 1) hx hb dX9_plan_156 (by decide) ?_
            obtain ⟨hi20, hT⟩ := hT
            refine va_zast (f := S15.2.1 16) hx hb hK hP hD hS 16 1 mat_16 rfl hi20 dX9_plan_157 (fun H locs hP hD hS => ?_)
            replace hP := msetP_16 hP
            replace hD := msetD_16 hD
            rw [hB158] at hT
            exact hT _ _ _ hP hD hS (lv_sub hl [1, 2, 3, 4, 5, 6] rfl)
    · clear hP hD hS hl H locs ls
      intro S x1 x2 x3 x4 x5 hT
      unfold mT_plan_158 at hT
      rw [hB158]
      intro H locs ls hP hD hS hl
      refine lv_iinc (v := x5 + 1) (lv' := [(5, .int (x5 + 1)), (0, .ref (ad 0)), (1, .int x1), (2, .int x2), (3, .int x3), (4, .int x4)]) hx hb dX9_plan_158 hl (k := 5) rfl rfl (by decide) rfl (fun ls hl => ?_)
      refine lv_goto (tgt := 108) hx hb dX9_plan_161 (by decide) ?_
      rw [hB108] at hT
      exact hT _ _ _ hP hD hS (lv_sub hl [1, 2, 3, 4, 5, 0] rfl)
    · clear hP hD hS hl H locs ls
      intro S x1 x2 hT
      unfold mT_plan_190 at hT
      rw [hB190]
      intro H locs ls hP hD hS hl
      refine lv_iload_n hx hb dX9_plan_190 rfl (lv_at hl 2 rfl) ?_
      refine lv_iload_n hx hb dX9_plan_191 rfl (lv_at hl 1 rfl) ?_
      refine lv_icmp_eq (tgt := 324) hx hb dX9_plan_192 (by decide) (fun c21 => ?_) (fun c21 => ?_)
      · replace hT := hT.1 c21
        refine lv_aload_n hx hb dX9_plan_324 rfl (lv_at hl 0 rfl) ?_
        refine mg_planned (v := S.1 6) hx hb hts hown hK hP rfl dX9_plan_325 ?_
        exact hret _ _ _ _ _ _ hP hD hS hT dX9_plan_328
      · replace hT := hT.2 c21
        refine lv_aload_n hx hb dX9_plan_195 rfl (lv_at hl 0 rfl) ?_
        refine lv_iload_n hx hb dX9_plan_196 rfl (lv_at hl 2 rfl) ?_
        refine lv_aload_n hx hb dX9_plan_197 rfl (lv_at hl 0 rfl) ?_
        refine mg_at hx hb hts hown hK hP dX9_plan_198 ?_
        refine mcallV (n := 2) (rest := []) hT hx hb hml hown hts hK hA hP hD hS hl gg_180 hd_X9_unpack ⟨Nat.le_of_ble_eq_true rfl, Nat.le_of_ble_eq_true rfl⟩ rfl rfl (Nat.le_of_ble_eq_true rfl) dX9_plan_201 (Nat.zero_le _) (Nat.zero_le _) (fun S22 H locs hP hD hS hT => ?_)
        refine lv_iconst (v := (-1)) hx hb dX9_plan_204 (by decide) ?_
        refine lv_istore_n (lv' := [(3, .int (-1)), (0, .ref (ad 0)), (1, .int x1), (2, .int x2)]) hx hb dX9_plan_205 rfl hl (by decide) rfl (fun ls hl => ?_)
        refine lv_iconst (v := 0) hx hb dX9_plan_206 (by decide) ?_
        refine lv_istore (lv' := [(4, .int 0), (3, .int (-1)), (0, .ref (ad 0)), (1, .int x1), (2, .int x2)]) hx hb dX9_plan_207 hl (by decide) rfl (fun ls hl => ?_)
        rw [hB209] at hT
        exact hT _ _ _ hP hD hS (lv_sub hl [2, 3, 4, 1, 0] rfl)
    · clear hP hD hS hl H locs ls
      intro S x1 x2 x3 x4 hT
      unfold mT_plan_209 at hT
      rw [hB209]
      intro H locs ls hP hD hS hl
      refine lv_iload hx hb dX9_plan_209 (lv_at hl 4 rfl) ?_
      refine lv_aload_n hx hb dX9_plan_211 rfl (lv_at hl 0 rfl) ?_
      refine mg_pegs (v := S.1 0) hx hb hts hown hK hP rfl dX9_plan_212 ?_
      refine lv_icmp_ge (tgt := 319) hx hb dX9_plan_215 (by decide) (fun c23 => ?_) (fun c23 => ?_)
      · replace hT := hT.1 c23
        rw [hB319] at hT
        exact hT _ _ _ hP hD hS (lv_sub hl [0, 1, 3] rfl)
      · replace hT := hT.2 c23
        refine lv_iload_n hx hb dX9_plan_218 rfl (lv_at hl 3 rfl) ?_
        refine lv_iconst (v := (-1)) hx hb dX9_plan_219 (by decide) ?_
        refine lv_icmp_ne (tgt := 319) hx hb dX9_plan_220 (by decide) (fun c24 => ?_) (fun c24 => ?_)
        · replace hT := hT.1 c24
          rw [hB319] at hT
          exact hT _ _ _ hP hD hS (lv_sub hl [0, 1, 3] rfl)
        · replace hT := hT.2 c24
          refine lv_iconst (v := 0) hx hb dX9_plan_223 (by decide) ?_
          refine lv_istore (lv' := [(5, .int 0), (0, .ref (ad 0)), (1, .int x1), (2, .int x2), (3, .int x3), (4, .int x4)]) hx hb dX9_plan_224 hl (by decide) rfl (fun ls hl => ?_)
          rw [hB226] at hT
          exact hT _ _ _ hP hD hS (lv_sub hl [1, 2, 3, 4, 5, 0] rfl)
    · clear hP hD hS hl H locs ls
      intro S x1 x2 x3 x4 x5 hT
      unfold mT_plan_226 at hT
      rw [hB226]
      intro H locs ls hP hD hS hl
      refine lv_iload hx hb dX9_plan_226 (lv_at hl 5 rfl) ?_
      refine lv_aload_n hx hb dX9_plan_228 rfl (lv_at hl 0 rfl) ?_
      refine mg_pegs (v := S.1 0) hx hb hts hown hK hP rfl dX9_plan_229 ?_
      refine lv_icmp_ge (tgt := 313) hx hb dX9_plan_232 (by decide) (fun c25 => ?_) (fun c25 => ?_)
      · replace hT := hT.1 c25
        rw [hB313] at hT
        exact hT _ _ _ hP hD hS (lv_sub hl [0, 1, 2, 3, 4] rfl)
      · replace hT := hT.2 c25
        refine lv_iload_n hx hb dX9_plan_235 rfl (lv_at hl 3 rfl) ?_
        refine lv_iconst (v := (-1)) hx hb dX9_plan_236 (by decide) ?_
        refine lv_icmp_ne (tgt := 313) hx hb dX9_plan_237 (by decide) (fun c26 => ?_) (fun c26 => ?_)
        · replace hT := hT.1 c26
          rw [hB313] at hT
          exact hT _ _ _ hP hD hS (lv_sub hl [0, 1, 2, 3, 4] rfl)
        · replace hT := hT.2 c26
          refine lv_aload_n hx hb dX9_plan_240 rfl (lv_at hl 0 rfl) ?_
          refine lv_iload hx hb dX9_plan_241 (lv_at hl 4 rfl) ?_
          refine lv_iload hx hb dX9_plan_243 (lv_at hl 5 rfl) ?_
          refine mcallI (n := 2) (rest := []) hT hx hb hml hown hts hK hA hP hD hS hl gg_211 hd_X9_leads ⟨Nat.le_of_ble_eq_true rfl, Nat.le_of_ble_eq_true rfl⟩ rfl rfl (Nat.le_of_ble_eq_true rfl) dX9_plan_245 (Nat.zero_le _) (Nat.zero_le _) (fun r28 S27 H locs hP hD hS hT => ?_)
          refine lv_istore (lv' := [(6, .int r28), (0, .ref (ad 0)), (1, .int x1), (2, .int x2), (3, .int x3), (4, .int x4), (5, .int x5)]) hx hb dX9_plan_248 hl (by decide) rfl (fun ls hl => ?_)
          refine lv_aload_n hx hb dX9_plan_250 rfl (lv_at hl 1 rfl) ?_
          refine lv_iload_n hx hb dX9_plan_251 rfl (lv_at hl 3 rfl) ?_
          refine lv_iload hx hb dX9_plan_252 (lv_at hl 0 rfl) ?_
          refine lv_iload hx hb dX9_plan_254 (lv_at hl 5 rfl) ?_
          refine lv_iload hx hb dX9_plan_256 (lv_at hl 6 rfl) ?_
          refine mcallZ (n := 4) (rest := []) hT hx hb hml hown hts hK hA hP hD hS hl gg_222 hd_X9_isNear ⟨Nat.le_of_ble_eq_true rfl, Nat.le_of_ble_eq_true rfl⟩ rfl rfl (Nat.le_of_ble_eq_true rfl) dX9_plan_258 (Nat.zero_le _) (Nat.zero_le _) (fun b30 S29 H locs hP hD hS hT => ?_)
          refine lv_if_eq (tgt := 307) hx hb dX9_plan_261 (by decide) (fun c31 => ?_) (fun c31 => ?_)
          · replace hT := hT.1 c31
            rw [hB307] at hT
            exact hT _ _ _ hP hD hS (lv_sub hl [1, 2, 3, 4, 5, 6] rfl)
          · replace hT := hT.2 c31
            refine lv_aload_n hx hb dX9_plan_264 rfl (lv_at hl 1 rfl) ?_
            refine mg_isGood hx hb hts hown hK hP dX9_plan_265 ?_
            refine lv_iload hx hb dX9_plan_268 (lv_at hl 0 rfl) ?_
            obtain ⟨hi32, hT⟩ := hT
            refine va_zald (f := S29.2.1 16) hx hb hK hP 16 1 mat_16 rfl hi32 dX9_plan_270 ?_
            refine lv_if_ne (tgt := 277) hx hb dX9_plan_271 (by decide) (fun c33 => ?_) (fun c33 => ?_)
            · replace hT := hT.1 c33
              refine lv_iload hx hb dX9_plan_277 (lv_at hl 0 rfl) ?_
              refine lv_istore_n (lv' := [(3, .int r28), (6, .int r28), (0, .ref (ad 0)), (1, .int x1), (2, .int x2), (4, .int x4), (5, .int x5)]) hx hb dX9_plan_279 rfl hl (by decide) rfl (fun ls hl => ?_)
              refine lv_aload_n hx hb dX9_plan_280 rfl (lv_at hl 2 rfl) ?_
              refine mg_plan hx hb hts hown hK hP dX9_plan_281 ?_
              refine lv_aload_n hx hb dX9_plan_284 rfl (lv_at hl 2 rfl) ?_
              refine mg_planned (v := S29.1 6) hx hb hts hown hK hP rfl dX9_plan_285 ?_
              refine lv_bipush (v := 10) hx hb dX9_plan_288 (by decide) ?_
              refine lv_iload hx hb dX9_plan_290 (lv_at hl 5 rfl) ?_
              refine lv_imul hx hb dX9_plan_292 ?_
              refine lv_iload hx hb dX9_plan_293 (lv_at hl 6 rfl) ?_
              refine lv_iadd hx hb dX9_plan_295 ?_
              obtain ⟨hi34, hT⟩ := hT
              refine va_iast (f := S29.2.1 7) hx hb hK hP hD hS 7 0 mat_7 rfl hi34 dX9_plan_296 (fun H locs hP hD hS => ?_)
              replace hP := msetP_7 hP
              replace hD := msetD_7 hD
              refine lv_aload_n hx hb dX9_plan_297 rfl (lv_at hl 2 rfl) ?_
              refine lv_dup hx hb dX9_plan_298 rfl ?_
              refine mg_planned (v := S29.1 6) hx hb hts hown hK hP rfl dX9_plan_299 ?_
              refine lv_iconst (v := 1) hx hb dX9_plan_302 (by decide) ?_
              refine lv_iadd hx hb dX9_plan_303 ?_
              refine mp_planned hx hb hts hown hK hP hD hS dX9_plan_304 (fun H locs hP hD hS => ?_)
              rw [hB307] at hT
              exact hT _ _ _ hP hD hS (lv_sub hl [2, 3, 4, 0, 5, 6] rfl)
            · replace hT := hT.2 c33
              refine lv_goto (tgt := 307) hx hb dX9_plan_274 (by decide) ?_
              rw [hB307] at hT
              exact hT _ _ _ hP hD hS (lv_sub hl [1, 2, 3, 4, 5, 6] rfl)
    · clear hP hD hS hl H locs ls
      intro S x1 x2 x3 x4 x5 hT
      unfold mT_plan_307 at hT
      rw [hB307]
      intro H locs ls hP hD hS hl
      refine lv_iinc (v := x5 + 1) (lv' := [(5, .int (x5 + 1)), (0, .ref (ad 0)), (1, .int x1), (2, .int x2), (3, .int x3), (4, .int x4)]) hx hb dX9_plan_307 hl (k := 5) rfl rfl (by decide) rfl (fun ls hl => ?_)
      refine lv_goto (tgt := 226) hx hb dX9_plan_310 (by decide) ?_
      rw [hB226] at hT
      exact hT _ _ _ hP hD hS (lv_sub hl [1, 2, 3, 4, 5, 0] rfl)
    · clear hP hD hS hl H locs ls
      intro S x1 x2 x3 x4 hT
      unfold mT_plan_313 at hT
      rw [hB313]
      intro H locs ls hP hD hS hl
      refine lv_iinc (v := x4 + 1) (lv' := [(4, .int (x4 + 1)), (0, .ref (ad 0)), (1, .int x1), (2, .int x2), (3, .int x3)]) hx hb dX9_plan_313 hl (k := 4) rfl rfl (by decide) rfl (fun ls hl => ?_)
      refine lv_goto (tgt := 209) hx hb dX9_plan_316 (by decide) ?_
      rw [hB209] at hT
      exact hT _ _ _ hP hD hS (lv_sub hl [1, 2, 3, 4, 0] rfl)
    · clear hP hD hS hl H locs ls
      intro S x1 x3 hT
      unfold mT_plan_319 at hT
      rw [hB319]
      intro H locs ls hP hD hS hl
      refine lv_iload_n hx hb dX9_plan_319 rfl (lv_at hl 2 rfl) ?_
      refine lv_istore_n (lv' := [(2, .int x3), (0, .ref (ad 0)), (1, .int x1), (3, .int x3)]) hx hb dX9_plan_320 rfl hl (by decide) rfl (fun ls hl => ?_)
      refine lv_goto (tgt := 190) hx hb dX9_plan_321 (by decide) ?_
      rw [hB190] at hT
      exact hT _ _ _ hP hD hS (lv_sub hl [1, 2, 0] rfl)
  unfold mT_plan_e at hT
  refine lv_aload_n hx hb dX9_plan_0 rfl (lv_at hl 0 rfl) ?_
  refine lv_iconst (v := 0) hx hb dX9_plan_1 (by decide) ?_
  refine mp_thrown hx hb hts hown hK hP hD hS dX9_plan_2 (fun H locs hP hD hS => ?_)
  refine lv_aload_n hx hb dX9_plan_5 rfl (lv_at hl 0 rfl) ?_
  refine mcallZ (n := 0) (rest := []) hT hx hb hml hown hts hK hA hP hD hS hl gg_215 hd_X9_fits ⟨Nat.le_of_ble_eq_true rfl, Nat.le_of_ble_eq_true rfl⟩ rfl rfl (Nat.le_of_ble_eq_true rfl) dX9_plan_6 (Nat.zero_le _) (Nat.zero_le _) (fun b36 S35 H locs hP hD hS hT => ?_)
  refine lv_if_ne (tgt := 18) hx hb dX9_plan_9 (by decide) (fun c37 => ?_) (fun c37 => ?_)
  · replace hT := hT.1 c37
    refine lv_aload_n hx hb dX9_plan_18 rfl (lv_at hl 0 rfl) ?_
    refine lv_iconst (v := 0) hx hb dX9_plan_19 (by decide) ?_
    refine mp_trouble hx hb hts hown hK hP hD hS dX9_plan_20 (fun H locs hP hD hS => ?_)
    refine lv_aload_n hx hb dX9_plan_23 rfl (lv_at hl 0 rfl) ?_
    refine mcallV (n := 0) (rest := []) hT hx hb hml hown hts hK hA hP hD hS hl gg_219 hd_X9_measure ⟨Nat.le_of_ble_eq_true rfl, Nat.le_of_ble_eq_true rfl⟩ rfl rfl (Nat.le_of_ble_eq_true rfl) dX9_plan_24 (Nat.zero_le _) (Nat.zero_le _) (fun S38 H locs hP hD hS hT => ?_)
    refine lv_aload_n hx hb dX9_plan_27 rfl (lv_at hl 0 rfl) ?_
    refine lv_aload_n hx hb dX9_plan_28 rfl (lv_at hl 0 rfl) ?_
    refine mg_goal hx hb hts hown hK hP dX9_plan_29 ?_
    refine mcallI (n := 1) (rest := []) hT hx hb hml hown hts hK hA hP hD hS hl gg_184 hd_X9_pack ⟨Nat.le_of_ble_eq_true rfl, Nat.le_of_ble_eq_true rfl⟩ rfl rfl (Nat.le_of_ble_eq_true rfl) dX9_plan_32 (Nat.zero_le _) (Nat.zero_le _) (fun r40 S39 H locs hP hD hS hT => ?_)
    refine lv_istore_n (lv' := [(1, .int r40), (0, .ref (ad 0))]) hx hb dX9_plan_35 rfl hl (by decide) rfl (fun ls hl => ?_)
    refine lv_aload_n hx hb dX9_plan_36 rfl (lv_at hl 1 rfl) ?_
    refine mg_far hx hb hts hown hK hP dX9_plan_37 ?_
    refine lv_iload_n hx hb dX9_plan_40 rfl (lv_at hl 0 rfl) ?_
    obtain ⟨hi41, hT⟩ := hT
    refine va_iald (f := S39.2.1 10) hx hb hK hP 10 0 mat_10 rfl hi41 dX9_plan_41 ?_
    refine lv_ldc (v := 2147483647) hx hb hown (hts _ k_1101) dX9_plan_42 ?_
    refine lv_icmp_ne (tgt := 50) hx hb dX9_plan_44 (by decide) (fun c42 => ?_) (fun c42 => ?_)
    · replace hT := hT.1 c42
      refine lv_aload_n hx hb dX9_plan_50 rfl (lv_at hl 1 rfl) ?_
      refine mg_metMany (v := S39.1 7) hx hb hts hown hK hP rfl dX9_plan_51 ?_
      refine lv_iconst (v := 1) hx hb dX9_plan_54 (by decide) ?_
      refine lv_isub hx hb dX9_plan_55 ?_
      refine lv_topi (fun v2_43 ev2_43 => ?_)
      replace hT := hT v2_43 ev2_43
      refine lv_istore_n (lv' := [(2, .int v2_43), (1, .int r40), (0, .ref (ad 0))]) hx hb dX9_plan_56 rfl hl (by decide) rfl (fun ls hl => ?_)
      rw [hB57] at hT
      exact hT _ _ _ hP hD hS (lv_sub hl [2, 1, 0] rfl)
    · replace hT := hT.2 c42
      refine lv_bipush (v := (-2)) hx hb dX9_plan_47 (by decide) ?_
      exact hret _ _ _ _ _ _ hP hD hS hT dX9_plan_49
  · replace hT := hT.2 c37
    refine lv_aload_n hx hb dX9_plan_12 rfl (lv_at hl 0 rfl) ?_
    refine lv_iconst (v := 2) hx hb dX9_plan_13 (by decide) ?_
    refine mcallI (n := 1) (rest := []) hT hx hb hml hown hts hK hA hP hD hS hl gg_192 hd_X9_no ⟨Nat.le_of_ble_eq_true rfl, Nat.le_of_ble_eq_true rfl⟩ rfl rfl (Nat.le_of_ble_eq_true rfl) dX9_plan_14 (Nat.zero_le _) (Nat.zero_le _) (fun r45 S44 H locs hP hD hS hT => ?_)
    exact hret _ _ _ _ _ _ hP hD hS hT dX9_plan_17
