abbrev cX_X8_size (l : Launch) (S : CS) (a1 : Int32) (post : Int32 → CS → Prop) : Prop := cCtI l yX8_size cX8_size 2 1 25 0 0 (fun ad => [.ref (ad 0), .int a1]) S post
def cT_X8_size_e (l : Launch) (a1 : Int32) (post : Int32 → CS → Prop) (S0 : CS) : Prop := (a1 = 0 → post (S0.1 3) S0) ∧ (a1 = 1 → post (S0.1 4) S0) ∧ (a1 = 2 → cX_X0_countLanes l S0 (fun r2 S1 => post r2 S1)) ∧ (a1 = 3 → post (S0.1 19) S0) ∧ (a1 = 4 → post (S0.1 9) S0) ∧ (a1 = 5 → post (S0.1 10) S0) ∧ (a1 = 6 → post (S0.1 11) S0) ∧ (a1 = 7 → cX_X0_sumOfKinds l S0 (fun r4 S3 => post r4 S3)) ∧ ((a1.toInt < 0 ∨ 7 < a1.toInt) → post (-1) S0)
set_option maxHeartbeats 4000000 in
set_option maxRecDepth 100000 in
theorem c_X8_size (l : Launch) (S0 : CS) (a1 : Int32) (post : Int32 → CS → Prop) (h : cT_X8_size_e l a1 post S0) : cX_X8_size l S0 a1 post := by
  refine csetI rfl (fun _ => Nat.le_of_ble_eq_true rfl) ?_
  intro p e s m args below meth c D ad vd cI cZ cL cG X A Q hx hb hml hown hts hK hZ hA hret H locs ls hP hD hS hl
  replace hl : lv_has ls 2 [(0, .ref (ad 0)), (1, .int a1)] := hl
  have hT := h
  unfold cT_X8_size_e at hT
  refine lv_iload_n hx hb dX8_size_0 rfl (lv_at hl 1 rfl) ?_
  by_cases csw : (a1.toInt < 0 ∨ 7 < a1.toInt)
  · replace hT := hT.2.2.2.2.2.2.2.2 csw
    refine lv_tableOut (tgt := 112) hx hb dX8_size_1 csw (by decide) ?_
    refine lv_iconst (v := (-1)) hx hb dX8_size_112 (by decide) ?_
    exact hret _ _ _ _ _ _ _ _ _ hP hD hS (Nat.le_refl _) (Nat.le_refl _) hT dX8_size_113
  · have csw : a1 = 0 ∨ a1 = 1 ∨ a1 = 2 ∨ a1 = 3 ∨ a1 = 4 ∨ a1 = 5 ∨ a1 = 6 ∨ a1 = 7 := sw_cases0_7 csw
    rcases csw with csw | csw | csw | csw | csw | csw | csw | csw
    · replace hT := hT.1 csw
      refine lv_tableIn (tgt := 48) hx hb dX8_size_1 (by rw [csw]; decide) (by rw [csw]; decide) (by rw [csw]; rfl) (by decide) ?_
      refine lv_aload_n hx hb dX8_size_48 rfl (lv_at hl 0 rfl) ?_
      refine cg_X8_10 hx hb hts hown hK hP dX8_size_49 ?_
      refine cg_X8_221 (v := S0.1 3) hx hb hts hown hK hP rfl dX8_size_52 ?_
      exact hret _ _ _ _ _ _ _ _ _ hP hD hS (Nat.le_refl _) (Nat.le_refl _) hT dX8_size_55
    · replace hT := hT.2.1 csw
      refine lv_tableIn (tgt := 56) hx hb dX8_size_1 (by rw [csw]; decide) (by rw [csw]; decide) (by rw [csw]; rfl) (by decide) ?_
      refine lv_aload_n hx hb dX8_size_56 rfl (lv_at hl 0 rfl) ?_
      refine cg_X8_10 hx hb hts hown hK hP dX8_size_57 ?_
      refine cg_X8_127 (v := S0.1 4) hx hb hts hown hK hP rfl dX8_size_60 ?_
      exact hret _ _ _ _ _ _ _ _ _ hP hD hS (Nat.le_refl _) (Nat.le_refl _) hT dX8_size_63
    · replace hT := hT.2.2.1 csw
      refine lv_tableIn (tgt := 64) hx hb dX8_size_1 (by rw [csw]; decide) (by rw [csw]; decide) (by rw [csw]; rfl) (by decide) ?_
      refine lv_aload_n hx hb dX8_size_64 rfl (lv_at hl 0 rfl) ?_
      refine cg_X8_10 hx hb hts hown hK hP dX8_size_65 ?_
      refine ccallVI (n := 0) (b := ad 1) (C := RX0) (As := []) (rest := []) hT hx hb hml hown hts hK hZ hA hP hD hS hl gc_X8_107 hdc_X0_countLanes (va_recv hK hP rfl cob_1) ⟨Nat.le_of_ble_eq_true rfl, Nat.le_of_ble_eq_true rfl⟩ rfl rfl rfl (Nat.le_of_ble_eq_true rfl) dX8_size_68 (Nat.le_refl _) (Nat.le_refl _) (fun r2 S1 vd H locs hP hD hS hT => ?_)
      exact hret _ _ _ _ _ _ _ _ _ hP hD hS (Nat.le_refl _) (Nat.le_refl _) hT dX8_size_71
    · replace hT := hT.2.2.2.1 csw
      refine lv_tableIn (tgt := 72) hx hb dX8_size_1 (by rw [csw]; decide) (by rw [csw]; decide) (by rw [csw]; rfl) (by decide) ?_
      refine lv_aload_n hx hb dX8_size_72 rfl (lv_at hl 0 rfl) ?_
      refine cg_X8_54 hx hb hts hown hK hP dX8_size_73 ?_
      refine cg_X8_239 (v := S0.1 19) hx hb hts hown hK hP rfl dX8_size_76 ?_
      exact hret _ _ _ _ _ _ _ _ _ hP hD hS (Nat.le_refl _) (Nat.le_refl _) hT dX8_size_79
    · replace hT := hT.2.2.2.2.1 csw
      refine lv_tableIn (tgt := 80) hx hb dX8_size_1 (by rw [csw]; decide) (by rw [csw]; decide) (by rw [csw]; rfl) (by decide) ?_
      refine lv_aload_n hx hb dX8_size_80 rfl (lv_at hl 0 rfl) ?_
      refine cg_X8_26 hx hb hts hown hK hP dX8_size_81 ?_
      refine cg_X8_155 (v := S0.1 9) hx hb hts hown hK hP rfl dX8_size_84 ?_
      exact hret _ _ _ _ _ _ _ _ _ hP hD hS (Nat.le_refl _) (Nat.le_refl _) hT dX8_size_87
    · replace hT := hT.2.2.2.2.2.1 csw
      refine lv_tableIn (tgt := 88) hx hb dX8_size_1 (by rw [csw]; decide) (by rw [csw]; decide) (by rw [csw]; rfl) (by decide) ?_
      refine lv_aload_n hx hb dX8_size_88 rfl (lv_at hl 0 rfl) ?_
      refine cg_X8_26 hx hb hts hown hK hP dX8_size_89 ?_
      refine cg_X8_161 (v := S0.1 10) hx hb hts hown hK hP rfl dX8_size_92 ?_
      exact hret _ _ _ _ _ _ _ _ _ hP hD hS (Nat.le_refl _) (Nat.le_refl _) hT dX8_size_95
    · replace hT := hT.2.2.2.2.2.2.1 csw
      refine lv_tableIn (tgt := 96) hx hb dX8_size_1 (by rw [csw]; decide) (by rw [csw]; decide) (by rw [csw]; rfl) (by decide) ?_
      refine lv_aload_n hx hb dX8_size_96 rfl (lv_at hl 0 rfl) ?_
      refine cg_X8_33 hx hb hts hown hK hP dX8_size_97 ?_
      refine cg_X8_184 (v := S0.1 11) hx hb hts hown hK hP rfl dX8_size_100 ?_
      exact hret _ _ _ _ _ _ _ _ _ hP hD hS (Nat.le_refl _) (Nat.le_refl _) hT dX8_size_103
    · replace hT := hT.2.2.2.2.2.2.2.1 csw
      refine lv_tableIn (tgt := 104) hx hb dX8_size_1 (by rw [csw]; decide) (by rw [csw]; decide) (by rw [csw]; rfl) (by decide) ?_
      refine lv_aload_n hx hb dX8_size_104 rfl (lv_at hl 0 rfl) ?_
      refine cg_X8_10 hx hb hts hown hK hP dX8_size_105 ?_
      refine ccallVI (n := 0) (b := ad 1) (C := RX0) (As := []) (rest := []) hT hx hb hml hown hts hK hZ hA hP hD hS hl gc_X8_270 hdc_X0_sumOfKinds (va_recv hK hP rfl cob_1) ⟨Nat.le_of_ble_eq_true rfl, Nat.le_of_ble_eq_true rfl⟩ rfl rfl rfl (Nat.le_of_ble_eq_true rfl) dX8_size_108 (Nat.le_refl _) (Nat.le_refl _) (fun r4 S3 vd H locs hP hD hS hT => ?_)
      exact hret _ _ _ _ _ _ _ _ _ hP hD hS (Nat.le_refl _) (Nat.le_refl _) hT dX8_size_111
