abbrev cX_X8_isRight (l : Launch) (S : CS) (a1 : Int32) (post : Bool → CS → Prop) : Prop := cCtZ l yX8_isRight cX8_isRight 2 3 86 0 0 (fun ad => [.ref (ad 0), .int a1]) S post
def cT_X8_isRight_e (l : Launch) (a1 : Int32) (post : Bool → CS → Prop) (S0 : CS) : Prop := cX_X3_read l S0 a1 (fun S1 => ∃ bz : Bool, S1.1 8 = bI bz ∧ post bz S1)
set_option maxHeartbeats 4000000 in
set_option maxRecDepth 100000 in
theorem c_X8_isRight (l : Launch) (S0 : CS) (a1 : Int32) (post : Bool → CS → Prop) (h : cT_X8_isRight_e l a1 post S0) : cX_X8_isRight l S0 a1 post := by
  refine csetZ rfl (fun _ => Nat.le_of_ble_eq_true rfl) ?_
  intro p e s m args below meth c D ad vd cI cZ cL cG X A Q hx hb hml hown hts hK hZ hA hret H locs ls hP hD hS hl
  replace hl : lv_has ls 2 [(0, .ref (ad 0)), (1, .int a1)] := hl
  have hT := h
  unfold cT_X8_isRight_e at hT
  refine lv_aload_n hx hb dX8_isRight_0 rfl (lv_at hl 0 rfl) ?_
  refine cg_X8_19 hx hb hts hown hK hP dX8_isRight_1 ?_
  refine lv_aload_n hx hb dX8_isRight_4 rfl (lv_at hl 0 rfl) ?_
  refine cg_X8_10 hx hb hts hown hK hP dX8_isRight_5 ?_
  refine lv_iload_n hx hb dX8_isRight_8 rfl (lv_at hl 1 rfl) ?_
  refine ccallVV (n := 2) (b := ad 2) (C := RX3) (As := [.ref (ad 1), .int a1]) (rest := []) hT hx hb hml hown hts hK hZ hA hP hD hS hl gc_X8_120 hdc_X3_read (va_recv hK hP rfl cob_2) ⟨Nat.le_of_ble_eq_true rfl, Nat.le_of_ble_eq_true rfl⟩ rfl rfl rfl (Nat.le_of_ble_eq_true rfl) dX8_isRight_9 (Nat.le_refl _) (Nat.le_refl _) (fun S1 vd H locs hP hD hS hT => ?_)
  refine lv_aload_n hx hb dX8_isRight_12 rfl (lv_at hl 0 rfl) ?_
  refine cg_X8_19 hx hb hts hown hK hP dX8_isRight_13 ?_
  refine cg_X8_275 (v := S1.1 8) hx hb hts hown hK hP rfl dX8_isRight_16 ?_
  obtain ⟨bz, hbz, hT⟩ := hT
  refine W.eq (g2 := F0 m 19 ls [.int (bI bz)]) (by rw [← hbz]) ?_
  exact hret bz _ _ _ _ _ _ _ _ hP hD hS (Nat.le_refl _) (Nat.le_refl _) hT dX8_isRight_19
abbrev cX_X8_kind (l : Launch) (S : CS) (a1 : Int32) (a2 : Int32) (post : Bool → CS → Prop) : Prop := cCtZ l yX8_kind cX8_kind 4 4 107 0 0 (fun ad => [.ref (ad 0), .int a1, .int a2]) S post
def cT_X8_kind_20 (l : Launch) (a1 : Int32) (a2 : Int32) (post : Bool → CS → Prop) (B20 : CS → Prop) (B68 : CS → Int32 → Prop) (S : CS) : Prop := cX_X8_refuse l S 1 (fun b2 S1 => post b2 S1)
def cT_X8_kind_68 (l : Launch) (a1 : Int32) (a2 : Int32) (post : Bool → CS → Prop) (B20 : CS → Prop) (B68 : CS → Int32 → Prop) (S : CS) (x3 : Int32) : Prop := vp_in a1 7 ∧ cX_X8_refuse l (ca S 10 (upd (S.2.1 10) a1.toNatClampNeg x3)) 3 (fun b5 S4 => post b5 S4)
def cT_X8_kind_e (l : Launch) (a1 : Int32) (a2 : Int32) (post : Bool → CS → Prop) (B20 : CS → Prop) (B68 : CS → Int32 → Prop) (S0 : CS) : Prop := cX_X0_isDisc l S0 a1 (fun b7 S6 => (bI b7 = 0 → B20 S6) ∧ (¬ bI b7 = 0 → (a2 < 0 → B20 S6) ∧ (¬ a2 < 0 → (a2 ≤ 3 → vp_in a1 7 ∧ ∀ v3_12 : Int32, v3_12 = S6.2.1 10 a1.toNatClampNeg → vp_in a1 7 ∧ cX_X8_isRight l (ca S6 10 (upd (S6.2.1 10) a1.toNatClampNeg a2)) (S6.1 0) (fun b15 S14 => (bI b15 = 0 → B68 S14 v3_12) ∧ (¬ bI b15 = 0 → cX_X8_isRight l S14 (S14.1 1) (fun b18 S17 => (¬ bI b18 = 0 → cX_X8_forgetAll l S17 (fun S20 => cX_X8_accept l S20 (fun b22 S21 => post b22 S21))) ∧ (bI b18 = 0 → B68 S17 v3_12))))) ∧ (¬ a2 ≤ 3 → B20 S6))))
set_option maxHeartbeats 4000000 in
set_option maxRecDepth 100000 in
theorem c_X8_kind (l : Launch) (S0 : CS) (a1 : Int32) (a2 : Int32) (post : Bool → CS → Prop) (h : ∀ (B20 : CS → Prop) (B68 : CS → Int32 → Prop), (∀ (S : CS) , cT_X8_kind_20 l a1 a2 post B20 B68 S → B20 S ) → (∀ (S : CS) (x3 : Int32), cT_X8_kind_68 l a1 a2 post B20 B68 S x3 → B68 S x3) → cT_X8_kind_e l a1 a2 post B20 B68 S0) : cX_X8_kind l S0 a1 a2 post := by
  refine csetZ rfl (fun _ => Nat.le_of_ble_eq_true rfl) ?_
  intro p e s m args below meth c D ad vd cI cZ cL cG X A Q hx hb hml hown hts hK hZ hA hret H locs ls hP hD hS hl
  replace hl : lv_has ls 4 [(0, .ref (ad 0)), (1, .int a1), (2, .int a2)] := hl
  obtain ⟨B20, hB20⟩ : ∃ B : CS → Prop, B = (fun S => ∀ (vd : Nat → Nat) (H : Heap) (locs : List Loc) (ls : Array Slot), va_P D vwCl (cW ad vd cI cZ cL cG S ++ X) H → va_D A (cW ad vd cI cZ cL cG S ++ X) → va_S A s.heap H locs → lv_has ls 4 [(0, .ref (ad 0))] → W p l e (crm 4 107 0 0) s m args below meth c H locs 0 0 Q (F0 m 20 ls [])) := ⟨_, rfl⟩
  obtain ⟨B68, hB68⟩ : ∃ B : CS → Int32 → Prop, B = (fun S x3 => ∀ (vd : Nat → Nat) (H : Heap) (locs : List Loc) (ls : Array Slot), va_P D vwCl (cW ad vd cI cZ cL cG S ++ X) H → va_D A (cW ad vd cI cZ cL cG S ++ X) → va_S A s.heap H locs → lv_has ls 4 [(0, .ref (ad 0)), (1, .int a1), (3, .int x3)] → W p l e (crm 4 107 0 0) s m args below meth c H locs 0 0 Q (F0 m 68 ls [])) := ⟨_, rfl⟩
  have hT : cT_X8_kind_e l a1 a2 post B20 B68 S0 := by
    refine h B20 B68 ?_ ?_
    · clear hP hD hS hl H locs ls vd
      intro S hT
      unfold cT_X8_kind_20 at hT
      rw [hB20]
      intro vd H locs ls hP hD hS hl
      refine lv_aload_n hx hb dX8_kind_20 rfl (lv_at hl 0 rfl) ?_
      refine lv_iconst (v := 1) hx hb dX8_kind_21 (by decide) ?_
      refine ccallVZ (n := 1) (b := ad 0) (C := RX8) (As := [.int 1]) (rest := []) hT hx hb hml hown hts hK hZ hA hP hD hS hl gc_X8_65 hdc_X8_refuse (va_recv hK hP rfl cob_0) ⟨Nat.le_of_ble_eq_true rfl, Nat.le_of_ble_eq_true rfl⟩ rfl rfl rfl (Nat.le_of_ble_eq_true rfl) dX8_kind_22 (Nat.le_refl _) (Nat.le_refl _) (fun b2 S1 vd H locs hP hD hS hT => ?_)
      exact hret b2 _ _ _ _ _ _ _ _ hP hD hS (Nat.le_refl _) (Nat.le_refl _) hT dX8_kind_25
    · clear hP hD hS hl H locs ls vd
      intro S x3 hT
      unfold cT_X8_kind_68 at hT
      rw [hB68]
      intro vd H locs ls hP hD hS hl
      refine lv_aload_n hx hb dX8_kind_68 rfl (lv_at hl 0 rfl) ?_
      refine cg_X8_10 hx hb hts hown hK hP dX8_kind_69 ?_
      refine cg_X8_90 hx hb hts hown hK hP dX8_kind_72 ?_
      refine lv_iload_n hx hb dX8_kind_75 rfl (lv_at hl 1 rfl) ?_
      refine lv_iload_n hx hb dX8_kind_76 rfl (lv_at hl 2 rfl) ?_
      obtain ⟨hi3, hT⟩ := hT
      refine va_iast (f := S.2.1 10) hx hb hK hP hD hS 10 0 cat_10 rfl hi3 dX8_kind_77 (fun H locs hP hD hS => ?_)
      replace hP := csetP_10 hP
      replace hD := csetD_10 hD
      refine lv_aload_n hx hb dX8_kind_78 rfl (lv_at hl 0 rfl) ?_
      refine lv_iconst (v := 3) hx hb dX8_kind_79 (by decide) ?_
      refine ccallVZ (n := 1) (b := ad 0) (C := RX8) (As := [.int 3]) (rest := []) hT hx hb hml hown hts hK hZ hA hP hD hS hl gc_X8_65 hdc_X8_refuse (va_recv hK hP rfl cob_0) ⟨Nat.le_of_ble_eq_true rfl, Nat.le_of_ble_eq_true rfl⟩ rfl rfl rfl (Nat.le_of_ble_eq_true rfl) dX8_kind_80 (Nat.le_refl _) (Nat.le_refl _) (fun b5 S4 vd H locs hP hD hS hT => ?_)
      exact hret b5 _ _ _ _ _ _ _ _ hP hD hS (Nat.le_refl _) (Nat.le_refl _) hT dX8_kind_83
  unfold cT_X8_kind_e at hT
  refine lv_aload_n hx hb dX8_kind_0 rfl (lv_at hl 0 rfl) ?_
  refine cg_X8_10 hx hb hts hown hK hP dX8_kind_1 ?_
  refine lv_iload_n hx hb dX8_kind_4 rfl (lv_at hl 1 rfl) ?_
  refine ccallVZ (n := 1) (b := ad 1) (C := RX0) (As := [.int a1]) (rest := []) hT hx hb hml hown hts hK hZ hA hP hD hS hl gc_X8_87 hdc_X0_isDisc (va_recv hK hP rfl cob_1) ⟨Nat.le_of_ble_eq_true rfl, Nat.le_of_ble_eq_true rfl⟩ rfl rfl rfl (Nat.le_of_ble_eq_true rfl) dX8_kind_5 (Nat.le_refl _) (Nat.le_refl _) (fun b7 S6 vd H locs hP hD hS hT => ?_)
  refine lv_if_eq (tgt := 20) hx hb dX8_kind_8 (by decide) (fun c8 => ?_) (fun c8 => ?_)
  · replace hT := hT.1 c8
    rw [hB20] at hT
    exact hT _ _ _ _ hP hD hS (lv_sub hl [0] rfl)
  · replace hT := hT.2 c8
    refine lv_iload_n hx hb dX8_kind_11 rfl (lv_at hl 2 rfl) ?_
    refine lv_if_lt (tgt := 20) hx hb dX8_kind_12 (by decide) (fun c9 => ?_) (fun c9 => ?_)
    · replace hT := hT.1 c9
      rw [hB20] at hT
      exact hT _ _ _ _ hP hD hS (lv_sub hl [0] rfl)
    · replace hT := hT.2 c9
      refine lv_iload_n hx hb dX8_kind_15 rfl (lv_at hl 2 rfl) ?_
      refine lv_iconst (v := 3) hx hb dX8_kind_16 (by decide) ?_
      refine lv_icmp_le (tgt := 26) hx hb dX8_kind_17 (by decide) (fun c10 => ?_) (fun c10 => ?_)
      · replace hT := hT.1 c10
        refine lv_aload_n hx hb dX8_kind_26 rfl (lv_at hl 0 rfl) ?_
        refine cg_X8_10 hx hb hts hown hK hP dX8_kind_27 ?_
        refine cg_X8_90 hx hb hts hown hK hP dX8_kind_30 ?_
        refine lv_iload_n hx hb dX8_kind_33 rfl (lv_at hl 1 rfl) ?_
        obtain ⟨hi11, hT⟩ := hT
        refine va_iald (f := S6.2.1 10) hx hb hK hP 10 0 cat_10 rfl hi11 dX8_kind_34 ?_
        refine lv_topi (fun v3_12 ev3_12 => ?_)
        replace hT := hT v3_12 ev3_12
        refine lv_istore_n (lv' := [(3, .int v3_12), (0, .ref (ad 0)), (1, .int a1), (2, .int a2)]) hx hb dX8_kind_35 rfl hl (by decide) rfl (fun ls hl => ?_)
        refine lv_aload_n hx hb dX8_kind_36 rfl (lv_at hl 1 rfl) ?_
        refine cg_X8_10 hx hb hts hown hK hP dX8_kind_37 ?_
        refine cg_X8_90 hx hb hts hown hK hP dX8_kind_40 ?_
        refine lv_iload_n hx hb dX8_kind_43 rfl (lv_at hl 2 rfl) ?_
        refine lv_iload_n hx hb dX8_kind_44 rfl (lv_at hl 3 rfl) ?_
        obtain ⟨hi13, hT⟩ := hT
        refine va_iast (f := S6.2.1 10) hx hb hK hP hD hS 10 0 cat_10 rfl hi13 dX8_kind_45 (fun H locs hP hD hS => ?_)
        replace hP := csetP_10 hP
        replace hD := csetD_10 hD
        refine lv_aload_n hx hb dX8_kind_46 rfl (lv_at hl 1 rfl) ?_
        refine lv_aload_n hx hb dX8_kind_47 rfl (lv_at hl 1 rfl) ?_
        refine cg_X8_73 (v := S6.1 0) hx hb hts hown hK hP rfl dX8_kind_48 ?_
        refine ccallVZ (n := 1) (b := ad 0) (C := RX8) (As := [.int (S6.1 0)]) (rest := []) hT hx hb hml hown hts hK hZ hA hP hD hS hl gc_X8_94 hdc_X8_isRight (va_recv hK hP rfl cob_0) ⟨Nat.le_of_ble_eq_true rfl, Nat.le_of_ble_eq_true rfl⟩ rfl rfl rfl (Nat.le_of_ble_eq_true rfl) dX8_kind_51 (Nat.le_refl _) (Nat.le_refl _) (fun b15 S14 vd H locs hP hD hS hT => ?_)
        refine lv_if_eq (tgt := 68) hx hb dX8_kind_54 (by decide) (fun c16 => ?_) (fun c16 => ?_)
        · replace hT := hT.1 c16
          rw [hB68] at hT
          exact hT _ _ _ _ hP hD hS (lv_sub hl [1, 2, 0] rfl)
        · replace hT := hT.2 c16
          refine lv_aload_n hx hb dX8_kind_57 rfl (lv_at hl 1 rfl) ?_
          refine lv_aload_n hx hb dX8_kind_58 rfl (lv_at hl 1 rfl) ?_
          refine cg_X8_77 (v := S14.1 1) hx hb hts hown hK hP rfl dX8_kind_59 ?_
          refine ccallVZ (n := 1) (b := ad 0) (C := RX8) (As := [.int (S14.1 1)]) (rest := []) hT hx hb hml hown hts hK hZ hA hP hD hS hl gc_X8_94 hdc_X8_isRight (va_recv hK hP rfl cob_0) ⟨Nat.le_of_ble_eq_true rfl, Nat.le_of_ble_eq_true rfl⟩ rfl rfl rfl (Nat.le_of_ble_eq_true rfl) dX8_kind_62 (Nat.le_refl _) (Nat.le_refl _) (fun b18 S17 vd H locs hP hD hS hT => ?_)
          refine lv_if_ne (tgt := 84) hx hb dX8_kind_65 (by decide) (fun c19 => ?_) (fun c19 => ?_)
          · replace hT := hT.1 c19
            refine lv_aload_n hx hb dX8_kind_84 rfl (lv_at hl 1 rfl) ?_
            refine ccallVV (n := 0) (b := ad 0) (C := RX8) (As := []) (rest := []) hT hx hb hml hown hts hK hZ hA hP hD hS hl gc_X8_80 hdc_X8_forgetAll (va_recv hK hP rfl cob_0) ⟨Nat.le_of_ble_eq_true rfl, Nat.le_of_ble_eq_true rfl⟩ rfl rfl rfl (Nat.le_of_ble_eq_true rfl) dX8_kind_85 (Nat.le_refl _) (Nat.le_refl _) (fun S20 vd H locs hP hD hS hT => ?_)
            refine lv_aload_n hx hb dX8_kind_88 rfl (lv_at hl 1 rfl) ?_
            refine ccallVZ (n := 0) (b := ad 0) (C := RX8) (As := []) (rest := []) hT hx hb hml hown hts hK hZ hA hP hD hS hl gc_X8_83 hdc_X8_accept (va_recv hK hP rfl cob_0) ⟨Nat.le_of_ble_eq_true rfl, Nat.le_of_ble_eq_true rfl⟩ rfl rfl rfl (Nat.le_of_ble_eq_true rfl) dX8_kind_89 (Nat.le_refl _) (Nat.le_refl _) (fun b22 S21 vd H locs hP hD hS hT => ?_)
            exact hret b22 _ _ _ _ _ _ _ _ hP hD hS (Nat.le_refl _) (Nat.le_refl _) hT dX8_kind_92
          · replace hT := hT.2 c19
            rw [hB68] at hT
            exact hT _ _ _ _ hP hD hS (lv_sub hl [1, 2, 0] rfl)
      · replace hT := hT.2 c10
        rw [hB20] at hT
        exact hT _ _ _ _ hP hD hS (lv_sub hl [0] rfl)
abbrev cX_X0_isPeg (l : Launch) (S : CS) (a1 : Int32) (post : Bool → CS → Prop) : Prop := cCtZ l yX0_isPeg cX0_isPeg 2 0 0 0 0 (fun ad => [.ref (ad 1), .int a1]) S post
def cT_X0_isPeg_e (l : Launch) (a1 : Int32) (post : Bool → CS → Prop) (S0 : CS) : Prop := (a1 < 0 → post false S0) ∧ (¬ a1 < 0 → (S0.1 3 ≤ a1 → post false S0) ∧ (¬ S0.1 3 ≤ a1 → post true S0))
set_option maxHeartbeats 4000000 in
set_option maxRecDepth 100000 in
theorem c_X0_isPeg (l : Launch) (S0 : CS) (a1 : Int32) (post : Bool → CS → Prop) (h : cT_X0_isPeg_e l a1 post S0) : cX_X0_isPeg l S0 a1 post := by
  refine csetZ rfl (fun _ => Nat.le_of_ble_eq_true rfl) ?_
  intro p e s m args below meth c D ad vd cI cZ cL cG X A Q hx hb hml hown hts hK hZ hA hret H locs ls hP hD hS hl
  replace hl : lv_has ls 2 [(0, .ref (ad 1)), (1, .int a1)] := hl
  have hT := h
  unfold cT_X0_isPeg_e at hT
  refine lv_iload_n hx hb dX0_isPeg_0 rfl (lv_at hl 1 rfl) ?_
  refine lv_if_lt (tgt := 16) hx hb dX0_isPeg_1 (by decide) (fun c1 => ?_) (fun c1 => ?_)
  · replace hT := hT.1 c1
    refine lv_iconst (v := 0) hx hb dX0_isPeg_16 (by decide) ?_
    exact hret false _ _ _ _ _ _ _ _ hP hD hS (Nat.le_refl _) (Nat.le_refl _) hT dX0_isPeg_17
  · replace hT := hT.2 c1
    refine lv_iload_n hx hb dX0_isPeg_4 rfl (lv_at hl 1 rfl) ?_
    refine lv_aload_n hx hb dX0_isPeg_5 rfl (lv_at hl 0 rfl) ?_
    refine cg_X0_25 (v := S0.1 3) hx hb hts hown hK hP rfl dX0_isPeg_6 ?_
    refine lv_icmp_ge (tgt := 16) hx hb dX0_isPeg_9 (by decide) (fun c2 => ?_) (fun c2 => ?_)
    · replace hT := hT.1 c2
      refine lv_iconst (v := 0) hx hb dX0_isPeg_16 (by decide) ?_
      exact hret false _ _ _ _ _ _ _ _ hP hD hS (Nat.le_refl _) (Nat.le_refl _) hT dX0_isPeg_17
    · replace hT := hT.2 c2
      refine lv_iconst (v := 1) hx hb dX0_isPeg_12 (by decide) ?_
      refine lv_goto (tgt := 17) hx hb dX0_isPeg_13 (by decide) ?_
      exact hret true _ _ _ _ _ _ _ _ hP hD hS (Nat.le_refl _) (Nat.le_refl _) hT dX0_isPeg_17
abbrev cX_X0_setLane (l : Launch) (S : CS) (a1 : Int32) (a2 : Int32) (a3 : Int32) (a4 : Bool) (post : CS → Prop) : Prop := cCtV l yX0_setLane cX0_setLane 5 0 0 0 0 (fun ad => [.ref (ad 1), .int a1, .int a2, .int a3, .int (bI a4)]) S post
def cT_X0_setLane_e (l : Launch) (a1 : Int32) (a2 : Int32) (a3 : Int32) (a4 : Bool) (post : CS → Prop) (S0 : CS) : Prop := vp_in ((a1 * 5) + a2) 25 ∧ vp_in ((a1 * 5) + a2) 25 ∧ post (ca (ca S0 11 (upd (S0.2.1 11) ((a1 * 5) + a2).toNatClampNeg a3)) 12 (upd (S0.2.1 12) ((a1 * 5) + a2).toNatClampNeg (vp_nar .boolean (bI a4))))
set_option maxHeartbeats 4000000 in
set_option maxRecDepth 100000 in
theorem c_X0_setLane (l : Launch) (S0 : CS) (a1 : Int32) (a2 : Int32) (a3 : Int32) (a4 : Bool) (post : CS → Prop) (h : cT_X0_setLane_e l a1 a2 a3 a4 post S0) : cX_X0_setLane l S0 a1 a2 a3 a4 post := by
  refine csetV rfl (fun _ => Nat.le_of_ble_eq_true rfl) ?_
  intro p e s m args below meth c D ad vd cI cZ cL cG X A Q hx hb hml hown hts hK hZ hA hret H locs ls hP hD hS hl
  replace hl : lv_has ls 5 [(0, .ref (ad 1)), (1, .int a1), (2, .int a2), (3, .int a3), (4, .int (bI a4))] := hl
  have hT := h
  unfold cT_X0_setLane_e at hT
  refine lv_aload_n hx hb dX0_setLane_0 rfl (lv_at hl 0 rfl) ?_
  refine cg_X0_18 hx hb hts hown hK hP dX0_setLane_1 ?_
  refine lv_iload_n hx hb dX0_setLane_4 rfl (lv_at hl 1 rfl) ?_
  refine lv_iconst (v := 5) hx hb dX0_setLane_5 (by decide) ?_
  refine lv_imul hx hb dX0_setLane_6 ?_
  refine lv_iload_n hx hb dX0_setLane_7 rfl (lv_at hl 2 rfl) ?_
  refine lv_iadd hx hb dX0_setLane_8 ?_
  refine lv_iload_n hx hb dX0_setLane_9 rfl (lv_at hl 3 rfl) ?_
  obtain ⟨hi1, hT⟩ := hT
  refine va_iast (f := S0.2.1 11) hx hb hK hP hD hS 11 0 cat_11 rfl hi1 dX0_setLane_10 (fun H locs hP hD hS => ?_)
  replace hP := csetP_11 hP
  replace hD := csetD_11 hD
  refine lv_aload_n hx hb dX0_setLane_11 rfl (lv_at hl 0 rfl) ?_
  refine cg_X0_21 hx hb hts hown hK hP dX0_setLane_12 ?_
  refine lv_iload_n hx hb dX0_setLane_15 rfl (lv_at hl 1 rfl) ?_
  refine lv_iconst (v := 5) hx hb dX0_setLane_16 (by decide) ?_
  refine lv_imul hx hb dX0_setLane_17 ?_
  refine lv_iload_n hx hb dX0_setLane_18 rfl (lv_at hl 2 rfl) ?_
  refine lv_iadd hx hb dX0_setLane_19 ?_
  refine lv_iload hx hb dX0_setLane_20 (lv_at hl 4 rfl) ?_
  obtain ⟨hi2, hT⟩ := hT
  refine va_zast (f := S0.2.1 12) hx hb hK hP hD hS 12 1 cat_12 rfl hi2 dX0_setLane_22 (fun H locs hP hD hS => ?_)
  replace hP := csetP_12 hP
  replace hD := csetD_12 hD
  exact hret _ _ _ _ _ _ _ _ hP hD hS (Nat.le_refl _) (Nat.le_refl _) hT dX0_setLane_23
abbrev cX_X8_lane (l : Launch) (S : CS) (a1 : Int32) (a2 : Int32) (a3 : Int32) (a4 : Bool) (post : Bool → CS → Prop) : Prop := cCtZ l yX8_lane cX8_lane 5 2 40 0 0 (fun ad => [.ref (ad 0), .int a1, .int a2, .int a3, .int (bI a4)]) S post
def cT_X8_lane_37 (l : Launch) (a1 : Int32) (a2 : Int32) (a3 : Int32) (a4 : Bool) (post : Bool → CS → Prop) (B37 : CS → Prop) (S : CS) : Prop := cX_X8_refuse l S 1 (fun b2 S1 => post b2 S1)
def cT_X8_lane_e (l : Launch) (a1 : Int32) (a2 : Int32) (a3 : Int32) (a4 : Bool) (post : Bool → CS → Prop) (B37 : CS → Prop) (S0 : CS) : Prop := cX_X0_isPeg l S0 a1 (fun b4 S3 => (bI b4 = 0 → B37 S3) ∧ (¬ bI b4 = 0 → cX_X0_isPeg l S3 a2 (fun b7 S6 => (bI b7 = 0 → B37 S6) ∧ (¬ bI b7 = 0 → (a1 = a2 → B37 S6) ∧ (¬ a1 = a2 → (a3 < 0 → B37 S6) ∧ (¬ a3 < 0 → (a3 ≤ 100 → cX_X0_setLane l S6 a1 a2 a3 a4 (fun S12 => cX_X8_forgetAll l S12 (fun S13 => cX_X8_accept l S13 (fun b15 S14 => post b15 S14)))) ∧ (¬ a3 ≤ 100 → B37 S6)))))))
set_option maxHeartbeats 4000000 in
set_option maxRecDepth 100000 in
theorem c_X8_lane (l : Launch) (S0 : CS) (a1 : Int32) (a2 : Int32) (a3 : Int32) (a4 : Bool) (post : Bool → CS → Prop) (h : ∀ (B37 : CS → Prop), (∀ (S : CS) , cT_X8_lane_37 l a1 a2 a3 a4 post B37 S → B37 S ) → cT_X8_lane_e l a1 a2 a3 a4 post B37 S0) : cX_X8_lane l S0 a1 a2 a3 a4 post := by
  refine csetZ rfl (fun _ => Nat.le_of_ble_eq_true rfl) ?_
  intro p e s m args below meth c D ad vd cI cZ cL cG X A Q hx hb hml hown hts hK hZ hA hret H locs ls hP hD hS hl
  replace hl : lv_has ls 5 [(0, .ref (ad 0)), (1, .int a1), (2, .int a2), (3, .int a3), (4, .int (bI a4))] := hl
  obtain ⟨B37, hB37⟩ : ∃ B : CS → Prop, B = (fun S => ∀ (vd : Nat → Nat) (H : Heap) (locs : List Loc) (ls : Array Slot), va_P D vwCl (cW ad vd cI cZ cL cG S ++ X) H → va_D A (cW ad vd cI cZ cL cG S ++ X) → va_S A s.heap H locs → lv_has ls 5 [(0, .ref (ad 0))] → W p l e (crm 2 40 0 0) s m args below meth c H locs 0 0 Q (F0 m 37 ls [])) := ⟨_, rfl⟩
  have hT : cT_X8_lane_e l a1 a2 a3 a4 post B37 S0 := by
    refine h B37 ?_
    · clear hP hD hS hl H locs ls vd
      intro S hT
      unfold cT_X8_lane_37 at hT
      rw [hB37]
      intro vd H locs ls hP hD hS hl
      refine lv_aload_n hx hb dX8_lane_37 rfl (lv_at hl 0 rfl) ?_
      refine lv_iconst (v := 1) hx hb dX8_lane_38 (by decide) ?_
      refine ccallVZ (n := 1) (b := ad 0) (C := RX8) (As := [.int 1]) (rest := []) hT hx hb hml hown hts hK hZ hA hP hD hS hl gc_X8_65 hdc_X8_refuse (va_recv hK hP rfl cob_0) ⟨Nat.le_of_ble_eq_true rfl, Nat.le_of_ble_eq_true rfl⟩ rfl rfl rfl (Nat.le_of_ble_eq_true rfl) dX8_lane_39 (Nat.le_refl _) (Nat.le_refl _) (fun b2 S1 vd H locs hP hD hS hT => ?_)
      exact hret b2 _ _ _ _ _ _ _ _ hP hD hS (Nat.le_refl _) (Nat.le_refl _) hT dX8_lane_42
  unfold cT_X8_lane_e at hT
  refine lv_aload_n hx hb dX8_lane_0 rfl (lv_at hl 0 rfl) ?_
  refine cg_X8_10 hx hb hts hown hK hP dX8_lane_1 ?_
  refine lv_iload_n hx hb dX8_lane_4 rfl (lv_at hl 1 rfl) ?_
  refine ccallVZ (n := 1) (b := ad 1) (C := RX0) (As := [.int a1]) (rest := []) hT hx hb hml hown hts hK hZ hA hP hD hS hl gc_X8_97 hdc_X0_isPeg (va_recv hK hP rfl cob_1) ⟨Nat.le_of_ble_eq_true rfl, Nat.le_of_ble_eq_true rfl⟩ rfl rfl rfl (Nat.le_of_ble_eq_true rfl) dX8_lane_5 (Nat.le_refl _) (Nat.le_refl _) (fun b4 S3 vd H locs hP hD hS hT => ?_)
  refine lv_if_eq (tgt := 37) hx hb dX8_lane_8 (by decide) (fun c5 => ?_) (fun c5 => ?_)
  · replace hT := hT.1 c5
    rw [hB37] at hT
    exact hT _ _ _ _ hP hD hS (lv_sub hl [0] rfl)
  · replace hT := hT.2 c5
    refine lv_aload_n hx hb dX8_lane_11 rfl (lv_at hl 0 rfl) ?_
    refine cg_X8_10 hx hb hts hown hK hP dX8_lane_12 ?_
    refine lv_iload_n hx hb dX8_lane_15 rfl (lv_at hl 2 rfl) ?_
    refine ccallVZ (n := 1) (b := ad 1) (C := RX0) (As := [.int a2]) (rest := []) hT hx hb hml hown hts hK hZ hA hP hD hS hl gc_X8_97 hdc_X0_isPeg (va_recv hK hP rfl cob_1) ⟨Nat.le_of_ble_eq_true rfl, Nat.le_of_ble_eq_true rfl⟩ rfl rfl rfl (Nat.le_of_ble_eq_true rfl) dX8_lane_16 (Nat.le_refl _) (Nat.le_refl _) (fun b7 S6 vd H locs hP hD hS hT => ?_)
    refine lv_if_eq (tgt := 37) hx hb dX8_lane_19 (by decide) (fun c8 => ?_) (fun c8 => ?_)
    · replace hT := hT.1 c8
      rw [hB37] at hT
      exact hT _ _ _ _ hP hD hS (lv_sub hl [0] rfl)
    · replace hT := hT.2 c8
      refine lv_iload_n hx hb dX8_lane_22 rfl (lv_at hl 1 rfl) ?_
      refine lv_iload_n hx hb dX8_lane_23 rfl (lv_at hl 2 rfl) ?_
      refine lv_icmp_eq (tgt := 37) hx hb dX8_lane_24 (by decide) (fun c9 => ?_) (fun c9 => ?_)
      · replace hT := hT.1 c9
        rw [hB37] at hT
        exact hT _ _ _ _ hP hD hS (lv_sub hl [0] rfl)
      · replace hT := hT.2 c9
        refine lv_iload_n hx hb dX8_lane_27 rfl (lv_at hl 3 rfl) ?_
        refine lv_if_lt (tgt := 37) hx hb dX8_lane_28 (by decide) (fun c10 => ?_) (fun c10 => ?_)
        · replace hT := hT.1 c10
          rw [hB37] at hT
          exact hT _ _ _ _ hP hD hS (lv_sub hl [0] rfl)
        · replace hT := hT.2 c10
          refine lv_iload_n hx hb dX8_lane_31 rfl (lv_at hl 3 rfl) ?_
          refine lv_bipush (v := 100) hx hb dX8_lane_32 (by decide) ?_
          refine lv_icmp_le (tgt := 43) hx hb dX8_lane_34 (by decide) (fun c11 => ?_) (fun c11 => ?_)
          · replace hT := hT.1 c11
            refine lv_aload_n hx hb dX8_lane_43 rfl (lv_at hl 0 rfl) ?_
            refine cg_X8_10 hx hb hts hown hK hP dX8_lane_44 ?_
            refine lv_iload_n hx hb dX8_lane_47 rfl (lv_at hl 1 rfl) ?_
            refine lv_iload_n hx hb dX8_lane_48 rfl (lv_at hl 2 rfl) ?_
            refine lv_iload_n hx hb dX8_lane_49 rfl (lv_at hl 3 rfl) ?_
            refine lv_iload hx hb dX8_lane_50 (lv_at hl 4 rfl) ?_
            refine ccallVV (n := 4) (b := ad 1) (C := RX0) (As := [.int a1, .int a2, .int a3, .int (bI a4)]) (rest := []) hT hx hb hml hown hts hK hZ hA hP hD hS hl gc_X8_100 hdc_X0_setLane (va_recv hK hP rfl cob_1) ⟨Nat.le_of_ble_eq_true rfl, Nat.le_of_ble_eq_true rfl⟩ rfl rfl rfl (Nat.le_of_ble_eq_true rfl) dX8_lane_52 (Nat.le_refl _) (Nat.le_refl _) (fun S12 vd H locs hP hD hS hT => ?_)
            refine lv_aload_n hx hb dX8_lane_55 rfl (lv_at hl 0 rfl) ?_
            refine ccallVV (n := 0) (b := ad 0) (C := RX8) (As := []) (rest := []) hT hx hb hml hown hts hK hZ hA hP hD hS hl gc_X8_80 hdc_X8_forgetAll (va_recv hK hP rfl cob_0) ⟨Nat.le_of_ble_eq_true rfl, Nat.le_of_ble_eq_true rfl⟩ rfl rfl rfl (Nat.le_of_ble_eq_true rfl) dX8_lane_56 (Nat.le_refl _) (Nat.le_refl _) (fun S13 vd H locs hP hD hS hT => ?_)
            refine lv_aload_n hx hb dX8_lane_59 rfl (lv_at hl 0 rfl) ?_
            refine ccallVZ (n := 0) (b := ad 0) (C := RX8) (As := []) (rest := []) hT hx hb hml hown hts hK hZ hA hP hD hS hl gc_X8_83 hdc_X8_accept (va_recv hK hP rfl cob_0) ⟨Nat.le_of_ble_eq_true rfl, Nat.le_of_ble_eq_true rfl⟩ rfl rfl rfl (Nat.le_of_ble_eq_true rfl) dX8_lane_60 (Nat.le_refl _) (Nat.le_refl _) (fun b15 S14 vd H locs hP hD hS hT => ?_)
            exact hret b15 _ _ _ _ _ _ _ _ hP hD hS (Nat.le_refl _) (Nat.le_refl _) hT dX8_lane_63
          · replace hT := hT.2 c11
            rw [hB37] at hT
            exact hT _ _ _ _ hP hD hS (lv_sub hl [0] rfl)
abbrev cX_X0_openAll (l : Launch) (S : CS) (post : CS → Prop) : Prop := cCtV l yX0_openAll cX0_openAll 3 1 24 0 0 (fun ad => [.ref (ad 1)]) S post
def cT_X0_openAll_2 (l : Launch) (post : CS → Prop) (B2 : CS → Int32 → Prop) (B12 : CS → Int32 → Int32 → Prop) (B33 : CS → Int32 → Int32 → Prop) (S : CS) (x1 : Int32) : Prop := (S.1 3 ≤ x1 → post S) ∧ (¬ S.1 3 ≤ x1 → B12 S x1 0)
def cT_X0_openAll_12 (l : Launch) (post : CS → Prop) (B2 : CS → Int32 → Prop) (B12 : CS → Int32 → Int32 → Prop) (B33 : CS → Int32 → Int32 → Prop) (S : CS) (x1 : Int32) (x2 : Int32) : Prop := (S.1 3 ≤ x2 → B2 S (x1 + 1)) ∧ (¬ S.1 3 ≤ x2 → (x1 = x2 → B33 S x1 x2) ∧ (¬ x1 = x2 → cX_X0_setLane l S x1 x2 1 true (fun S4 => B33 S4 x1 x2)))
def cT_X0_openAll_33 (l : Launch) (post : CS → Prop) (B2 : CS → Int32 → Prop) (B12 : CS → Int32 → Int32 → Prop) (B33 : CS → Int32 → Int32 → Prop) (S : CS) (x1 : Int32) (x2 : Int32) : Prop := B12 S x1 (x2 + 1)
def cT_X0_openAll_e (l : Launch) (post : CS → Prop) (B2 : CS → Int32 → Prop) (B12 : CS → Int32 → Int32 → Prop) (B33 : CS → Int32 → Int32 → Prop) (S0 : CS) : Prop := B2 S0 0
set_option maxHeartbeats 4000000 in
set_option maxRecDepth 100000 in
theorem c_X0_openAll (l : Launch) (S0 : CS) (post : CS → Prop) (h : ∀ (B2 : CS → Int32 → Prop) (B12 : CS → Int32 → Int32 → Prop) (B33 : CS → Int32 → Int32 → Prop), (∀ (S : CS) (x1 : Int32), cT_X0_openAll_2 l post B2 B12 B33 S x1 → B2 S x1) → (∀ (S : CS) (x1 : Int32) (x2 : Int32), cT_X0_openAll_12 l post B2 B12 B33 S x1 x2 → B12 S x1 x2) → (∀ (S : CS) (x1 : Int32) (x2 : Int32), cT_X0_openAll_33 l post B2 B12 B33 S x1 x2 → B33 S x1 x2) → cT_X0_openAll_e l post B2 B12 B33 S0) : cX_X0_openAll l S0 post := by
  refine csetV rfl (fun _ => Nat.le_of_ble_eq_true rfl) ?_
  intro p e s m args below meth c D ad vd cI cZ cL cG X A Q hx hb hml hown hts hK hZ hA hret H locs ls hP hD hS hl
  replace hl : lv_has ls 3 [(0, .ref (ad 1))] := hl
  obtain ⟨B2, hB2⟩ : ∃ B : CS → Int32 → Prop, B = (fun S x1 => ∀ (vd : Nat → Nat) (H : Heap) (locs : List Loc) (ls : Array Slot), va_P D vwCl (cW ad vd cI cZ cL cG S ++ X) H → va_D A (cW ad vd cI cZ cL cG S ++ X) → va_S A s.heap H locs → lv_has ls 3 [(0, .ref (ad 1)), (1, .int x1)] → W p l e (crm 1 24 0 0) s m args below meth c H locs 0 0 Q (F0 m 2 ls [])) := ⟨_, rfl⟩
  obtain ⟨B12, hB12⟩ : ∃ B : CS → Int32 → Int32 → Prop, B = (fun S x1 x2 => ∀ (vd : Nat → Nat) (H : Heap) (locs : List Loc) (ls : Array Slot), va_P D vwCl (cW ad vd cI cZ cL cG S ++ X) H → va_D A (cW ad vd cI cZ cL cG S ++ X) → va_S A s.heap H locs → lv_has ls 3 [(0, .ref (ad 1)), (1, .int x1), (2, .int x2)] → W p l e (crm 1 24 0 0) s m args below meth c H locs 0 0 Q (F0 m 12 ls [])) := ⟨_, rfl⟩
  obtain ⟨B33, hB33⟩ : ∃ B : CS → Int32 → Int32 → Prop, B = (fun S x1 x2 => ∀ (vd : Nat → Nat) (H : Heap) (locs : List Loc) (ls : Array Slot), va_P D vwCl (cW ad vd cI cZ cL cG S ++ X) H → va_D A (cW ad vd cI cZ cL cG S ++ X) → va_S A s.heap H locs → lv_has ls 3 [(0, .ref (ad 1)), (1, .int x1), (2, .int x2)] → W p l e (crm 1 24 0 0) s m args below meth c H locs 0 0 Q (F0 m 33 ls [])) := ⟨_, rfl⟩
  have hT : cT_X0_openAll_e l post B2 B12 B33 S0 := by
    refine h B2 B12 B33 ?_ ?_ ?_
    · clear hP hD hS hl H locs ls vd
      intro S x1 hT
      unfold cT_X0_openAll_2 at hT
      rw [hB2]
      intro vd H locs ls hP hD hS hl
      refine lv_iload_n hx hb dX0_openAll_2 rfl (lv_at hl 1 rfl) ?_
      refine lv_aload_n hx hb dX0_openAll_3 rfl (lv_at hl 0 rfl) ?_
      refine cg_X0_25 (v := S.1 3) hx hb hts hown hK hP rfl dX0_openAll_4 ?_
      refine lv_icmp_ge (tgt := 45) hx hb dX0_openAll_7 (by decide) (fun c1 => ?_) (fun c1 => ?_)
      · replace hT := hT.1 c1
        exact hret _ _ _ _ _ _ _ _ hP hD hS (Nat.le_refl _) (Nat.le_refl _) hT dX0_openAll_45
      · replace hT := hT.2 c1
        refine lv_iconst (v := 0) hx hb dX0_openAll_10 (by decide) ?_
        refine lv_istore_n (lv' := [(2, .int 0), (0, .ref (ad 1)), (1, .int x1)]) hx hb dX0_openAll_11 rfl hl (by decide) rfl (fun ls hl => ?_)
        rw [hB12] at hT
        exact hT _ _ _ _ hP hD hS (lv_sub hl [1, 2, 0] rfl)
    · clear hP hD hS hl H locs ls vd
      intro S x1 x2 hT
      unfold cT_X0_openAll_12 at hT
      rw [hB12]
      intro vd H locs ls hP hD hS hl
      refine lv_iload_n hx hb dX0_openAll_12 rfl (lv_at hl 2 rfl) ?_
      refine lv_aload_n hx hb dX0_openAll_13 rfl (lv_at hl 0 rfl) ?_
      refine cg_X0_25 (v := S.1 3) hx hb hts hown hK hP rfl dX0_openAll_14 ?_
      refine lv_icmp_ge (tgt := 39) hx hb dX0_openAll_17 (by decide) (fun c2 => ?_) (fun c2 => ?_)
      · replace hT := hT.1 c2
        refine lv_iinc (v := x1 + 1) (lv' := [(1, .int (x1 + 1)), (0, .ref (ad 1)), (2, .int x2)]) hx hb dX0_openAll_39 hl (k := 1) rfl rfl (by decide) rfl (fun ls hl => ?_)
        refine lv_goto (tgt := 2) hx hb dX0_openAll_42 (by decide) ?_
        rw [hB2] at hT
        exact hT _ _ _ _ hP hD hS (lv_sub hl [1, 0] rfl)
      · replace hT := hT.2 c2
        refine lv_iload_n hx hb dX0_openAll_20 rfl (lv_at hl 1 rfl) ?_
        refine lv_iload_n hx hb dX0_openAll_21 rfl (lv_at hl 2 rfl) ?_
        refine lv_icmp_eq (tgt := 33) hx hb dX0_openAll_22 (by decide) (fun c3 => ?_) (fun c3 => ?_)
        · replace hT := hT.1 c3
          rw [hB33] at hT
          exact hT _ _ _ _ hP hD hS (lv_sub hl [0, 1, 2] rfl)
        · replace hT := hT.2 c3
          refine lv_aload_n hx hb dX0_openAll_25 rfl (lv_at hl 0 rfl) ?_
          refine lv_iload_n hx hb dX0_openAll_26 rfl (lv_at hl 1 rfl) ?_
          refine lv_iload_n hx hb dX0_openAll_27 rfl (lv_at hl 2 rfl) ?_
          refine lv_iconst (v := 1) hx hb dX0_openAll_28 (by decide) ?_
          refine lv_iconst (v := 1) hx hb dX0_openAll_29 (by decide) ?_
          refine ccallVV (n := 4) (b := ad 1) (C := RX0) (As := [.int x1, .int x2, .int 1, .int (bI true)]) (rest := []) hT hx hb hml hown hts hK hZ hA hP hD hS hl gc_X0_41 hdc_X0_setLane (va_recv hK hP rfl cob_1) ⟨Nat.le_of_ble_eq_true rfl, Nat.le_of_ble_eq_true rfl⟩ rfl rfl rfl (Nat.le_of_ble_eq_true rfl) dX0_openAll_30 (Nat.le_refl _) (Nat.le_refl _) (fun S4 vd H locs hP hD hS hT => ?_)
          rw [hB33] at hT
          exact hT _ _ _ _ hP hD hS (lv_sub hl [0, 1, 2] rfl)
    · clear hP hD hS hl H locs ls vd
      intro S x1 x2 hT
      unfold cT_X0_openAll_33 at hT
      rw [hB33]
      intro vd H locs ls hP hD hS hl
      refine lv_iinc (v := x2 + 1) (lv' := [(2, .int (x2 + 1)), (0, .ref (ad 1)), (1, .int x1)]) hx hb dX0_openAll_33 hl (k := 2) rfl rfl (by decide) rfl (fun ls hl => ?_)
      refine lv_goto (tgt := 12) hx hb dX0_openAll_36 (by decide) ?_
      rw [hB12] at hT
      exact hT _ _ _ _ hP hD hS (lv_sub hl [1, 2, 0] rfl)
  unfold cT_X0_openAll_e at hT
  refine lv_iconst (v := 0) hx hb dX0_openAll_0 (by decide) ?_
  refine lv_istore_n (lv' := [(1, .int 0), (0, .ref (ad 1))]) hx hb dX0_openAll_1 rfl hl (by decide) rfl (fun ls hl => ?_)
  rw [hB2] at hT
  exact hT _ _ _ _ hP hD hS (lv_sub hl [1, 0] rfl)
abbrev cX_X0_countLanes (l : Launch) (S : CS) (post : Int32 → CS → Prop) : Prop := cCtI l yX0_countLanes cX0_countLanes 6 0 0 0 0 (fun ad => [.ref (ad 1)]) S post
def cT_X0_countLanes_13 (l : Launch) (post : Int32 → CS → Prop) (B13 : CS → Int32 → Int32 → Int32 → Prop) (B33 : CS → Int32 → Int32 → Int32 → Prop) (S : CS) (x1 : Int32) (x3 : Int32) (x4 : Int32) : Prop := (x3 ≤ x4 → post x1 S) ∧ (¬ x3 ≤ x4 → vp_in x4 25 ∧ ∀ v5_3 : Int32, v5_3 = S.2.1 11 x4.toNatClampNeg → (v5_3 = 0 → B33 S x1 x3 x4) ∧ (¬ v5_3 = 0 → B33 S (x1 + 1) x3 x4))
def cT_X0_countLanes_33 (l : Launch) (post : Int32 → CS → Prop) (B13 : CS → Int32 → Int32 → Int32 → Prop) (B33 : CS → Int32 → Int32 → Int32 → Prop) (S : CS) (x1 : Int32) (x3 : Int32) (x4 : Int32) : Prop := B13 S x1 x3 (x4 + 1)
def cT_X0_countLanes_e (l : Launch) (post : Int32 → CS → Prop) (B13 : CS → Int32 → Int32 → Int32 → Prop) (B33 : CS → Int32 → Int32 → Int32 → Prop) (S0 : CS) : Prop := B13 S0 0 25 0
set_option maxHeartbeats 4000000 in
set_option maxRecDepth 100000 in
theorem c_X0_countLanes (l : Launch) (S0 : CS) (post : Int32 → CS → Prop) (h : ∀ (B13 : CS → Int32 → Int32 → Int32 → Prop) (B33 : CS → Int32 → Int32 → Int32 → Prop), (∀ (S : CS) (x1 : Int32) (x3 : Int32) (x4 : Int32), cT_X0_countLanes_13 l post B13 B33 S x1 x3 x4 → B13 S x1 x3 x4) → (∀ (S : CS) (x1 : Int32) (x3 : Int32) (x4 : Int32), cT_X0_countLanes_33 l post B13 B33 S x1 x3 x4 → B33 S x1 x3 x4) → cT_X0_countLanes_e l post B13 B33 S0) : cX_X0_countLanes l S0 post := by
  refine csetI rfl (fun _ => Nat.le_of_ble_eq_true rfl) ?_
  intro p e s m args below meth c D ad vd cI cZ cL cG X A Q hx hb hml hown hts hK hZ hA hret H locs ls hP hD hS hl
  replace hl : lv_has ls 6 [(0, .ref (ad 1))] := hl
  obtain ⟨B13, hB13⟩ : ∃ B : CS → Int32 → Int32 → Int32 → Prop, B = (fun S x1 x3 x4 => ∀ (vd : Nat → Nat) (H : Heap) (locs : List Loc) (ls : Array Slot), va_P D vwCl (cW ad vd cI cZ cL cG S ++ X) H → va_D A (cW ad vd cI cZ cL cG S ++ X) → va_S A s.heap H locs → lv_has ls 6 [(1, .int x1), (2, .ref (ad 11)), (3, .int x3), (4, .int x4)] → W p l e (crm 0 0 0 0) s m args below meth c H locs 0 0 Q (F0 m 13 ls [])) := ⟨_, rfl⟩
  obtain ⟨B33, hB33⟩ : ∃ B : CS → Int32 → Int32 → Int32 → Prop, B = (fun S x1 x3 x4 => ∀ (vd : Nat → Nat) (H : Heap) (locs : List Loc) (ls : Array Slot), va_P D vwCl (cW ad vd cI cZ cL cG S ++ X) H → va_D A (cW ad vd cI cZ cL cG S ++ X) → va_S A s.heap H locs → lv_has ls 6 [(1, .int x1), (2, .ref (ad 11)), (3, .int x3), (4, .int x4)] → W p l e (crm 0 0 0 0) s m args below meth c H locs 0 0 Q (F0 m 33 ls [])) := ⟨_, rfl⟩
  have hT : cT_X0_countLanes_e l post B13 B33 S0 := by
    refine h B13 B33 ?_ ?_
    · clear hP hD hS hl H locs ls vd
      intro S x1 x3 x4 hT
      unfold cT_X0_countLanes_13 at hT
      rw [hB13]
      intro vd H locs ls hP hD hS hl
      refine lv_iload hx hb dX0_countLanes_13 (lv_at hl 3 rfl) ?_
      refine lv_iload_n hx hb dX0_countLanes_15 rfl (lv_at hl 2 rfl) ?_
      refine lv_icmp_ge (tgt := 39) hx hb dX0_countLanes_16 (by decide) (fun c1 => ?_) (fun c1 => ?_)
      · replace hT := hT.1 c1
        refine lv_iload_n hx hb dX0_countLanes_39 rfl (lv_at hl 0 rfl) ?_
        exact hret _ _ _ _ _ _ _ _ _ hP hD hS (Nat.le_refl _) (Nat.le_refl _) hT dX0_countLanes_40
      · replace hT := hT.2 c1
        refine lv_aload_n hx hb dX0_countLanes_19 rfl (lv_at hl 1 rfl) ?_
        refine lv_iload hx hb dX0_countLanes_20 (lv_at hl 3 rfl) ?_
        obtain ⟨hi2, hT⟩ := hT
        refine va_iald (f := S.2.1 11) hx hb hK hP 11 0 cat_11 rfl hi2 dX0_countLanes_22 ?_
        refine lv_topi (fun v5_3 ev5_3 => ?_)
        replace hT := hT v5_3 ev5_3
        refine lv_istore (lv' := [(5, .int v5_3), (1, .int x1), (2, .ref (ad 11)), (3, .int x3), (4, .int x4)]) hx hb dX0_countLanes_23 hl (by decide) rfl (fun ls hl => ?_)
        refine lv_iload hx hb dX0_countLanes_25 (lv_at hl 0 rfl) ?_
        refine lv_if_eq (tgt := 33) hx hb dX0_countLanes_27 (by decide) (fun c4 => ?_) (fun c4 => ?_)
        · replace hT := hT.1 c4
          rw [hB33] at hT
          exact hT _ _ _ _ hP hD hS (lv_sub hl [1, 2, 3, 4] rfl)
        · replace hT := hT.2 c4
          refine lv_iinc (v := x1 + 1) (lv' := [(1, .int (x1 + 1)), (5, .int v5_3), (2, .ref (ad 11)), (3, .int x3), (4, .int x4)]) hx hb dX0_countLanes_30 hl (k := 1) rfl rfl (by decide) rfl (fun ls hl => ?_)
          rw [hB33] at hT
          exact hT _ _ _ _ hP hD hS (lv_sub hl [0, 2, 3, 4] rfl)
    · clear hP hD hS hl H locs ls vd
      intro S x1 x3 x4 hT
      unfold cT_X0_countLanes_33 at hT
      rw [hB33]
      intro vd H locs ls hP hD hS hl
      refine lv_iinc (v := x4 + 1) (lv' := [(4, .int (x4 + 1)), (1, .int x1), (2, .ref (ad 11)), (3, .int x3)]) hx hb dX0_countLanes_33 hl (k := 3) rfl rfl (by decide) rfl (fun ls hl => ?_)
      refine lv_goto (tgt := 13) hx hb dX0_countLanes_36 (by decide) ?_
      rw [hB13] at hT
      exact hT _ _ _ _ hP hD hS (lv_sub hl [1, 2, 3, 0] rfl)
  unfold cT_X0_countLanes_e at hT
  refine lv_iconst (v := 0) hx hb dX0_countLanes_0 (by decide) ?_
  refine lv_istore_n (lv' := [(1, .int 0), (0, .ref (ad 1))]) hx hb dX0_countLanes_1 rfl hl (by decide) rfl (fun ls hl => ?_)
  refine lv_aload_n hx hb dX0_countLanes_2 rfl (lv_at hl 1 rfl) ?_
  refine cg_X0_18 hx hb hts hown hK hP dX0_countLanes_3 ?_
  refine lv_astore_n (lv' := [(2, .ref (ad 11)), (1, .int 0), (0, .ref (ad 1))]) hx hb dX0_countLanes_6 rfl hl (by decide) rfl (fun ls hl => ?_)
  refine lv_aload_n hx hb dX0_countLanes_7 rfl (lv_at hl 0 rfl) ?_
  refine va_alen (v := 25) hx hb hK hP 11 0 cat_11 rfl rfl dX0_countLanes_8 ?_
  refine lv_istore_n (lv' := [(3, .int 25), (2, .ref (ad 11)), (1, .int 0), (0, .ref (ad 1))]) hx hb dX0_countLanes_9 rfl hl (by decide) rfl (fun ls hl => ?_)
  refine lv_iconst (v := 0) hx hb dX0_countLanes_10 (by decide) ?_
  refine lv_istore (lv' := [(4, .int 0), (3, .int 25), (2, .ref (ad 11)), (1, .int 0), (0, .ref (ad 1))]) hx hb dX0_countLanes_11 hl (by decide) rfl (fun ls hl => ?_)
  rw [hB13] at hT
  exact hT _ _ _ _ hP hD hS (lv_sub hl [3, 2, 1, 0] rfl)
abbrev cX_X8_lanes (l : Launch) (S : CS) (post : Int32 → CS → Prop) : Prop := cCtI l yX8_lanes cX8_lanes 1 2 46 0 0 (fun ad => [.ref (ad 0)]) S post
def cT_X8_lanes_e (l : Launch) (post : Int32 → CS → Prop) (S0 : CS) : Prop := cX_X0_openAll l S0 (fun S1 => cX_X8_forgetAll l S1 (fun S2 => cX_X0_countLanes l S2 (fun r4 S3 => post r4 S3)))
set_option maxHeartbeats 4000000 in
set_option maxRecDepth 100000 in
theorem c_X8_lanes (l : Launch) (S0 : CS) (post : Int32 → CS → Prop) (h : cT_X8_lanes_e l post S0) : cX_X8_lanes l S0 post := by
  refine csetI rfl (fun _ => Nat.le_of_ble_eq_true rfl) ?_
  intro p e s m args below meth c D ad vd cI cZ cL cG X A Q hx hb hml hown hts hK hZ hA hret H locs ls hP hD hS hl
  replace hl : lv_has ls 1 [(0, .ref (ad 0))] := hl
  have hT := h
  unfold cT_X8_lanes_e at hT
  refine lv_aload_n hx hb dX8_lanes_0 rfl (lv_at hl 0 rfl) ?_
  refine cg_X8_10 hx hb hts hown hK hP dX8_lanes_1 ?_
  refine ccallVV (n := 0) (b := ad 1) (C := RX0) (As := []) (rest := []) hT hx hb hml hown hts hK hZ hA hP hD hS hl gc_X8_104 hdc_X0_openAll (va_recv hK hP rfl cob_1) ⟨Nat.le_of_ble_eq_true rfl, Nat.le_of_ble_eq_true rfl⟩ rfl rfl rfl (Nat.le_of_ble_eq_true rfl) dX8_lanes_4 (Nat.le_refl _) (Nat.le_refl _) (fun S1 vd H locs hP hD hS hT => ?_)
  refine lv_aload_n hx hb dX8_lanes_7 rfl (lv_at hl 0 rfl) ?_
  refine ccallVV (n := 0) (b := ad 0) (C := RX8) (As := []) (rest := []) hT hx hb hml hown hts hK hZ hA hP hD hS hl gc_X8_80 hdc_X8_forgetAll (va_recv hK hP rfl cob_0) ⟨Nat.le_of_ble_eq_true rfl, Nat.le_of_ble_eq_true rfl⟩ rfl rfl rfl (Nat.le_of_ble_eq_true rfl) dX8_lanes_8 (Nat.le_refl _) (Nat.le_refl _) (fun S2 vd H locs hP hD hS hT => ?_)
  refine lv_aload_n hx hb dX8_lanes_11 rfl (lv_at hl 0 rfl) ?_
  refine cg_X8_10 hx hb hts hown hK hP dX8_lanes_12 ?_
  refine ccallVI (n := 0) (b := ad 1) (C := RX0) (As := []) (rest := []) hT hx hb hml hown hts hK hZ hA hP hD hS hl gc_X8_107 hdc_X0_countLanes (va_recv hK hP rfl cob_1) ⟨Nat.le_of_ble_eq_true rfl, Nat.le_of_ble_eq_true rfl⟩ rfl rfl rfl (Nat.le_of_ble_eq_true rfl) dX8_lanes_15 (Nat.le_refl _) (Nat.le_refl _) (fun r4 S3 vd H locs hP hD hS hT => ?_)
  exact hret _ _ _ _ _ _ _ _ _ hP hD hS (Nat.le_refl _) (Nat.le_refl _) hT dX8_lanes_18
abbrev cX_X8_cost (l : Launch) (S : CS) (a1 : Int32) (a2 : Int32) (post : Int32 → CS → Prop) : Prop := cCtI l yX8_cost cX8_cost 3 1 21 0 0 (fun ad => [.ref (ad 0), .int a1, .int a2]) S post
def cT_X8_cost_e (l : Launch) (a1 : Int32) (a2 : Int32) (post : Int32 → CS → Prop) (S0 : CS) : Prop := cX_X0_isPeg l S0 a1 (fun b2 S1 => (bI b2 = 0 → post (-1) S1) ∧ (¬ bI b2 = 0 → cX_X0_isPeg l S1 a2 (fun b5 S4 => (¬ bI b5 = 0 → vp_in ((a1 * 5) + a2) 25 ∧ post (S4.2.1 11 ((a1 * 5) + a2).toNatClampNeg) S4) ∧ (bI b5 = 0 → post (-1) S4))))
set_option maxHeartbeats 4000000 in
set_option maxRecDepth 100000 in
theorem c_X8_cost (l : Launch) (S0 : CS) (a1 : Int32) (a2 : Int32) (post : Int32 → CS → Prop) (h : cT_X8_cost_e l a1 a2 post S0) : cX_X8_cost l S0 a1 a2 post := by
  refine csetI rfl (fun _ => Nat.le_of_ble_eq_true rfl) ?_
  intro p e s m args below meth c D ad vd cI cZ cL cG X A Q hx hb hml hown hts hK hZ hA hret H locs ls hP hD hS hl
  replace hl : lv_has ls 3 [(0, .ref (ad 0)), (1, .int a1), (2, .int a2)] := hl
  have hT := h
  unfold cT_X8_cost_e at hT
  refine lv_aload_n hx hb dX8_cost_0 rfl (lv_at hl 0 rfl) ?_
  refine cg_X8_10 hx hb hts hown hK hP dX8_cost_1 ?_
  refine lv_iload_n hx hb dX8_cost_4 rfl (lv_at hl 1 rfl) ?_
  refine ccallVZ (n := 1) (b := ad 1) (C := RX0) (As := [.int a1]) (rest := []) hT hx hb hml hown hts hK hZ hA hP hD hS hl gc_X8_97 hdc_X0_isPeg (va_recv hK hP rfl cob_1) ⟨Nat.le_of_ble_eq_true rfl, Nat.le_of_ble_eq_true rfl⟩ rfl rfl rfl (Nat.le_of_ble_eq_true rfl) dX8_cost_5 (Nat.le_refl _) (Nat.le_refl _) (fun b2 S1 vd H locs hP hD hS hT => ?_)
  refine lv_if_eq (tgt := 22) hx hb dX8_cost_8 (by decide) (fun c3 => ?_) (fun c3 => ?_)
  · replace hT := hT.1 c3
    refine lv_iconst (v := (-1)) hx hb dX8_cost_22 (by decide) ?_
    exact hret _ _ _ _ _ _ _ _ _ hP hD hS (Nat.le_refl _) (Nat.le_refl _) hT dX8_cost_23
  · replace hT := hT.2 c3
    refine lv_aload_n hx hb dX8_cost_11 rfl (lv_at hl 0 rfl) ?_
    refine cg_X8_10 hx hb hts hown hK hP dX8_cost_12 ?_
    refine lv_iload_n hx hb dX8_cost_15 rfl (lv_at hl 2 rfl) ?_
    refine ccallVZ (n := 1) (b := ad 1) (C := RX0) (As := [.int a2]) (rest := []) hT hx hb hml hown hts hK hZ hA hP hD hS hl gc_X8_97 hdc_X0_isPeg (va_recv hK hP rfl cob_1) ⟨Nat.le_of_ble_eq_true rfl, Nat.le_of_ble_eq_true rfl⟩ rfl rfl rfl (Nat.le_of_ble_eq_true rfl) dX8_cost_16 (Nat.le_refl _) (Nat.le_refl _) (fun b5 S4 vd H locs hP hD hS hT => ?_)
    refine lv_if_ne (tgt := 24) hx hb dX8_cost_19 (by decide) (fun c6 => ?_) (fun c6 => ?_)
    · replace hT := hT.1 c6
      refine lv_aload_n hx hb dX8_cost_24 rfl (lv_at hl 0 rfl) ?_
      refine cg_X8_10 hx hb hts hown hK hP dX8_cost_25 ?_
      refine cg_X8_111 hx hb hts hown hK hP dX8_cost_28 ?_
      refine lv_iload_n hx hb dX8_cost_31 rfl (lv_at hl 1 rfl) ?_
      refine lv_iconst (v := 5) hx hb dX8_cost_32 (by decide) ?_
      refine lv_imul hx hb dX8_cost_33 ?_
      refine lv_iload_n hx hb dX8_cost_34 rfl (lv_at hl 2 rfl) ?_
      refine lv_iadd hx hb dX8_cost_35 ?_
      obtain ⟨hi7, hT⟩ := hT
      refine va_iald (f := S4.2.1 11) hx hb hK hP 11 0 cat_11 rfl hi7 dX8_cost_36 ?_
      exact hret _ _ _ _ _ _ _ _ _ hP hD hS (Nat.le_refl _) (Nat.le_refl _) hT dX8_cost_37
    · replace hT := hT.2 c6
      refine lv_iconst (v := (-1)) hx hb dX8_cost_22 (by decide) ?_
      exact hret _ _ _ _ _ _ _ _ _ hP hD hS (Nat.le_refl _) (Nat.le_refl _) hT dX8_cost_23
abbrev cX_X8_stand (l : Launch) (S : CS) (a1 : Int32) (a2 : Bool) (post : Bool → CS → Prop) : Prop := cCtZ l yX8_stand cX8_stand 3 4 107 0 0 (fun ad => [.ref (ad 0), .int a1, .int (bI a2)]) S post
def cT_X8_stand_15 (l : Launch) (a1 : Int32) (a2 : Bool) (post : Bool → CS → Prop) (B15 : CS → Prop) (B59 : CS → Prop) (S : CS) : Prop := cX_X8_refuse l S 1 (fun b2 S1 => post b2 S1)
def cT_X8_stand_59 (l : Launch) (a1 : Int32) (a2 : Bool) (post : Bool → CS → Prop) (B15 : CS → Prop) (B59 : CS → Prop) (S : CS) : Prop := cX_X8_accept l S (fun b4 S3 => post b4 S3)
def cT_X8_stand_e (l : Launch) (a1 : Int32) (a2 : Bool) (post : Bool → CS → Prop) (B15 : CS → Prop) (B59 : CS → Prop) (S0 : CS) : Prop := (a1 < 0 → B15 S0) ∧ (¬ a1 < 0 → (a1 < S0.1 5 → cX_X8_isRight l S0 a1 (fun b8 S7 => (¬ bI b8 = 0 → (bI a2 = 0 → cX_X4_forget l (cf S7 0 a1) (fun S11 => B59 S11)) ∧ (¬ bI a2 = 0 → B59 (cf S7 1 a1))) ∧ (bI b8 = 0 → cX_X8_refuse l S7 3 (fun b13 S12 => post b13 S12)))) ∧ (¬ a1 < S0.1 5 → B15 S0))
set_option maxHeartbeats 4000000 in
set_option maxRecDepth 100000 in
theorem c_X8_stand (l : Launch) (S0 : CS) (a1 : Int32) (a2 : Bool) (post : Bool → CS → Prop) (h : ∀ (B15 : CS → Prop) (B59 : CS → Prop), (∀ (S : CS) , cT_X8_stand_15 l a1 a2 post B15 B59 S → B15 S ) → (∀ (S : CS) , cT_X8_stand_59 l a1 a2 post B15 B59 S → B59 S ) → cT_X8_stand_e l a1 a2 post B15 B59 S0) : cX_X8_stand l S0 a1 a2 post := by
  refine csetZ rfl (fun _ => Nat.le_of_ble_eq_true rfl) ?_
  intro p e s m args below meth c D ad vd cI cZ cL cG X A Q hx hb hml hown hts hK hZ hA hret H locs ls hP hD hS hl
  replace hl : lv_has ls 3 [(0, .ref (ad 0)), (1, .int a1), (2, .int (bI a2))] := hl
  obtain ⟨B15, hB15⟩ : ∃ B : CS → Prop, B = (fun S => ∀ (vd : Nat → Nat) (H : Heap) (locs : List Loc) (ls : Array Slot), va_P D vwCl (cW ad vd cI cZ cL cG S ++ X) H → va_D A (cW ad vd cI cZ cL cG S ++ X) → va_S A s.heap H locs → lv_has ls 3 [(0, .ref (ad 0))] → W p l e (crm 4 107 0 0) s m args below meth c H locs 0 0 Q (F0 m 15 ls [])) := ⟨_, rfl⟩
  obtain ⟨B59, hB59⟩ : ∃ B : CS → Prop, B = (fun S => ∀ (vd : Nat → Nat) (H : Heap) (locs : List Loc) (ls : Array Slot), va_P D vwCl (cW ad vd cI cZ cL cG S ++ X) H → va_D A (cW ad vd cI cZ cL cG S ++ X) → va_S A s.heap H locs → lv_has ls 3 [(0, .ref (ad 0))] → W p l e (crm 4 107 0 0) s m args below meth c H locs 0 0 Q (F0 m 59 ls [])) := ⟨_, rfl⟩
  have hT : cT_X8_stand_e l a1 a2 post B15 B59 S0 := by
    refine h B15 B59 ?_ ?_
    · clear hP hD hS hl H locs ls vd
      intro S hT
      unfold cT_X8_stand_15 at hT
      rw [hB15]
      intro vd H locs ls hP hD hS hl
      refine lv_aload_n hx hb dX8_stand_15 rfl (lv_at hl 0 rfl) ?_
      refine lv_iconst (v := 1) hx hb dX8_stand_16 (by decide) ?_
      refine ccallVZ (n := 1) (b := ad 0) (C := RX8) (As := [.int 1]) (rest := []) hT hx hb hml hown hts hK hZ hA hP hD hS hl gc_X8_65 hdc_X8_refuse (va_recv hK hP rfl cob_0) ⟨Nat.le_of_ble_eq_true rfl, Nat.le_of_ble_eq_true rfl⟩ rfl rfl rfl (Nat.le_of_ble_eq_true rfl) dX8_stand_17 (Nat.le_refl _) (Nat.le_refl _) (fun b2 S1 vd H locs hP hD hS hT => ?_)
      exact hret b2 _ _ _ _ _ _ _ _ hP hD hS (Nat.le_refl _) (Nat.le_refl _) hT dX8_stand_20
    · clear hP hD hS hl H locs ls vd
      intro S hT
      unfold cT_X8_stand_59 at hT
      rw [hB59]
      intro vd H locs ls hP hD hS hl
      refine lv_aload_n hx hb dX8_stand_59 rfl (lv_at hl 0 rfl) ?_
      refine ccallVZ (n := 0) (b := ad 0) (C := RX8) (As := []) (rest := []) hT hx hb hml hown hts hK hZ hA hP hD hS hl gc_X8_83 hdc_X8_accept (va_recv hK hP rfl cob_0) ⟨Nat.le_of_ble_eq_true rfl, Nat.le_of_ble_eq_true rfl⟩ rfl rfl rfl (Nat.le_of_ble_eq_true rfl) dX8_stand_60 (Nat.le_refl _) (Nat.le_refl _) (fun b4 S3 vd H locs hP hD hS hT => ?_)
      exact hret b4 _ _ _ _ _ _ _ _ hP hD hS (Nat.le_refl _) (Nat.le_refl _) hT dX8_stand_63
  unfold cT_X8_stand_e at hT
  refine lv_iload_n hx hb dX8_stand_0 rfl (lv_at hl 1 rfl) ?_
  refine lv_if_lt (tgt := 15) hx hb dX8_stand_1 (by decide) (fun c5 => ?_) (fun c5 => ?_)
  · replace hT := hT.1 c5
    rw [hB15] at hT
    exact hT _ _ _ _ hP hD hS (lv_sub hl [0] rfl)
  · replace hT := hT.2 c5
    refine lv_iload_n hx hb dX8_stand_4 rfl (lv_at hl 1 rfl) ?_
    refine lv_aload_n hx hb dX8_stand_5 rfl (lv_at hl 0 rfl) ?_
    refine cg_X8_10 hx hb hts hown hK hP dX8_stand_6 ?_
    refine cg_X8_114 (v := S0.1 5) hx hb hts hown hK hP rfl dX8_stand_9 ?_
    refine lv_icmp_lt (tgt := 21) hx hb dX8_stand_12 (by decide) (fun c6 => ?_) (fun c6 => ?_)
    · replace hT := hT.1 c6
      refine lv_aload_n hx hb dX8_stand_21 rfl (lv_at hl 0 rfl) ?_
      refine lv_iload_n hx hb dX8_stand_22 rfl (lv_at hl 1 rfl) ?_
      refine ccallVZ (n := 1) (b := ad 0) (C := RX8) (As := [.int a1]) (rest := []) hT hx hb hml hown hts hK hZ hA hP hD hS hl gc_X8_94 hdc_X8_isRight (va_recv hK hP rfl cob_0) ⟨Nat.le_of_ble_eq_true rfl, Nat.le_of_ble_eq_true rfl⟩ rfl rfl rfl (Nat.le_of_ble_eq_true rfl) dX8_stand_23 (Nat.le_refl _) (Nat.le_refl _) (fun b8 S7 vd H locs hP hD hS hT => ?_)
      refine lv_if_ne (tgt := 35) hx hb dX8_stand_26 (by decide) (fun c9 => ?_) (fun c9 => ?_)
      · replace hT := hT.1 c9
        refine lv_iload_n hx hb dX8_stand_35 rfl (lv_at hl 2 rfl) ?_
        refine lv_if_eq (tgt := 47) hx hb dX8_stand_36 (by decide) (fun c10 => ?_) (fun c10 => ?_)
        · replace hT := hT.1 c10
          refine lv_aload_n hx hb dX8_stand_47 rfl (lv_at hl 0 rfl) ?_
          refine lv_iload_n hx hb dX8_stand_48 rfl (lv_at hl 1 rfl) ?_
          refine cp_X8_73 hx hb hts hown hK hP hD hS dX8_stand_49 (fun H locs hP hD hS => ?_)
          refine lv_aload_n hx hb dX8_stand_52 rfl (lv_at hl 0 rfl) ?_
          refine cg_X8_26 hx hb hts hown hK hP dX8_stand_53 ?_
          refine ccallVV (n := 0) (b := ad 3) (C := RX4) (As := []) (rest := []) hT hx hb hml hown hts hK hZ hA hP hD hS hl gc_X8_117 hdc_X4_forget (va_recv hK hP rfl cob_3) ⟨Nat.le_of_ble_eq_true rfl, Nat.le_of_ble_eq_true rfl⟩ rfl rfl rfl (Nat.le_of_ble_eq_true rfl) dX8_stand_56 (Nat.le_refl _) (Nat.le_refl _) (fun S11 vd H locs hP hD hS hT => ?_)
          rw [hB59] at hT
          exact hT _ _ _ _ hP hD hS (lv_sub hl [0] rfl)
        · replace hT := hT.2 c10
          refine lv_aload_n hx hb dX8_stand_39 rfl (lv_at hl 0 rfl) ?_
          refine lv_iload_n hx hb dX8_stand_40 rfl (lv_at hl 1 rfl) ?_
          refine cp_X8_77 hx hb hts hown hK hP hD hS dX8_stand_41 (fun H locs hP hD hS => ?_)
          refine lv_goto (tgt := 59) hx hb dX8_stand_44 (by decide) ?_
          rw [hB59] at hT
          exact hT _ _ _ _ hP hD hS (lv_sub hl [0] rfl)
      · replace hT := hT.2 c9
        refine lv_aload_n hx hb dX8_stand_29 rfl (lv_at hl 0 rfl) ?_
        refine lv_iconst (v := 3) hx hb dX8_stand_30 (by decide) ?_
        refine ccallVZ (n := 1) (b := ad 0) (C := RX8) (As := [.int 3]) (rest := []) hT hx hb hml hown hts hK hZ hA hP hD hS hl gc_X8_65 hdc_X8_refuse (va_recv hK hP rfl cob_0) ⟨Nat.le_of_ble_eq_true rfl, Nat.le_of_ble_eq_true rfl⟩ rfl rfl rfl (Nat.le_of_ble_eq_true rfl) dX8_stand_31 (Nat.le_refl _) (Nat.le_refl _) (fun b13 S12 vd H locs hP hD hS hT => ?_)
        exact hret b13 _ _ _ _ _ _ _ _ hP hD hS (Nat.le_refl _) (Nat.le_refl _) hT dX8_stand_34
    · replace hT := hT.2 c6
      rw [hB15] at hT
      exact hT _ _ _ _ hP hD hS (lv_sub hl [0] rfl)
