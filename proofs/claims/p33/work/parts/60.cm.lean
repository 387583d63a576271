abbrev cX_X8_refuse (l : Launch) (S : CS) (a1 : Int32) (post : Bool → CS → Prop) : Prop := cCtZ l yX8_refuse cX8_refuse 2 0 0 0 0 (fun ad => [.ref (ad 0), .int a1]) S post
def cT_X8_refuse_e (l : Launch) (a1 : Int32) (post : Bool → CS → Prop) (S0 : CS) : Prop := post false (cf S0 2 a1)
set_option maxHeartbeats 4000000 in
set_option maxRecDepth 100000 in
theorem c_X8_refuse (l : Launch) (S0 : CS) (a1 : Int32) (post : Bool → CS → Prop) (h : cT_X8_refuse_e l a1 post S0) : cX_X8_refuse l S0 a1 post := by
  refine csetZ rfl (fun _ => Nat.le_of_ble_eq_true rfl) ?_
  intro p e s m args below meth c D ad vd cI cZ cL cG X A Q hx hb hml hown hts hK hZ hA hret H locs ls hP hD hS hl
  replace hl : lv_has ls 2 [(0, .ref (ad 0)), (1, .int a1)] := hl
  have hT := h
  unfold cT_X8_refuse_e at hT
  refine lv_aload_n hx hb dX8_refuse_0 rfl (lv_at hl 0 rfl) ?_
  refine lv_iload_n hx hb dX8_refuse_1 rfl (lv_at hl 1 rfl) ?_
  refine cp_X8_149 hx hb hts hown hK hP hD hS dX8_refuse_2 (fun H locs hP hD hS => ?_)
  refine lv_iconst (v := 0) hx hb dX8_refuse_5 (by decide) ?_
  exact hret false _ _ _ _ _ _ _ _ hP hD hS (Nat.le_refl _) (Nat.le_refl _) hT dX8_refuse_6
abbrev cX_X0_begin (l : Launch) (S : CS) (a1 : Int32) (a2 : Int32) (post : CS → Prop) : Prop := cCtV l yX0_begin cX0_begin 4 2 60 0 0 (fun ad => [.ref (ad 1), .int a1, .int a2]) S post
def cT_X0_begin_17 (l : Launch) (a1 : Int32) (a2 : Int32) (post : CS → Prop) (B17 : CS → Int32 → Prop) (B54 : CS → Prop) (S : CS) (x3 : Int32) : Prop := (7 ≤ x3 → B54 S) ∧ (¬ 7 ≤ x3 → (a2 ≤ x3 → B54 S) ∧ (¬ a2 ≤ x3 → vp_in x3 7 ∧ B17 (cf (ca S 9 (upd (S.2.1 9) x3.toNatClampNeg (S.1 5))) 5 ((S.1 5) * a1)) (x3 + 1)))
def cT_X0_begin_54 (l : Launch) (a1 : Int32) (a2 : Int32) (post : CS → Prop) (B17 : CS → Int32 → Prop) (B54 : CS → Prop) (S : CS) : Prop := post (ca (ca S 10 (filI (S.2.1 10) 7 0)) 11 (filI (S.2.1 11) 25 0))
def cT_X0_begin_e (l : Launch) (a1 : Int32) (a2 : Int32) (post : CS → Prop) (B17 : CS → Int32 → Prop) (B54 : CS → Prop) (S0 : CS) : Prop := B17 (cf (cf (cf S0 3 a1) 4 a2) 5 1) 0
set_option maxHeartbeats 4000000 in
set_option maxRecDepth 100000 in
theorem c_X0_begin (l : Launch) (S0 : CS) (a1 : Int32) (a2 : Int32) (post : CS → Prop) (h : ∀ (B17 : CS → Int32 → Prop) (B54 : CS → Prop), (∀ (S : CS) (x3 : Int32), cT_X0_begin_17 l a1 a2 post B17 B54 S x3 → B17 S x3) → (∀ (S : CS) , cT_X0_begin_54 l a1 a2 post B17 B54 S → B54 S ) → cT_X0_begin_e l a1 a2 post B17 B54 S0) : cX_X0_begin l S0 a1 a2 post := by
  refine csetV rfl (fun _ => Nat.le_of_ble_eq_true rfl) ?_
  intro p e s m args below meth c D ad vd cI cZ cL cG X A Q hx hb hml hown hts hK hZ hA hret H locs ls hP hD hS hl
  replace hl : lv_has ls 4 [(0, .ref (ad 1)), (1, .int a1), (2, .int a2)] := hl
  obtain ⟨B17, hB17⟩ : ∃ B : CS → Int32 → Prop, B = (fun S x3 => ∀ (vd : Nat → Nat) (H : Heap) (locs : List Loc) (ls : Array Slot), va_P D vwCl (cW ad vd cI cZ cL cG S ++ X) H → va_D A (cW ad vd cI cZ cL cG S ++ X) → va_S A s.heap H locs → lv_has ls 4 [(0, .ref (ad 1)), (1, .int a1), (2, .int a2), (3, .int x3)] → W p l e (crm 2 60 0 0) s m args below meth c H locs 0 0 Q (F0 m 17 ls [])) := ⟨_, rfl⟩
  obtain ⟨B54, hB54⟩ : ∃ B : CS → Prop, B = (fun S => ∀ (vd : Nat → Nat) (H : Heap) (locs : List Loc) (ls : Array Slot), va_P D vwCl (cW ad vd cI cZ cL cG S ++ X) H → va_D A (cW ad vd cI cZ cL cG S ++ X) → va_S A s.heap H locs → lv_has ls 4 [(0, .ref (ad 1))] → W p l e (crm 2 60 0 0) s m args below meth c H locs 0 0 Q (F0 m 54 ls [])) := ⟨_, rfl⟩
  have hT : cT_X0_begin_e l a1 a2 post B17 B54 S0 := by
    refine h B17 B54 ?_ ?_
    · clear hP hD hS hl H locs ls vd
      intro S x3 hT
      unfold cT_X0_begin_17 at hT
      rw [hB17]
      intro vd H locs ls hP hD hS hl
      refine lv_iload_n hx hb dX0_begin_17 rfl (lv_at hl 3 rfl) ?_
      refine lv_bipush (v := 7) hx hb dX0_begin_18 (by decide) ?_
      refine lv_icmp_ge (tgt := 54) hx hb dX0_begin_20 (by decide) (fun c1 => ?_) (fun c1 => ?_)
      · replace hT := hT.1 c1
        rw [hB54] at hT
        exact hT _ _ _ _ hP hD hS (lv_sub hl [0] rfl)
      · replace hT := hT.2 c1
        refine lv_iload_n hx hb dX0_begin_23 rfl (lv_at hl 3 rfl) ?_
        refine lv_iload_n hx hb dX0_begin_24 rfl (lv_at hl 2 rfl) ?_
        refine lv_icmp_ge (tgt := 54) hx hb dX0_begin_25 (by decide) (fun c2 => ?_) (fun c2 => ?_)
        · replace hT := hT.1 c2
          rw [hB54] at hT
          exact hT _ _ _ _ hP hD hS (lv_sub hl [0] rfl)
        · replace hT := hT.2 c2
          refine lv_aload_n hx hb dX0_begin_28 rfl (lv_at hl 0 rfl) ?_
          refine cg_X0_9 hx hb hts hown hK hP dX0_begin_29 ?_
          refine lv_iload_n hx hb dX0_begin_32 rfl (lv_at hl 3 rfl) ?_
          refine lv_aload_n hx hb dX0_begin_33 rfl (lv_at hl 0 rfl) ?_
          refine cg_X0_32 (v := S.1 5) hx hb hts hown hK hP rfl dX0_begin_34 ?_
          obtain ⟨hi3, hT⟩ := hT
          refine va_iast (f := S.2.1 9) hx hb hK hP hD hS 9 0 cat_9 rfl hi3 dX0_begin_37 (fun H locs hP hD hS => ?_)
          replace hP := csetP_9 hP
          replace hD := csetD_9 hD
          refine lv_aload_n hx hb dX0_begin_38 rfl (lv_at hl 0 rfl) ?_
          refine lv_dup hx hb dX0_begin_39 rfl ?_
          refine cg_X0_32 (v := S.1 5) hx hb hts hown hK hP rfl dX0_begin_40 ?_
          refine lv_iload_n hx hb dX0_begin_43 rfl (lv_at hl 1 rfl) ?_
          refine lv_imul hx hb dX0_begin_44 ?_
          refine cp_X0_32 hx hb hts hown hK hP hD hS dX0_begin_45 (fun H locs hP hD hS => ?_)
          refine lv_iinc (v := x3 + 1) (lv' := [(3, .int (x3 + 1)), (0, .ref (ad 1)), (1, .int a1), (2, .int a2)]) hx hb dX0_begin_48 hl (k := 3) rfl rfl (by decide) rfl (fun ls hl => ?_)
          refine lv_goto (tgt := 17) hx hb dX0_begin_51 (by decide) ?_
          rw [hB17] at hT
          exact hT _ _ _ _ hP hD hS (lv_sub hl [1, 2, 3, 0] rfl)
    · clear hP hD hS hl H locs ls vd
      intro S hT
      unfold cT_X0_begin_54 at hT
      rw [hB54]
      intro vd H locs ls hP hD hS hl
      refine lv_aload_n hx hb dX0_begin_54 rfl (lv_at hl 0 rfl) ?_
      refine cg_X0_15 hx hb hts hown hK hP dX0_begin_55 ?_
      refine lv_iconst (v := 0) hx hb dX0_begin_58 (by decide) ?_
      refine cfill_filI (S := S) (f := S.2.1 10) (n := 7) (v := 0) 10 cat_10 (by decide) hx hb hml hown hts hK hA hP hD hS hl gf_X0_35 ⟨Nat.le_of_ble_eq_true rfl, Nat.le_of_ble_eq_true rfl⟩ (Nat.le_of_ble_eq_true rfl) dX0_begin_59 (Nat.le_refl _) (Nat.le_refl _) (fun H locs hP hD hS => ?_)
      replace hP := csetP_10 hP
      replace hD := csetD_10 hD
      refine lv_aload_n hx hb dX0_begin_62 rfl (lv_at hl 0 rfl) ?_
      refine cg_X0_18 hx hb hts hown hK hP dX0_begin_63 ?_
      refine lv_iconst (v := 0) hx hb dX0_begin_66 (by decide) ?_
      refine cfill_filI (S := ca S 10 (filI (S.2.1 10) 7 0)) (f := S.2.1 11) (n := 25) (v := 0) 11 cat_11 (by decide) hx hb hml hown hts hK hA hP hD hS hl gf_X0_35 ⟨Nat.le_of_ble_eq_true rfl, Nat.le_of_ble_eq_true rfl⟩ (Nat.le_of_ble_eq_true rfl) dX0_begin_67 (Nat.le_refl _) (Nat.le_refl _) (fun H locs hP hD hS => ?_)
      replace hP := csetP_11 hP
      replace hD := csetD_11 hD
      exact hret _ _ _ _ _ _ _ _ hP hD hS (Nat.le_refl _) (Nat.le_refl _) hT dX0_begin_70
  unfold cT_X0_begin_e at hT
  refine lv_aload_n hx hb dX0_begin_0 rfl (lv_at hl 0 rfl) ?_
  refine lv_iload_n hx hb dX0_begin_1 rfl (lv_at hl 1 rfl) ?_
  refine cp_X0_25 hx hb hts hown hK hP hD hS dX0_begin_2 (fun H locs hP hD hS => ?_)
  refine lv_aload_n hx hb dX0_begin_5 rfl (lv_at hl 0 rfl) ?_
  refine lv_iload_n hx hb dX0_begin_6 rfl (lv_at hl 2 rfl) ?_
  refine cp_X0_29 hx hb hts hown hK hP hD hS dX0_begin_7 (fun H locs hP hD hS => ?_)
  refine lv_aload_n hx hb dX0_begin_10 rfl (lv_at hl 0 rfl) ?_
  refine lv_iconst (v := 1) hx hb dX0_begin_11 (by decide) ?_
  refine cp_X0_32 hx hb hts hown hK hP hD hS dX0_begin_12 (fun H locs hP hD hS => ?_)
  refine lv_iconst (v := 0) hx hb dX0_begin_15 (by decide) ?_
  refine lv_istore_n (lv' := [(3, .int 0), (0, .ref (ad 1)), (1, .int a1), (2, .int a2)]) hx hb dX0_begin_16 rfl hl (by decide) rfl (fun ls hl => ?_)
  rw [hB17] at hT
  exact hT _ _ _ _ hP hD hS (lv_sub hl [1, 2, 3, 0] rfl)
abbrev cX_X4_forget (l : Launch) (S : CS) (post : CS → Prop) : Prop := cCtV l yX4_forget cX4_forget 1 0 0 0 0 (fun ad => [.ref (ad 3)]) S post
def cT_X4_forget_e (l : Launch) (post : CS → Prop) (S0 : CS) : Prop := post (cf (cf S0 9 0) 10 0)
set_option maxHeartbeats 4000000 in
set_option maxRecDepth 100000 in
theorem c_X4_forget (l : Launch) (S0 : CS) (post : CS → Prop) (h : cT_X4_forget_e l post S0) : cX_X4_forget l S0 post := by
  refine csetV rfl (fun _ => Nat.le_of_ble_eq_true rfl) ?_
  intro p e s m args below meth c D ad vd cI cZ cL cG X A Q hx hb hml hown hts hK hZ hA hret H locs ls hP hD hS hl
  replace hl : lv_has ls 1 [(0, .ref (ad 3))] := hl
  have hT := h
  unfold cT_X4_forget_e at hT
  refine lv_aload_n hx hb dX4_forget_0 rfl (lv_at hl 0 rfl) ?_
  refine lv_iconst (v := 0) hx hb dX4_forget_1 (by decide) ?_
  refine cp_X4_18 hx hb hts hown hK hP hD hS dX4_forget_2 (fun H locs hP hD hS => ?_)
  refine lv_aload_n hx hb dX4_forget_5 rfl (lv_at hl 0 rfl) ?_
  refine lv_iconst (v := 0) hx hb dX4_forget_6 (by decide) ?_
  refine cp_X4_22 hx hb hts hown hK hP hD hS dX4_forget_7 (fun H locs hP hD hS => ?_)
  exact hret _ _ _ _ _ _ _ _ hP hD hS (Nat.le_refl _) (Nat.le_refl _) hT dX4_forget_10
abbrev cX_X6_forget (l : Launch) (S : CS) (post : CS → Prop) : Prop := cCtV l yX6_forget cX6_forget 1 0 0 0 0 (fun ad => [.ref (ad 5)]) S post
def cT_X6_forget_e (l : Launch) (post : CS → Prop) (S0 : CS) : Prop := post (cf S0 12 (-1))
set_option maxHeartbeats 4000000 in
set_option maxRecDepth 100000 in
theorem c_X6_forget (l : Launch) (S0 : CS) (post : CS → Prop) (h : cT_X6_forget_e l post S0) : cX_X6_forget l S0 post := by
  refine csetV rfl (fun _ => Nat.le_of_ble_eq_true rfl) ?_
  intro p e s m args below meth c D ad vd cI cZ cL cG X A Q hx hb hml hown hts hK hZ hA hret H locs ls hP hD hS hl
  replace hl : lv_has ls 1 [(0, .ref (ad 5))] := hl
  have hT := h
  unfold cT_X6_forget_e at hT
  refine lv_aload_n hx hb dX6_forget_0 rfl (lv_at hl 0 rfl) ?_
  refine lv_iconst (v := (-1)) hx hb dX6_forget_1 (by decide) ?_
  refine cp_X6_34 hx hb hts hown hK hP hD hS dX6_forget_2 (fun H locs hP hD hS => ?_)
  exact hret _ _ _ _ _ _ _ _ hP hD hS (Nat.le_refl _) (Nat.le_refl _) hT dX6_forget_5
abbrev cX_X2_forget (l : Launch) (S : CS) (post : CS → Prop) : Prop := cCtV l yX2_forget cX2_forget 1 0 0 0 0 (fun ad => [.ref (ad 6)]) S post
def cT_X2_forget_e (l : Launch) (post : CS → Prop) (S0 : CS) : Prop := post (cf S0 17 0)
set_option maxHeartbeats 4000000 in
set_option maxRecDepth 100000 in
theorem c_X2_forget (l : Launch) (S0 : CS) (post : CS → Prop) (h : cT_X2_forget_e l post S0) : cX_X2_forget l S0 post := by
  refine csetV rfl (fun _ => Nat.le_of_ble_eq_true rfl) ?_
  intro p e s m args below meth c D ad vd cI cZ cL cG X A Q hx hb hml hown hts hK hZ hA hret H locs ls hP hD hS hl
  replace hl : lv_has ls 1 [(0, .ref (ad 6))] := hl
  have hT := h
  unfold cT_X2_forget_e at hT
  refine lv_aload_n hx hb dX2_forget_0 rfl (lv_at hl 0 rfl) ?_
  refine lv_iconst (v := 0) hx hb dX2_forget_1 (by decide) ?_
  refine cp_X2_36 hx hb hts hown hK hP hD hS ⟨rfl, rfl⟩ dX2_forget_2 (fun H locs hP hD hS => ?_)
  exact hret _ _ _ _ _ _ _ _ hP hD hS (Nat.le_refl _) (Nat.le_refl _) hT dX2_forget_5
abbrev cX_X8_forgetAll (l : Launch) (S : CS) (post : CS → Prop) : Prop := cCtV l yX8_forgetAll cX8_forgetAll 1 1 20 0 0 (fun ad => [.ref (ad 0)]) S post
def cT_X8_forgetAll_e (l : Launch) (post : CS → Prop) (S0 : CS) : Prop := cX_X4_forget l S0 (fun S1 => cX_X6_forget l S1 (fun S2 => cX_X2_forget l S2 (fun S3 => post S3)))
set_option maxHeartbeats 4000000 in
set_option maxRecDepth 100000 in
theorem c_X8_forgetAll (l : Launch) (S0 : CS) (post : CS → Prop) (h : cT_X8_forgetAll_e l post S0) : cX_X8_forgetAll l S0 post := by
  refine csetV rfl (fun _ => Nat.le_of_ble_eq_true rfl) ?_
  intro p e s m args below meth c D ad vd cI cZ cL cG X A Q hx hb hml hown hts hK hZ hA hret H locs ls hP hD hS hl
  replace hl : lv_has ls 1 [(0, .ref (ad 0))] := hl
  have hT := h
  unfold cT_X8_forgetAll_e at hT
  refine lv_aload_n hx hb dX8_forgetAll_0 rfl (lv_at hl 0 rfl) ?_
  refine cg_X8_26 hx hb hts hown hK hP dX8_forgetAll_1 ?_
  refine ccallVV (n := 0) (b := ad 3) (C := RX4) (As := []) (rest := []) hT hx hb hml hown hts hK hZ hA hP hD hS hl gc_X8_117 hdc_X4_forget (va_recv hK hP rfl cob_3) ⟨Nat.le_of_ble_eq_true rfl, Nat.le_of_ble_eq_true rfl⟩ rfl rfl rfl (Nat.le_of_ble_eq_true rfl) dX8_forgetAll_4 (Nat.le_refl _) (Nat.le_refl _) (fun S1 vd H locs hP hD hS hT => ?_)
  refine lv_aload_n hx hb dX8_forgetAll_7 rfl (lv_at hl 0 rfl) ?_
  refine cg_X8_40 hx hb hts hown hK hP dX8_forgetAll_8 ?_
  refine ccallVV (n := 0) (b := ad 5) (C := RX6) (As := []) (rest := []) hT hx hb hml hown hts hK hZ hA hP hD hS hl gc_X8_273 hdc_X6_forget (va_recv hK hP rfl cob_5) ⟨Nat.le_of_ble_eq_true rfl, Nat.le_of_ble_eq_true rfl⟩ rfl rfl rfl (Nat.le_of_ble_eq_true rfl) dX8_forgetAll_11 (Nat.le_refl _) (Nat.le_refl _) (fun S2 vd H locs hP hD hS hT => ?_)
  refine lv_aload_n hx hb dX8_forgetAll_14 rfl (lv_at hl 0 rfl) ?_
  refine cg_X8_47 hx hb hts hown hK hP dX8_forgetAll_15 ?_
  refine ccallVV (n := 0) (b := ad 6) (C := RX2) (As := []) (rest := []) hT hx hb hml hown hts hK hZ hA hP hD hS hl gc_X8_274 hdc_X2_forget (va_recv hK hP rfl cob_6) ⟨Nat.le_of_ble_eq_true rfl, Nat.le_of_ble_eq_true rfl⟩ rfl rfl rfl (Nat.le_of_ble_eq_true rfl) dX8_forgetAll_18 (Nat.le_refl _) (Nat.le_refl _) (fun S3 vd H locs hP hD hS hT => ?_)
  exact hret _ _ _ _ _ _ _ _ hP hD hS (Nat.le_refl _) (Nat.le_refl _) hT dX8_forgetAll_21
abbrev cX_X8_accept (l : Launch) (S : CS) (post : Bool → CS → Prop) : Prop := cCtZ l yX8_accept cX8_accept 1 0 0 0 0 (fun ad => [.ref (ad 0)]) S post
def cT_X8_accept_e (l : Launch) (post : Bool → CS → Prop) (S0 : CS) : Prop := post true (cf S0 2 0)
set_option maxHeartbeats 4000000 in
set_option maxRecDepth 100000 in
theorem c_X8_accept (l : Launch) (S0 : CS) (post : Bool → CS → Prop) (h : cT_X8_accept_e l post S0) : cX_X8_accept l S0 post := by
  refine csetZ rfl (fun _ => Nat.le_of_ble_eq_true rfl) ?_
  intro p e s m args below meth c D ad vd cI cZ cL cG X A Q hx hb hml hown hts hK hZ hA hret H locs ls hP hD hS hl
  replace hl : lv_has ls 1 [(0, .ref (ad 0))] := hl
  have hT := h
  unfold cT_X8_accept_e at hT
  refine lv_aload_n hx hb dX8_accept_0 rfl (lv_at hl 0 rfl) ?_
  refine lv_iconst (v := 0) hx hb dX8_accept_1 (by decide) ?_
  refine cp_X8_149 hx hb hts hown hK hP hD hS dX8_accept_2 (fun H locs hP hD hS => ?_)
  refine lv_iconst (v := 1) hx hb dX8_accept_5 (by decide) ?_
  exact hret true _ _ _ _ _ _ _ _ hP hD hS (Nat.le_refl _) (Nat.le_refl _) hT dX8_accept_6
abbrev cX_X8_yard (l : Launch) (S : CS) (a1 : Int32) (a2 : Int32) (post : Bool → CS → Prop) : Prop := cCtZ l yX8_yard cX8_yard 3 3 83 0 0 (fun ad => [.ref (ad 0), .int a1, .int a2]) S post
def cT_X8_yard_21 (l : Launch) (a1 : Int32) (a2 : Int32) (post : Bool → CS → Prop) (B21 : CS → Prop) (S : CS) : Prop := cX_X8_refuse l S 1 (fun b2 S1 => post b2 S1)
def cT_X8_yard_e (l : Launch) (a1 : Int32) (a2 : Int32) (post : Bool → CS → Prop) (B21 : CS → Prop) (S0 : CS) : Prop := (a1 < 2 → B21 S0) ∧ (¬ a1 < 2 → (5 < a1 → B21 S0) ∧ (¬ 5 < a1 → (a2 < 1 → B21 S0) ∧ (¬ a2 < 1 → (a2 ≤ 7 → cX_X0_begin l S0 a1 a2 (fun S7 => cX_X8_forgetAll l (cf (cf S7 0 0) 1 0) (fun S8 => cX_X8_accept l S8 (fun b10 S9 => post b10 S9)))) ∧ (¬ a2 ≤ 7 → B21 S0))))
set_option maxHeartbeats 4000000 in
set_option maxRecDepth 100000 in
theorem c_X8_yard (l : Launch) (S0 : CS) (a1 : Int32) (a2 : Int32) (post : Bool → CS → Prop) (h : ∀ (B21 : CS → Prop), (∀ (S : CS) , cT_X8_yard_21 l a1 a2 post B21 S → B21 S ) → cT_X8_yard_e l a1 a2 post B21 S0) : cX_X8_yard l S0 a1 a2 post := by
  refine csetZ rfl (fun _ => Nat.le_of_ble_eq_true rfl) ?_
  intro p e s m args below meth c D ad vd cI cZ cL cG X A Q hx hb hml hown hts hK hZ hA hret H locs ls hP hD hS hl
  replace hl : lv_has ls 3 [(0, .ref (ad 0)), (1, .int a1), (2, .int a2)] := hl
  obtain ⟨B21, hB21⟩ : ∃ B : CS → Prop, B = (fun S => ∀ (vd : Nat → Nat) (H : Heap) (locs : List Loc) (ls : Array Slot), va_P D vwCl (cW ad vd cI cZ cL cG S ++ X) H → va_D A (cW ad vd cI cZ cL cG S ++ X) → va_S A s.heap H locs → lv_has ls 3 [(0, .ref (ad 0))] → W p l e (crm 3 83 0 0) s m args below meth c H locs 0 0 Q (F0 m 21 ls [])) := ⟨_, rfl⟩
  have hT : cT_X8_yard_e l a1 a2 post B21 S0 := by
    refine h B21 ?_
    · clear hP hD hS hl H locs ls vd
      intro S hT
      unfold cT_X8_yard_21 at hT
      rw [hB21]
      intro vd H locs ls hP hD hS hl
      refine lv_aload_n hx hb dX8_yard_21 rfl (lv_at hl 0 rfl) ?_
      refine lv_iconst (v := 1) hx hb dX8_yard_22 (by decide) ?_
      refine ccallVZ (n := 1) (b := ad 0) (C := RX8) (As := [.int 1]) (rest := []) hT hx hb hml hown hts hK hZ hA hP hD hS hl gc_X8_65 hdc_X8_refuse (va_recv hK hP rfl cob_0) ⟨Nat.le_of_ble_eq_true rfl, Nat.le_of_ble_eq_true rfl⟩ rfl rfl rfl (Nat.le_of_ble_eq_true rfl) dX8_yard_23 (Nat.le_refl _) (Nat.le_refl _) (fun b2 S1 vd H locs hP hD hS hT => ?_)
      exact hret b2 _ _ _ _ _ _ _ _ hP hD hS (Nat.le_refl _) (Nat.le_refl _) hT dX8_yard_26
  unfold cT_X8_yard_e at hT
  refine lv_iload_n hx hb dX8_yard_0 rfl (lv_at hl 1 rfl) ?_
  refine lv_iconst (v := 2) hx hb dX8_yard_1 (by decide) ?_
  refine lv_icmp_lt (tgt := 21) hx hb dX8_yard_2 (by decide) (fun c3 => ?_) (fun c3 => ?_)
  · replace hT := hT.1 c3
    rw [hB21] at hT
    exact hT _ _ _ _ hP hD hS (lv_sub hl [0] rfl)
  · replace hT := hT.2 c3
    refine lv_iload_n hx hb dX8_yard_5 rfl (lv_at hl 1 rfl) ?_
    refine lv_iconst (v := 5) hx hb dX8_yard_6 (by decide) ?_
    refine lv_icmp_gt (tgt := 21) hx hb dX8_yard_7 (by decide) (fun c4 => ?_) (fun c4 => ?_)
    · replace hT := hT.1 c4
      rw [hB21] at hT
      exact hT _ _ _ _ hP hD hS (lv_sub hl [0] rfl)
    · replace hT := hT.2 c4
      refine lv_iload_n hx hb dX8_yard_10 rfl (lv_at hl 2 rfl) ?_
      refine lv_iconst (v := 1) hx hb dX8_yard_11 (by decide) ?_
      refine lv_icmp_lt (tgt := 21) hx hb dX8_yard_12 (by decide) (fun c5 => ?_) (fun c5 => ?_)
      · replace hT := hT.1 c5
        rw [hB21] at hT
        exact hT _ _ _ _ hP hD hS (lv_sub hl [0] rfl)
      · replace hT := hT.2 c5
        refine lv_iload_n hx hb dX8_yard_15 rfl (lv_at hl 2 rfl) ?_
        refine lv_bipush (v := 7) hx hb dX8_yard_16 (by decide) ?_
        refine lv_icmp_le (tgt := 27) hx hb dX8_yard_18 (by decide) (fun c6 => ?_) (fun c6 => ?_)
        · replace hT := hT.1 c6
          refine lv_aload_n hx hb dX8_yard_27 rfl (lv_at hl 0 rfl) ?_
          refine cg_X8_10 hx hb hts hown hK hP dX8_yard_28 ?_
          refine lv_iload_n hx hb dX8_yard_31 rfl (lv_at hl 1 rfl) ?_
          refine lv_iload_n hx hb dX8_yard_32 rfl (lv_at hl 2 rfl) ?_
          refine ccallVV (n := 2) (b := ad 1) (C := RX0) (As := [.int a1, .int a2]) (rest := []) hT hx hb hml hown hts hK hZ hA hP hD hS hl gc_X8_69 hdc_X0_begin (va_recv hK hP rfl cob_1) ⟨Nat.le_of_ble_eq_true rfl, Nat.le_of_ble_eq_true rfl⟩ rfl rfl rfl (Nat.le_of_ble_eq_true rfl) dX8_yard_33 (Nat.le_refl _) (Nat.le_refl _) (fun S7 vd H locs hP hD hS hT => ?_)
          refine lv_aload_n hx hb dX8_yard_36 rfl (lv_at hl 0 rfl) ?_
          refine lv_iconst (v := 0) hx hb dX8_yard_37 (by decide) ?_
          refine cp_X8_73 hx hb hts hown hK hP hD hS dX8_yard_38 (fun H locs hP hD hS => ?_)
          refine lv_aload_n hx hb dX8_yard_41 rfl (lv_at hl 0 rfl) ?_
          refine lv_iconst (v := 0) hx hb dX8_yard_42 (by decide) ?_
          refine cp_X8_77 hx hb hts hown hK hP hD hS dX8_yard_43 (fun H locs hP hD hS => ?_)
          refine lv_aload_n hx hb dX8_yard_46 rfl (lv_at hl 0 rfl) ?_
          refine ccallVV (n := 0) (b := ad 0) (C := RX8) (As := []) (rest := []) hT hx hb hml hown hts hK hZ hA hP hD hS hl gc_X8_80 hdc_X8_forgetAll (va_recv hK hP rfl cob_0) ⟨Nat.le_of_ble_eq_true rfl, Nat.le_of_ble_eq_true rfl⟩ rfl rfl rfl (Nat.le_of_ble_eq_true rfl) dX8_yard_47 (Nat.le_refl _) (Nat.le_refl _) (fun S8 vd H locs hP hD hS hT => ?_)
          refine lv_aload_n hx hb dX8_yard_50 rfl (lv_at hl 0 rfl) ?_
          refine ccallVZ (n := 0) (b := ad 0) (C := RX8) (As := []) (rest := []) hT hx hb hml hown hts hK hZ hA hP hD hS hl gc_X8_83 hdc_X8_accept (va_recv hK hP rfl cob_0) ⟨Nat.le_of_ble_eq_true rfl, Nat.le_of_ble_eq_true rfl⟩ rfl rfl rfl (Nat.le_of_ble_eq_true rfl) dX8_yard_51 (Nat.le_refl _) (Nat.le_refl _) (fun b10 S9 vd H locs hP hD hS hT => ?_)
          exact hret b10 _ _ _ _ _ _ _ _ hP hD hS (Nat.le_refl _) (Nat.le_refl _) hT dX8_yard_54
        · replace hT := hT.2 c6
          rw [hB21] at hT
          exact hT _ _ _ _ hP hD hS (lv_sub hl [0] rfl)
abbrev cX_X0_isDisc (l : Launch) (S : CS) (a1 : Int32) (post : Bool → CS → Prop) : Prop := cCtZ l yX0_isDisc cX0_isDisc 2 0 0 0 0 (fun ad => [.ref (ad 1), .int a1]) S post
def cT_X0_isDisc_e (l : Launch) (a1 : Int32) (post : Bool → CS → Prop) (S0 : CS) : Prop := (a1 < 0 → post false S0) ∧ (¬ a1 < 0 → (S0.1 4 ≤ a1 → post false S0) ∧ (¬ S0.1 4 ≤ a1 → post true S0))
set_option maxHeartbeats 4000000 in
set_option maxRecDepth 100000 in
theorem c_X0_isDisc (l : Launch) (S0 : CS) (a1 : Int32) (post : Bool → CS → Prop) (h : cT_X0_isDisc_e l a1 post S0) : cX_X0_isDisc l S0 a1 post := by
  refine csetZ rfl (fun _ => Nat.le_of_ble_eq_true rfl) ?_
  intro p e s m args below meth c D ad vd cI cZ cL cG X A Q hx hb hml hown hts hK hZ hA hret H locs ls hP hD hS hl
  replace hl : lv_has ls 2 [(0, .ref (ad 1)), (1, .int a1)] := hl
  have hT := h
  unfold cT_X0_isDisc_e at hT
  refine lv_iload_n hx hb dX0_isDisc_0 rfl (lv_at hl 1 rfl) ?_
  refine lv_if_lt (tgt := 16) hx hb dX0_isDisc_1 (by decide) (fun c1 => ?_) (fun c1 => ?_)
  · replace hT := hT.1 c1
    refine lv_iconst (v := 0) hx hb dX0_isDisc_16 (by decide) ?_
    exact hret false _ _ _ _ _ _ _ _ hP hD hS (Nat.le_refl _) (Nat.le_refl _) hT dX0_isDisc_17
  · replace hT := hT.2 c1
    refine lv_iload_n hx hb dX0_isDisc_4 rfl (lv_at hl 1 rfl) ?_
    refine lv_aload_n hx hb dX0_isDisc_5 rfl (lv_at hl 0 rfl) ?_
    refine cg_X0_29 (v := S0.1 4) hx hb hts hown hK hP rfl dX0_isDisc_6 ?_
    refine lv_icmp_ge (tgt := 16) hx hb dX0_isDisc_9 (by decide) (fun c2 => ?_) (fun c2 => ?_)
    · replace hT := hT.1 c2
      refine lv_iconst (v := 0) hx hb dX0_isDisc_16 (by decide) ?_
      exact hret false _ _ _ _ _ _ _ _ hP hD hS (Nat.le_refl _) (Nat.le_refl _) hT dX0_isDisc_17
    · replace hT := hT.2 c2
      refine lv_iconst (v := 1) hx hb dX0_isDisc_12 (by decide) ?_
      refine lv_goto (tgt := 17) hx hb dX0_isDisc_13 (by decide) ?_
      exact hret true _ _ _ _ _ _ _ _ hP hD hS (Nat.le_refl _) (Nat.le_refl _) hT dX0_isDisc_17
abbrev cX_X3_lay (l : Launch) (S : CS) (a2 : Int32) (a3 : Int32) (post : CS → Prop) : Prop := cCtV l yX3_lay cX3_lay 7 0 0 0 0 (fun ad => [.ref (ad 2), .ref (ad 1), .int a2, .int a3]) S post
def cT_X3_lay_73 (l : Launch) (a2 : Int32) (a3 : Int32) (post : CS → Prop) (B73 : CS → Int32 → Int32 → Prop) (B92 : CS → Int32 → Int32 → Prop) (S : CS) (x4 : Int32) (x6 : Int32) : Prop := vp_in a3 5 ∧ vp_in a2 7 ∧ vp_in a3 5 ∧ B92 (ca (ca S 15 (upd (S.2.1 15) a3.toNatClampNeg a2)) 16 (upd (S.2.1 16) a3.toNatClampNeg (S.2.1 9 a2.toNatClampNeg))) x4 x6
def cT_X3_lay_92 (l : Launch) (a2 : Int32) (a3 : Int32) (post : CS → Prop) (B73 : CS → Int32 → Int32 → Prop) (B92 : CS → Int32 → Int32 → Prop) (S : CS) (x4 : Int32) (x6 : Int32) : Prop := (¬ x6 = 2 → vp_in a3 5 ∧ post (ca S 14 (upd (S.2.1 14) a3.toNatClampNeg a2))) ∧ (x6 = 2 → (x4 = 2 → vp_in a3 5 ∧ post (ca S 14 (upd (S.2.1 14) a3.toNatClampNeg a2))) ∧ (¬ x4 = 2 → vp_in a3 5 ∧ post (ca (cf S 8 0) 14 (upd (S.2.1 14) a3.toNatClampNeg a2))))
def cT_X3_lay_e (l : Launch) (a2 : Int32) (a3 : Int32) (post : CS → Prop) (B73 : CS → Int32 → Int32 → Prop) (B92 : CS → Int32 → Int32 → Prop) (S0 : CS) : Prop := vp_in a2 7 ∧ ∀ v4_10 : Int32, v4_10 = S0.2.1 10 a2.toNatClampNeg → vp_in a3 5 ∧ ∀ v5_12 : Int32, v5_12 = S0.2.1 14 a3.toNatClampNeg → (¬ v5_12 = (-1) → vp_in v5_12 7 ∧ ∀ v6_15 : Int32, v6_15 = S0.2.1 10 v5_12.toNatClampNeg → (¬ v5_12 = a2 + 1 → B73 S0 v4_10 v6_15) ∧ (v5_12 = a2 + 1 → (¬ v4_10 = 3 → B73 S0 v4_10 v6_15) ∧ (v4_10 = 3 → (¬ v6_15 = 3 → B73 S0 v4_10 v6_15) ∧ (v6_15 = 3 → vp_in a3 5 ∧ vp_in a2 7 ∧ vp_in a3 5 ∧ B92 (ca S0 16 (upd (S0.2.1 16) a3.toNatClampNeg ((S0.2.1 16 a3.toNatClampNeg) + (S0.2.1 9 a2.toNatClampNeg)))) v4_10 v6_15)))) ∧ (v5_12 = (-1) → (¬ v5_12 = a2 + 1 → B73 S0 v4_10 0) ∧ (v5_12 = a2 + 1 → (¬ v4_10 = 3 → B73 S0 v4_10 0) ∧ (v4_10 = 3 → (¬ (0 : Int32) = 3 → B73 S0 v4_10 0) ∧ ((0 : Int32) = 3 → vp_in a3 5 ∧ vp_in a2 7 ∧ vp_in a3 5 ∧ B92 (ca S0 16 (upd (S0.2.1 16) a3.toNatClampNeg ((S0.2.1 16 a3.toNatClampNeg) + (S0.2.1 9 a2.toNatClampNeg)))) v4_10 0))))
set_option maxHeartbeats 4000000 in
set_option maxRecDepth 100000 in
theorem c_X3_lay (l : Launch) (S0 : CS) (a2 : Int32) (a3 : Int32) (post : CS → Prop) (h : ∀ (B73 : CS → Int32 → Int32 → Prop) (B92 : CS → Int32 → Int32 → Prop), (∀ (S : CS) (x4 : Int32) (x6 : Int32), cT_X3_lay_73 l a2 a3 post B73 B92 S x4 x6 → B73 S x4 x6) → (∀ (S : CS) (x4 : Int32) (x6 : Int32), cT_X3_lay_92 l a2 a3 post B73 B92 S x4 x6 → B92 S x4 x6) → cT_X3_lay_e l a2 a3 post B73 B92 S0) : cX_X3_lay l S0 a2 a3 post := by
  refine csetV rfl (fun _ => Nat.le_of_ble_eq_true rfl) ?_
  intro p e s m args below meth c D ad vd cI cZ cL cG X A Q hx hb hml hown hts hK hZ hA hret H locs ls hP hD hS hl
  replace hl : lv_has ls 7 [(0, .ref (ad 2)), (1, .ref (ad 1)), (2, .int a2), (3, .int a3)] := hl
  obtain ⟨B73, hB73⟩ : ∃ B : CS → Int32 → Int32 → Prop, B = (fun S x4 x6 => ∀ (vd : Nat → Nat) (H : Heap) (locs : List Loc) (ls : Array Slot), va_P D vwCl (cW ad vd cI cZ cL cG S ++ X) H → va_D A (cW ad vd cI cZ cL cG S ++ X) → va_S A s.heap H locs → lv_has ls 7 [(0, .ref (ad 2)), (1, .ref (ad 1)), (2, .int a2), (3, .int a3), (4, .int x4), (6, .int x6)] → W p l e (crm 0 0 0 0) s m args below meth c H locs 0 0 Q (F0 m 73 ls [])) := ⟨_, rfl⟩
  obtain ⟨B92, hB92⟩ : ∃ B : CS → Int32 → Int32 → Prop, B = (fun S x4 x6 => ∀ (vd : Nat → Nat) (H : Heap) (locs : List Loc) (ls : Array Slot), va_P D vwCl (cW ad vd cI cZ cL cG S ++ X) H → va_D A (cW ad vd cI cZ cL cG S ++ X) → va_S A s.heap H locs → lv_has ls 7 [(0, .ref (ad 2)), (2, .int a2), (3, .int a3), (4, .int x4), (6, .int x6)] → W p l e (crm 0 0 0 0) s m args below meth c H locs 0 0 Q (F0 m 92 ls [])) := ⟨_, rfl⟩
  have hT : cT_X3_lay_e l a2 a3 post B73 B92 S0 := by
    refine h B73 B92 ?_ ?_
    · clear hP hD hS hl H locs ls vd
      intro S x4 x6 hT
      unfold cT_X3_lay_73 at hT
      rw [hB73]
      intro vd H locs ls hP hD hS hl
      refine lv_aload_n hx hb dX3_lay_73 rfl (lv_at hl 0 rfl) ?_
      refine cg_X3_18 hx hb hts hown hK hP dX3_lay_74 ?_
      refine lv_iload_n hx hb dX3_lay_77 rfl (lv_at hl 3 rfl) ?_
      refine lv_iload_n hx hb dX3_lay_78 rfl (lv_at hl 2 rfl) ?_
      obtain ⟨hi1, hT⟩ := hT
      refine va_iast (f := S.2.1 15) hx hb hK hP hD hS 15 0 cat_15 rfl hi1 dX3_lay_79 (fun H locs hP hD hS => ?_)
      replace hP := csetP_15 hP
      replace hD := csetD_15 hD
      refine lv_aload_n hx hb dX3_lay_80 rfl (lv_at hl 0 rfl) ?_
      refine cg_X3_21 hx hb hts hown hK hP dX3_lay_81 ?_
      refine lv_iload_n hx hb dX3_lay_84 rfl (lv_at hl 3 rfl) ?_
      refine lv_aload_n hx hb dX3_lay_85 rfl (lv_at hl 1 rfl) ?_
      refine cg_X3_52 hx hb hts hown hK hP dX3_lay_86 ?_
      refine lv_iload_n hx hb dX3_lay_89 rfl (lv_at hl 2 rfl) ?_
      obtain ⟨hi2, hT⟩ := hT
      refine va_iald (f := S.2.1 9) hx hb hK hP 9 0 cat_9 rfl hi2 dX3_lay_90 ?_
      obtain ⟨hi3, hT⟩ := hT
      refine va_iast (f := S.2.1 16) hx hb hK hP hD hS 16 0 cat_16 rfl hi3 dX3_lay_91 (fun H locs hP hD hS => ?_)
      replace hP := csetP_16 hP
      replace hD := csetD_16 hD
      rw [hB92] at hT
      exact hT _ _ _ _ hP hD hS (lv_sub hl [0, 2, 3, 4, 5] rfl)
    · clear hP hD hS hl H locs ls vd
      intro S x4 x6 hT
      unfold cT_X3_lay_92 at hT
      rw [hB92]
      intro vd H locs ls hP hD hS hl
      refine lv_iload hx hb dX3_lay_92 (lv_at hl 4 rfl) ?_
      refine lv_iconst (v := 2) hx hb dX3_lay_94 (by decide) ?_
      refine lv_icmp_ne (tgt := 109) hx hb dX3_lay_95 (by decide) (fun c4 => ?_) (fun c4 => ?_)
      · replace hT := hT.1 c4
        refine lv_aload_n hx hb dX3_lay_109 rfl (lv_at hl 0 rfl) ?_
        refine cg_X3_15 hx hb hts hown hK hP dX3_lay_110 ?_
        refine lv_iload_n hx hb dX3_lay_113 rfl (lv_at hl 2 rfl) ?_
        refine lv_iload_n hx hb dX3_lay_114 rfl (lv_at hl 1 rfl) ?_
        obtain ⟨hi5, hT⟩ := hT
        refine va_iast (f := S.2.1 14) hx hb hK hP hD hS 14 0 cat_14 rfl hi5 dX3_lay_115 (fun H locs hP hD hS => ?_)
        replace hP := csetP_14 hP
        replace hD := csetD_14 hD
        exact hret _ _ _ _ _ _ _ _ hP hD hS (Nat.le_refl _) (Nat.le_refl _) hT dX3_lay_116
      · replace hT := hT.2 c4
        refine lv_iload hx hb dX3_lay_98 (lv_at hl 3 rfl) ?_
        refine lv_iconst (v := 2) hx hb dX3_lay_100 (by decide) ?_
        refine lv_icmp_eq (tgt := 109) hx hb dX3_lay_101 (by decide) (fun c6 => ?_) (fun c6 => ?_)
        · replace hT := hT.1 c6
          refine lv_aload_n hx hb dX3_lay_109 rfl (lv_at hl 0 rfl) ?_
          refine cg_X3_15 hx hb hts hown hK hP dX3_lay_110 ?_
          refine lv_iload_n hx hb dX3_lay_113 rfl (lv_at hl 2 rfl) ?_
          refine lv_iload_n hx hb dX3_lay_114 rfl (lv_at hl 1 rfl) ?_
          obtain ⟨hi7, hT⟩ := hT
          refine va_iast (f := S.2.1 14) hx hb hK hP hD hS 14 0 cat_14 rfl hi7 dX3_lay_115 (fun H locs hP hD hS => ?_)
          replace hP := csetP_14 hP
          replace hD := csetD_14 hD
          exact hret _ _ _ _ _ _ _ _ hP hD hS (Nat.le_refl _) (Nat.le_refl _) hT dX3_lay_116
        · replace hT := hT.2 c6
          refine lv_aload_n hx hb dX3_lay_104 rfl (lv_at hl 0 rfl) ?_
          refine lv_iconst (v := 0) hx hb dX3_lay_105 (by decide) ?_
          refine cp_X3_37 hx hb hts hown hK hP hD hS ⟨rfl, rfl⟩ dX3_lay_106 (fun H locs hP hD hS => ?_)
          refine lv_aload_n hx hb dX3_lay_109 rfl (lv_at hl 0 rfl) ?_
          refine cg_X3_15 hx hb hts hown hK hP dX3_lay_110 ?_
          refine lv_iload_n hx hb dX3_lay_113 rfl (lv_at hl 2 rfl) ?_
          refine lv_iload_n hx hb dX3_lay_114 rfl (lv_at hl 1 rfl) ?_
          obtain ⟨hi8, hT⟩ := hT
          refine va_iast (f := S.2.1 14) hx hb hK hP hD hS 14 0 cat_14 rfl hi8 dX3_lay_115 (fun H locs hP hD hS => ?_)
          replace hP := csetP_14 hP
          replace hD := csetD_14 hD
          exact hret _ _ _ _ _ _ _ _ hP hD hS (Nat.le_refl _) (Nat.le_refl _) hT dX3_lay_116
  unfold cT_X3_lay_e at hT
  refine lv_aload_n hx hb dX3_lay_0 rfl (lv_at hl 1 rfl) ?_
  refine cg_X3_62 hx hb hts hown hK hP dX3_lay_1 ?_
  refine lv_iload_n hx hb dX3_lay_4 rfl (lv_at hl 2 rfl) ?_
  obtain ⟨hi9, hT⟩ := hT
  refine va_iald (f := S0.2.1 10) hx hb hK hP 10 0 cat_10 rfl hi9 dX3_lay_5 ?_
  refine lv_topi (fun v4_10 ev4_10 => ?_)
  replace hT := hT v4_10 ev4_10
  refine lv_istore (lv' := [(4, .int v4_10), (0, .ref (ad 2)), (1, .ref (ad 1)), (2, .int a2), (3, .int a3)]) hx hb dX3_lay_6 hl (by decide) rfl (fun ls hl => ?_)
  refine lv_aload_n hx hb dX3_lay_8 rfl (lv_at hl 1 rfl) ?_
  refine cg_X3_15 hx hb hts hown hK hP dX3_lay_9 ?_
  refine lv_iload_n hx hb dX3_lay_12 rfl (lv_at hl 4 rfl) ?_
  obtain ⟨hi11, hT⟩ := hT
  refine va_iald (f := S0.2.1 14) hx hb hK hP 14 0 cat_14 rfl hi11 dX3_lay_13 ?_
  refine lv_topi (fun v5_12 ev5_12 => ?_)
  replace hT := hT v5_12 ev5_12
  refine lv_istore (lv' := [(5, .int v5_12), (4, .int v4_10), (0, .ref (ad 2)), (1, .ref (ad 1)), (2, .int a2), (3, .int a3)]) hx hb dX3_lay_14 hl (by decide) rfl (fun ls hl => ?_)
  refine lv_iload hx hb dX3_lay_16 (lv_at hl 0 rfl) ?_
  refine lv_iconst (v := (-1)) hx hb dX3_lay_18 (by decide) ?_
  refine lv_icmp_ne (tgt := 26) hx hb dX3_lay_19 (by decide) (fun c13 => ?_) (fun c13 => ?_)
  · replace hT := hT.1 c13
    refine lv_aload_n hx hb dX3_lay_26 rfl (lv_at hl 3 rfl) ?_
    refine cg_X3_62 hx hb hts hown hK hP dX3_lay_27 ?_
    refine lv_iload hx hb dX3_lay_30 (lv_at hl 0 rfl) ?_
    obtain ⟨hi14, hT⟩ := hT
    refine va_iald (f := S0.2.1 10) hx hb hK hP 10 0 cat_10 rfl hi14 dX3_lay_32 ?_
    refine lv_topi (fun v6_15 ev6_15 => ?_)
    replace hT := hT v6_15 ev6_15
    refine lv_istore (lv' := [(6, .int v6_15), (5, .int v5_12), (4, .int v4_10), (0, .ref (ad 2)), (1, .ref (ad 1)), (2, .int a2), (3, .int a3)]) hx hb dX3_lay_33 hl (by decide) rfl (fun ls hl => ?_)
    refine lv_iload hx hb dX3_lay_35 (lv_at hl 1 rfl) ?_
    refine lv_iload_n hx hb dX3_lay_37 rfl (lv_at hl 5 rfl) ?_
    refine lv_iconst (v := 1) hx hb dX3_lay_38 (by decide) ?_
    refine lv_iadd hx hb dX3_lay_39 ?_
    refine lv_icmp_ne (tgt := 73) hx hb dX3_lay_40 (by decide) (fun c16 => ?_) (fun c16 => ?_)
    · replace hT := hT.1 c16
      rw [hB73] at hT
      exact hT _ _ _ _ hP hD hS (lv_sub hl [3, 4, 5, 6, 2, 0] rfl)
    · replace hT := hT.2 c16
      refine lv_iload hx hb dX3_lay_43 (lv_at hl 2 rfl) ?_
      refine lv_iconst (v := 3) hx hb dX3_lay_45 (by decide) ?_
      refine lv_icmp_ne (tgt := 73) hx hb dX3_lay_46 (by decide) (fun c17 => ?_) (fun c17 => ?_)
      · replace hT := hT.1 c17
        rw [hB73] at hT
        exact hT _ _ _ _ hP hD hS (lv_sub hl [3, 4, 5, 6, 2, 0] rfl)
      · replace hT := hT.2 c17
        refine lv_iload hx hb dX3_lay_49 (lv_at hl 0 rfl) ?_
        refine lv_iconst (v := 3) hx hb dX3_lay_51 (by decide) ?_
        refine lv_icmp_ne (tgt := 73) hx hb dX3_lay_52 (by decide) (fun c18 => ?_) (fun c18 => ?_)
        · replace hT := hT.1 c18
          rw [hB73] at hT
          exact hT _ _ _ _ hP hD hS (lv_sub hl [3, 4, 5, 6, 2, 0] rfl)
        · replace hT := hT.2 c18
          refine lv_aload_n hx hb dX3_lay_55 rfl (lv_at hl 3 rfl) ?_
          refine cg_X3_21 hx hb hts hown hK hP dX3_lay_56 ?_
          refine lv_iload_n hx hb dX3_lay_59 rfl (lv_at hl 6 rfl) ?_
          refine lv_dup2_11 hx hb dX3_lay_60 rfl rfl ?_
          obtain ⟨hi19, hT⟩ := hT
          refine va_iald (f := S0.2.1 16) hx hb hK hP 16 0 cat_16 rfl hi19 dX3_lay_61 ?_
          refine lv_aload_n hx hb dX3_lay_62 rfl (lv_at hl 4 rfl) ?_
          refine cg_X3_52 hx hb hts hown hK hP dX3_lay_63 ?_
          refine lv_iload_n hx hb dX3_lay_66 rfl (lv_at hl 5 rfl) ?_
          obtain ⟨hi20, hT⟩ := hT
          refine va_iald (f := S0.2.1 9) hx hb hK hP 9 0 cat_9 rfl hi20 dX3_lay_67 ?_
          refine lv_iadd hx hb dX3_lay_68 ?_
          obtain ⟨hi21, hT⟩ := hT
          refine va_iast (f := S0.2.1 16) hx hb hK hP hD hS 16 0 cat_16 rfl hi21 dX3_lay_69 (fun H locs hP hD hS => ?_)
          replace hP := csetP_16 hP
          replace hD := csetD_16 hD
          refine lv_goto (tgt := 92) hx hb dX3_lay_70 (by decide) ?_
          rw [hB92] at hT
          exact hT _ _ _ _ hP hD hS (lv_sub hl [3, 5, 6, 2, 0] rfl)
  · replace hT := hT.2 c13
    refine lv_iconst (v := 0) hx hb dX3_lay_22 (by decide) ?_
    refine lv_goto (tgt := 33) hx hb dX3_lay_23 (by decide) ?_
    refine lv_istore (lv' := [(6, .int 0), (5, .int v5_12), (4, .int v4_10), (0, .ref (ad 2)), (1, .ref (ad 1)), (2, .int a2), (3, .int a3)]) hx hb dX3_lay_33 hl (by decide) rfl (fun ls hl => ?_)
    refine lv_iload hx hb dX3_lay_35 (lv_at hl 1 rfl) ?_
    refine lv_iload_n hx hb dX3_lay_37 rfl (lv_at hl 5 rfl) ?_
    refine lv_iconst (v := 1) hx hb dX3_lay_38 (by decide) ?_
    refine lv_iadd hx hb dX3_lay_39 ?_
    refine lv_icmp_ne (tgt := 73) hx hb dX3_lay_40 (by decide) (fun c22 => ?_) (fun c22 => ?_)
    · replace hT := hT.1 c22
      rw [hB73] at hT
      exact hT _ _ _ _ hP hD hS (lv_sub hl [3, 4, 5, 6, 2, 0] rfl)
    · replace hT := hT.2 c22
      refine lv_iload hx hb dX3_lay_43 (lv_at hl 2 rfl) ?_
      refine lv_iconst (v := 3) hx hb dX3_lay_45 (by decide) ?_
      refine lv_icmp_ne (tgt := 73) hx hb dX3_lay_46 (by decide) (fun c23 => ?_) (fun c23 => ?_)
      · replace hT := hT.1 c23
        rw [hB73] at hT
        exact hT _ _ _ _ hP hD hS (lv_sub hl [3, 4, 5, 6, 2, 0] rfl)
      · replace hT := hT.2 c23
        refine lv_iload hx hb dX3_lay_49 (lv_at hl 0 rfl) ?_
        refine lv_iconst (v := 3) hx hb dX3_lay_51 (by decide) ?_
        refine lv_icmp_ne (tgt := 73) hx hb dX3_lay_52 (by decide) (fun c24 => ?_) (fun c24 => ?_)
        · replace hT := hT.1 c24
          rw [hB73] at hT
          exact hT _ _ _ _ hP hD hS (lv_sub hl [3, 4, 5, 6, 2, 0] rfl)
        · replace hT := hT.2 c24
          refine lv_aload_n hx hb dX3_lay_55 rfl (lv_at hl 3 rfl) ?_
          refine cg_X3_21 hx hb hts hown hK hP dX3_lay_56 ?_
          refine lv_iload_n hx hb dX3_lay_59 rfl (lv_at hl 6 rfl) ?_
          refine lv_dup2_11 hx hb dX3_lay_60 rfl rfl ?_
          obtain ⟨hi25, hT⟩ := hT
          refine va_iald (f := S0.2.1 16) hx hb hK hP 16 0 cat_16 rfl hi25 dX3_lay_61 ?_
          refine lv_aload_n hx hb dX3_lay_62 rfl (lv_at hl 4 rfl) ?_
          refine cg_X3_52 hx hb hts hown hK hP dX3_lay_63 ?_
          refine lv_iload_n hx hb dX3_lay_66 rfl (lv_at hl 5 rfl) ?_
          obtain ⟨hi26, hT⟩ := hT
          refine va_iald (f := S0.2.1 9) hx hb hK hP 9 0 cat_9 rfl hi26 dX3_lay_67 ?_
          refine lv_iadd hx hb dX3_lay_68 ?_
          obtain ⟨hi27, hT⟩ := hT
          refine va_iast (f := S0.2.1 16) hx hb hK hP hD hS 16 0 cat_16 rfl hi27 dX3_lay_69 (fun H locs hP hD hS => ?_)
          replace hP := csetP_16 hP
          replace hD := csetD_16 hD
          refine lv_goto (tgt := 92) hx hb dX3_lay_70 (by decide) ?_
          rw [hB92] at hT
          exact hT _ _ _ _ hP hD hS (lv_sub hl [3, 5, 6, 2, 0] rfl)
abbrev cX_X3_read (l : Launch) (S : CS) (a2 : Int32) (post : CS → Prop) : Prop := cCtV l yX3_read cX3_read 7 2 60 0 0 (fun ad => [.ref (ad 2), .ref (ad 1), .int a2]) S post
def cT_X3_read_28 (l : Launch) (a2 : Int32) (post : CS → Prop) (B28 : CS → Int32 → Int32 → Prop) (B45 : CS → Int32 → Int32 → Int32 → Int32 → Prop) (B73 : CS → Int32 → Int32 → Int32 → Prop) (S : CS) (x3 : Int32) (x4 : Int32) : Prop := (x4 < 0 → post S) ∧ (¬ x4 < 0 → vp_in x4 7 ∧ ∀ v5_3 : Int32, v5_3 = S.2.1 9 x4.toNatClampNeg → B45 S x3 x4 v5_3 0)
def cT_X3_read_45 (l : Launch) (a2 : Int32) (post : CS → Prop) (B28 : CS → Int32 → Int32 → Prop) (B45 : CS → Int32 → Int32 → Int32 → Int32 → Prop) (B73 : CS → Int32 → Int32 → Int32 → Prop) (S : CS) (x3 : Int32) (x4 : Int32) (x5 : Int32) (x6 : Int32) : Prop := ((S.1 3) - 1 ≤ x6 → B73 S x3 x4 x6) ∧ (¬ (S.1 3) - 1 ≤ x6 → (x3 < x5 → B73 S x3 x4 x6) ∧ (¬ x3 < x5 → ∀ v3_6 : Int32, v3_6 = x3 - x5 → B45 S v3_6 x4 x5 (x6 + 1)))
def cT_X3_read_73 (l : Launch) (a2 : Int32) (post : CS → Prop) (B28 : CS → Int32 → Int32 → Prop) (B45 : CS → Int32 → Int32 → Int32 → Int32 → Prop) (B73 : CS → Int32 → Int32 → Int32 → Prop) (S : CS) (x3 : Int32) (x4 : Int32) (x6 : Int32) : Prop := vp_in x4 7 ∧ cX_X3_lay l (ca S 13 (upd (S.2.1 13) x4.toNatClampNeg x6)) x4 x6 (fun S8 => B28 S8 x3 (x4 + (-1)))
def cT_X3_read_e (l : Launch) (a2 : Int32) (post : CS → Prop) (B28 : CS → Int32 → Int32 → Prop) (B45 : CS → Int32 → Int32 → Int32 → Int32 → Prop) (B73 : CS → Int32 → Int32 → Int32 → Prop) (S0 : CS) : Prop := ∀ v4_9 : Int32, v4_9 = (S0.1 4) - 1 → B28 (ca (cf (cf S0 7 a2) 8 1) 14 (filI (S0.2.1 14) 5 (-1))) a2 v4_9
set_option maxHeartbeats 4000000 in
set_option maxRecDepth 100000 in
theorem c_X3_read (l : Launch) (S0 : CS) (a2 : Int32) (post : CS → Prop) (h : ∀ (B28 : CS → Int32 → Int32 → Prop) (B45 : CS → Int32 → Int32 → Int32 → Int32 → Prop) (B73 : CS → Int32 → Int32 → Int32 → Prop), (∀ (S : CS) (x3 : Int32) (x4 : Int32), cT_X3_read_28 l a2 post B28 B45 B73 S x3 x4 → B28 S x3 x4) → (∀ (S : CS) (x3 : Int32) (x4 : Int32) (x5 : Int32) (x6 : Int32), cT_X3_read_45 l a2 post B28 B45 B73 S x3 x4 x5 x6 → B45 S x3 x4 x5 x6) → (∀ (S : CS) (x3 : Int32) (x4 : Int32) (x6 : Int32), cT_X3_read_73 l a2 post B28 B45 B73 S x3 x4 x6 → B73 S x3 x4 x6) → cT_X3_read_e l a2 post B28 B45 B73 S0) : cX_X3_read l S0 a2 post := by
  refine csetV rfl (fun _ => Nat.le_of_ble_eq_true rfl) ?_
  intro p e s m args below meth c D ad vd cI cZ cL cG X A Q hx hb hml hown hts hK hZ hA hret H locs ls hP hD hS hl
  replace hl : lv_has ls 7 [(0, .ref (ad 2)), (1, .ref (ad 1)), (2, .int a2)] := hl
  obtain ⟨B28, hB28⟩ : ∃ B : CS → Int32 → Int32 → Prop, B = (fun S x3 x4 => ∀ (vd : Nat → Nat) (H : Heap) (locs : List Loc) (ls : Array Slot), va_P D vwCl (cW ad vd cI cZ cL cG S ++ X) H → va_D A (cW ad vd cI cZ cL cG S ++ X) → va_S A s.heap H locs → lv_has ls 7 [(0, .ref (ad 2)), (1, .ref (ad 1)), (3, .int x3), (4, .int x4)] → W p l e (crm 2 60 0 0) s m args below meth c H locs 0 0 Q (F0 m 28 ls [])) := ⟨_, rfl⟩
  obtain ⟨B45, hB45⟩ : ∃ B : CS → Int32 → Int32 → Int32 → Int32 → Prop, B = (fun S x3 x4 x5 x6 => ∀ (vd : Nat → Nat) (H : Heap) (locs : List Loc) (ls : Array Slot), va_P D vwCl (cW ad vd cI cZ cL cG S ++ X) H → va_D A (cW ad vd cI cZ cL cG S ++ X) → va_S A s.heap H locs → lv_has ls 7 [(0, .ref (ad 2)), (1, .ref (ad 1)), (3, .int x3), (4, .int x4), (5, .int x5), (6, .int x6)] → W p l e (crm 2 60 0 0) s m args below meth c H locs 0 0 Q (F0 m 45 ls [])) := ⟨_, rfl⟩
  obtain ⟨B73, hB73⟩ : ∃ B : CS → Int32 → Int32 → Int32 → Prop, B = (fun S x3 x4 x6 => ∀ (vd : Nat → Nat) (H : Heap) (locs : List Loc) (ls : Array Slot), va_P D vwCl (cW ad vd cI cZ cL cG S ++ X) H → va_D A (cW ad vd cI cZ cL cG S ++ X) → va_S A s.heap H locs → lv_has ls 7 [(0, .ref (ad 2)), (1, .ref (ad 1)), (3, .int x3), (4, .int x4), (6, .int x6)] → W p l e (crm 2 60 0 0) s m args below meth c H locs 0 0 Q (F0 m 73 ls [])) := ⟨_, rfl⟩
  have hT : cT_X3_read_e l a2 post B28 B45 B73 S0 := by
    refine h B28 B45 B73 ?_ ?_ ?_
    · clear hP hD hS hl H locs ls vd
      intro S x3 x4 hT
      unfold cT_X3_read_28 at hT
      rw [hB28]
      intro vd H locs ls hP hD hS hl
      refine lv_iload hx hb dX3_read_28 (lv_at hl 3 rfl) ?_
      refine lv_if_lt (tgt := 97) hx hb dX3_read_30 (by decide) (fun c1 => ?_) (fun c1 => ?_)
      · replace hT := hT.1 c1
        exact hret _ _ _ _ _ _ _ _ hP hD hS (Nat.le_refl _) (Nat.le_refl _) hT dX3_read_97
      · replace hT := hT.2 c1
        refine lv_aload_n hx hb dX3_read_33 rfl (lv_at hl 1 rfl) ?_
        refine cg_X3_52 hx hb hts hown hK hP dX3_read_34 ?_
        refine lv_iload hx hb dX3_read_37 (lv_at hl 3 rfl) ?_
        obtain ⟨hi2, hT⟩ := hT
        refine va_iald (f := S.2.1 9) hx hb hK hP 9 0 cat_9 rfl hi2 dX3_read_39 ?_
        refine lv_topi (fun v5_3 ev5_3 => ?_)
        replace hT := hT v5_3 ev5_3
        refine lv_istore (lv' := [(5, .int v5_3), (0, .ref (ad 2)), (1, .ref (ad 1)), (3, .int x3), (4, .int x4)]) hx hb dX3_read_40 hl (by decide) rfl (fun ls hl => ?_)
        refine lv_iconst (v := 0) hx hb dX3_read_42 (by decide) ?_
        refine lv_istore (lv' := [(6, .int 0), (5, .int v5_3), (0, .ref (ad 2)), (1, .ref (ad 1)), (3, .int x3), (4, .int x4)]) hx hb dX3_read_43 hl (by decide) rfl (fun ls hl => ?_)
        rw [hB45] at hT
        exact hT _ _ _ _ hP hD hS (lv_sub hl [2, 3, 4, 5, 1, 0] rfl)
    · clear hP hD hS hl H locs ls vd
      intro S x3 x4 x5 x6 hT
      unfold cT_X3_read_45 at hT
      rw [hB45]
      intro vd H locs ls hP hD hS hl
      refine lv_iload hx hb dX3_read_45 (lv_at hl 5 rfl) ?_
      refine lv_aload_n hx hb dX3_read_47 rfl (lv_at hl 1 rfl) ?_
      refine cg_X3_55 (v := S.1 3) hx hb hts hown hK hP rfl dX3_read_48 ?_
      refine lv_iconst (v := 1) hx hb dX3_read_51 (by decide) ?_
      refine lv_isub hx hb dX3_read_52 ?_
      refine lv_icmp_ge (tgt := 73) hx hb dX3_read_53 (by decide) (fun c4 => ?_) (fun c4 => ?_)
      · replace hT := hT.1 c4
        rw [hB73] at hT
        exact hT _ _ _ _ hP hD hS (lv_sub hl [0, 1, 2, 3, 5] rfl)
      · replace hT := hT.2 c4
        refine lv_iload_n hx hb dX3_read_56 rfl (lv_at hl 2 rfl) ?_
        refine lv_iload hx hb dX3_read_57 (lv_at hl 4 rfl) ?_
        refine lv_icmp_lt (tgt := 73) hx hb dX3_read_59 (by decide) (fun c5 => ?_) (fun c5 => ?_)
        · replace hT := hT.1 c5
          rw [hB73] at hT
          exact hT _ _ _ _ hP hD hS (lv_sub hl [0, 1, 2, 3, 5] rfl)
        · replace hT := hT.2 c5
          refine lv_iload_n hx hb dX3_read_62 rfl (lv_at hl 2 rfl) ?_
          refine lv_iload hx hb dX3_read_63 (lv_at hl 4 rfl) ?_
          refine lv_isub hx hb dX3_read_65 ?_
          refine lv_topi (fun v3_6 ev3_6 => ?_)
          replace hT := hT v3_6 ev3_6
          refine lv_istore_n (lv' := [(3, .int v3_6), (0, .ref (ad 2)), (1, .ref (ad 1)), (4, .int x4), (5, .int x5), (6, .int x6)]) hx hb dX3_read_66 rfl hl (by decide) rfl (fun ls hl => ?_)
          refine lv_iinc (v := x6 + 1) (lv' := [(6, .int (x6 + 1)), (3, .int v3_6), (0, .ref (ad 2)), (1, .ref (ad 1)), (4, .int x4), (5, .int x5)]) hx hb dX3_read_67 hl (k := 5) rfl rfl (by decide) rfl (fun ls hl => ?_)
          refine lv_goto (tgt := 45) hx hb dX3_read_70 (by decide) ?_
          rw [hB45] at hT
          exact hT _ _ _ _ hP hD hS (lv_sub hl [2, 3, 1, 4, 5, 0] rfl)
    · clear hP hD hS hl H locs ls vd
      intro S x3 x4 x6 hT
      unfold cT_X3_read_73 at hT
      rw [hB73]
      intro vd H locs ls hP hD hS hl
      refine lv_aload_n hx hb dX3_read_73 rfl (lv_at hl 0 rfl) ?_
      refine cg_X3_9 hx hb hts hown hK hP dX3_read_74 ?_
      refine lv_iload hx hb dX3_read_77 (lv_at hl 3 rfl) ?_
      refine lv_iload hx hb dX3_read_79 (lv_at hl 4 rfl) ?_
      obtain ⟨hi7, hT⟩ := hT
      refine va_iast (f := S.2.1 13) hx hb hK hP hD hS 13 0 cat_13 rfl hi7 dX3_read_81 (fun H locs hP hD hS => ?_)
      replace hP := csetP_13 hP
      replace hD := csetD_13 hD
      refine lv_aload_n hx hb dX3_read_82 rfl (lv_at hl 0 rfl) ?_
      refine lv_aload_n hx hb dX3_read_83 rfl (lv_at hl 1 rfl) ?_
      refine lv_iload hx hb dX3_read_84 (lv_at hl 3 rfl) ?_
      refine lv_iload hx hb dX3_read_86 (lv_at hl 4 rfl) ?_
      refine ccallVV (n := 3) (b := ad 2) (C := RX3) (As := [.ref (ad 1), .int x4, .int x6]) (rest := []) hT hx hb hml hown hts hK hZ hA hP hD hS hl gc_X3_58 hdc_X3_lay (va_recv hK hP rfl cob_2) ⟨Nat.le_of_ble_eq_true rfl, Nat.le_of_ble_eq_true rfl⟩ rfl rfl rfl (Nat.le_of_ble_eq_true rfl) dX3_read_88 (Nat.le_refl _) (Nat.le_refl _) (fun S8 vd H locs hP hD hS hT => ?_)
      refine lv_iinc (v := x4 + (-1)) (lv' := [(4, .int (x4 + (-1))), (0, .ref (ad 2)), (1, .ref (ad 1)), (3, .int x3), (6, .int x6)]) hx hb dX3_read_91 hl (k := 3) rfl rfl (by decide) rfl (fun ls hl => ?_)
      refine lv_goto (tgt := 28) hx hb dX3_read_94 (by decide) ?_
      rw [hB28] at hT
      exact hT _ _ _ _ hP hD hS (lv_sub hl [1, 2, 3, 0] rfl)
  unfold cT_X3_read_e at hT
  refine lv_aload_n hx hb dX3_read_0 rfl (lv_at hl 0 rfl) ?_
  refine lv_iload_n hx hb dX3_read_1 rfl (lv_at hl 2 rfl) ?_
  refine cp_X3_33 hx hb hts hown hK hP hD hS dX3_read_2 (fun H locs hP hD hS => ?_)
  refine lv_aload_n hx hb dX3_read_5 rfl (lv_at hl 0 rfl) ?_
  refine lv_iconst (v := 1) hx hb dX3_read_6 (by decide) ?_
  refine cp_X3_37 hx hb hts hown hK hP hD hS ⟨rfl, rfl⟩ dX3_read_7 (fun H locs hP hD hS => ?_)
  refine lv_aload_n hx hb dX3_read_10 rfl (lv_at hl 0 rfl) ?_
  refine cg_X3_15 hx hb hts hown hK hP dX3_read_11 ?_
  refine lv_iconst (v := (-1)) hx hb dX3_read_14 (by decide) ?_
  refine cfill_filI (S := cf (cf S0 7 a2) 8 1) (f := S0.2.1 14) (n := 5) (v := (-1)) 14 cat_14 (by decide) hx hb hml hown hts hK hA hP hD hS hl gf_X3_41 ⟨Nat.le_of_ble_eq_true rfl, Nat.le_of_ble_eq_true rfl⟩ (Nat.le_of_ble_eq_true rfl) dX3_read_15 (Nat.le_refl _) (Nat.le_refl _) (fun H locs hP hD hS => ?_)
  replace hP := csetP_14 hP
  replace hD := csetD_14 hD
  refine lv_iload_n hx hb dX3_read_18 rfl (lv_at hl 2 rfl) ?_
  refine lv_istore_n (lv' := [(3, .int a2), (0, .ref (ad 2)), (1, .ref (ad 1)), (2, .int a2)]) hx hb dX3_read_19 rfl hl (by decide) rfl (fun ls hl => ?_)
  refine lv_aload_n hx hb dX3_read_20 rfl (lv_at hl 2 rfl) ?_
  refine cg_X3_47 (v := S0.1 4) hx hb hts hown hK hP rfl dX3_read_21 ?_
  refine lv_iconst (v := 1) hx hb dX3_read_24 (by decide) ?_
  refine lv_isub hx hb dX3_read_25 ?_
  refine lv_topi (fun v4_9 ev4_9 => ?_)
  replace hT := hT v4_9 ev4_9
  refine lv_istore (lv' := [(4, .int v4_9), (3, .int a2), (0, .ref (ad 2)), (1, .ref (ad 1)), (2, .int a2)]) hx hb dX3_read_26 hl (by decide) rfl (fun ls hl => ?_)
  rw [hB28] at hT
  exact hT _ _ _ _ hP hD hS (lv_sub hl [2, 3, 1, 0] rfl)
