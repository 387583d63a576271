abbrev cX_X2_sizeOfSet (l : Launch) (S : CS) (a1 : Int32) (post : Int32 → CS → Prop) : Prop := cCtI l yX2_sizeOfSet cX2_sizeOfSet 3 0 0 0 0 (fun ad => [.ref (ad 6), .int a1]) S post
def cT_X2_sizeOfSet_e (l : Launch) (a1 : Int32) (post : Int32 → CS → Prop) (S0 : CS) : Prop := vp_in a1 (S0.2.2.2 35) ∧ ∀ v2_2 : Int32, v2_2 = S0.2.1 35 a1.toNatClampNeg → (¬ v2_2 = (-1) → vp_in v2_2 (S0.2.2.2 36) ∧ post (S0.2.1 36 v2_2.toNatClampNeg) S0) ∧ (v2_2 = (-1) → post 0 S0)
set_option maxHeartbeats 4000000 in
set_option maxRecDepth 100000 in
theorem c_X2_sizeOfSet (l : Launch) (S0 : CS) (a1 : Int32) (post : Int32 → CS → Prop) (h : cT_X2_sizeOfSet_e l a1 post S0) : cX_X2_sizeOfSet l S0 a1 post := by
  refine csetI rfl (fun _ => Nat.le_of_ble_eq_true rfl) ?_
  intro p e s m args below meth c D ad vd cI cZ cL cG X A Q hx hb hml hown hts hK hZ hA hret H locs ls hP hD hS hl
  replace hl : lv_has ls 3 [(0, .ref (ad 6)), (1, .int a1)] := hl
  have hT := h
  unfold cT_X2_sizeOfSet_e at hT
  refine lv_aload_n hx hb dX2_sizeOfSet_0 rfl (lv_at hl 0 rfl) ?_
  refine cg_X2_27 hx hb hts hown hK hP dX2_sizeOfSet_1 ?_
  refine lv_iload_n hx hb dX2_sizeOfSet_4 rfl (lv_at hl 1 rfl) ?_
  obtain ⟨hi1, hT⟩ := hT
  refine va_iald (f := S0.2.1 35) hx hb hK hP 35 0 cat_35 rfl hi1 dX2_sizeOfSet_5 ?_
  refine lv_topi (fun v2_2 ev2_2 => ?_)
  replace hT := hT v2_2 ev2_2
  refine lv_istore_n (lv' := [(2, .int v2_2), (0, .ref (ad 6)), (1, .int a1)]) hx hb dX2_sizeOfSet_6 rfl hl (by decide) rfl (fun ls hl => ?_)
  refine lv_iload_n hx hb dX2_sizeOfSet_7 rfl (lv_at hl 0 rfl) ?_
  refine lv_iconst (v := (-1)) hx hb dX2_sizeOfSet_8 (by decide) ?_
  refine lv_icmp_ne (tgt := 16) hx hb dX2_sizeOfSet_9 (by decide) (fun c3 => ?_) (fun c3 => ?_)
  · replace hT := hT.1 c3
    refine lv_aload_n hx hb dX2_sizeOfSet_16 rfl (lv_at hl 1 rfl) ?_
    refine cg_X2_30 hx hb hts hown hK hP dX2_sizeOfSet_17 ?_
    refine lv_iload_n hx hb dX2_sizeOfSet_20 rfl (lv_at hl 0 rfl) ?_
    obtain ⟨hi4, hT⟩ := hT
    refine va_iald (f := S0.2.1 36) hx hb hK hP 36 0 cat_36 rfl hi4 dX2_sizeOfSet_21 ?_
    exact hret _ _ _ _ _ _ _ _ _ hP hD hS (Nat.le_refl _) (Nat.le_refl _) hT dX2_sizeOfSet_22
  · replace hT := hT.2 c3
    refine lv_iconst (v := 0) hx hb dX2_sizeOfSet_12 (by decide) ?_
    refine lv_goto (tgt := 22) hx hb dX2_sizeOfSet_13 (by decide) ?_
    exact hret _ _ _ _ _ _ _ _ _ hP hD hS (Nat.le_refl _) (Nat.le_refl _) hT dX2_sizeOfSet_22
abbrev cX_X2_countClosed (l : Launch) (S : CS) (post : Int32 → CS → Prop) : Prop := cCtI l yX2_countClosed cX2_countClosed 3 0 0 0 0 (fun ad => [.ref (ad 6)]) S post
def cT_X2_countClosed_4 (l : Launch) (post : Int32 → CS → Prop) (B4 : CS → Int32 → Int32 → Prop) (B24 : CS → Int32 → Int32 → Prop) (S : CS) (x1 : Int32) (x2 : Int32) : Prop := (S.1 18 ≤ x2 → post x1 S) ∧ (¬ S.1 18 ≤ x2 → vp_in x2 (S.2.2.2 37) ∧ (¬ S.2.1 37 x2.toNatClampNeg = 0 → B24 S x1 x2) ∧ (S.2.1 37 x2.toNatClampNeg = 0 → B24 S (x1 + 1) x2))
def cT_X2_countClosed_24 (l : Launch) (post : Int32 → CS → Prop) (B4 : CS → Int32 → Int32 → Prop) (B24 : CS → Int32 → Int32 → Prop) (S : CS) (x1 : Int32) (x2 : Int32) : Prop := B4 S x1 (x2 + 1)
def cT_X2_countClosed_e (l : Launch) (post : Int32 → CS → Prop) (B4 : CS → Int32 → Int32 → Prop) (B24 : CS → Int32 → Int32 → Prop) (S0 : CS) : Prop := B4 S0 0 0
set_option maxHeartbeats 4000000 in
set_option maxRecDepth 100000 in
theorem c_X2_countClosed (l : Launch) (S0 : CS) (post : Int32 → CS → Prop) (h : ∀ (B4 : CS → Int32 → Int32 → Prop) (B24 : CS → Int32 → Int32 → Prop), (∀ (S : CS) (x1 : Int32) (x2 : Int32), cT_X2_countClosed_4 l post B4 B24 S x1 x2 → B4 S x1 x2) → (∀ (S : CS) (x1 : Int32) (x2 : Int32), cT_X2_countClosed_24 l post B4 B24 S x1 x2 → B24 S x1 x2) → cT_X2_countClosed_e l post B4 B24 S0) : cX_X2_countClosed l S0 post := by
  refine csetI rfl (fun _ => Nat.le_of_ble_eq_true rfl) ?_
  intro p e s m args below meth c D ad vd cI cZ cL cG X A Q hx hb hml hown hts hK hZ hA hret H locs ls hP hD hS hl
  replace hl : lv_has ls 3 [(0, .ref (ad 6))] := hl
  obtain ⟨B4, hB4⟩ : ∃ B : CS → Int32 → Int32 → Prop, B = (fun S x1 x2 => ∀ (vd : Nat → Nat) (H : Heap) (locs : List Loc) (ls : Array Slot), va_P D vwCl (cW ad vd cI cZ cL cG S ++ X) H → va_D A (cW ad vd cI cZ cL cG S ++ X) → va_S A s.heap H locs → lv_has ls 3 [(0, .ref (ad 6)), (1, .int x1), (2, .int x2)] → W p l e (crm 0 0 0 0) s m args below meth c H locs 0 0 Q (F0 m 4 ls [])) := ⟨_, rfl⟩
  obtain ⟨B24, hB24⟩ : ∃ B : CS → Int32 → Int32 → Prop, B = (fun S x1 x2 => ∀ (vd : Nat → Nat) (H : Heap) (locs : List Loc) (ls : Array Slot), va_P D vwCl (cW ad vd cI cZ cL cG S ++ X) H → va_D A (cW ad vd cI cZ cL cG S ++ X) → va_S A s.heap H locs → lv_has ls 3 [(0, .ref (ad 6)), (1, .int x1), (2, .int x2)] → W p l e (crm 0 0 0 0) s m args below meth c H locs 0 0 Q (F0 m 24 ls [])) := ⟨_, rfl⟩
  have hT : cT_X2_countClosed_e l post B4 B24 S0 := by
    refine h B4 B24 ?_ ?_
    · clear hP hD hS hl H locs ls vd
      intro S x1 x2 hT
      unfold cT_X2_countClosed_4 at hT
      rw [hB4]
      intro vd H locs ls hP hD hS hl
      refine lv_iload_n hx hb dX2_countClosed_4 rfl (lv_at hl 2 rfl) ?_
      refine lv_aload_n hx hb dX2_countClosed_5 rfl (lv_at hl 0 rfl) ?_
      refine cg_X2_81 (v := S.1 18) hx hb hts hown hK hP rfl dX2_countClosed_6 ?_
      refine lv_icmp_ge (tgt := 30) hx hb dX2_countClosed_9 (by decide) (fun c1 => ?_) (fun c1 => ?_)
      · replace hT := hT.1 c1
        refine lv_iload_n hx hb dX2_countClosed_30 rfl (lv_at hl 1 rfl) ?_
        exact hret _ _ _ _ _ _ _ _ _ hP hD hS (Nat.le_refl _) (Nat.le_refl _) hT dX2_countClosed_31
      · replace hT := hT.2 c1
        refine lv_aload_n hx hb dX2_countClosed_12 rfl (lv_at hl 0 rfl) ?_
        refine cg_X2_33 hx hb hts hown hK hP dX2_countClosed_13 ?_
        refine lv_iload_n hx hb dX2_countClosed_16 rfl (lv_at hl 2 rfl) ?_
        obtain ⟨hi2, hT⟩ := hT
        refine va_iald (f := S.2.1 37) hx hb hK hP 37 0 cat_37 rfl hi2 dX2_countClosed_17 ?_
        refine lv_if_ne (tgt := 24) hx hb dX2_countClosed_18 (by decide) (fun c3 => ?_) (fun c3 => ?_)
        · replace hT := hT.1 c3
          rw [hB24] at hT
          exact hT _ _ _ _ hP hD hS (lv_sub hl [0, 1, 2] rfl)
        · replace hT := hT.2 c3
          refine lv_iinc (v := x1 + 1) (lv' := [(1, .int (x1 + 1)), (0, .ref (ad 6)), (2, .int x2)]) hx hb dX2_countClosed_21 hl (k := 1) rfl rfl (by decide) rfl (fun ls hl => ?_)
          rw [hB24] at hT
          exact hT _ _ _ _ hP hD hS (lv_sub hl [1, 0, 2] rfl)
    · clear hP hD hS hl H locs ls vd
      intro S x1 x2 hT
      unfold cT_X2_countClosed_24 at hT
      rw [hB24]
      intro vd H locs ls hP hD hS hl
      refine lv_iinc (v := x2 + 1) (lv' := [(2, .int (x2 + 1)), (0, .ref (ad 6)), (1, .int x1)]) hx hb dX2_countClosed_24 hl (k := 2) rfl rfl (by decide) rfl (fun ls hl => ?_)
      refine lv_goto (tgt := 4) hx hb dX2_countClosed_27 (by decide) ?_
      rw [hB4] at hT
      exact hT _ _ _ _ hP hD hS (lv_sub hl [1, 2, 0] rfl)
  unfold cT_X2_countClosed_e at hT
  refine lv_iconst (v := 0) hx hb dX2_countClosed_0 (by decide) ?_
  refine lv_istore_n (lv' := [(1, .int 0), (0, .ref (ad 6))]) hx hb dX2_countClosed_1 rfl hl (by decide) rfl (fun ls hl => ?_)
  refine lv_iconst (v := 0) hx hb dX2_countClosed_2 (by decide) ?_
  refine lv_istore_n (lv' := [(2, .int 0), (1, .int 0), (0, .ref (ad 6))]) hx hb dX2_countClosed_3 rfl hl (by decide) rfl (fun ls hl => ?_)
  rw [hB4] at hT
  exact hT _ _ _ _ hP hD hS (lv_sub hl [2, 1, 0] rfl)
abbrev cX_X2_greatestSize (l : Launch) (S : CS) (post : Int32 → CS → Prop) : Prop := cCtI l yX2_greatestSize cX2_greatestSize 3 2 60 0 0 (fun ad => [.ref (ad 6)]) S post
def cT_X2_greatestSize_4 (l : Launch) (post : Int32 → CS → Prop) (B4 : CS → Int32 → Int32 → Prop) (S : CS) (x1 : Int32) (x2 : Int32) : Prop := (S.1 18 ≤ x2 → post x1 S) ∧ (¬ S.1 18 ≤ x2 → vp_in x2 (S.2.2.2 36) ∧ ∀ v1_3 : Int32, v1_3 = (if x1 < S.2.1 36 x2.toNatClampNeg then S.2.1 36 x2.toNatClampNeg else x1) → B4 S v1_3 (x2 + 1))
def cT_X2_greatestSize_e (l : Launch) (post : Int32 → CS → Prop) (B4 : CS → Int32 → Int32 → Prop) (S0 : CS) : Prop := B4 S0 0 0
set_option maxHeartbeats 4000000 in
set_option maxRecDepth 100000 in
theorem c_X2_greatestSize (l : Launch) (S0 : CS) (post : Int32 → CS → Prop) (h : ∀ (B4 : CS → Int32 → Int32 → Prop), (∀ (S : CS) (x1 : Int32) (x2 : Int32), cT_X2_greatestSize_4 l post B4 S x1 x2 → B4 S x1 x2) → cT_X2_greatestSize_e l post B4 S0) : cX_X2_greatestSize l S0 post := by
  refine csetI rfl (fun _ => Nat.le_of_ble_eq_true rfl) ?_
  intro p e s m args below meth c D ad vd cI cZ cL cG X A Q hx hb hml hown hts hK hZ hA hret H locs ls hP hD hS hl
  replace hl : lv_has ls 3 [(0, .ref (ad 6))] := hl
  obtain ⟨B4, hB4⟩ : ∃ B : CS → Int32 → Int32 → Prop, B = (fun S x1 x2 => ∀ (vd : Nat → Nat) (H : Heap) (locs : List Loc) (ls : Array Slot), va_P D vwCl (cW ad vd cI cZ cL cG S ++ X) H → va_D A (cW ad vd cI cZ cL cG S ++ X) → va_S A s.heap H locs → lv_has ls 3 [(0, .ref (ad 6)), (1, .int x1), (2, .int x2)] → W p l e (crm 2 60 0 0) s m args below meth c H locs 0 0 Q (F0 m 4 ls [])) := ⟨_, rfl⟩
  have hT : cT_X2_greatestSize_e l post B4 S0 := by
    refine h B4 ?_
    · clear hP hD hS hl H locs ls vd
      intro S x1 x2 hT
      unfold cT_X2_greatestSize_4 at hT
      rw [hB4]
      intro vd H locs ls hP hD hS hl
      refine lv_iload_n hx hb dX2_greatestSize_4 rfl (lv_at hl 2 rfl) ?_
      refine lv_aload_n hx hb dX2_greatestSize_5 rfl (lv_at hl 0 rfl) ?_
      refine cg_X2_81 (v := S.1 18) hx hb hts hown hK hP rfl dX2_greatestSize_6 ?_
      refine lv_icmp_ge (tgt := 29) hx hb dX2_greatestSize_9 (by decide) (fun c1 => ?_) (fun c1 => ?_)
      · replace hT := hT.1 c1
        refine lv_iload_n hx hb dX2_greatestSize_29 rfl (lv_at hl 1 rfl) ?_
        exact hret _ _ _ _ _ _ _ _ _ hP hD hS (Nat.le_refl _) (Nat.le_refl _) hT dX2_greatestSize_30
      · replace hT := hT.2 c1
        refine lv_iload_n hx hb dX2_greatestSize_12 rfl (lv_at hl 1 rfl) ?_
        refine lv_aload_n hx hb dX2_greatestSize_13 rfl (lv_at hl 0 rfl) ?_
        refine cg_X2_30 hx hb hts hown hK hP dX2_greatestSize_14 ?_
        refine lv_iload_n hx hb dX2_greatestSize_17 rfl (lv_at hl 2 rfl) ?_
        obtain ⟨hi2, hT⟩ := hT
        refine va_iald (f := S.2.1 36) hx hb hK hP 36 0 cat_36 rfl hi2 dX2_greatestSize_18 ?_
        refine va_mmax (x := x1) (y := S.2.1 36 x2.toNatClampNeg) hx hb (hml.trans hl.1.symm) hown (hts _ kc_694) (hts _ kc_695) (hts _ kc_63) (hts _ kc_696) (Nat.le_of_ble_eq_true rfl) (Nat.le_of_ble_eq_true rfl) (Nat.zero_le _) (Nat.zero_le _) dX2_greatestSize_19 ?_
        refine lv_topi (fun v1_3 ev1_3 => ?_)
        replace hT := hT v1_3 ev1_3
        refine lv_istore_n (lv' := [(1, .int v1_3), (0, .ref (ad 6)), (2, .int x2)]) hx hb dX2_greatestSize_22 rfl hl (by decide) rfl (fun ls hl => ?_)
        refine lv_iinc (v := x2 + 1) (lv' := [(2, .int (x2 + 1)), (1, .int v1_3), (0, .ref (ad 6))]) hx hb dX2_greatestSize_23 hl (k := 2) rfl rfl (by decide) rfl (fun ls hl => ?_)
        refine lv_goto (tgt := 4) hx hb dX2_greatestSize_26 (by decide) ?_
        rw [hB4] at hT
        exact hT _ _ _ _ hP hD hS (lv_sub hl [2, 1, 0] rfl)
  unfold cT_X2_greatestSize_e at hT
  refine lv_iconst (v := 0) hx hb dX2_greatestSize_0 (by decide) ?_
  refine lv_istore_n (lv' := [(1, .int 0), (0, .ref (ad 6))]) hx hb dX2_greatestSize_1 rfl hl (by decide) rfl (fun ls hl => ?_)
  refine lv_iconst (v := 0) hx hb dX2_greatestSize_2 (by decide) ?_
  refine lv_istore_n (lv' := [(2, .int 0), (1, .int 0), (0, .ref (ad 6))]) hx hb dX2_greatestSize_3 rfl hl (by decide) rfl (fun ls hl => ?_)
  rw [hB4] at hT
  exact hT _ _ _ _ hP hD hS (lv_sub hl [2, 1, 0] rfl)
abbrev cX_X8_joined (l : Launch) (mc ms : Nat) (S : CS) (a1 : Int32) (post : Int32 → CS → Prop) : Prop := cCtI l yX8_joined cX8_joined 2 6 160 mc ms (fun ad => [.ref (ad 0), .int a1]) S post
def cT_X8_joined_28 (l : Launch) (mc ms : Nat) (a1 : Int32) (post : Int32 → CS → Prop) (B28 : Nat → Nat → CS → Prop) (kc ks : Nat) (S : CS) : Prop := kc ≤ mc ∧ ks ≤ ms ∧ cX_X8_none l S 1 (fun r2 S1 => kc ≤ mc ∧ ks ≤ ms ∧ post r2 S1)
def cT_X8_joined_e (l : Launch) (mc ms : Nat) (a1 : Int32) (post : Int32 → CS → Prop) (B28 : Nat → Nat → CS → Prop) (S0 : CS) : Prop := (S0.1 5 ≤ 20000 → (a1 < 0 → B28 0 0 S0) ∧ (¬ a1 < 0 → (a1 ≤ 3 → ∃ mc9 ms10 : Nat, 0 + mc9 ≤ mc ∧ 0 + ms10 ≤ ms ∧ cX_X2_find l mc9 ms10 (cf S0 2 0) (fun S8 => (a1 = 0 → 0 + mc9 ≤ mc ∧ 0 + ms10 ≤ ms ∧ post (S8.1 18) S8) ∧ (a1 = 1 → 0 + mc9 ≤ mc ∧ 0 + ms10 ≤ ms ∧ cX_X2_sizeOfSet l S8 (S8.1 0) (fun r14 S13 => 0 + mc9 ≤ mc ∧ 0 + ms10 ≤ ms ∧ post r14 S13)) ∧ (a1 = 2 → 0 + mc9 ≤ mc ∧ 0 + ms10 ≤ ms ∧ cX_X2_countClosed l S8 (fun r18 S17 => 0 + mc9 ≤ mc ∧ 0 + ms10 ≤ ms ∧ post r18 S17)) ∧ ((a1.toInt < 0 ∨ 2 < a1.toInt) → 0 + mc9 ≤ mc ∧ 0 + ms10 ≤ ms ∧ cX_X2_greatestSize l S8 (fun r22 S21 => 0 + mc9 ≤ mc ∧ 0 + ms10 ≤ ms ∧ post r22 S21)))) ∧ (¬ a1 ≤ 3 → B28 0 0 S0))) ∧ (¬ S0.1 5 ≤ 20000 → 0 ≤ mc ∧ 0 ≤ ms ∧ cX_X8_none l S0 2 (fun r26 S25 => 0 ≤ mc ∧ 0 ≤ ms ∧ post r26 S25))
set_option maxHeartbeats 4000000 in
set_option maxRecDepth 100000 in
theorem c_X8_joined (l : Launch) (mc ms : Nat) (S0 : CS) (a1 : Int32) (post : Int32 → CS → Prop) (h : ∀ (B28 : Nat → Nat → CS → Prop), (∀ (kc ks : Nat) (S : CS) , cT_X8_joined_28 l mc ms a1 post B28 kc ks S → B28 kc ks S ) → cT_X8_joined_e l mc ms a1 post B28 S0) : cX_X8_joined l mc ms S0 a1 post := by
  refine csetI rfl (fun _ => Nat.le_of_ble_eq_true rfl) ?_
  intro p e s m args below meth c D ad vd cI cZ cL cG X A Q hx hb hml hown hts hK hZ hA hret H locs ls hP hD hS hl
  replace hl : lv_has ls 2 [(0, .ref (ad 0)), (1, .int a1)] := hl
  obtain ⟨B28, hB28⟩ : ∃ B : Nat → Nat → CS → Prop, B = (fun kc ks S => ∀ (vd : Nat → Nat) (H : Heap) (locs : List Loc) (ls : Array Slot), va_P D vwCl (cW ad vd cI cZ cL cG S ++ X) H → va_D A (cW ad vd cI cZ cL cG S ++ X) → va_S A s.heap H locs → lv_has ls 2 [(0, .ref (ad 0))] → W p l e (crm 6 160 mc ms) s m args below meth c H locs kc ks Q (F0 m 28 ls [])) := ⟨_, rfl⟩
  have hT : cT_X8_joined_e l mc ms a1 post B28 S0 := by
    refine h B28 ?_
    · clear hP hD hS hl H locs ls vd
      intro kc ks S hT
      unfold cT_X8_joined_28 at hT
      rw [hB28]
      intro vd H locs ls hP hD hS hl
      refine lv_aload_n hx hb dX8_joined_28 rfl (lv_at hl 0 rfl) ?_
      refine lv_iconst (v := 1) hx hb dX8_joined_29 (by decide) ?_
      obtain ⟨hk3, hk4, hT⟩ := hT
      refine ccallVI (n := 1) (b := ad 0) (C := RX8) (As := [.int 1]) (rest := []) hT hx hb hml hown hts hK hZ hA hP hD hS hl gc_X8_138 hdc_X8_none (va_recv hK hP rfl cob_0) ⟨Nat.le_of_ble_eq_true rfl, Nat.le_of_ble_eq_true rfl⟩ rfl rfl rfl (Nat.le_of_ble_eq_true rfl) dX8_joined_30 hk3 hk4 (fun r2 S1 vd H locs hP hD hS hT => ?_)
      obtain ⟨hkc, hks, hT⟩ := hT
      exact hret _ _ _ _ _ _ _ _ _ hP hD hS hkc hks hT dX8_joined_33
  unfold cT_X8_joined_e at hT
  refine lv_aload_n hx hb dX8_joined_0 rfl (lv_at hl 0 rfl) ?_
  refine cg_X8_10 hx hb hts hown hK hP dX8_joined_1 ?_
  refine cg_X8_114 (v := S0.1 5) hx hb hts hown hK hP rfl dX8_joined_4 ?_
  refine lv_sipush (v := 20000) hx hb dX8_joined_7 (by decide) ?_
  refine lv_icmp_le (tgt := 19) hx hb dX8_joined_10 (by decide) (fun c5 => ?_) (fun c5 => ?_)
  · replace hT := hT.1 c5
    refine lv_iload_n hx hb dX8_joined_19 rfl (lv_at hl 1 rfl) ?_
    refine lv_if_lt (tgt := 28) hx hb dX8_joined_20 (by decide) (fun c6 => ?_) (fun c6 => ?_)
    · replace hT := hT.1 c6
      rw [hB28] at hT
      exact hT _ _ _ _ hP hD hS (lv_sub hl [0] rfl)
    · replace hT := hT.2 c6
      refine lv_iload_n hx hb dX8_joined_23 rfl (lv_at hl 1 rfl) ?_
      refine lv_iconst (v := 3) hx hb dX8_joined_24 (by decide) ?_
      refine lv_icmp_le (tgt := 34) hx hb dX8_joined_25 (by decide) (fun c7 => ?_) (fun c7 => ?_)
      · replace hT := hT.1 c7
        refine lv_aload_n hx hb dX8_joined_34 rfl (lv_at hl 0 rfl) ?_
        refine lv_iconst (v := 0) hx hb dX8_joined_35 (by decide) ?_
        refine cp_X8_149 hx hb hts hown hK hP hD hS dX8_joined_36 (fun H locs hP hD hS => ?_)
        refine lv_aload_n hx hb dX8_joined_39 rfl (lv_at hl 0 rfl) ?_
        refine cg_X8_47 hx hb hts hown hK hP dX8_joined_40 ?_
        refine lv_aload_n hx hb dX8_joined_43 rfl (lv_at hl 0 rfl) ?_
        refine cg_X8_10 hx hb hts hown hK hP dX8_joined_44 ?_
        refine lv_aload_n hx hb dX8_joined_47 rfl (lv_at hl 0 rfl) ?_
        refine cg_X8_19 hx hb hts hown hK hP dX8_joined_48 ?_
        obtain ⟨mc9, ms10, hk11, hk12, hT⟩ := hT
        refine ccallVV (n := 2) (b := ad 6) (C := RX2) (As := [.ref (ad 1), .ref (ad 2)]) (rest := []) hT hx hb hml hown hts hK hZ hA hP hD hS hl gc_X8_205 hdc_X2_find (va_recv hK hP rfl cob_6) ⟨Nat.le_of_ble_eq_true rfl, Nat.le_of_ble_eq_true rfl⟩ rfl rfl rfl (Nat.le_of_ble_eq_true rfl) dX8_joined_51 hk11 hk12 (fun S8 vd H locs hP hD hS hT => ?_)
        refine lv_iload_n hx hb dX8_joined_54 rfl (lv_at hl 1 rfl) ?_
        by_cases csw : (a1.toInt < 0 ∨ 2 < a1.toInt)
        · replace hT := hT.2.2.2 csw
          refine lv_tableOut (tgt := 108) hx hb dX8_joined_55 csw (by decide) ?_
          refine lv_aload_n hx hb dX8_joined_108 rfl (lv_at hl 0 rfl) ?_
          refine cg_X8_47 hx hb hts hown hK hP dX8_joined_109 ?_
          obtain ⟨hk23, hk24, hT⟩ := hT
          refine ccallVI (n := 0) (b := ad 6) (C := RX2) (As := []) (rest := []) hT hx hb hml hown hts hK hZ hA hP hD hS hl gc_X8_218 hdc_X2_greatestSize (va_recv hK hP rfl cob_6) ⟨Nat.le_of_ble_eq_true rfl, Nat.le_of_ble_eq_true rfl⟩ rfl rfl rfl (Nat.le_of_ble_eq_true rfl) dX8_joined_112 hk23 hk24 (fun r22 S21 vd H locs hP hD hS hT => ?_)
          obtain ⟨hkc, hks, hT⟩ := hT
          exact hret _ _ _ _ _ _ _ _ _ hP hD hS hkc hks hT dX8_joined_115
        · have csw : a1 = 0 ∨ a1 = 1 ∨ a1 = 2 := sw_cases0_2 csw
          rcases csw with csw | csw | csw
          · replace hT := hT.1 csw
            refine lv_tableIn (tgt := 80) hx hb dX8_joined_55 (by rw [csw]; decide) (by rw [csw]; decide) (by rw [csw]; rfl) (by decide) ?_
            refine lv_aload_n hx hb dX8_joined_80 rfl (lv_at hl 0 rfl) ?_
            refine cg_X8_47 hx hb hts hown hK hP dX8_joined_81 ?_
            refine cg_X8_209 (v := S8.1 18) hx hb hts hown hK hP rfl dX8_joined_84 ?_
            obtain ⟨hkc, hks, hT⟩ := hT
            exact hret _ _ _ _ _ _ _ _ _ hP hD hS hkc hks hT dX8_joined_87
          · replace hT := hT.2.1 csw
            refine lv_tableIn (tgt := 88) hx hb dX8_joined_55 (by rw [csw]; decide) (by rw [csw]; decide) (by rw [csw]; rfl) (by decide) ?_
            refine lv_aload_n hx hb dX8_joined_88 rfl (lv_at hl 0 rfl) ?_
            refine cg_X8_47 hx hb hts hown hK hP dX8_joined_89 ?_
            refine lv_aload_n hx hb dX8_joined_92 rfl (lv_at hl 0 rfl) ?_
            refine cg_X8_73 (v := S8.1 0) hx hb hts hown hK hP rfl dX8_joined_93 ?_
            obtain ⟨hk15, hk16, hT⟩ := hT
            refine ccallVI (n := 1) (b := ad 6) (C := RX2) (As := [.int (S8.1 0)]) (rest := []) hT hx hb hml hown hts hK hZ hA hP hD hS hl gc_X8_212 hdc_X2_sizeOfSet (va_recv hK hP rfl cob_6) ⟨Nat.le_of_ble_eq_true rfl, Nat.le_of_ble_eq_true rfl⟩ rfl rfl rfl (Nat.le_of_ble_eq_true rfl) dX8_joined_96 hk15 hk16 (fun r14 S13 vd H locs hP hD hS hT => ?_)
            obtain ⟨hkc, hks, hT⟩ := hT
            exact hret _ _ _ _ _ _ _ _ _ hP hD hS hkc hks hT dX8_joined_99
          · replace hT := hT.2.2.1 csw
            refine lv_tableIn (tgt := 100) hx hb dX8_joined_55 (by rw [csw]; decide) (by rw [csw]; decide) (by rw [csw]; rfl) (by decide) ?_
            refine lv_aload_n hx hb dX8_joined_100 rfl (lv_at hl 0 rfl) ?_
            refine cg_X8_47 hx hb hts hown hK hP dX8_joined_101 ?_
            obtain ⟨hk19, hk20, hT⟩ := hT
            refine ccallVI (n := 0) (b := ad 6) (C := RX2) (As := []) (rest := []) hT hx hb hml hown hts hK hZ hA hP hD hS hl gc_X8_215 hdc_X2_countClosed (va_recv hK hP rfl cob_6) ⟨Nat.le_of_ble_eq_true rfl, Nat.le_of_ble_eq_true rfl⟩ rfl rfl rfl (Nat.le_of_ble_eq_true rfl) dX8_joined_104 hk19 hk20 (fun r18 S17 vd H locs hP hD hS hT => ?_)
            obtain ⟨hkc, hks, hT⟩ := hT
            exact hret _ _ _ _ _ _ _ _ _ hP hD hS hkc hks hT dX8_joined_107
      · replace hT := hT.2 c7
        rw [hB28] at hT
        exact hT _ _ _ _ hP hD hS (lv_sub hl [0] rfl)
  · replace hT := hT.2 c5
    refine lv_aload_n hx hb dX8_joined_13 rfl (lv_at hl 0 rfl) ?_
    refine lv_iconst (v := 2) hx hb dX8_joined_14 (by decide) ?_
    obtain ⟨hk27, hk28, hT⟩ := hT
    refine ccallVI (n := 1) (b := ad 0) (C := RX8) (As := [.int 2]) (rest := []) hT hx hb hml hown hts hK hZ hA hP hD hS hl gc_X8_138 hdc_X8_none (va_recv hK hP rfl cob_0) ⟨Nat.le_of_ble_eq_true rfl, Nat.le_of_ble_eq_true rfl⟩ rfl rfl rfl (Nat.le_of_ble_eq_true rfl) dX8_joined_15 hk27 hk28 (fun r26 S25 vd H locs hP hD hS hT => ?_)
    obtain ⟨hkc, hks, hT⟩ := hT
    exact hret _ _ _ _ _ _ _ _ _ hP hD hS hkc hks hT dX8_joined_18
abbrev cX_X8_isRearrangement (l : Launch) (S : CS) (n0 : Nat) (f0 : Nat → Int32) (a1 : Int32) (post : Bool → CS → Prop) : Prop := cCtZx l yX8_isRearrangement cX8_isRearrangement 4 0 0 0 0 n0 f0 (fun ad qx => [.ref qx, .int a1]) S post
def cT_X8_isRearrangement_4 (l : Launch) (n0 : Nat) (f0 : Nat → Int32) (a1 : Int32) (post : Bool → CS → Prop) (B4 : CS → Int32 → Int32 → Prop) (S : CS) (x2 : Int32) (x3 : Int32) : Prop := (a1 ≤ x3 → (¬ x2 = (1 <<< (a1 &&& 31)) - 1 → post false S) ∧ (x2 = (1 <<< (a1 &&& 31)) - 1 → post true S)) ∧ (¬ a1 ≤ x3 → vp_in x3 n0 ∧ (f0 x3.toNatClampNeg < 0 → post false S) ∧ (¬ f0 x3.toNatClampNeg < 0 → vp_in x3 n0 ∧ (f0 x3.toNatClampNeg < a1 → vp_in x3 n0 ∧ ∀ v2_8 : Int32, v2_8 = x2 ||| (1 <<< ((f0 x3.toNatClampNeg) &&& 31)) → B4 S v2_8 (x3 + 1)) ∧ (¬ f0 x3.toNatClampNeg < a1 → post false S)))
def cT_X8_isRearrangement_e (l : Launch) (n0 : Nat) (f0 : Nat → Int32) (a1 : Int32) (post : Bool → CS → Prop) (B4 : CS → Int32 → Int32 → Prop) (S0 : CS) : Prop := B4 S0 0 0
set_option maxHeartbeats 4000000 in
set_option maxRecDepth 100000 in
theorem c_X8_isRearrangement (l : Launch) (S0 : CS) (n0 : Nat) (f0 : Nat → Int32) (a1 : Int32) (post : Bool → CS → Prop) (h : ∀ (B4 : CS → Int32 → Int32 → Prop), (∀ (S : CS) (x2 : Int32) (x3 : Int32), cT_X8_isRearrangement_4 l n0 f0 a1 post B4 S x2 x3 → B4 S x2 x3) → cT_X8_isRearrangement_e l n0 f0 a1 post B4 S0) : cX_X8_isRearrangement l S0 n0 f0 a1 post := by
  refine csetZx rfl (fun _ _ => Nat.le_of_ble_eq_true rfl) ?_
  intro p e s m args below meth c D ad vd cI cZ cL cG X q0 A Q hx hb hml hown hts hK hZ hA hX0 hret H locs ls hP hD hS hl
  replace hl : lv_has ls 4 [(0, .ref q0), (1, .int a1)] := hl
  obtain ⟨B4, hB4⟩ : ∃ B : CS → Int32 → Int32 → Prop, B = (fun S x2 x3 => ∀ (vd : Nat → Nat) (H : Heap) (locs : List Loc) (ls : Array Slot), va_P D vwCl (cW ad vd cI cZ cL cG S ++ X) H → va_D A (cW ad vd cI cZ cL cG S ++ X) → va_S A s.heap H locs → lv_has ls 4 [(0, .ref q0), (1, .int a1), (2, .int x2), (3, .int x3)] → W p l e (crm 0 0 0 0) s m args below meth c H locs 0 0 Q (F0 m 4 ls [])) := ⟨_, rfl⟩
  have hT : cT_X8_isRearrangement_e l n0 f0 a1 post B4 S0 := by
    refine h B4 ?_
    · clear hP hD hS hl H locs ls vd
      intro S x2 x3 hT
      unfold cT_X8_isRearrangement_4 at hT
      rw [hB4]
      intro vd H locs ls hP hD hS hl
      refine lv_iload_n hx hb dX8_isRearrangement_4 rfl (lv_at hl 3 rfl) ?_
      refine lv_iload_n hx hb dX8_isRearrangement_5 rfl (lv_at hl 1 rfl) ?_
      refine lv_icmp_ge (tgt := 38) hx hb dX8_isRearrangement_6 (by decide) (fun c1 => ?_) (fun c1 => ?_)
      · replace hT := hT.1 c1
        refine lv_iload_n hx hb dX8_isRearrangement_38 rfl (lv_at hl 2 rfl) ?_
        refine lv_iconst (v := 1) hx hb dX8_isRearrangement_39 (by decide) ?_
        refine lv_iload_n hx hb dX8_isRearrangement_40 rfl (lv_at hl 1 rfl) ?_
        refine lv_ishl hx hb dX8_isRearrangement_41 ?_
        refine lv_iconst (v := 1) hx hb dX8_isRearrangement_42 (by decide) ?_
        refine lv_isub hx hb dX8_isRearrangement_43 ?_
        refine lv_icmp_ne (tgt := 51) hx hb dX8_isRearrangement_44 (by decide) (fun c2 => ?_) (fun c2 => ?_)
        · replace hT := hT.1 c2
          refine lv_iconst (v := 0) hx hb dX8_isRearrangement_51 (by decide) ?_
          exact hret false _ _ _ _ _ _ _ _ hP hD hS (Nat.le_refl _) (Nat.le_refl _) hT dX8_isRearrangement_52
        · replace hT := hT.2 c2
          refine lv_iconst (v := 1) hx hb dX8_isRearrangement_47 (by decide) ?_
          refine lv_goto (tgt := 52) hx hb dX8_isRearrangement_48 (by decide) ?_
          exact hret true _ _ _ _ _ _ _ _ hP hD hS (Nat.le_refl _) (Nat.le_refl _) hT dX8_isRearrangement_52
      · replace hT := hT.2 c1
        refine lv_aload_n hx hb dX8_isRearrangement_9 rfl (lv_at hl 0 rfl) ?_
        refine lv_iload_n hx hb dX8_isRearrangement_10 rfl (lv_at hl 3 rfl) ?_
        obtain ⟨hi3, hT⟩ := hT
        obtain ⟨jx, hjx⟩ := (id hX0)
        refine va_iald (f := f0) hx hb hK hP (51 + jx) 0 (cWX hjx) rfl hi3 dX8_isRearrangement_11 ?_
        refine lv_if_lt (tgt := 22) hx hb dX8_isRearrangement_12 (by decide) (fun c4 => ?_) (fun c4 => ?_)
        · replace hT := hT.1 c4
          refine lv_iconst (v := 0) hx hb dX8_isRearrangement_22 (by decide) ?_
          exact hret false _ _ _ _ _ _ _ _ hP hD hS (Nat.le_refl _) (Nat.le_refl _) hT dX8_isRearrangement_23
        · replace hT := hT.2 c4
          refine lv_aload_n hx hb dX8_isRearrangement_15 rfl (lv_at hl 0 rfl) ?_
          refine lv_iload_n hx hb dX8_isRearrangement_16 rfl (lv_at hl 3 rfl) ?_
          obtain ⟨hi5, hT⟩ := hT
          obtain ⟨jx, hjx⟩ := (id hX0)
          refine va_iald (f := f0) hx hb hK hP (51 + jx) 0 (cWX hjx) rfl hi5 dX8_isRearrangement_17 ?_
          refine lv_iload_n hx hb dX8_isRearrangement_18 rfl (lv_at hl 1 rfl) ?_
          refine lv_icmp_lt (tgt := 24) hx hb dX8_isRearrangement_19 (by decide) (fun c6 => ?_) (fun c6 => ?_)
          · replace hT := hT.1 c6
            refine lv_iload_n hx hb dX8_isRearrangement_24 rfl (lv_at hl 2 rfl) ?_
            refine lv_iconst (v := 1) hx hb dX8_isRearrangement_25 (by decide) ?_
            refine lv_aload_n hx hb dX8_isRearrangement_26 rfl (lv_at hl 0 rfl) ?_
            refine lv_iload_n hx hb dX8_isRearrangement_27 rfl (lv_at hl 3 rfl) ?_
            obtain ⟨hi7, hT⟩ := hT
            obtain ⟨jx, hjx⟩ := (id hX0)
            refine va_iald (f := f0) hx hb hK hP (51 + jx) 0 (cWX hjx) rfl hi7 dX8_isRearrangement_28 ?_
            refine lv_ishl hx hb dX8_isRearrangement_29 ?_
            refine lv_ior hx hb dX8_isRearrangement_30 ?_
            refine lv_topi (fun v2_8 ev2_8 => ?_)
            replace hT := hT v2_8 ev2_8
            refine lv_istore_n (lv' := [(2, .int v2_8), (0, .ref q0), (1, .int a1), (3, .int x3)]) hx hb dX8_isRearrangement_31 rfl hl (by decide) rfl (fun ls hl => ?_)
            refine lv_iinc (v := x3 + 1) (lv' := [(3, .int (x3 + 1)), (2, .int v2_8), (0, .ref q0), (1, .int a1)]) hx hb dX8_isRearrangement_32 hl (k := 3) rfl rfl (by decide) rfl (fun ls hl => ?_)
            refine lv_goto (tgt := 4) hx hb dX8_isRearrangement_35 (by decide) ?_
            rw [hB4] at hT
            exact hT _ _ _ _ hP hD hS (lv_sub hl [2, 3, 1, 0] rfl)
          · replace hT := hT.2 c6
            refine lv_iconst (v := 0) hx hb dX8_isRearrangement_22 (by decide) ?_
            exact hret false _ _ _ _ _ _ _ _ hP hD hS (Nat.le_refl _) (Nat.le_refl _) hT dX8_isRearrangement_23
  unfold cT_X8_isRearrangement_e at hT
  refine lv_iconst (v := 0) hx hb dX8_isRearrangement_0 (by decide) ?_
  refine lv_istore_n (lv' := [(2, .int 0), (0, .ref q0), (1, .int a1)]) hx hb dX8_isRearrangement_1 rfl hl (by decide) rfl (fun ls hl => ?_)
  refine lv_iconst (v := 0) hx hb dX8_isRearrangement_2 (by decide) ?_
  refine lv_istore_n (lv' := [(3, .int 0), (2, .int 0), (0, .ref q0), (1, .int a1)]) hx hb dX8_isRearrangement_3 rfl hl (by decide) rfl (fun ls hl => ?_)
  rw [hB4] at hT
  exact hT _ _ _ _ hP hD hS (lv_sub hl [2, 3, 1, 0] rfl)
abbrev cX_X8_renamed (l : Launch) (S : CS) (a1 : Int32) (n2 : Nat) (f2 : Nat → Int32) (post : Int32 → CS → Prop) : Prop := cCtIx l yX8_renamed cX8_renamed 5 3 86 0 0 n2 f2 (fun ad qx => [.ref (ad 0), .int a1, .ref qx]) S post
def cT_X8_renamed_17 (l : Launch) (a1 : Int32) (n2 : Nat) (f2 : Nat → Int32) (post : Int32 → CS → Prop) (B17 : CS → Int32 → Int32 → Prop) (S : CS) (x3 : Int32) (x4 : Int32) : Prop := (S.1 4 ≤ x4 → post x3 S) ∧ (¬ S.1 4 ≤ x4 → vp_in x4 7 ∧ vp_in (S.2.1 13 x4.toNatClampNeg) n2 ∧ vp_in x4 7 ∧ ∀ v3_5 : Int32, v3_5 = x3 + ((f2 (S.2.1 13 x4.toNatClampNeg).toNatClampNeg) * (S.2.1 9 x4.toNatClampNeg)) → B17 S v3_5 (x4 + 1))
def cT_X8_renamed_e (l : Launch) (a1 : Int32) (n2 : Nat) (f2 : Nat → Int32) (post : Int32 → CS → Prop) (B17 : CS → Int32 → Int32 → Prop) (S0 : CS) : Prop := cX_X3_read l S0 a1 (fun S6 => B17 S6 0 0)
set_option maxHeartbeats 4000000 in
set_option maxRecDepth 100000 in
theorem c_X8_renamed (l : Launch) (S0 : CS) (a1 : Int32) (n2 : Nat) (f2 : Nat → Int32) (post : Int32 → CS → Prop) (h : ∀ (B17 : CS → Int32 → Int32 → Prop), (∀ (S : CS) (x3 : Int32) (x4 : Int32), cT_X8_renamed_17 l a1 n2 f2 post B17 S x3 x4 → B17 S x3 x4) → cT_X8_renamed_e l a1 n2 f2 post B17 S0) : cX_X8_renamed l S0 a1 n2 f2 post := by
  refine csetIx rfl (fun _ _ => Nat.le_of_ble_eq_true rfl) ?_
  intro p e s m args below meth c D ad vd cI cZ cL cG X q2 A Q hx hb hml hown hts hK hZ hA hX2 hret H locs ls hP hD hS hl
  replace hl : lv_has ls 5 [(0, .ref (ad 0)), (1, .int a1), (2, .ref q2)] := hl
  obtain ⟨B17, hB17⟩ : ∃ B : CS → Int32 → Int32 → Prop, B = (fun S x3 x4 => ∀ (vd : Nat → Nat) (H : Heap) (locs : List Loc) (ls : Array Slot), va_P D vwCl (cW ad vd cI cZ cL cG S ++ X) H → va_D A (cW ad vd cI cZ cL cG S ++ X) → va_S A s.heap H locs → lv_has ls 5 [(0, .ref (ad 0)), (2, .ref q2), (3, .int x3), (4, .int x4)] → W p l e (crm 3 86 0 0) s m args below meth c H locs 0 0 Q (F0 m 17 ls [])) := ⟨_, rfl⟩
  have hT : cT_X8_renamed_e l a1 n2 f2 post B17 S0 := by
    refine h B17 ?_
    · clear hP hD hS hl H locs ls vd
      intro S x3 x4 hT
      unfold cT_X8_renamed_17 at hT
      rw [hB17]
      intro vd H locs ls hP hD hS hl
      refine lv_iload hx hb dX8_renamed_17 (lv_at hl 3 rfl) ?_
      refine lv_aload_n hx hb dX8_renamed_19 rfl (lv_at hl 0 rfl) ?_
      refine cg_X8_10 hx hb hts hown hK hP dX8_renamed_20 ?_
      refine cg_X8_127 (v := S.1 4) hx hb hts hown hK hP rfl dX8_renamed_23 ?_
      refine lv_icmp_ge (tgt := 61) hx hb dX8_renamed_26 (by decide) (fun c1 => ?_) (fun c1 => ?_)
      · replace hT := hT.1 c1
        refine lv_iload_n hx hb dX8_renamed_61 rfl (lv_at hl 2 rfl) ?_
        exact hret _ _ _ _ _ _ _ _ _ hP hD hS (Nat.le_refl _) (Nat.le_refl _) hT dX8_renamed_62
      · replace hT := hT.2 c1
        refine lv_iload_n hx hb dX8_renamed_29 rfl (lv_at hl 2 rfl) ?_
        refine lv_aload_n hx hb dX8_renamed_30 rfl (lv_at hl 1 rfl) ?_
        refine lv_aload_n hx hb dX8_renamed_31 rfl (lv_at hl 0 rfl) ?_
        refine cg_X8_19 hx hb hts hown hK hP dX8_renamed_32 ?_
        refine cg_X8_124 hx hb hts hown hK hP dX8_renamed_35 ?_
        refine lv_iload hx hb dX8_renamed_38 (lv_at hl 3 rfl) ?_
        obtain ⟨hi2, hT⟩ := hT
        refine va_iald (f := S.2.1 13) hx hb hK hP 13 0 cat_13 rfl hi2 dX8_renamed_40 ?_
        obtain ⟨hi3, hT⟩ := hT
        obtain ⟨jx, hjx⟩ := (id hX2)
        refine va_iald (f := f2) hx hb hK hP (51 + jx) 0 (cWX hjx) rfl hi3 dX8_renamed_41 ?_
        refine lv_aload_n hx hb dX8_renamed_42 rfl (lv_at hl 0 rfl) ?_
        refine cg_X8_10 hx hb hts hown hK hP dX8_renamed_43 ?_
        refine cg_X8_283 hx hb hts hown hK hP dX8_renamed_46 ?_
        refine lv_iload hx hb dX8_renamed_49 (lv_at hl 3 rfl) ?_
        obtain ⟨hi4, hT⟩ := hT
        refine va_iald (f := S.2.1 9) hx hb hK hP 9 0 cat_9 rfl hi4 dX8_renamed_51 ?_
        refine lv_imul hx hb dX8_renamed_52 ?_
        refine lv_iadd hx hb dX8_renamed_53 ?_
        refine lv_topi (fun v3_5 ev3_5 => ?_)
        replace hT := hT v3_5 ev3_5
        refine lv_istore_n (lv' := [(3, .int v3_5), (0, .ref (ad 0)), (2, .ref q2), (4, .int x4)]) hx hb dX8_renamed_54 rfl hl (by decide) rfl (fun ls hl => ?_)
        refine lv_iinc (v := x4 + 1) (lv' := [(4, .int (x4 + 1)), (3, .int v3_5), (0, .ref (ad 0)), (2, .ref q2)]) hx hb dX8_renamed_55 hl (k := 3) rfl rfl (by decide) rfl (fun ls hl => ?_)
        refine lv_goto (tgt := 17) hx hb dX8_renamed_58 (by decide) ?_
        rw [hB17] at hT
        exact hT _ _ _ _ hP hD hS (lv_sub hl [2, 3, 1, 0] rfl)
  unfold cT_X8_renamed_e at hT
  refine lv_aload_n hx hb dX8_renamed_0 rfl (lv_at hl 0 rfl) ?_
  refine cg_X8_19 hx hb hts hown hK hP dX8_renamed_1 ?_
  refine lv_aload_n hx hb dX8_renamed_4 rfl (lv_at hl 0 rfl) ?_
  refine cg_X8_10 hx hb hts hown hK hP dX8_renamed_5 ?_
  refine lv_iload_n hx hb dX8_renamed_8 rfl (lv_at hl 1 rfl) ?_
  refine ccallVV (n := 2) (b := ad 2) (C := RX3) (As := [.ref (ad 1), .int a1]) (rest := []) hT hx hb hml hown hts hK hZ hA hP hD hS hl gc_X8_120 hdc_X3_read (va_recv hK hP rfl cob_2) ⟨Nat.le_of_ble_eq_true rfl, Nat.le_of_ble_eq_true rfl⟩ rfl rfl rfl (Nat.le_of_ble_eq_true rfl) dX8_renamed_9 (Nat.le_refl _) (Nat.le_refl _) (fun S6 vd H locs hP hD hS hT => ?_)
  refine lv_iconst (v := 0) hx hb dX8_renamed_12 (by decide) ?_
  refine lv_istore_n (lv' := [(3, .int 0), (0, .ref (ad 0)), (1, .int a1), (2, .ref q2)]) hx hb dX8_renamed_13 rfl hl (by decide) rfl (fun ls hl => ?_)
  refine lv_iconst (v := 0) hx hb dX8_renamed_14 (by decide) ?_
  refine lv_istore (lv' := [(4, .int 0), (3, .int 0), (0, .ref (ad 0)), (1, .int a1), (2, .ref q2)]) hx hb dX8_renamed_15 hl (by decide) rfl (fun ls hl => ?_)
  rw [hB17] at hT
  exact hT _ _ _ _ hP hD hS (lv_sub hl [2, 4, 1, 0] rfl)
abbrev cX_X0_renameLanes (l : Launch) (mc ms : Nat) (S : CS) (n1 : Nat) (f1 : Nat → Int32) (post : CS → Prop) : Prop := cCtVx l yX0_renameLanes cX0_renameLanes 7 2 60 mc ms n1 f1 (fun ad qx => [.ref (ad 1), .ref qx]) S post
def cT_X0_renameLanes_25 (l : Launch) (mc ms : Nat) (n1 : Nat) (f1 : Nat → Int32) (post : CS → Prop) (B25 : Nat → Nat → CS → Int32 → (Nat → Int32) → (Nat → Int32) → Prop) (B37 : Nat → Nat → CS → Int32 → Int32 → (Nat → Int32) → (Nat → Int32) → Prop) (kc ks : Nat) (S : CS) (x4 : Int32) (y2 : (Nat → Int32)) (y3 : (Nat → Int32)) : Prop := (S.1 3 ≤ x4 → kc ≤ mc ∧ ks ≤ ms ∧ post S) ∧ (¬ S.1 3 ≤ x4 → B37 kc ks S x4 0 y2 y3)
def cT_X0_renameLanes_37 (l : Launch) (mc ms : Nat) (n1 : Nat) (f1 : Nat → Int32) (post : CS → Prop) (B25 : Nat → Nat → CS → Int32 → (Nat → Int32) → (Nat → Int32) → Prop) (B37 : Nat → Nat → CS → Int32 → Int32 → (Nat → Int32) → (Nat → Int32) → Prop) (kc ks : Nat) (S : CS) (x4 : Int32) (x5 : Int32) (y2 : (Nat → Int32)) (y3 : (Nat → Int32)) : Prop := (S.1 3 ≤ x5 → B25 kc ks S (x4 + 1) y2 y3) ∧ (¬ S.1 3 ≤ x5 → ∀ v6_3 : Int32, v6_3 = (x4 * 5) + x5 → vp_in x4 n1 ∧ vp_in x5 n1 ∧ vp_in v6_3 25 ∧ vp_in v6_3 25 ∧ kc ≤ mc ∧ ks ≤ ms ∧ ∃ bz11 : Bool, y3 v6_3.toNatClampNeg = bI bz11 ∧ cX_X0_setLane l S (f1 x4.toNatClampNeg) (f1 x5.toNatClampNeg) (y2 v6_3.toNatClampNeg) bz11 (fun S8 => B37 kc ks S8 x4 (x5 + 1) y2 y3))
def cT_X0_renameLanes_e (l : Launch) (mc ms : Nat) (n1 : Nat) (f1 : Nat → Int32) (post : CS → Prop) (B25 : Nat → Nat → CS → Int32 → (Nat → Int32) → (Nat → Int32) → Prop) (B37 : Nat → Nat → CS → Int32 → Int32 → (Nat → Int32) → (Nat → Int32) → Prop) (S0 : CS) : Prop := 0 + 1 ≤ mc ∧ 0 + 25 ≤ ms ∧ (∀ j : Nat, j < 25 → S0.2.1 12 j = 0 ∨ S0.2.1 12 j = 1) ∧ 0 + 1 + 1 ≤ mc ∧ 0 + 25 + 25 ≤ ms ∧ B25 (0 + 1 + 1) (0 + 25 + 25) S0 0 (S0.2.1 11) (S0.2.1 12)
set_option maxHeartbeats 4000000 in
set_option maxRecDepth 100000 in
theorem c_X0_renameLanes (l : Launch) (mc ms : Nat) (S0 : CS) (n1 : Nat) (f1 : Nat → Int32) (post : CS → Prop) (h : ∀ (B25 : Nat → Nat → CS → Int32 → (Nat → Int32) → (Nat → Int32) → Prop) (B37 : Nat → Nat → CS → Int32 → Int32 → (Nat → Int32) → (Nat → Int32) → Prop), (∀ (kc ks : Nat) (S : CS) (x4 : Int32) (y2 : (Nat → Int32)) (y3 : (Nat → Int32)), cT_X0_renameLanes_25 l mc ms n1 f1 post B25 B37 kc ks S x4 y2 y3 → B25 kc ks S x4 y2 y3) → (∀ (kc ks : Nat) (S : CS) (x4 : Int32) (x5 : Int32) (y2 : (Nat → Int32)) (y3 : (Nat → Int32)), cT_X0_renameLanes_37 l mc ms n1 f1 post B25 B37 kc ks S x4 x5 y2 y3 → B37 kc ks S x4 x5 y2 y3) → cT_X0_renameLanes_e l mc ms n1 f1 post B25 B37 S0) : cX_X0_renameLanes l mc ms S0 n1 f1 post := by
  refine csetVx rfl (fun _ _ => Nat.le_of_ble_eq_true rfl) ?_
  intro p e s m args below meth c D ad vd cI cZ cL cG X q1 A Q hx hb hml hown hts hK hZ hA hX1 hret H locs ls hP hD hS hl
  replace hl : lv_has ls 7 [(0, .ref (ad 1)), (1, .ref q1)] := hl
  obtain ⟨B25, hB25⟩ : ∃ B : Nat → Nat → CS → Int32 → (Nat → Int32) → (Nat → Int32) → Prop, B = (fun kc ks S x4 y2 y3 => ∀ (vd : Nat → Nat) (q2 : Nat) (q3 : Nat) (H : Heap) (locs : List Loc) (ls : Array Slot), va_P D vwCl (cW ad vd cI cZ cL cG S ++ ((X ++ [(q2, .inl (cI, 25, .inl y2))]) ++ [(q3, .inl (cZ, 25, .inl y3))])) H → va_D A (cW ad vd cI cZ cL cG S ++ ((X ++ [(q2, .inl (cI, 25, .inl y2))]) ++ [(q3, .inl (cZ, 25, .inl y3))])) → va_S A s.heap H locs → lv_has ls 7 [(0, .ref (ad 1)), (1, .ref q1), (2, .ref q2), (3, .ref q3), (4, .int x4)] → W p l e (crm 2 60 mc ms) s m args below meth c H locs kc ks Q (F0 m 25 ls [])) := ⟨_, rfl⟩
  obtain ⟨B37, hB37⟩ : ∃ B : Nat → Nat → CS → Int32 → Int32 → (Nat → Int32) → (Nat → Int32) → Prop, B = (fun kc ks S x4 x5 y2 y3 => ∀ (vd : Nat → Nat) (q2 : Nat) (q3 : Nat) (H : Heap) (locs : List Loc) (ls : Array Slot), va_P D vwCl (cW ad vd cI cZ cL cG S ++ ((X ++ [(q2, .inl (cI, 25, .inl y2))]) ++ [(q3, .inl (cZ, 25, .inl y3))])) H → va_D A (cW ad vd cI cZ cL cG S ++ ((X ++ [(q2, .inl (cI, 25, .inl y2))]) ++ [(q3, .inl (cZ, 25, .inl y3))])) → va_S A s.heap H locs → lv_has ls 7 [(0, .ref (ad 1)), (1, .ref q1), (2, .ref q2), (3, .ref q3), (4, .int x4), (5, .int x5)] → W p l e (crm 2 60 mc ms) s m args below meth c H locs kc ks Q (F0 m 37 ls [])) := ⟨_, rfl⟩
  have hT : cT_X0_renameLanes_e l mc ms n1 f1 post B25 B37 S0 := by
    refine h B25 B37 ?_ ?_
    · clear hP hD hS hl H locs ls vd
      intro kc ks S x4 y2 y3 hT
      unfold cT_X0_renameLanes_25 at hT
      rw [hB25]
      intro vd q2 q3 H locs ls hP hD hS hl
      refine lv_iload hx hb dX0_renameLanes_25 (lv_at hl 4 rfl) ?_
      refine lv_aload_n hx hb dX0_renameLanes_27 rfl (lv_at hl 0 rfl) ?_
      refine cg_X0_25 (v := S.1 3) hx hb hts hown hK hP rfl dX0_renameLanes_28 ?_
      refine lv_icmp_ge (tgt := 87) hx hb dX0_renameLanes_31 (by decide) (fun c1 => ?_) (fun c1 => ?_)
      · replace hT := hT.1 c1
        obtain ⟨hkc, hks, hT⟩ := hT
        replace hP := hP.dropR
        replace hD := hD.dropR
        replace hP := hP.dropR
        replace hD := hD.dropR
        exact hret _ _ _ _ _ _ _ _ hP hD hS hkc hks hT dX0_renameLanes_87
      · replace hT := hT.2 c1
        refine lv_iconst (v := 0) hx hb dX0_renameLanes_34 (by decide) ?_
        refine lv_istore (lv' := [(5, .int 0), (0, .ref (ad 1)), (1, .ref q1), (2, .ref q2), (3, .ref q3), (4, .int x4)]) hx hb dX0_renameLanes_35 hl (by decide) rfl (fun ls hl => ?_)
        rw [hB37] at hT
        exact hT _ _ _ _ _ _ hP hD hS (lv_sub hl [1, 2, 3, 4, 5, 0] rfl)
    · clear hP hD hS hl H locs ls vd
      intro kc ks S x4 x5 y2 y3 hT
      unfold cT_X0_renameLanes_37 at hT
      rw [hB37]
      intro vd q2 q3 H locs ls hP hD hS hl
      refine lv_iload hx hb dX0_renameLanes_37 (lv_at hl 5 rfl) ?_
      refine lv_aload_n hx hb dX0_renameLanes_39 rfl (lv_at hl 0 rfl) ?_
      refine cg_X0_25 (v := S.1 3) hx hb hts hown hK hP rfl dX0_renameLanes_40 ?_
      refine lv_icmp_ge (tgt := 81) hx hb dX0_renameLanes_43 (by decide) (fun c2 => ?_) (fun c2 => ?_)
      · replace hT := hT.1 c2
        refine lv_iinc (v := x4 + 1) (lv' := [(4, .int (x4 + 1)), (0, .ref (ad 1)), (1, .ref q1), (2, .ref q2), (3, .ref q3), (5, .int x5)]) hx hb dX0_renameLanes_81 hl (k := 4) rfl rfl (by decide) rfl (fun ls hl => ?_)
        refine lv_goto (tgt := 25) hx hb dX0_renameLanes_84 (by decide) ?_
        rw [hB25] at hT
        exact hT _ _ _ _ _ _ hP hD hS (lv_sub hl [1, 2, 3, 4, 0] rfl)
      · replace hT := hT.2 c2
        refine lv_iload hx hb dX0_renameLanes_46 (lv_at hl 4 rfl) ?_
        refine lv_iconst (v := 5) hx hb dX0_renameLanes_48 (by decide) ?_
        refine lv_imul hx hb dX0_renameLanes_49 ?_
        refine lv_iload hx hb dX0_renameLanes_50 (lv_at hl 5 rfl) ?_
        refine lv_iadd hx hb dX0_renameLanes_52 ?_
        refine lv_topi (fun v6_3 ev6_3 => ?_)
        replace hT := hT v6_3 ev6_3
        refine lv_istore (lv' := [(6, .int v6_3), (0, .ref (ad 1)), (1, .ref q1), (2, .ref q2), (3, .ref q3), (4, .int x4), (5, .int x5)]) hx hb dX0_renameLanes_53 hl (by decide) rfl (fun ls hl => ?_)
        refine lv_aload_n hx hb dX0_renameLanes_55 rfl (lv_at hl 1 rfl) ?_
        refine lv_aload_n hx hb dX0_renameLanes_56 rfl (lv_at hl 2 rfl) ?_
        refine lv_iload hx hb dX0_renameLanes_57 (lv_at hl 5 rfl) ?_
        obtain ⟨hi4, hT⟩ := hT
        obtain ⟨jx, hjx⟩ := (cXt.lift (cXt.lift (id hX1)))
        refine va_iald (f := f1) hx hb hK hP (51 + jx) 0 (cWX hjx) rfl hi4 dX0_renameLanes_59 ?_
        refine lv_aload_n hx hb dX0_renameLanes_60 rfl (lv_at hl 2 rfl) ?_
        refine lv_iload hx hb dX0_renameLanes_61 (lv_at hl 6 rfl) ?_
        obtain ⟨hi5, hT⟩ := hT
        obtain ⟨jx, hjx⟩ := (cXt.lift (cXt.lift (id hX1)))
        refine va_iald (f := f1) hx hb hK hP (51 + jx) 0 (cWX hjx) rfl hi5 dX0_renameLanes_63 ?_
        refine lv_aload_n hx hb dX0_renameLanes_64 rfl (lv_at hl 3 rfl) ?_
        refine lv_iload hx hb dX0_renameLanes_65 (lv_at hl 0 rfl) ?_
        obtain ⟨hi6, hT⟩ := hT
        obtain ⟨jx, hjx⟩ := (cXt.lift (cXt.own (X := X) (cI := cI) (q := q2) (n := 25) (f := y2)))
        refine va_iald (f := y2) hx hb hK hP (51 + jx) 0 (cWX hjx) rfl hi6 dX0_renameLanes_67 ?_
        refine lv_aload_n hx hb dX0_renameLanes_68 rfl (lv_at hl 4 rfl) ?_
        refine lv_iload hx hb dX0_renameLanes_69 (lv_at hl 0 rfl) ?_
        obtain ⟨hi7, hT⟩ := hT
        obtain ⟨jx, hjx⟩ := (cXt.own (X := (X ++ [(q2, .inl (cI, 25, .inl y2))])) (cI := cZ) (q := q3) (n := 25) (f := y3))
        refine va_zald (f := y3) hx hb hK hP (51 + jx) 1 (cWX hjx) rfl hi7 dX0_renameLanes_71 ?_
        obtain ⟨hk9, hk10, hT⟩ := hT
        obtain ⟨bz11, hbz11, hT⟩ := hT
        refine ccallVV (n := 4) (b := ad 1) (C := RX0) (As := [.int (f1 x4.toNatClampNeg), .int (f1 x5.toNatClampNeg), .int (y2 v6_3.toNatClampNeg), .int (bI bz11)]) (rest := []) hT hx hb hml hown hts hK hZ hA hP hD hS hl gc_X0_41 hdc_X0_setLane (va_recv hK hP rfl cob_1) ⟨Nat.le_of_ble_eq_true rfl, Nat.le_of_ble_eq_true rfl⟩ rfl rfl (by rw [hbz11]; rfl) (Nat.le_of_ble_eq_true rfl) dX0_renameLanes_72 hk9 hk10 (fun S8 vd H locs hP hD hS hT => ?_)
        refine lv_iinc (v := x5 + 1) (lv' := [(5, .int (x5 + 1)), (6, .int v6_3), (0, .ref (ad 1)), (1, .ref q1), (2, .ref q2), (3, .ref q3), (4, .int x4)]) hx hb dX0_renameLanes_75 hl (k := 6) rfl rfl (by decide) rfl (fun ls hl => ?_)
        refine lv_goto (tgt := 37) hx hb dX0_renameLanes_78 (by decide) ?_
        rw [hB37] at hT
        exact hT _ _ _ _ _ _ hP hD hS (lv_sub hl [2, 3, 4, 5, 6, 0] rfl)
  unfold cT_X0_renameLanes_e at hT
  refine lv_aload_n hx hb dX0_renameLanes_0 rfl (lv_at hl 0 rfl) ?_
  refine cg_X0_18 hx hb hts hown hK hP dX0_renameLanes_1 ?_
  obtain ⟨hk12, hk13, hT⟩ := hT
  refine va_clone (ad := "[I") hx hb (hml.trans hl.1.symm) hown (hts _ kc_712) (hts _ kc_602) (hts _ kc_603) (hts _ kc_604) (hts _ kc_605) hZ.1 hK hP hD hS hA 11 0 cat_11 rfl (hK.2 0 _ rfl).2 cfitI (Nat.le_of_ble_eq_true rfl) (Nat.le_of_ble_eq_true rfl) hk12 hk13 dX0_renameLanes_4 (fun q2 H _ hP hD hS => ?_)
  rw [List.append_assoc] at hP hD
  obtain ⟨jx, hjx⟩ := (cXt.own (X := X) (cI := cI) (q := q2) (n := 25) (f := S0.2.1 11))
  refine va_castA hx hb hown (hts _ kc_713) hP (51 + jx) (cWX hjx) (hK.2 0 _ rfl).2 dX0_renameLanes_7 ?_
  refine lv_astore_n (lv' := [(2, .ref q2), (0, .ref (ad 1)), (1, .ref q1)]) hx hb dX0_renameLanes_10 rfl hl (by decide) rfl (fun ls hl => ?_)
  refine lv_aload_n hx hb dX0_renameLanes_11 rfl (lv_at hl 1 rfl) ?_
  refine cg_X0_21 hx hb hts hown hK hP dX0_renameLanes_12 ?_
  obtain ⟨hz16, hT⟩ := hT
  obtain ⟨hk14, hk15, hT⟩ := hT
  refine va_clone (ad := "[Z") hx hb (hml.trans hl.1.symm) hown (hts _ kc_714) (hts _ kc_715) (hts _ kc_603) (hts _ kc_604) (hts _ kc_716) hZ.2 hK hP hD hS hA 12 1 cat_12 rfl (hK.2 1 _ rfl).2 (cfitZ hz16) (Nat.le_of_ble_eq_true rfl) (Nat.le_of_ble_eq_true rfl) hk14 hk15 dX0_renameLanes_15 (fun q3 H _ hP hD hS => ?_)
  rw [List.append_assoc] at hP hD
  obtain ⟨jx, hjx⟩ := (cXt.own (X := (X ++ [(q2, .inl (cI, 25, .inl (S0.2.1 11)))])) (cI := cZ) (q := q3) (n := 25) (f := S0.2.1 12))
  refine va_castA hx hb hown (hts _ kc_718) hP (51 + jx) (cWX hjx) (hK.2 1 _ rfl).2 dX0_renameLanes_18 ?_
  refine lv_astore_n (lv' := [(3, .ref q3), (2, .ref q2), (0, .ref (ad 1)), (1, .ref q1)]) hx hb dX0_renameLanes_21 rfl hl (by decide) rfl (fun ls hl => ?_)
  refine lv_iconst (v := 0) hx hb dX0_renameLanes_22 (by decide) ?_
  refine lv_istore (lv' := [(4, .int 0), (3, .ref q3), (2, .ref q2), (0, .ref (ad 1)), (1, .ref q1)]) hx hb dX0_renameLanes_23 hl (by decide) rfl (fun ls hl => ?_)
  rw [hB25] at hT
  exact hT _ _ _ _ _ _ hP hD hS (lv_sub hl [3, 4, 2, 1, 0] rfl)
abbrev cX_X8_rename (l : Launch) (mc ms : Nat) (S : CS) (a1 : Int32) (a2 : Int32) (a3 : Int32) (a4 : Int32) (a5 : Int32) (post : Bool → CS → Prop) : Prop := cCtZ l yX8_rename cX8_rename 7 4 110 mc ms (fun ad => [.ref (ad 0), .int a1, .int a2, .int a3, .int a4, .int a5]) S post
def cT_X8_rename_e (l : Launch) (mc ms : Nat) (a1 : Int32) (a2 : Int32) (a3 : Int32) (a4 : Int32) (a5 : Int32) (post : Bool → CS → Prop) (S0 : CS) : Prop := 0 + 1 ≤ mc ∧ 0 + 5 ≤ ms ∧ 0 + 1 ≤ mc ∧ 0 + 5 ≤ ms ∧ cX_X8_isRearrangement l S0 5 (upd (upd (upd (upd (upd (fun _ => 0) (0 : Int32).toNatClampNeg a1) (1 : Int32).toNatClampNeg a2) (2 : Int32).toNatClampNeg a3) (3 : Int32).toNatClampNeg a4) (4 : Int32).toNatClampNeg a5) (S0.1 3) (fun b9 S8 => (¬ bI b9 = 0 → 0 + 1 ≤ mc ∧ 0 + 5 ≤ ms ∧ cX_X8_renamed l S8 (S8.1 0) 5 (upd (upd (upd (upd (upd (fun _ => 0) (0 : Int32).toNatClampNeg a1) (1 : Int32).toNatClampNeg a2) (2 : Int32).toNatClampNeg a3) (3 : Int32).toNatClampNeg a4) (4 : Int32).toNatClampNeg a5) (fun r14 S13 => 0 + 1 ≤ mc ∧ 0 + 5 ≤ ms ∧ cX_X8_renamed l (cf S13 0 r14) (S13.1 1) 5 (upd (upd (upd (upd (upd (fun _ => 0) (0 : Int32).toNatClampNeg a1) (1 : Int32).toNatClampNeg a2) (2 : Int32).toNatClampNeg a3) (3 : Int32).toNatClampNeg a4) (4 : Int32).toNatClampNeg a5) (fun r18 S17 => ∃ mc22 ms23 : Nat, 0 + 1 + mc22 ≤ mc ∧ 0 + 5 + ms23 ≤ ms ∧ cX_X0_renameLanes l mc22 ms23 (cf S17 1 r18) 5 (upd (upd (upd (upd (upd (fun _ => 0) (0 : Int32).toNatClampNeg a1) (1 : Int32).toNatClampNeg a2) (2 : Int32).toNatClampNeg a3) (3 : Int32).toNatClampNeg a4) (4 : Int32).toNatClampNeg a5) (fun S21 => 0 + 1 + mc22 ≤ mc ∧ 0 + 5 + ms23 ≤ ms ∧ cX_X8_forgetAll l S21 (fun S26 => 0 + 1 + mc22 ≤ mc ∧ 0 + 5 + ms23 ≤ ms ∧ cX_X8_accept l S26 (fun b30 S29 => 0 + 1 + mc22 ≤ mc ∧ 0 + 5 + ms23 ≤ ms ∧ post b30 S29)))))) ∧ (bI b9 = 0 → 0 + 1 ≤ mc ∧ 0 + 5 ≤ ms ∧ cX_X8_refuse l S8 1 (fun b34 S33 => 0 + 1 ≤ mc ∧ 0 + 5 ≤ ms ∧ post b34 S33)))
set_option maxHeartbeats 4000000 in
set_option maxRecDepth 100000 in
theorem c_X8_rename (l : Launch) (mc ms : Nat) (S0 : CS) (a1 : Int32) (a2 : Int32) (a3 : Int32) (a4 : Int32) (a5 : Int32) (post : Bool → CS → Prop) (h : cT_X8_rename_e l mc ms a1 a2 a3 a4 a5 post S0) : cX_X8_rename l mc ms S0 a1 a2 a3 a4 a5 post := by
  refine csetZ rfl (fun _ => Nat.le_of_ble_eq_true rfl) ?_
  intro p e s m args below meth c D ad vd cI cZ cL cG X A Q hx hb hml hown hts hK hZ hA hret H locs ls hP hD hS hl
  replace hl : lv_has ls 7 [(0, .ref (ad 0)), (1, .int a1), (2, .int a2), (3, .int a3), (4, .int a4), (5, .int a5)] := hl
  have hT := h
  unfold cT_X8_rename_e at hT
  refine lv_iconst (v := 5) hx hb dX8_rename_0 (by decide) ?_
  obtain ⟨hk1, hk2, hT⟩ := hT
  refine cnewX (N := 5) hx hb hts hK hP hD hS hA rfl (by decide) (by decide) hk1 hk2 dX8_rename_1 (fun qo H hP hD hS => ?_)
  refine lv_dup hx hb dX8_rename_3 rfl ?_
  refine lv_iconst (v := 0) hx hb dX8_rename_4 (by decide) ?_
  refine lv_iload_n hx hb dX8_rename_5 rfl (lv_at hl 1 rfl) ?_
  have hi3 : vp_in (0 : Int32) 5 := by unfold vp_in; decide
  refine cstX hx hb hK hP hD hS hi3 dX8_rename_6 (fun H locs hP hD hS => ?_)
  refine lv_dup hx hb dX8_rename_7 rfl ?_
  refine lv_iconst (v := 1) hx hb dX8_rename_8 (by decide) ?_
  refine lv_iload_n hx hb dX8_rename_9 rfl (lv_at hl 2 rfl) ?_
  have hi4 : vp_in (1 : Int32) 5 := by unfold vp_in; decide
  refine cstX hx hb hK hP hD hS hi4 dX8_rename_10 (fun H locs hP hD hS => ?_)
  refine lv_dup hx hb dX8_rename_11 rfl ?_
  refine lv_iconst (v := 2) hx hb dX8_rename_12 (by decide) ?_
  refine lv_iload_n hx hb dX8_rename_13 rfl (lv_at hl 3 rfl) ?_
  have hi5 : vp_in (2 : Int32) 5 := by unfold vp_in; decide
  refine cstX hx hb hK hP hD hS hi5 dX8_rename_14 (fun H locs hP hD hS => ?_)
  refine lv_dup hx hb dX8_rename_15 rfl ?_
  refine lv_iconst (v := 3) hx hb dX8_rename_16 (by decide) ?_
  refine lv_iload hx hb dX8_rename_17 (lv_at hl 4 rfl) ?_
  have hi6 : vp_in (3 : Int32) 5 := by unfold vp_in; decide
  refine cstX hx hb hK hP hD hS hi6 dX8_rename_19 (fun H locs hP hD hS => ?_)
  refine lv_dup hx hb dX8_rename_20 rfl ?_
  refine lv_iconst (v := 4) hx hb dX8_rename_21 (by decide) ?_
  refine lv_iload hx hb dX8_rename_22 (lv_at hl 5 rfl) ?_
  have hi7 : vp_in (4 : Int32) 5 := by unfold vp_in; decide
  refine cstX hx hb hK hP hD hS hi7 dX8_rename_24 (fun H locs hP hD hS => ?_)
  refine lv_astore (lv' := [(6, .ref qo), (0, .ref (ad 0)), (1, .int a1), (2, .int a2), (3, .int a3), (4, .int a4), (5, .int a5)]) hx hb dX8_rename_25 hl (by decide) rfl (fun ls hl => ?_)
  refine lv_aload hx hb dX8_rename_27 (lv_at hl 0 rfl) ?_
  refine lv_aload_n hx hb dX8_rename_29 rfl (lv_at hl 1 rfl) ?_
  refine cg_X8_10 hx hb hts hown hK hP dX8_rename_30 ?_
  refine cg_X8_221 (v := S0.1 3) hx hb hts hown hK hP rfl dX8_rename_33 ?_
  obtain ⟨hk10, hk11, hT⟩ := hT
  refine ccallSZx (n := 2) (qx := qo) (As := [.ref qo, .int (S0.1 3)]) (rest := []) hT hx hb hml hown hts hK hZ hA hP hD hS hl (cXt.own (X := X) (cI := cI) (q := qo) (n := 5) (f := upd (upd (upd (upd (upd (fun _ => 0) (0 : Int32).toNatClampNeg a1) (1 : Int32).toNatClampNeg a2) (2 : Int32).toNatClampNeg a3) (3 : Int32).toNatClampNeg a4) (4 : Int32).toNatClampNeg a5)) gc_X8_224 hdc_X8_isRearrangement ⟨Nat.le_of_ble_eq_true rfl, Nat.le_of_ble_eq_true rfl⟩ rfl rfl rfl (Nat.le_of_ble_eq_true rfl) dX8_rename_36 hk10 hk11 (fun b9 S8 vd H locs hP hD hS hT => ?_)
  refine lv_if_ne (tgt := 48) hx hb dX8_rename_39 (by decide) (fun c12 => ?_) (fun c12 => ?_)
  · replace hT := hT.1 c12
    refine lv_aload_n hx hb dX8_rename_48 rfl (lv_at hl 1 rfl) ?_
    refine lv_aload_n hx hb dX8_rename_49 rfl (lv_at hl 1 rfl) ?_
    refine lv_aload_n hx hb dX8_rename_50 rfl (lv_at hl 1 rfl) ?_
    refine cg_X8_73 (v := S8.1 0) hx hb hts hown hK hP rfl dX8_rename_51 ?_
    refine lv_aload hx hb dX8_rename_54 (lv_at hl 0 rfl) ?_
    obtain ⟨hk15, hk16, hT⟩ := hT
    refine ccallVIx (n := 2) (qx := qo) (b := ad 0) (C := RX8) (As := [.int (S8.1 0), .ref qo]) (rest := [.ref (ad 0)]) hT hx hb hml hown hts hK hZ hA hP hD hS hl (cXt.own (X := X) (cI := cI) (q := qo) (n := 5) (f := upd (upd (upd (upd (upd (fun _ => 0) (0 : Int32).toNatClampNeg a1) (1 : Int32).toNatClampNeg a2) (2 : Int32).toNatClampNeg a3) (3 : Int32).toNatClampNeg a4) (4 : Int32).toNatClampNeg a5)) gc_X8_228 hdc_X8_renamed (va_recv hK hP rfl cob_0) ⟨Nat.le_of_ble_eq_true rfl, Nat.le_of_ble_eq_true rfl⟩ rfl rfl rfl (Nat.le_of_ble_eq_true rfl) dX8_rename_56 hk15 hk16 (fun r14 S13 vd H locs hP hD hS hT => ?_)
    refine cp_X8_73 hx hb hts hown hK hP hD hS dX8_rename_59 (fun H locs hP hD hS => ?_)
    refine lv_aload_n hx hb dX8_rename_62 rfl (lv_at hl 1 rfl) ?_
    refine lv_aload_n hx hb dX8_rename_63 rfl (lv_at hl 1 rfl) ?_
    refine lv_aload_n hx hb dX8_rename_64 rfl (lv_at hl 1 rfl) ?_
    refine cg_X8_77 (v := S13.1 1) hx hb hts hown hK hP rfl dX8_rename_65 ?_
    refine lv_aload hx hb dX8_rename_68 (lv_at hl 0 rfl) ?_
    obtain ⟨hk19, hk20, hT⟩ := hT
    refine ccallVIx (n := 2) (qx := qo) (b := ad 0) (C := RX8) (As := [.int (S13.1 1), .ref qo]) (rest := [.ref (ad 0)]) hT hx hb hml hown hts hK hZ hA hP hD hS hl (cXt.own (X := X) (cI := cI) (q := qo) (n := 5) (f := upd (upd (upd (upd (upd (fun _ => 0) (0 : Int32).toNatClampNeg a1) (1 : Int32).toNatClampNeg a2) (2 : Int32).toNatClampNeg a3) (3 : Int32).toNatClampNeg a4) (4 : Int32).toNatClampNeg a5)) gc_X8_228 hdc_X8_renamed (va_recv hK hP rfl cob_0) ⟨Nat.le_of_ble_eq_true rfl, Nat.le_of_ble_eq_true rfl⟩ rfl rfl rfl (Nat.le_of_ble_eq_true rfl) dX8_rename_70 hk19 hk20 (fun r18 S17 vd H locs hP hD hS hT => ?_)
    refine cp_X8_77 hx hb hts hown hK hP hD hS dX8_rename_73 (fun H locs hP hD hS => ?_)
    refine lv_aload_n hx hb dX8_rename_76 rfl (lv_at hl 1 rfl) ?_
    refine cg_X8_10 hx hb hts hown hK hP dX8_rename_77 ?_
    refine lv_aload hx hb dX8_rename_80 (lv_at hl 0 rfl) ?_
    obtain ⟨mc22, ms23, hk24, hk25, hT⟩ := hT
    refine ccallVVx (n := 1) (qx := qo) (b := ad 1) (C := RX0) (As := [.ref qo]) (rest := []) hT hx hb hml hown hts hK hZ hA hP hD hS hl (cXt.own (X := X) (cI := cI) (q := qo) (n := 5) (f := upd (upd (upd (upd (upd (fun _ => 0) (0 : Int32).toNatClampNeg a1) (1 : Int32).toNatClampNeg a2) (2 : Int32).toNatClampNeg a3) (3 : Int32).toNatClampNeg a4) (4 : Int32).toNatClampNeg a5)) gc_X8_232 hdc_X0_renameLanes (va_recv hK hP rfl cob_1) ⟨Nat.le_of_ble_eq_true rfl, Nat.le_of_ble_eq_true rfl⟩ rfl rfl rfl (Nat.le_of_ble_eq_true rfl) dX8_rename_82 hk24 hk25 (fun S21 vd H locs hP hD hS hT => ?_)
    refine lv_aload_n hx hb dX8_rename_85 rfl (lv_at hl 1 rfl) ?_
    obtain ⟨hk27, hk28, hT⟩ := hT
    refine ccallVV (n := 0) (b := ad 0) (C := RX8) (As := []) (rest := []) hT hx hb hml hown hts hK hZ hA hP hD hS hl gc_X8_80 hdc_X8_forgetAll (va_recv hK hP rfl cob_0) ⟨Nat.le_of_ble_eq_true rfl, Nat.le_of_ble_eq_true rfl⟩ rfl rfl rfl (Nat.le_of_ble_eq_true rfl) dX8_rename_86 hk27 hk28 (fun S26 vd H locs hP hD hS hT => ?_)
    refine lv_aload_n hx hb dX8_rename_89 rfl (lv_at hl 1 rfl) ?_
    obtain ⟨hk31, hk32, hT⟩ := hT
    refine ccallVZ (n := 0) (b := ad 0) (C := RX8) (As := []) (rest := []) hT hx hb hml hown hts hK hZ hA hP hD hS hl gc_X8_83 hdc_X8_accept (va_recv hK hP rfl cob_0) ⟨Nat.le_of_ble_eq_true rfl, Nat.le_of_ble_eq_true rfl⟩ rfl rfl rfl (Nat.le_of_ble_eq_true rfl) dX8_rename_90 hk31 hk32 (fun b30 S29 vd H locs hP hD hS hT => ?_)
    obtain ⟨hkc, hks, hT⟩ := hT
    replace hP := hP.dropR
    replace hD := hD.dropR
    exact hret b30 _ _ _ _ _ _ _ _ hP hD hS hkc hks hT dX8_rename_93
  · replace hT := hT.2 c12
    refine lv_aload_n hx hb dX8_rename_42 rfl (lv_at hl 1 rfl) ?_
    refine lv_iconst (v := 1) hx hb dX8_rename_43 (by decide) ?_
    obtain ⟨hk35, hk36, hT⟩ := hT
    refine ccallVZ (n := 1) (b := ad 0) (C := RX8) (As := [.int 1]) (rest := []) hT hx hb hml hown hts hK hZ hA hP hD hS hl gc_X8_65 hdc_X8_refuse (va_recv hK hP rfl cob_0) ⟨Nat.le_of_ble_eq_true rfl, Nat.le_of_ble_eq_true rfl⟩ rfl rfl rfl (Nat.le_of_ble_eq_true rfl) dX8_rename_44 hk35 hk36 (fun b34 S33 vd H locs hP hD hS hT => ?_)
    obtain ⟨hkc, hks, hT⟩ := hT
    replace hP := hP.dropR
    replace hD := hD.dropR
    exact hret b34 _ _ _ _ _ _ _ _ hP hD hS hkc hks hT dX8_rename_47
