abbrev mX_lanesThere (l : Launch) (S : MS) (post : Int32 → MS → Prop) : Prop := mCtI l yX9_lanesThere cX9_lanesThere 3 0 0 (fun ad => []) S post
def mT_lanesThere_4 (l : Launch) (post : Int32 → MS → Prop) (B4 : MS → Int32 → Int32 → Prop) (S : MS) (x1 : Int32) (x2 : Int32) : Prop := (25 ≤ x2 → post x1 S) ∧ (¬ 25 ≤ x2 → vp_in x2 25 ∧ (S.2.1 4 x2.toNatClampNeg ≤ 0 → ∀ v1_4 : Int32, v1_4 = x1 + 0 → B4 S v1_4 (x2 + 1)) ∧ (¬ S.2.1 4 x2.toNatClampNeg ≤ 0 → ∀ v1_5 : Int32, v1_5 = x1 + 1 → B4 S v1_5 (x2 + 1)))
def mT_lanesThere_e (l : Launch) (post : Int32 → MS → Prop) (B4 : MS → Int32 → Int32 → Prop) (S0 : MS) : Prop := B4 S0 0 0
set_option maxHeartbeats 4000000 in
set_option maxRecDepth 100000 in
theorem m_lanesThere (l : Launch) (S0 : MS) (post : Int32 → MS → Prop) (h : ∀ (B4 : MS → Int32 → Int32 → Prop), (∀ (S : MS) (x1 : Int32) (x2 : Int32), mT_lanesThere_4 l post B4 S x1 x2 → B4 S x1 x2) → mT_lanesThere_e l post B4 S0) : mX_lanesThere l S0 post := by
  refine msetI rfl (fun _ => Nat.le_of_ble_eq_true rfl) ?_
  intro p e s m args below meth c D ad cI cZ cL A Q hx hb hml hown hts hK hA hret H locs ls hP hD hS hl
  replace hl : lv_has ls 3 [(0, .ref (ad 0))] := hl
  obtain ⟨B4, hB4⟩ : ∃ B : MS → Int32 → Int32 → Prop, B = (fun S x1 x2 => ∀ (H : Heap) (locs : List Loc) (ls : Array Slot), va_P D vwCl (mW ad cI cZ cL S) H → va_D A (mW ad cI cZ cL S) → va_S A s.heap H locs → lv_has ls 3 [(0, .ref (ad 0)), (1, .int x1), (2, .int x2)] → W p l e (mrm 0 0) s m args below meth c H locs 0 0 Q (F0 m 4 ls [])) := ⟨_, rfl⟩
  have hT : mT_lanesThere_e l post B4 S0 := by
    refine h B4 ?_
    · clear hP hD hS hl H locs ls
      intro S x1 x2 hT
      unfold mT_lanesThere_4 at hT
      rw [hB4]
      intro H locs ls hP hD hS hl
      refine lv_iload_n hx hb dX9_lanesThere_4 rfl (lv_at hl 2 rfl) ?_
      refine lv_bipush (v := 25) hx hb dX9_lanesThere_5 (by decide) ?_
      refine lv_icmp_ge (tgt := 33) hx hb dX9_lanesThere_7 (by decide) (fun c1 => ?_) (fun c1 => ?_)
      · replace hT := hT.1 c1
        refine lv_iload_n hx hb dX9_lanesThere_33 rfl (lv_at hl 1 rfl) ?_
        exact hret _ _ _ _ _ _ hP hD hS hT dX9_lanesThere_34
      · replace hT := hT.2 c1
        refine lv_iload_n hx hb dX9_lanesThere_10 rfl (lv_at hl 1 rfl) ?_
        refine lv_aload_n hx hb dX9_lanesThere_11 rfl (lv_at hl 0 rfl) ?_
        refine mg_costs hx hb hts hown hK hP dX9_lanesThere_12 ?_
        refine lv_iload_n hx hb dX9_lanesThere_15 rfl (lv_at hl 2 rfl) ?_
        obtain ⟨hi2, hT⟩ := hT
        refine va_iald (f := S.2.1 4) hx hb hK hP 4 0 mat_4 rfl hi2 dX9_lanesThere_16 ?_
        refine lv_if_le (tgt := 24) hx hb dX9_lanesThere_17 (by decide) (fun c3 => ?_) (fun c3 => ?_)
        · replace hT := hT.1 c3
          refine lv_iconst (v := 0) hx hb dX9_lanesThere_24 (by decide) ?_
          refine lv_iadd hx hb dX9_lanesThere_25 ?_
          refine lv_topi (fun v1_4 ev1_4 => ?_)
          replace hT := hT v1_4 ev1_4
          refine lv_istore_n (lv' := [(1, .int v1_4), (0, .ref (ad 0)), (2, .int x2)]) hx hb dX9_lanesThere_26 rfl hl (by decide) rfl (fun ls hl => ?_)
          refine lv_iinc (v := x2 + 1) (lv' := [(2, .int (x2 + 1)), (1, .int v1_4), (0, .ref (ad 0))]) hx hb dX9_lanesThere_27 hl (k := 2) rfl rfl (by decide) rfl (fun ls hl => ?_)
          refine lv_goto (tgt := 4) hx hb dX9_lanesThere_30 (by decide) ?_
          rw [hB4] at hT
          exact hT _ _ _ hP hD hS (lv_sub hl [2, 1, 0] rfl)
        · replace hT := hT.2 c3
          refine lv_iconst (v := 1) hx hb dX9_lanesThere_20 (by decide) ?_
          refine lv_goto (tgt := 25) hx hb dX9_lanesThere_21 (by decide) ?_
          refine lv_iadd hx hb dX9_lanesThere_25 ?_
          refine lv_topi (fun v1_5 ev1_5 => ?_)
          replace hT := hT v1_5 ev1_5
          refine lv_istore_n (lv' := [(1, .int v1_5), (0, .ref (ad 0)), (2, .int x2)]) hx hb dX9_lanesThere_26 rfl hl (by decide) rfl (fun ls hl => ?_)
          refine lv_iinc (v := x2 + 1) (lv' := [(2, .int (x2 + 1)), (1, .int v1_5), (0, .ref (ad 0))]) hx hb dX9_lanesThere_27 hl (k := 2) rfl rfl (by decide) rfl (fun ls hl => ?_)
          refine lv_goto (tgt := 4) hx hb dX9_lanesThere_30 (by decide) ?_
          rw [hB4] at hT
          exact hT _ _ _ hP hD hS (lv_sub hl [2, 1, 0] rfl)
  unfold mT_lanesThere_e at hT
  refine lv_iconst (v := 0) hx hb dX9_lanesThere_0 (by decide) ?_
  refine lv_istore_n (lv' := [(1, .int 0), (0, .ref (ad 0))]) hx hb dX9_lanesThere_1 rfl hl (by decide) rfl (fun ls hl => ?_)
  refine lv_iconst (v := 0) hx hb dX9_lanesThere_2 (by decide) ?_
  refine lv_istore_n (lv' := [(2, .int 0), (1, .int 0), (0, .ref (ad 0))]) hx hb dX9_lanesThere_3 rfl hl (by decide) rfl (fun ls hl => ?_)
  rw [hB4] at hT
  exact hT _ _ _ hP hD hS (lv_sub hl [2, 1, 0] rfl)
abbrev mX_lanes (l : Launch) (S : MS) (post : Int32 → MS → Prop) : Prop := mCtI l yX9_lanes cX9_lanes 3 1 22 (fun ad => []) S post
def mT_lanes_7 (l : Launch) (post : Int32 → MS → Prop) (B7 : MS → Int32 → Prop) (B17 : MS → Int32 → Int32 → Prop) (B55 : MS → Int32 → Int32 → Prop) (S : MS) (x1 : Int32) : Prop := (S.1 0 ≤ x1 → mX_lanesThere l (mf (mf S 4 0) 5 0) (fun r3 S2 => post r3 S2)) ∧ (¬ S.1 0 ≤ x1 → B17 S x1 0)
def mT_lanes_17 (l : Launch) (post : Int32 → MS → Prop) (B7 : MS → Int32 → Prop) (B17 : MS → Int32 → Int32 → Prop) (B55 : MS → Int32 → Int32 → Prop) (S : MS) (x1 : Int32) (x2 : Int32) : Prop := (S.1 0 ≤ x2 → B7 S (x1 + 1)) ∧ (¬ S.1 0 ≤ x2 → (¬ x1 = x2 → vp_in ((5 * x1) + x2) 25 ∧ vp_in ((5 * x1) + x2) 25 ∧ B55 (ma (ma S 4 (upd (S.2.1 4) ((5 * x1) + x2).toNatClampNeg 1)) 5 (upd (S.2.1 5) ((5 * x1) + x2).toNatClampNeg (vp_nar .boolean 1))) x1 x2) ∧ (x1 = x2 → B55 S x1 x2))
def mT_lanes_55 (l : Launch) (post : Int32 → MS → Prop) (B7 : MS → Int32 → Prop) (B17 : MS → Int32 → Int32 → Prop) (B55 : MS → Int32 → Int32 → Prop) (S : MS) (x1 : Int32) (x2 : Int32) : Prop := B17 S x1 (x2 + 1)
def mT_lanes_e (l : Launch) (post : Int32 → MS → Prop) (B7 : MS → Int32 → Prop) (B17 : MS → Int32 → Int32 → Prop) (B55 : MS → Int32 → Int32 → Prop) (S0 : MS) : Prop := B7 (mf S0 3 0) 0
set_option maxHeartbeats 4000000 in
set_option maxRecDepth 100000 in
theorem m_lanes (l : Launch) (S0 : MS) (post : Int32 → MS → Prop) (h : ∀ (B7 : MS → Int32 → Prop) (B17 : MS → Int32 → Int32 → Prop) (B55 : MS → Int32 → Int32 → Prop), (∀ (S : MS) (x1 : Int32), mT_lanes_7 l post B7 B17 B55 S x1 → B7 S x1) → (∀ (S : MS) (x1 : Int32) (x2 : Int32), mT_lanes_17 l post B7 B17 B55 S x1 x2 → B17 S x1 x2) → (∀ (S : MS) (x1 : Int32) (x2 : Int32), mT_lanes_55 l post B7 B17 B55 S x1 x2 → B55 S x1 x2) → mT_lanes_e l post B7 B17 B55 S0) : mX_lanes l S0 post := by
  refine msetI rfl (fun _ => Nat.le_of_ble_eq_true rfl) ?_
  intro p e s m args below meth c D ad cI cZ cL A Q hx hb hml hown hts hK hA hret H locs ls hP hD hS hl
  replace hl : lv_has ls 3 [(0, .ref (ad 0))] := hl
  obtain ⟨B7, hB7⟩ : ∃ B : MS → Int32 → Prop, B = (fun S x1 => ∀ (H : Heap) (locs : List Loc) (ls : Array Slot), va_P D vwCl (mW ad cI cZ cL S) H → va_D A (mW ad cI cZ cL S) → va_S A s.heap H locs → lv_has ls 3 [(0, .ref (ad 0)), (1, .int x1)] → W p l e (mrm 1 22) s m args below meth c H locs 0 0 Q (F0 m 7 ls [])) := ⟨_, rfl⟩
  obtain ⟨B17, hB17⟩ : ∃ B : MS → Int32 → Int32 → Prop, B = (fun S x1 x2 => ∀ (H : Heap) (locs : List Loc) (ls : Array Slot), va_P D vwCl (mW ad cI cZ cL S) H → va_D A (mW ad cI cZ cL S) → va_S A s.heap H locs → lv_has ls 3 [(0, .ref (ad 0)), (1, .int x1), (2, .int x2)] → W p l e (mrm 1 22) s m args below meth c H locs 0 0 Q (F0 m 17 ls [])) := ⟨_, rfl⟩
  obtain ⟨B55, hB55⟩ : ∃ B : MS → Int32 → Int32 → Prop, B = (fun S x1 x2 => ∀ (H : Heap) (locs : List Loc) (ls : Array Slot), va_P D vwCl (mW ad cI cZ cL S) H → va_D A (mW ad cI cZ cL S) → va_S A s.heap H locs → lv_has ls 3 [(0, .ref (ad 0)), (1, .int x1), (2, .int x2)] → W p l e (mrm 1 22) s m args below meth c H locs 0 0 Q (F0 m 55 ls [])) := ⟨_, rfl⟩
  have hT : mT_lanes_e l post B7 B17 B55 S0 := by
    refine h B7 B17 B55 ?_ ?_ ?_
    · clear hP hD hS hl H locs ls
      intro S x1 hT
      unfold mT_lanes_7 at hT
      rw [hB7]
      intro H locs ls hP hD hS hl
      refine lv_iload_n hx hb dX9_lanes_7 rfl (lv_at hl 1 rfl) ?_
      refine lv_aload_n hx hb dX9_lanes_8 rfl (lv_at hl 0 rfl) ?_
      refine mg_pegs (v := S.1 0) hx hb hts hown hK hP rfl dX9_lanes_9 ?_
      refine lv_icmp_ge (tgt := 67) hx hb dX9_lanes_12 (by decide) (fun c1 => ?_) (fun c1 => ?_)
      · replace hT := hT.1 c1
        refine lv_aload_n hx hb dX9_lanes_67 rfl (lv_at hl 0 rfl) ?_
        refine lv_iconst (v := 0) hx hb dX9_lanes_68 (by decide) ?_
        refine mp_undos hx hb hts hown hK hP hD hS dX9_lanes_69 (fun H locs hP hD hS => ?_)
        refine lv_aload_n hx hb dX9_lanes_72 rfl (lv_at hl 0 rfl) ?_
        refine lv_iconst (v := 0) hx hb dX9_lanes_73 (by decide) ?_
        refine mp_redos hx hb hts hown hK hP hD hS dX9_lanes_74 (fun H locs hP hD hS => ?_)
        refine lv_aload_n hx hb dX9_lanes_77 rfl (lv_at hl 0 rfl) ?_
        refine mcallI (n := 0) (rest := []) hT hx hb hml hown hts hK hA hP hD hS hl gg_173 hd_X9_lanesThere ⟨Nat.le_of_ble_eq_true rfl, Nat.le_of_ble_eq_true rfl⟩ rfl rfl (Nat.le_of_ble_eq_true rfl) dX9_lanes_78 (Nat.zero_le _) (Nat.zero_le _) (fun r3 S2 H locs hP hD hS hT => ?_)
        exact hret _ _ _ _ _ _ hP hD hS hT dX9_lanes_81
      · replace hT := hT.2 c1
        refine lv_iconst (v := 0) hx hb dX9_lanes_15 (by decide) ?_
        refine lv_istore_n (lv' := [(2, .int 0), (0, .ref (ad 0)), (1, .int x1)]) hx hb dX9_lanes_16 rfl hl (by decide) rfl (fun ls hl => ?_)
        rw [hB17] at hT
        exact hT _ _ _ hP hD hS (lv_sub hl [1, 2, 0] rfl)
    · clear hP hD hS hl H locs ls
      intro S x1 x2 hT
      unfold mT_lanes_17 at hT
      rw [hB17]
      intro H locs ls hP hD hS hl
      refine lv_iload_n hx hb dX9_lanes_17 rfl (lv_at hl 2 rfl) ?_
      refine lv_aload_n hx hb dX9_lanes_18 rfl (lv_at hl 0 rfl) ?_
      refine mg_pegs (v := S.1 0) hx hb hts hown hK hP rfl dX9_lanes_19 ?_
      refine lv_icmp_ge (tgt := 61) hx hb dX9_lanes_22 (by decide) (fun c4 => ?_) (fun c4 => ?_)
      · replace hT := hT.1 c4
        refine lv_iinc (v := x1 + 1) (lv' := [(1, .int (x1 + 1)), (0, .ref (ad 0)), (2, .int x2)]) hx hb dX9_lanes_61 hl (k := 1) rfl rfl (by decide) rfl (fun ls hl => ?_)
        refine lv_goto (tgt := 7) hx hb dX9_lanes_64 (by decide) ?_
        rw [hB7] at hT
        exact hT _ _ _ hP hD hS (lv_sub hl [1, 0] rfl)
      · replace hT := hT.2 c4
        refine lv_iload_n hx hb dX9_lanes_25 rfl (lv_at hl 1 rfl) ?_
        refine lv_iload_n hx hb dX9_lanes_26 rfl (lv_at hl 2 rfl) ?_
        refine lv_icmp_ne (tgt := 33) hx hb dX9_lanes_27 (by decide) (fun c5 => ?_) (fun c5 => ?_)
        · replace hT := hT.1 c5
          refine lv_aload_n hx hb dX9_lanes_33 rfl (lv_at hl 0 rfl) ?_
          refine mg_costs hx hb hts hown hK hP dX9_lanes_34 ?_
          refine lv_iconst (v := 5) hx hb dX9_lanes_37 (by decide) ?_
          refine lv_iload_n hx hb dX9_lanes_38 rfl (lv_at hl 1 rfl) ?_
          refine lv_imul hx hb dX9_lanes_39 ?_
          refine lv_iload_n hx hb dX9_lanes_40 rfl (lv_at hl 2 rfl) ?_
          refine lv_iadd hx hb dX9_lanes_41 ?_
          refine lv_iconst (v := 1) hx hb dX9_lanes_42 (by decide) ?_
          obtain ⟨hi6, hT⟩ := hT
          refine va_iast (f := S.2.1 4) hx hb hK hP hD hS 4 0 mat_4 rfl hi6 dX9_lanes_43 (fun H locs hP hD hS => ?_)
          replace hP := msetP_4 hP
          replace hD := msetD_4 hD
          refine lv_aload_n hx hb dX9_lanes_44 rfl (lv_at hl 0 rfl) ?_
          refine mg_isStrong hx hb hts hown hK hP dX9_lanes_45 ?_
          refine lv_iconst (v := 5) hx hb dX9_lanes_48 (by decide) ?_
          refine lv_iload_n hx hb dX9_lanes_49 rfl (lv_at hl 1 rfl) ?_
          refine lv_imul hx hb dX9_lanes_50 ?_
          refine lv_iload_n hx hb dX9_lanes_51 rfl (lv_at hl 2 rfl) ?_
          refine lv_iadd hx hb dX9_lanes_52 ?_
          refine lv_iconst (v := 1) hx hb dX9_lanes_53 (by decide) ?_
          obtain ⟨hi7, hT⟩ := hT
          refine va_zast (f := S.2.1 5) hx hb hK hP hD hS 5 1 mat_5 rfl hi7 dX9_lanes_54 (fun H locs hP hD hS => ?_)
          replace hP := msetP_5 hP
          replace hD := msetD_5 hD
          rw [hB55] at hT
          exact hT _ _ _ hP hD hS (lv_sub hl [0, 1, 2] rfl)
        · replace hT := hT.2 c5
          refine lv_goto (tgt := 55) hx hb dX9_lanes_30 (by decide) ?_
          rw [hB55] at hT
          exact hT _ _ _ hP hD hS (lv_sub hl [0, 1, 2] rfl)
    · clear hP hD hS hl H locs ls
      intro S x1 x2 hT
      unfold mT_lanes_55 at hT
      rw [hB55]
      intro H locs ls hP hD hS hl
      refine lv_iinc (v := x2 + 1) (lv' := [(2, .int (x2 + 1)), (0, .ref (ad 0)), (1, .int x1)]) hx hb dX9_lanes_55 hl (k := 2) rfl rfl (by decide) rfl (fun ls hl => ?_)
      refine lv_goto (tgt := 17) hx hb dX9_lanes_58 (by decide) ?_
      rw [hB17] at hT
      exact hT _ _ _ hP hD hS (lv_sub hl [1, 2, 0] rfl)
  unfold mT_lanes_e at hT
  refine lv_aload_n hx hb dX9_lanes_0 rfl (lv_at hl 0 rfl) ?_
  refine lv_iconst (v := 0) hx hb dX9_lanes_1 (by decide) ?_
  refine mp_thrown hx hb hts hown hK hP hD hS dX9_lanes_2 (fun H locs hP hD hS => ?_)
  refine lv_iconst (v := 0) hx hb dX9_lanes_5 (by decide) ?_
  refine lv_istore_n (lv' := [(1, .int 0), (0, .ref (ad 0))]) hx hb dX9_lanes_6 rfl hl (by decide) rfl (fun ls hl => ?_)
  rw [hB7] at hT
  exact hT _ _ _ hP hD hS (lv_sub hl [1, 0] rfl)
abbrev mX_cost (l : Launch) (S : MS) (a1 : Int32) (a2 : Int32) (post : Int32 → MS → Prop) : Prop := mCtI l yX9_cost cX9_cost 3 2 44 (fun ad => [.int a1, .int a2]) S post
def mT_cost_e (l : Launch) (a1 : Int32) (a2 : Int32) (post : Int32 → MS → Prop) (S0 : MS) : Prop := mX_isPeg l (mf S0 3 0) a1 (fun b2 S1 => (bI b2 = 0 → post (-1) S1) ∧ (¬ bI b2 = 0 → mX_isPeg l S1 a2 (fun b5 S4 => (bI b5 = 0 → post (-1) S4) ∧ (¬ bI b5 = 0 → vp_in ((5 * a1) + a2) 25 ∧ post (S4.2.1 4 ((5 * a1) + a2).toNatClampNeg) S4))))
set_option maxHeartbeats 4000000 in
set_option maxRecDepth 100000 in
theorem m_cost (l : Launch) (S0 : MS) (a1 : Int32) (a2 : Int32) (post : Int32 → MS → Prop) (h : mT_cost_e l a1 a2 post S0) : mX_cost l S0 a1 a2 post := by
  refine msetI rfl (fun _ => Nat.le_of_ble_eq_true rfl) ?_
  intro p e s m args below meth c D ad cI cZ cL A Q hx hb hml hown hts hK hA hret H locs ls hP hD hS hl
  replace hl : lv_has ls 3 [(0, .ref (ad 0)), (1, .int a1), (2, .int a2)] := hl
  have hT := h
  unfold mT_cost_e at hT
  refine lv_aload_n hx hb dX9_cost_0 rfl (lv_at hl 0 rfl) ?_
  refine lv_iconst (v := 0) hx hb dX9_cost_1 (by decide) ?_
  refine mp_thrown hx hb hts hown hK hP hD hS dX9_cost_2 (fun H locs hP hD hS => ?_)
  refine lv_aload_n hx hb dX9_cost_5 rfl (lv_at hl 0 rfl) ?_
  refine lv_iload_n hx hb dX9_cost_6 rfl (lv_at hl 1 rfl) ?_
  refine mcallZ (n := 1) (rest := []) hT hx hb hml hown hts hK hA hP hD hS hl gg_170 hd_X9_isPeg ⟨Nat.le_of_ble_eq_true rfl, Nat.le_of_ble_eq_true rfl⟩ rfl rfl (Nat.le_of_ble_eq_true rfl) dX9_cost_7 (Nat.zero_le _) (Nat.zero_le _) (fun b2 S1 H locs hP hD hS hT => ?_)
  refine lv_if_eq (tgt := 34) hx hb dX9_cost_10 (by decide) (fun c3 => ?_) (fun c3 => ?_)
  · replace hT := hT.1 c3
    refine lv_iconst (v := (-1)) hx hb dX9_cost_34 (by decide) ?_
    exact hret _ _ _ _ _ _ hP hD hS hT dX9_cost_35
  · replace hT := hT.2 c3
    refine lv_aload_n hx hb dX9_cost_13 rfl (lv_at hl 0 rfl) ?_
    refine lv_iload_n hx hb dX9_cost_14 rfl (lv_at hl 2 rfl) ?_
    refine mcallZ (n := 1) (rest := []) hT hx hb hml hown hts hK hA hP hD hS hl gg_170 hd_X9_isPeg ⟨Nat.le_of_ble_eq_true rfl, Nat.le_of_ble_eq_true rfl⟩ rfl rfl (Nat.le_of_ble_eq_true rfl) dX9_cost_15 (Nat.zero_le _) (Nat.zero_le _) (fun b5 S4 H locs hP hD hS hT => ?_)
    refine lv_if_eq (tgt := 34) hx hb dX9_cost_18 (by decide) (fun c6 => ?_) (fun c6 => ?_)
    · replace hT := hT.1 c6
      refine lv_iconst (v := (-1)) hx hb dX9_cost_34 (by decide) ?_
      exact hret _ _ _ _ _ _ hP hD hS hT dX9_cost_35
    · replace hT := hT.2 c6
      refine lv_aload_n hx hb dX9_cost_21 rfl (lv_at hl 0 rfl) ?_
      refine mg_costs hx hb hts hown hK hP dX9_cost_22 ?_
      refine lv_iconst (v := 5) hx hb dX9_cost_25 (by decide) ?_
      refine lv_iload_n hx hb dX9_cost_26 rfl (lv_at hl 1 rfl) ?_
      refine lv_imul hx hb dX9_cost_27 ?_
      refine lv_iload_n hx hb dX9_cost_28 rfl (lv_at hl 2 rfl) ?_
      refine lv_iadd hx hb dX9_cost_29 ?_
      obtain ⟨hi7, hT⟩ := hT
      refine va_iald (f := S4.2.1 4) hx hb hK hP 4 0 mat_4 rfl hi7 dX9_cost_30 ?_
      refine lv_goto (tgt := 35) hx hb dX9_cost_31 (by decide) ?_
      exact hret _ _ _ _ _ _ hP hD hS hT dX9_cost_35
abbrev mX_stand (l : Launch) (S : MS) (a1 : Int32) (a2 : Bool) (post : Bool → MS → Prop) : Prop := mCtZ l yX9_stand cX9_stand 4 2 46 (fun ad => [.int a1, .int (bI a2)]) S post
def mT_stand_54 (l : Launch) (a1 : Int32) (a2 : Bool) (post : Bool → MS → Prop) (B54 : MS → Int32 → Prop) (B93 : MS → Int32 → Prop) (S : MS) (x3 : Int32) : Prop := (S.1 1 ≤ x3 → (¬ bI a2 = 0 → post true (mf S 2 0)) ∧ (bI a2 = 0 → mX_nothingUndone l (mf S 2 0) (fun S3 => post true S3))) ∧ (¬ S.1 1 ≤ x3 → (bI a2 = 0 → vp_in x3 7 ∧ vp_in x3 7 ∧ B93 (ma S 2 (upd (S.2.1 2) x3.toNatClampNeg (S.2.1 8 x3.toNatClampNeg))) x3) ∧ (¬ bI a2 = 0 → vp_in x3 7 ∧ vp_in x3 7 ∧ B93 (ma S 3 (upd (S.2.1 3) x3.toNatClampNeg (S.2.1 8 x3.toNatClampNeg))) x3))
def mT_stand_93 (l : Launch) (a1 : Int32) (a2 : Bool) (post : Bool → MS → Prop) (B54 : MS → Int32 → Prop) (B93 : MS → Int32 → Prop) (S : MS) (x3 : Int32) : Prop := B54 S (x3 + 1)
def mT_stand_e (l : Launch) (a1 : Int32) (a2 : Bool) (post : Bool → MS → Prop) (B54 : MS → Int32 → Prop) (B93 : MS → Int32 → Prop) (S0 : MS) : Prop := mX_stands l (mf S0 3 0) (fun r10 S9 => mX_in l S9 a1 0 (r10 - 1) (fun b12 S11 => (¬ bI b12 = 0 → mX_unpack l S11 a1 8 (fun S14 => mX_isRight l S14 8 (fun b16 S15 => (¬ bI b16 = 0 → B54 S15 0) ∧ (bI b16 = 0 → mX_not l S15 3 (fun b19 S18 => post b19 S18))))) ∧ (bI b12 = 0 → mX_not l S11 1 (fun b21 S20 => post b21 S20))))
set_option maxHeartbeats 4000000 in
set_option maxRecDepth 100000 in
theorem m_stand (l : Launch) (S0 : MS) (a1 : Int32) (a2 : Bool) (post : Bool → MS → Prop) (h : ∀ (B54 : MS → Int32 → Prop) (B93 : MS → Int32 → Prop), (∀ (S : MS) (x3 : Int32), mT_stand_54 l a1 a2 post B54 B93 S x3 → B54 S x3) → (∀ (S : MS) (x3 : Int32), mT_stand_93 l a1 a2 post B54 B93 S x3 → B93 S x3) → mT_stand_e l a1 a2 post B54 B93 S0) : mX_stand l S0 a1 a2 post := by
  refine msetZ rfl (fun _ => Nat.le_of_ble_eq_true rfl) ?_
  intro p e s m args below meth c D ad cI cZ cL A Q hx hb hml hown hts hK hA hret H locs ls hP hD hS hl
  replace hl : lv_has ls 4 [(0, .ref (ad 0)), (1, .int a1), (2, .int (bI a2))] := hl
  obtain ⟨B54, hB54⟩ : ∃ B : MS → Int32 → Prop, B = (fun S x3 => ∀ (H : Heap) (locs : List Loc) (ls : Array Slot), va_P D vwCl (mW ad cI cZ cL S) H → va_D A (mW ad cI cZ cL S) → va_S A s.heap H locs → lv_has ls 4 [(0, .ref (ad 0)), (2, .int (bI a2)), (3, .int x3)] → W p l e (mrm 2 46) s m args below meth c H locs 0 0 Q (F0 m 54 ls [])) := ⟨_, rfl⟩
  obtain ⟨B93, hB93⟩ : ∃ B : MS → Int32 → Prop, B = (fun S x3 => ∀ (H : Heap) (locs : List Loc) (ls : Array Slot), va_P D vwCl (mW ad cI cZ cL S) H → va_D A (mW ad cI cZ cL S) → va_S A s.heap H locs → lv_has ls 4 [(0, .ref (ad 0)), (2, .int (bI a2)), (3, .int x3)] → W p l e (mrm 2 46) s m args below meth c H locs 0 0 Q (F0 m 93 ls [])) := ⟨_, rfl⟩
  have hT : mT_stand_e l a1 a2 post B54 B93 S0 := by
    refine h B54 B93 ?_ ?_
    · clear hP hD hS hl H locs ls
      intro S x3 hT
      unfold mT_stand_54 at hT
      rw [hB54]
      intro H locs ls hP hD hS hl
      refine lv_iload_n hx hb dX9_stand_54 rfl (lv_at hl 2 rfl) ?_
      refine lv_aload_n hx hb dX9_stand_55 rfl (lv_at hl 0 rfl) ?_
      refine mg_discs (v := S.1 1) hx hb hts hown hK hP rfl dX9_stand_56 ?_
      refine lv_icmp_ge (tgt := 99) hx hb dX9_stand_59 (by decide) (fun c1 => ?_) (fun c1 => ?_)
      · replace hT := hT.1 c1
        refine lv_aload_n hx hb dX9_stand_99 rfl (lv_at hl 0 rfl) ?_
        refine lv_iconst (v := 0) hx hb dX9_stand_100 (by decide) ?_
        refine mp_trouble hx hb hts hown hK hP hD hS dX9_stand_101 (fun H locs hP hD hS => ?_)
        refine lv_iload_n hx hb dX9_stand_104 rfl (lv_at hl 1 rfl) ?_
        refine lv_if_ne (tgt := 112) hx hb dX9_stand_105 (by decide) (fun c2 => ?_) (fun c2 => ?_)
        · replace hT := hT.1 c2
          refine lv_iconst (v := 1) hx hb dX9_stand_112 (by decide) ?_
          exact hret true _ _ _ _ _ hP hD hS hT dX9_stand_113
        · replace hT := hT.2 c2
          refine lv_aload_n hx hb dX9_stand_108 rfl (lv_at hl 0 rfl) ?_
          refine mcallV (n := 0) (rest := []) hT hx hb hml hown hts hK hA hP hD hS hl gg_163 hd_X9_nothingUndone ⟨Nat.le_of_ble_eq_true rfl, Nat.le_of_ble_eq_true rfl⟩ rfl rfl (Nat.le_of_ble_eq_true rfl) dX9_stand_109 (Nat.zero_le _) (Nat.zero_le _) (fun S3 H locs hP hD hS hT => ?_)
          refine lv_iconst (v := 1) hx hb dX9_stand_112 (by decide) ?_
          exact hret true _ _ _ _ _ hP hD hS hT dX9_stand_113
      · replace hT := hT.2 c1
        refine lv_iload_n hx hb dX9_stand_62 rfl (lv_at hl 1 rfl) ?_
        refine lv_if_eq (tgt := 81) hx hb dX9_stand_63 (by decide) (fun c4 => ?_) (fun c4 => ?_)
        · replace hT := hT.1 c4
          refine lv_aload_n hx hb dX9_stand_81 rfl (lv_at hl 0 rfl) ?_
          refine mg_stand hx hb hts hown hK hP dX9_stand_82 ?_
          refine lv_iload_n hx hb dX9_stand_85 rfl (lv_at hl 2 rfl) ?_
          refine lv_aload_n hx hb dX9_stand_86 rfl (lv_at hl 0 rfl) ?_
          refine mg_at hx hb hts hown hK hP dX9_stand_87 ?_
          refine lv_iload_n hx hb dX9_stand_90 rfl (lv_at hl 2 rfl) ?_
          obtain ⟨hi5, hT⟩ := hT
          refine va_iald (f := S.2.1 8) hx hb hK hP 8 0 mat_8 rfl hi5 dX9_stand_91 ?_
          obtain ⟨hi6, hT⟩ := hT
          refine va_iast (f := S.2.1 2) hx hb hK hP hD hS 2 0 mat_2 rfl hi6 dX9_stand_92 (fun H locs hP hD hS => ?_)
          replace hP := msetP_2 hP
          replace hD := msetD_2 hD
          rw [hB93] at hT
          exact hT _ _ _ hP hD hS (lv_sub hl [0, 1, 2] rfl)
        · replace hT := hT.2 c4
          refine lv_aload_n hx hb dX9_stand_66 rfl (lv_at hl 0 rfl) ?_
          refine mg_goal hx hb hts hown hK hP dX9_stand_67 ?_
          refine lv_iload_n hx hb dX9_stand_70 rfl (lv_at hl 2 rfl) ?_
          refine lv_aload_n hx hb dX9_stand_71 rfl (lv_at hl 0 rfl) ?_
          refine mg_at hx hb hts hown hK hP dX9_stand_72 ?_
          refine lv_iload_n hx hb dX9_stand_75 rfl (lv_at hl 2 rfl) ?_
          obtain ⟨hi7, hT⟩ := hT
          refine va_iald (f := S.2.1 8) hx hb hK hP 8 0 mat_8 rfl hi7 dX9_stand_76 ?_
          obtain ⟨hi8, hT⟩ := hT
          refine va_iast (f := S.2.1 3) hx hb hK hP hD hS 3 0 mat_3 rfl hi8 dX9_stand_77 (fun H locs hP hD hS => ?_)
          replace hP := msetP_3 hP
          replace hD := msetD_3 hD
          refine lv_goto (tgt := 93) hx hb dX9_stand_78 (by decide) ?_
          rw [hB93] at hT
          exact hT _ _ _ hP hD hS (lv_sub hl [0, 1, 2] rfl)
    · clear hP hD hS hl H locs ls
      intro S x3 hT
      unfold mT_stand_93 at hT
      rw [hB93]
      intro H locs ls hP hD hS hl
      refine lv_iinc (v := x3 + 1) (lv' := [(3, .int (x3 + 1)), (0, .ref (ad 0)), (2, .int (bI a2))]) hx hb dX9_stand_93 hl (k := 2) rfl rfl (by decide) rfl (fun ls hl => ?_)
      refine lv_goto (tgt := 54) hx hb dX9_stand_96 (by decide) ?_
      rw [hB54] at hT
      exact hT _ _ _ hP hD hS (lv_sub hl [1, 2, 0] rfl)
  unfold mT_stand_e at hT
  refine lv_aload_n hx hb dX9_stand_0 rfl (lv_at hl 0 rfl) ?_
  refine lv_iconst (v := 0) hx hb dX9_stand_1 (by decide) ?_
  refine mp_thrown hx hb hts hown hK hP hD hS dX9_stand_2 (fun H locs hP hD hS => ?_)
  refine lv_aload_n hx hb dX9_stand_5 rfl (lv_at hl 0 rfl) ?_
  refine lv_iload_n hx hb dX9_stand_6 rfl (lv_at hl 1 rfl) ?_
  refine lv_iconst (v := 0) hx hb dX9_stand_7 (by decide) ?_
  refine lv_aload_n hx hb dX9_stand_8 rfl (lv_at hl 0 rfl) ?_
  refine mcallI (n := 0) (rest := [.int 0, .int a1, .ref (ad 0)]) hT hx hb hml hown hts hK hA hP hD hS hl gg_177 hd_X9_stands ⟨Nat.le_of_ble_eq_true rfl, Nat.le_of_ble_eq_true rfl⟩ rfl rfl (Nat.le_of_ble_eq_true rfl) dX9_stand_9 (Nat.zero_le _) (Nat.zero_le _) (fun r10 S9 H locs hP hD hS hT => ?_)
  refine lv_iconst (v := 1) hx hb dX9_stand_12 (by decide) ?_
  refine lv_isub hx hb dX9_stand_13 ?_
  refine mcallZ (n := 3) (rest := []) hT hx hb hml hown hts hK hA hP hD hS hl gg_139 hd_X9_in ⟨Nat.le_of_ble_eq_true rfl, Nat.le_of_ble_eq_true rfl⟩ rfl rfl (Nat.le_of_ble_eq_true rfl) dX9_stand_14 (Nat.zero_le _) (Nat.zero_le _) (fun b12 S11 H locs hP hD hS hT => ?_)
  refine lv_if_ne (tgt := 26) hx hb dX9_stand_17 (by decide) (fun c13 => ?_) (fun c13 => ?_)
  · replace hT := hT.1 c13
    refine lv_aload_n hx hb dX9_stand_26 rfl (lv_at hl 0 rfl) ?_
    refine lv_iload_n hx hb dX9_stand_27 rfl (lv_at hl 1 rfl) ?_
    refine lv_aload_n hx hb dX9_stand_28 rfl (lv_at hl 0 rfl) ?_
    refine mg_at hx hb hts hown hK hP dX9_stand_29 ?_
    refine mcallV (n := 2) (rest := []) hT hx hb hml hown hts hK hA hP hD hS hl gg_180 hd_X9_unpack ⟨Nat.le_of_ble_eq_true rfl, Nat.le_of_ble_eq_true rfl⟩ rfl rfl (Nat.le_of_ble_eq_true rfl) dX9_stand_32 (Nat.zero_le _) (Nat.zero_le _) (fun S14 H locs hP hD hS hT => ?_)
    refine lv_aload_n hx hb dX9_stand_35 rfl (lv_at hl 0 rfl) ?_
    refine lv_aload_n hx hb dX9_stand_36 rfl (lv_at hl 0 rfl) ?_
    refine mg_at hx hb hts hown hK hP dX9_stand_37 ?_
    refine mcallZ (n := 1) (rest := []) hT hx hb hml hown hts hK hA hP hD hS hl gg_166 hd_X9_isRight ⟨Nat.le_of_ble_eq_true rfl, Nat.le_of_ble_eq_true rfl⟩ rfl rfl (Nat.le_of_ble_eq_true rfl) dX9_stand_40 (Nat.zero_le _) (Nat.zero_le _) (fun b16 S15 H locs hP hD hS hT => ?_)
    refine lv_if_ne (tgt := 52) hx hb dX9_stand_43 (by decide) (fun c17 => ?_) (fun c17 => ?_)
    · replace hT := hT.1 c17
      refine lv_iconst (v := 0) hx hb dX9_stand_52 (by decide) ?_
      refine lv_istore_n (lv' := [(3, .int 0), (0, .ref (ad 0)), (1, .int a1), (2, .int (bI a2))]) hx hb dX9_stand_53 rfl hl (by decide) rfl (fun ls hl => ?_)
      rw [hB54] at hT
      exact hT _ _ _ hP hD hS (lv_sub hl [1, 3, 0] rfl)
    · replace hT := hT.2 c17
      refine lv_aload_n hx hb dX9_stand_46 rfl (lv_at hl 0 rfl) ?_
      refine lv_iconst (v := 3) hx hb dX9_stand_47 (by decide) ?_
      refine mcallZ (n := 1) (rest := []) hT hx hb hml hown hts hK hA hP hD hS hl gg_159 hd_X9_not ⟨Nat.le_of_ble_eq_true rfl, Nat.le_of_ble_eq_true rfl⟩ rfl rfl (Nat.le_of_ble_eq_true rfl) dX9_stand_48 (Nat.zero_le _) (Nat.zero_le _) (fun b19 S18 H locs hP hD hS hT => ?_)
      exact hret b19 _ _ _ _ _ hP hD hS hT dX9_stand_51
  · replace hT := hT.2 c13
    refine lv_aload_n hx hb dX9_stand_20 rfl (lv_at hl 0 rfl) ?_
    refine lv_iconst (v := 1) hx hb dX9_stand_21 (by decide) ?_
    refine mcallZ (n := 1) (rest := []) hT hx hb hml hown hts hK hA hP hD hS hl gg_159 hd_X9_not ⟨Nat.le_of_ble_eq_true rfl, Nat.le_of_ble_eq_true rfl⟩ rfl rfl (Nat.le_of_ble_eq_true rfl) dX9_stand_22 (Nat.zero_le _) (Nat.zero_le _) (fun b21 S20 H locs hP hD hS hT => ?_)
    exact hret b21 _ _ _ _ _ hP hD hS hT dX9_stand_25
abbrev mX_number (l : Launch) (S : MS) (a1 : Bool) (post : Int32 → MS → Prop) : Prop := mCtI l yX9_number cX9_number 2 1 23 (fun ad => [.int (bI a1)]) S post
def mT_number_e (l : Launch) (a1 : Bool) (post : Int32 → MS → Prop) (S0 : MS) : Prop := (bI a1 = 0 → mX_pack l (mf S0 3 0) 2 (fun r3 S2 => post r3 S2)) ∧ (¬ bI a1 = 0 → mX_pack l (mf S0 3 0) 3 (fun r5 S4 => post r5 S4))
set_option maxHeartbeats 4000000 in
set_option maxRecDepth 100000 in
theorem m_number (l : Launch) (S0 : MS) (a1 : Bool) (post : Int32 → MS → Prop) (h : mT_number_e l a1 post S0) : mX_number l S0 a1 post := by
  refine msetI rfl (fun _ => Nat.le_of_ble_eq_true rfl) ?_
  intro p e s m args below meth c D ad cI cZ cL A Q hx hb hml hown hts hK hA hret H locs ls hP hD hS hl
  replace hl : lv_has ls 2 [(0, .ref (ad 0)), (1, .int (bI a1))] := hl
  have hT := h
  unfold mT_number_e at hT
  refine lv_aload_n hx hb dX9_number_0 rfl (lv_at hl 0 rfl) ?_
  refine lv_iconst (v := 0) hx hb dX9_number_1 (by decide) ?_
  refine mp_thrown hx hb hts hown hK hP hD hS dX9_number_2 (fun H locs hP hD hS => ?_)
  refine lv_aload_n hx hb dX9_number_5 rfl (lv_at hl 0 rfl) ?_
  refine lv_iload_n hx hb dX9_number_6 rfl (lv_at hl 1 rfl) ?_
  refine lv_if_eq (tgt := 17) hx hb dX9_number_7 (by decide) (fun c1 => ?_) (fun c1 => ?_)
  · replace hT := hT.1 c1
    refine lv_aload_n hx hb dX9_number_17 rfl (lv_at hl 0 rfl) ?_
    refine mg_stand hx hb hts hown hK hP dX9_number_18 ?_
    refine mcallI (n := 1) (rest := []) hT hx hb hml hown hts hK hA hP hD hS hl gg_184 hd_X9_pack ⟨Nat.le_of_ble_eq_true rfl, Nat.le_of_ble_eq_true rfl⟩ rfl rfl (Nat.le_of_ble_eq_true rfl) dX9_number_21 (Nat.zero_le _) (Nat.zero_le _) (fun r3 S2 H locs hP hD hS hT => ?_)
    exact hret _ _ _ _ _ _ hP hD hS hT dX9_number_24
  · replace hT := hT.2 c1
    refine lv_aload_n hx hb dX9_number_10 rfl (lv_at hl 0 rfl) ?_
    refine mg_goal hx hb hts hown hK hP dX9_number_11 ?_
    refine lv_goto (tgt := 21) hx hb dX9_number_14 (by decide) ?_
    refine mcallI (n := 1) (rest := []) hT hx hb hml hown hts hK hA hP hD hS hl gg_184 hd_X9_pack ⟨Nat.le_of_ble_eq_true rfl, Nat.le_of_ble_eq_true rfl⟩ rfl rfl (Nat.le_of_ble_eq_true rfl) dX9_number_21 (Nat.zero_le _) (Nat.zero_le _) (fun r5 S4 H locs hP hD hS hT => ?_)
    exact hret _ _ _ _ _ _ hP hD hS hT dX9_number_24
abbrev mX_peg (l : Launch) (S : MS) (a1 : Int32) (post : Int32 → MS → Prop) : Prop := mCtI l yX9_peg cX9_peg 2 1 23 (fun ad => [.int a1]) S post
def mT_peg_e (l : Launch) (a1 : Int32) (post : Int32 → MS → Prop) (S0 : MS) : Prop := mX_in l (mf S0 3 0) a1 0 ((S0.1 1) - 1) (fun b2 S1 => (bI b2 = 0 → post (-1) S1) ∧ (¬ bI b2 = 0 → vp_in a1 7 ∧ post (S1.2.1 2 a1.toNatClampNeg) S1))
set_option maxHeartbeats 4000000 in
set_option maxRecDepth 100000 in
theorem m_peg (l : Launch) (S0 : MS) (a1 : Int32) (post : Int32 → MS → Prop) (h : mT_peg_e l a1 post S0) : mX_peg l S0 a1 post := by
  refine msetI rfl (fun _ => Nat.le_of_ble_eq_true rfl) ?_
  intro p e s m args below meth c D ad cI cZ cL A Q hx hb hml hown hts hK hA hret H locs ls hP hD hS hl
  replace hl : lv_has ls 2 [(0, .ref (ad 0)), (1, .int a1)] := hl
  have hT := h
  unfold mT_peg_e at hT
  refine lv_aload_n hx hb dX9_peg_0 rfl (lv_at hl 0 rfl) ?_
  refine lv_iconst (v := 0) hx hb dX9_peg_1 (by decide) ?_
  refine mp_thrown hx hb hts hown hK hP hD hS dX9_peg_2 (fun H locs hP hD hS => ?_)
  refine lv_aload_n hx hb dX9_peg_5 rfl (lv_at hl 0 rfl) ?_
  refine lv_iload_n hx hb dX9_peg_6 rfl (lv_at hl 1 rfl) ?_
  refine lv_iconst (v := 0) hx hb dX9_peg_7 (by decide) ?_
  refine lv_aload_n hx hb dX9_peg_8 rfl (lv_at hl 0 rfl) ?_
  refine mg_discs (v := S0.1 1) hx hb hts hown hK hP rfl dX9_peg_9 ?_
  refine lv_iconst (v := 1) hx hb dX9_peg_12 (by decide) ?_
  refine lv_isub hx hb dX9_peg_13 ?_
  refine mcallZ (n := 3) (rest := []) hT hx hb hml hown hts hK hA hP hD hS hl gg_139 hd_X9_in ⟨Nat.le_of_ble_eq_true rfl, Nat.le_of_ble_eq_true rfl⟩ rfl rfl (Nat.le_of_ble_eq_true rfl) dX9_peg_14 (Nat.zero_le _) (Nat.zero_le _) (fun b2 S1 H locs hP hD hS hT => ?_)
  refine lv_if_eq (tgt := 29) hx hb dX9_peg_17 (by decide) (fun c3 => ?_) (fun c3 => ?_)
  · replace hT := hT.1 c3
    refine lv_iconst (v := (-1)) hx hb dX9_peg_29 (by decide) ?_
    exact hret _ _ _ _ _ _ hP hD hS hT dX9_peg_30
  · replace hT := hT.2 c3
    refine lv_aload_n hx hb dX9_peg_20 rfl (lv_at hl 0 rfl) ?_
    refine mg_stand hx hb hts hown hK hP dX9_peg_21 ?_
    refine lv_iload_n hx hb dX9_peg_24 rfl (lv_at hl 1 rfl) ?_
    obtain ⟨hi4, hT⟩ := hT
    refine va_iald (f := S1.2.1 2) hx hb hK hP 2 0 mat_2 rfl hi4 dX9_peg_25 ?_
    refine lv_goto (tgt := 30) hx hb dX9_peg_26 (by decide) ?_
    exact hret _ _ _ _ _ _ hP hD hS hT dX9_peg_30
abbrev mX_disc (l : Launch) (S : MS) (a1 : Int32) (a2 : Int32) (post : Int32 → MS → Prop) : Prop := mCtI l yX9_disc cX9_disc 5 2 44 (fun ad => [.int a1, .int a2]) S post
def mT_disc_25 (l : Launch) (a1 : Int32) (a2 : Int32) (post : Int32 → MS → Prop) (B25 : MS → Int32 → Int32 → Prop) (B58 : MS → Int32 → Int32 → Prop) (S : MS) (x3 : Int32) (x4 : Int32) : Prop := (x4 < 0 → post (-1) S) ∧ (¬ x4 < 0 → (x3 < 0 → post (-1) S) ∧ (¬ x3 < 0 → vp_in x4 7 ∧ (S.2.1 2 x4.toNatClampNeg = a1 → (¬ x3 = 0 → B58 S (x3 + (-1)) x4) ∧ (x3 = 0 → post x4 S)) ∧ (¬ S.2.1 2 x4.toNatClampNeg = a1 → B58 S x3 x4)))
def mT_disc_58 (l : Launch) (a1 : Int32) (a2 : Int32) (post : Int32 → MS → Prop) (B25 : MS → Int32 → Int32 → Prop) (B58 : MS → Int32 → Int32 → Prop) (S : MS) (x3 : Int32) (x4 : Int32) : Prop := B25 S x3 (x4 + (-1))
def mT_disc_e (l : Launch) (a1 : Int32) (a2 : Int32) (post : Int32 → MS → Prop) (B25 : MS → Int32 → Int32 → Prop) (B58 : MS → Int32 → Int32 → Prop) (S0 : MS) : Prop := mX_isPeg l (mf S0 3 0) a1 (fun b7 S6 => (¬ bI b7 = 0 → ∀ v4_9 : Int32, v4_9 = (S6.1 1) - 1 → B25 S6 a2 v4_9) ∧ (bI b7 = 0 → post (-1) S6))
set_option maxHeartbeats 4000000 in
set_option maxRecDepth 100000 in
theorem m_disc (l : Launch) (S0 : MS) (a1 : Int32) (a2 : Int32) (post : Int32 → MS → Prop) (h : ∀ (B25 : MS → Int32 → Int32 → Prop) (B58 : MS → Int32 → Int32 → Prop), (∀ (S : MS) (x3 : Int32) (x4 : Int32), mT_disc_25 l a1 a2 post B25 B58 S x3 x4 → B25 S x3 x4) → (∀ (S : MS) (x3 : Int32) (x4 : Int32), mT_disc_58 l a1 a2 post B25 B58 S x3 x4 → B58 S x3 x4) → mT_disc_e l a1 a2 post B25 B58 S0) : mX_disc l S0 a1 a2 post := by
  refine msetI rfl (fun _ => Nat.le_of_ble_eq_true rfl) ?_
  intro p e s m args below meth c D ad cI cZ cL A Q hx hb hml hown hts hK hA hret H locs ls hP hD hS hl
  replace hl : lv_has ls 5 [(0, .ref (ad 0)), (1, .int a1), (2, .int a2)] := hl
  obtain ⟨B25, hB25⟩ : ∃ B : MS → Int32 → Int32 → Prop, B = (fun S x3 x4 => ∀ (H : Heap) (locs : List Loc) (ls : Array Slot), va_P D vwCl (mW ad cI cZ cL S) H → va_D A (mW ad cI cZ cL S) → va_S A s.heap H locs → lv_has ls 5 [(0, .ref (ad 0)), (1, .int a1), (3, .int x3), (4, .int x4)] → W p l e (mrm 2 44) s m args below meth c H locs 0 0 Q (F0 m 25 ls [])) := ⟨_, rfl⟩
  obtain ⟨B58, hB58⟩ : ∃ B : MS → Int32 → Int32 → Prop, B = (fun S x3 x4 => ∀ (H : Heap) (locs : List Loc) (ls : Array Slot), va_P D vwCl (mW ad cI cZ cL S) H → va_D A (mW ad cI cZ cL S) → va_S A s.heap H locs → lv_has ls 5 [(0, .ref (ad 0)), (1, .int a1), (3, .int x3), (4, .int x4)] → W p l e (mrm 2 44) s m args below meth c H locs 0 0 Q (F0 m 58 ls [])) := ⟨_, rfl⟩
  have hT : mT_disc_e l a1 a2 post B25 B58 S0 := by
    refine h B25 B58 ?_ ?_
    · clear hP hD hS hl H locs ls
      intro S x3 x4 hT
      unfold mT_disc_25 at hT
      rw [hB25]
      intro H locs ls hP hD hS hl
      refine lv_iload hx hb dX9_disc_25 (lv_at hl 3 rfl) ?_
      refine lv_if_lt (tgt := 64) hx hb dX9_disc_27 (by decide) (fun c1 => ?_) (fun c1 => ?_)
      · replace hT := hT.1 c1
        refine lv_iconst (v := (-1)) hx hb dX9_disc_64 (by decide) ?_
        exact hret _ _ _ _ _ _ hP hD hS hT dX9_disc_65
      · replace hT := hT.2 c1
        refine lv_iload_n hx hb dX9_disc_30 rfl (lv_at hl 2 rfl) ?_
        refine lv_if_lt (tgt := 64) hx hb dX9_disc_31 (by decide) (fun c2 => ?_) (fun c2 => ?_)
        · replace hT := hT.1 c2
          refine lv_iconst (v := (-1)) hx hb dX9_disc_64 (by decide) ?_
          exact hret _ _ _ _ _ _ hP hD hS hT dX9_disc_65
        · replace hT := hT.2 c2
          refine lv_aload_n hx hb dX9_disc_34 rfl (lv_at hl 0 rfl) ?_
          refine mg_stand hx hb hts hown hK hP dX9_disc_35 ?_
          refine lv_iload hx hb dX9_disc_38 (lv_at hl 3 rfl) ?_
          obtain ⟨hi3, hT⟩ := hT
          refine va_iald (f := S.2.1 2) hx hb hK hP 2 0 mat_2 rfl hi3 dX9_disc_40 ?_
          refine lv_iload_n hx hb dX9_disc_41 rfl (lv_at hl 1 rfl) ?_
          refine lv_icmp_eq (tgt := 48) hx hb dX9_disc_42 (by decide) (fun c4 => ?_) (fun c4 => ?_)
          · replace hT := hT.1 c4
            refine lv_iload_n hx hb dX9_disc_48 rfl (lv_at hl 2 rfl) ?_
            refine lv_if_ne (tgt := 55) hx hb dX9_disc_49 (by decide) (fun c5 => ?_) (fun c5 => ?_)
            · replace hT := hT.1 c5
              refine lv_iinc (v := x3 + (-1)) (lv' := [(3, .int (x3 + (-1))), (0, .ref (ad 0)), (1, .int a1), (4, .int x4)]) hx hb dX9_disc_55 hl (k := 2) rfl rfl (by decide) rfl (fun ls hl => ?_)
              rw [hB58] at hT
              exact hT _ _ _ hP hD hS (lv_sub hl [1, 2, 0, 3] rfl)
            · replace hT := hT.2 c5
              refine lv_iload hx hb dX9_disc_52 (lv_at hl 3 rfl) ?_
              exact hret _ _ _ _ _ _ hP hD hS hT dX9_disc_54
          · replace hT := hT.2 c4
            refine lv_goto (tgt := 58) hx hb dX9_disc_45 (by decide) ?_
            rw [hB58] at hT
            exact hT _ _ _ hP hD hS (lv_sub hl [0, 1, 2, 3] rfl)
    · clear hP hD hS hl H locs ls
      intro S x3 x4 hT
      unfold mT_disc_58 at hT
      rw [hB58]
      intro H locs ls hP hD hS hl
      refine lv_iinc (v := x4 + (-1)) (lv' := [(4, .int (x4 + (-1))), (0, .ref (ad 0)), (1, .int a1), (3, .int x3)]) hx hb dX9_disc_58 hl (k := 3) rfl rfl (by decide) rfl (fun ls hl => ?_)
      refine lv_goto (tgt := 25) hx hb dX9_disc_61 (by decide) ?_
      rw [hB25] at hT
      exact hT _ _ _ hP hD hS (lv_sub hl [1, 2, 3, 0] rfl)
  unfold mT_disc_e at hT
  refine lv_aload_n hx hb dX9_disc_0 rfl (lv_at hl 0 rfl) ?_
  refine lv_iconst (v := 0) hx hb dX9_disc_1 (by decide) ?_
  refine mp_thrown hx hb hts hown hK hP hD hS dX9_disc_2 (fun H locs hP hD hS => ?_)
  refine lv_aload_n hx hb dX9_disc_5 rfl (lv_at hl 0 rfl) ?_
  refine lv_iload_n hx hb dX9_disc_6 rfl (lv_at hl 1 rfl) ?_
  refine mcallZ (n := 1) (rest := []) hT hx hb hml hown hts hK hA hP hD hS hl gg_170 hd_X9_isPeg ⟨Nat.le_of_ble_eq_true rfl, Nat.le_of_ble_eq_true rfl⟩ rfl rfl (Nat.le_of_ble_eq_true rfl) dX9_disc_7 (Nat.zero_le _) (Nat.zero_le _) (fun b7 S6 H locs hP hD hS hT => ?_)
  refine lv_if_ne (tgt := 15) hx hb dX9_disc_10 (by decide) (fun c8 => ?_) (fun c8 => ?_)
  · replace hT := hT.1 c8
    refine lv_iload_n hx hb dX9_disc_15 rfl (lv_at hl 2 rfl) ?_
    refine lv_istore_n (lv' := [(3, .int a2), (0, .ref (ad 0)), (1, .int a1), (2, .int a2)]) hx hb dX9_disc_16 rfl hl (by decide) rfl (fun ls hl => ?_)
    refine lv_aload_n hx hb dX9_disc_17 rfl (lv_at hl 1 rfl) ?_
    refine mg_discs (v := S6.1 1) hx hb hts hown hK hP rfl dX9_disc_18 ?_
    refine lv_iconst (v := 1) hx hb dX9_disc_21 (by decide) ?_
    refine lv_isub hx hb dX9_disc_22 ?_
    refine lv_topi (fun v4_9 ev4_9 => ?_)
    replace hT := hT v4_9 ev4_9
    refine lv_istore (lv' := [(4, .int v4_9), (3, .int a2), (0, .ref (ad 0)), (1, .int a1), (2, .int a2)]) hx hb dX9_disc_23 hl (by decide) rfl (fun ls hl => ?_)
    rw [hB25] at hT
    exact hT _ _ _ hP hD hS (lv_sub hl [2, 3, 1, 0] rfl)
  · replace hT := hT.2 c8
    refine lv_iconst (v := (-1)) hx hb dX9_disc_13 (by decide) ?_
    exact hret _ _ _ _ _ _ hP hD hS hT dX9_disc_14
abbrev mX_why (l : Launch) (S : MS) (a1 : Int32) (a2 : Int32) (post : Int32 → MS → Prop) : Prop := mCtI l yX9_why cX9_why 3 2 49 (fun ad => [.int a1, .int a2]) S post
def mT_why_e (l : Launch) (a1 : Int32) (a2 : Int32) (post : Int32 → MS → Prop) (S0 : MS) : Prop := mX_isPeg l (mf S0 3 0) a1 (fun b2 S1 => (bI b2 = 0 → post (-1) S1) ∧ (¬ bI b2 = 0 → mX_isPeg l S1 a2 (fun b5 S4 => (bI b5 = 0 → post (-1) S4) ∧ (¬ bI b5 = 0 → mX_whyOf l S4 2 a1 a2 (fun r8 S7 => post r8 S7)))))
set_option maxHeartbeats 4000000 in
set_option maxRecDepth 100000 in
theorem m_why (l : Launch) (S0 : MS) (a1 : Int32) (a2 : Int32) (post : Int32 → MS → Prop) (h : mT_why_e l a1 a2 post S0) : mX_why l S0 a1 a2 post := by
  refine msetI rfl (fun _ => Nat.le_of_ble_eq_true rfl) ?_
  intro p e s m args below meth c D ad cI cZ cL A Q hx hb hml hown hts hK hA hret H locs ls hP hD hS hl
  replace hl : lv_has ls 3 [(0, .ref (ad 0)), (1, .int a1), (2, .int a2)] := hl
  have hT := h
  unfold mT_why_e at hT
  refine lv_aload_n hx hb dX9_why_0 rfl (lv_at hl 0 rfl) ?_
  refine lv_iconst (v := 0) hx hb dX9_why_1 (by decide) ?_
  refine mp_thrown hx hb hts hown hK hP hD hS dX9_why_2 (fun H locs hP hD hS => ?_)
  refine lv_aload_n hx hb dX9_why_5 rfl (lv_at hl 0 rfl) ?_
  refine lv_iload_n hx hb dX9_why_6 rfl (lv_at hl 1 rfl) ?_
  refine mcallZ (n := 1) (rest := []) hT hx hb hml hown hts hK hA hP hD hS hl gg_170 hd_X9_isPeg ⟨Nat.le_of_ble_eq_true rfl, Nat.le_of_ble_eq_true rfl⟩ rfl rfl (Nat.le_of_ble_eq_true rfl) dX9_why_7 (Nat.zero_le _) (Nat.zero_le _) (fun b2 S1 H locs hP hD hS hT => ?_)
  refine lv_if_eq (tgt := 34) hx hb dX9_why_10 (by decide) (fun c3 => ?_) (fun c3 => ?_)
  · replace hT := hT.1 c3
    refine lv_iconst (v := (-1)) hx hb dX9_why_34 (by decide) ?_
    exact hret _ _ _ _ _ _ hP hD hS hT dX9_why_35
  · replace hT := hT.2 c3
    refine lv_aload_n hx hb dX9_why_13 rfl (lv_at hl 0 rfl) ?_
    refine lv_iload_n hx hb dX9_why_14 rfl (lv_at hl 2 rfl) ?_
    refine mcallZ (n := 1) (rest := []) hT hx hb hml hown hts hK hA hP hD hS hl gg_170 hd_X9_isPeg ⟨Nat.le_of_ble_eq_true rfl, Nat.le_of_ble_eq_true rfl⟩ rfl rfl (Nat.le_of_ble_eq_true rfl) dX9_why_15 (Nat.zero_le _) (Nat.zero_le _) (fun b5 S4 H locs hP hD hS hT => ?_)
    refine lv_if_eq (tgt := 34) hx hb dX9_why_18 (by decide) (fun c6 => ?_) (fun c6 => ?_)
    · replace hT := hT.1 c6
      refine lv_iconst (v := (-1)) hx hb dX9_why_34 (by decide) ?_
      exact hret _ _ _ _ _ _ hP hD hS hT dX9_why_35
    · replace hT := hT.2 c6
      refine lv_aload_n hx hb dX9_why_21 rfl (lv_at hl 0 rfl) ?_
      refine lv_aload_n hx hb dX9_why_22 rfl (lv_at hl 0 rfl) ?_
      refine mg_stand hx hb hts hown hK hP dX9_why_23 ?_
      refine lv_iload_n hx hb dX9_why_26 rfl (lv_at hl 1 rfl) ?_
      refine lv_iload_n hx hb dX9_why_27 rfl (lv_at hl 2 rfl) ?_
      refine mcallI (n := 3) (rest := []) hT hx hb hml hown hts hK hA hP hD hS hl gg_188 hd_X9_whyOf ⟨Nat.le_of_ble_eq_true rfl, Nat.le_of_ble_eq_true rfl⟩ rfl rfl (Nat.le_of_ble_eq_true rfl) dX9_why_28 (Nat.zero_le _) (Nat.zero_le _) (fun r8 S7 H locs hP hD hS hT => ?_)
      refine lv_goto (tgt := 35) hx hb dX9_why_31 (by decide) ?_
      exact hret _ _ _ _ _ _ hP hD hS hT dX9_why_35
