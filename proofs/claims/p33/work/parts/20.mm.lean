section
abbrev mX_in (l : Launch) (S : MS) (a1 : Int32) (a2 : Int32) (a3 : Int32) (post : Bool → MS → Prop) : Prop := mCtZ l yX9_in cX9_in 4 0 0 (fun ad => [.int a1, .int a2, .int a3]) S post
def mT_in_e (l : Launch) (a1 : Int32) (a2 : Int32) (a3 : Int32) (post : Bool → MS → Prop) (S0 : MS) : Prop := (a1 < a2 → post false S0) ∧ (¬ a1 < a2 → (a3 < a1 → post false S0) ∧ (¬ a3 < a1 → post true S0))
set_option maxHeartbeats 4000000 in
set_option maxRecDepth 100000 in
theorem m_in (l : Launch) (S0 : MS) (a1 : Int32) (a2 : Int32) (a3 : Int32) (post : Bool → MS → Prop) (h : mT_in_e l a1 a2 a3 post S0) : mX_in l S0 a1 a2 a3 post := by
  refine msetZ rfl (fun _ => Nat.le_of_ble_eq_true rfl) ?_
  intro p e s m args below meth c D ad cI cZ cL A Q hx hb hml hown hts hK hA hret H locs ls hP hD hS hl
  replace hl : lv_has ls 4 [(0, .ref (ad 0)), (1, .int a1), (2, .int a2), (3, .int a3)] := hl
  have hT := h
  unfold mT_in_e at hT
  refine lv_iload_n hx hb dX9_in_0 rfl (lv_at hl 1 rfl) ?_
  refine lv_iload_n hx hb dX9_in_1 rfl (lv_at hl 2 rfl) ?_
  refine lv_icmp_lt (tgt := 14) hx hb dX9_in_2 (by decide) (fun c1 => ?_) (fun c1 => ?_)
  · replace hT := hT.1 c1
    refine lv_iconst (v := 0) hx hb dX9_in_14 (by decide) ?_
    exact hret false _ _ _ _ _ hP hD hS hT dX9_in_15
  · replace hT := hT.2 c1
    refine lv_iload_n hx hb dX9_in_5 rfl (lv_at hl 1 rfl) ?_
    refine lv_iload_n hx hb dX9_in_6 rfl (lv_at hl 3 rfl) ?_
    refine lv_icmp_gt (tgt := 14) hx hb dX9_in_7 (by decide) (fun c2 => ?_) (fun c2 => ?_)
    · replace hT := hT.1 c2
      refine lv_iconst (v := 0) hx hb dX9_in_14 (by decide) ?_
      exact hret false _ _ _ _ _ hP hD hS hT dX9_in_15
    · replace hT := hT.2 c2
      refine lv_iconst (v := 1) hx hb dX9_in_10 (by decide) ?_
      refine lv_goto (tgt := 15) hx hb dX9_in_11 (by decide) ?_
      exact hret true _ _ _ _ _ hP hD hS hT dX9_in_15
abbrev mX_no (l : Launch) (S : MS) (a1 : Int32) (post : Int32 → MS → Prop) : Prop := mCtI l yX9_no cX9_no 2 0 0 (fun ad => [.int a1]) S post
def mT_no_e (l : Launch) (a1 : Int32) (post : Int32 → MS → Prop) (S0 : MS) : Prop := post (-1) (mf S0 2 a1)
set_option maxHeartbeats 4000000 in
set_option maxRecDepth 100000 in
theorem m_no (l : Launch) (S0 : MS) (a1 : Int32) (post : Int32 → MS → Prop) (h : mT_no_e l a1 post S0) : mX_no l S0 a1 post := by
  refine msetI rfl (fun _ => Nat.le_of_ble_eq_true rfl) ?_
  intro p e s m args below meth c D ad cI cZ cL A Q hx hb hml hown hts hK hA hret H locs ls hP hD hS hl
  replace hl : lv_has ls 2 [(0, .ref (ad 0)), (1, .int a1)] := hl
  have hT := h
  unfold mT_no_e at hT
  refine lv_aload_n hx hb dX9_no_0 rfl (lv_at hl 0 rfl) ?_
  refine lv_iload_n hx hb dX9_no_1 rfl (lv_at hl 1 rfl) ?_
  refine mp_trouble hx hb hts hown hK hP hD hS dX9_no_2 (fun H locs hP hD hS => ?_)
  refine lv_iconst (v := (-1)) hx hb dX9_no_5 (by decide) ?_
  exact hret _ _ _ _ _ _ hP hD hS hT dX9_no_6
abbrev mX_not (l : Launch) (S : MS) (a1 : Int32) (post : Bool → MS → Prop) : Prop := mCtZ l yX9_not cX9_not 2 0 0 (fun ad => [.int a1]) S post
def mT_not_e (l : Launch) (a1 : Int32) (post : Bool → MS → Prop) (S0 : MS) : Prop := post false (mf S0 2 a1)
set_option maxHeartbeats 4000000 in
set_option maxRecDepth 100000 in
theorem m_not (l : Launch) (S0 : MS) (a1 : Int32) (post : Bool → MS → Prop) (h : mT_not_e l a1 post S0) : mX_not l S0 a1 post := by
  refine msetZ rfl (fun _ => Nat.le_of_ble_eq_true rfl) ?_
  intro p e s m args below meth c D ad cI cZ cL A Q hx hb hml hown hts hK hA hret H locs ls hP hD hS hl
  replace hl : lv_has ls 2 [(0, .ref (ad 0)), (1, .int a1)] := hl
  have hT := h
  unfold mT_not_e at hT
  refine lv_aload_n hx hb dX9_not_0 rfl (lv_at hl 0 rfl) ?_
  refine lv_iload_n hx hb dX9_not_1 rfl (lv_at hl 1 rfl) ?_
  refine mp_trouble hx hb hts hown hK hP hD hS dX9_not_2 (fun H locs hP hD hS => ?_)
  refine lv_iconst (v := 0) hx hb dX9_not_5 (by decide) ?_
  exact hret false _ _ _ _ _ hP hD hS hT dX9_not_6
abbrev mX_isPeg (l : Launch) (S : MS) (a1 : Int32) (post : Bool → MS → Prop) : Prop := mCtZ l yX9_isPeg cX9_isPeg 2 1 23 (fun ad => [.int a1]) S post
def mT_isPeg_e (l : Launch) (a1 : Int32) (post : Bool → MS → Prop) (S0 : MS) : Prop := mX_in l S0 a1 0 ((S0.1 0) - 1) (fun b2 S1 => post b2 S1)
set_option maxHeartbeats 4000000 in
set_option maxRecDepth 100000 in
theorem m_isPeg (l : Launch) (S0 : MS) (a1 : Int32) (post : Bool → MS → Prop) (h : mT_isPeg_e l a1 post S0) : mX_isPeg l S0 a1 post := by
  refine msetZ rfl (fun _ => Nat.le_of_ble_eq_true rfl) ?_
  intro p e s m args below meth c D ad cI cZ cL A Q hx hb hml hown hts hK hA hret H locs ls hP hD hS hl
  replace hl : lv_has ls 2 [(0, .ref (ad 0)), (1, .int a1)] := hl
  have hT := h
  unfold mT_isPeg_e at hT
  refine lv_aload_n hx hb dX9_isPeg_0 rfl (lv_at hl 0 rfl) ?_
  refine lv_iload_n hx hb dX9_isPeg_1 rfl (lv_at hl 1 rfl) ?_
  refine lv_iconst (v := 0) hx hb dX9_isPeg_2 (by decide) ?_
  refine lv_aload_n hx hb dX9_isPeg_3 rfl (lv_at hl 0 rfl) ?_
  refine mg_pegs (v := S0.1 0) hx hb hts hown hK hP rfl dX9_isPeg_4 ?_
  refine lv_iconst (v := 1) hx hb dX9_isPeg_7 (by decide) ?_
  refine lv_isub hx hb dX9_isPeg_8 ?_
  refine mcallZ (n := 3) (rest := []) hT hx hb hml hown hts hK hA hP hD hS hl gg_139 hd_X9_in ⟨Nat.le_of_ble_eq_true rfl, Nat.le_of_ble_eq_true rfl⟩ rfl rfl (Nat.le_of_ble_eq_true rfl) dX9_isPeg_9 (Nat.zero_le _) (Nat.zero_le _) (fun b2 S1 H locs hP hD hS hT => ?_)
  exact hret b2 _ _ _ _ _ hP hD hS hT dX9_isPeg_12
abbrev mX_nothingUndone (l : Launch) (S : MS) (post : MS → Prop) : Prop := mCtV l yX9_nothingUndone cX9_nothingUndone 1 0 0 (fun ad => []) S post
def mT_nothingUndone_e (l : Launch) (post : MS → Prop) (S0 : MS) : Prop := post (mf (mf (mf S0 4 0) 5 0) 2 0)
set_option maxHeartbeats 4000000 in
set_option maxRecDepth 100000 in
theorem m_nothingUndone (l : Launch) (S0 : MS) (post : MS → Prop) (h : mT_nothingUndone_e l post S0) : mX_nothingUndone l S0 post := by
  refine msetV rfl (fun _ => Nat.le_of_ble_eq_true rfl) ?_
  intro p e s m args below meth c D ad cI cZ cL A Q hx hb hml hown hts hK hA hret H locs ls hP hD hS hl
  replace hl : lv_has ls 1 [(0, .ref (ad 0))] := hl
  have hT := h
  unfold mT_nothingUndone_e at hT
  refine lv_aload_n hx hb dX9_nothingUndone_0 rfl (lv_at hl 0 rfl) ?_
  refine lv_iconst (v := 0) hx hb dX9_nothingUndone_1 (by decide) ?_
  refine mp_undos hx hb hts hown hK hP hD hS dX9_nothingUndone_2 (fun H locs hP hD hS => ?_)
  refine lv_aload_n hx hb dX9_nothingUndone_5 rfl (lv_at hl 0 rfl) ?_
  refine lv_iconst (v := 0) hx hb dX9_nothingUndone_6 (by decide) ?_
  refine mp_redos hx hb hts hown hK hP hD hS dX9_nothingUndone_7 (fun H locs hP hD hS => ?_)
  refine lv_aload_n hx hb dX9_nothingUndone_10 rfl (lv_at hl 0 rfl) ?_
  refine lv_iconst (v := 0) hx hb dX9_nothingUndone_11 (by decide) ?_
  refine mp_trouble hx hb hts hown hK hP hD hS dX9_nothingUndone_12 (fun H locs hP hD hS => ?_)
  exact hret _ _ _ _ _ hP hD hS hT dX9_nothingUndone_15
abbrev mX_unpack (l : Launch) (S : MS) (a1 : Int32) (k2 : Nat) (post : MS → Prop) : Prop := mCtV l yX9_unpack cX9_unpack 5 0 0 (fun ad => [.int a1, .ref (ad k2)]) S post
def mT_unpack_5 (l : Launch) (a1 : Int32) (k2 : Nat) (post : MS → Prop) (B5 : MS → Int32 → Int32 → Prop) (S : MS) (x3 : Int32) (x4 : Int32) : Prop := (S.1 1 ≤ x4 → post S) ∧ (¬ S.1 1 ≤ x4 → ¬ S.1 0 = 0 ∧ vp_in x4 7 ∧ ¬ S.1 0 = 0 ∧ ∀ v3_5 : Int32, v3_5 = x3 / (S.1 0) → B5 (ma S k2 (upd (S.2.1 k2) x4.toNatClampNeg (x3 - x3 / (S.1 0) * (S.1 0)))) v3_5 (x4 + 1))
def mT_unpack_e (l : Launch) (a1 : Int32) (k2 : Nat) (post : MS → Prop) (B5 : MS → Int32 → Int32 → Prop) (S0 : MS) : Prop := B5 S0 a1 0
set_option maxHeartbeats 4000000 in
set_option maxRecDepth 100000 in
theorem m_unpack (l : Launch) (S0 : MS) (a1 : Int32) (k2 : Nat) (hk2 : m7 k2) (post : MS → Prop) (h : ∀ (B5 : MS → Int32 → Int32 → Prop), (∀ (S : MS) (x3 : Int32) (x4 : Int32), mT_unpack_5 l a1 k2 post B5 S x3 x4 → B5 S x3 x4) → mT_unpack_e l a1 k2 post B5 S0) : mX_unpack l S0 a1 k2 post := by
  refine msetV rfl (fun _ => Nat.le_of_ble_eq_true rfl) ?_
  intro p e s m args below meth c D ad cI cZ cL A Q hx hb hml hown hts hK hA hret H locs ls hP hD hS hl
  replace hl : lv_has ls 5 [(0, .ref (ad 0)), (1, .int a1), (2, .ref (ad k2))] := hl
  obtain ⟨B5, hB5⟩ : ∃ B : MS → Int32 → Int32 → Prop, B = (fun S x3 x4 => ∀ (H : Heap) (locs : List Loc) (ls : Array Slot), va_P D vwCl (mW ad cI cZ cL S) H → va_D A (mW ad cI cZ cL S) → va_S A s.heap H locs → lv_has ls 5 [(0, .ref (ad 0)), (2, .ref (ad k2)), (3, .int x3), (4, .int x4)] → W p l e (mrm 0 0) s m args below meth c H locs 0 0 Q (F0 m 5 ls [])) := ⟨_, rfl⟩
  have hT : mT_unpack_e l a1 k2 post B5 S0 := by
    refine h B5 ?_
    · clear hP hD hS hl H locs ls
      intro S x3 x4 hT
      unfold mT_unpack_5 at hT
      rw [hB5]
      intro H locs ls hP hD hS hl
      refine lv_iload hx hb dX9_unpack_5 (lv_at hl 3 rfl) ?_
      refine lv_aload_n hx hb dX9_unpack_7 rfl (lv_at hl 0 rfl) ?_
      refine mg_discs (v := S.1 1) hx hb hts hown hK hP rfl dX9_unpack_8 ?_
      refine lv_icmp_ge (tgt := 37) hx hb dX9_unpack_11 (by decide) (fun c1 => ?_) (fun c1 => ?_)
      · replace hT := hT.1 c1
        exact hret _ _ _ _ _ hP hD hS hT dX9_unpack_37
      · replace hT := hT.2 c1
        refine lv_aload_n hx hb dX9_unpack_14 rfl (lv_at hl 1 rfl) ?_
        refine lv_iload hx hb dX9_unpack_15 (lv_at hl 3 rfl) ?_
        refine lv_iload_n hx hb dX9_unpack_17 rfl (lv_at hl 2 rfl) ?_
        refine lv_aload_n hx hb dX9_unpack_18 rfl (lv_at hl 0 rfl) ?_
        refine mg_pegs (v := S.1 0) hx hb hts hown hK hP rfl dX9_unpack_19 ?_
        obtain ⟨hz2, hT⟩ := hT
        refine lv_irem hx hb dX9_unpack_22 hz2 ?_
        obtain ⟨hi3, hT⟩ := hT
        refine va_iast (f := S.2.1 k2) hx hb hK hP hD hS k2 0 (mat_sym hk2) rfl hi3 dX9_unpack_23 (fun H locs hP hD hS => ?_)
        replace hP := msetP_sym hk2 hP
        replace hD := msetD_sym hk2 hD
        refine lv_iload_n hx hb dX9_unpack_24 rfl (lv_at hl 2 rfl) ?_
        refine lv_aload_n hx hb dX9_unpack_25 rfl (lv_at hl 0 rfl) ?_
        refine mg_pegs (v := S.1 0) hx hb hts hown hK hP rfl dX9_unpack_26 ?_
        obtain ⟨hz4, hT⟩ := hT
        refine lv_idiv hx hb dX9_unpack_29 hz4 ?_
        refine lv_topi (fun v3_5 ev3_5 => ?_)
        replace hT := hT v3_5 ev3_5
        refine lv_istore_n (lv' := [(3, .int v3_5), (0, .ref (ad 0)), (2, .ref (ad k2)), (4, .int x4)]) hx hb dX9_unpack_30 rfl hl (by decide) rfl (fun ls hl => ?_)
        refine lv_iinc (v := x4 + 1) (lv' := [(4, .int (x4 + 1)), (3, .int v3_5), (0, .ref (ad 0)), (2, .ref (ad k2))]) hx hb dX9_unpack_31 hl (k := 3) rfl rfl (by decide) rfl (fun ls hl => ?_)
        refine lv_goto (tgt := 5) hx hb dX9_unpack_34 (by decide) ?_
        rw [hB5] at hT
        exact hT _ _ _ hP hD hS (lv_sub hl [2, 3, 1, 0] rfl)
  unfold mT_unpack_e at hT
  refine lv_iload_n hx hb dX9_unpack_0 rfl (lv_at hl 1 rfl) ?_
  refine lv_istore_n (lv' := [(3, .int a1), (0, .ref (ad 0)), (1, .int a1), (2, .ref (ad k2))]) hx hb dX9_unpack_1 rfl hl (by decide) rfl (fun ls hl => ?_)
  refine lv_iconst (v := 0) hx hb dX9_unpack_2 (by decide) ?_
  refine lv_istore (lv' := [(4, .int 0), (3, .int a1), (0, .ref (ad 0)), (1, .int a1), (2, .ref (ad k2))]) hx hb dX9_unpack_3 hl (by decide) rfl (fun ls hl => ?_)
  rw [hB5] at hT
  exact hT _ _ _ hP hD hS (lv_sub hl [2, 4, 1, 0] rfl)
abbrev mX_pack (l : Launch) (S : MS) (k1 : Nat) (post : Int32 → MS → Prop) : Prop := mCtI l yX9_pack cX9_pack 4 0 0 (fun ad => [.ref (ad k1)]) S post
def mT_pack_9 (l : Launch) (k1 : Nat) (post : Int32 → MS → Prop) (B9 : MS → Int32 → Int32 → Prop) (S : MS) (x2 : Int32) (x3 : Int32) : Prop := (x3 < 0 → post x2 S) ∧ (¬ x3 < 0 → vp_in x3 7 ∧ ∀ v2_3 : Int32, v2_3 = (x2 * (S.1 0)) + (S.2.1 k1 x3.toNatClampNeg) → B9 S v2_3 (x3 + (-1)))
def mT_pack_e (l : Launch) (k1 : Nat) (post : Int32 → MS → Prop) (B9 : MS → Int32 → Int32 → Prop) (S0 : MS) : Prop := ∀ v3_4 : Int32, v3_4 = (S0.1 1) - 1 → B9 S0 0 v3_4
set_option maxHeartbeats 4000000 in
set_option maxRecDepth 100000 in
theorem m_pack (l : Launch) (S0 : MS) (k1 : Nat) (hk1 : m7 k1) (post : Int32 → MS → Prop) (h : ∀ (B9 : MS → Int32 → Int32 → Prop), (∀ (S : MS) (x2 : Int32) (x3 : Int32), mT_pack_9 l k1 post B9 S x2 x3 → B9 S x2 x3) → mT_pack_e l k1 post B9 S0) : mX_pack l S0 k1 post := by
  refine msetI rfl (fun _ => Nat.le_of_ble_eq_true rfl) ?_
  intro p e s m args below meth c D ad cI cZ cL A Q hx hb hml hown hts hK hA hret H locs ls hP hD hS hl
  replace hl : lv_has ls 4 [(0, .ref (ad 0)), (1, .ref (ad k1))] := hl
  obtain ⟨B9, hB9⟩ : ∃ B : MS → Int32 → Int32 → Prop, B = (fun S x2 x3 => ∀ (H : Heap) (locs : List Loc) (ls : Array Slot), va_P D vwCl (mW ad cI cZ cL S) H → va_D A (mW ad cI cZ cL S) → va_S A s.heap H locs → lv_has ls 4 [(0, .ref (ad 0)), (1, .ref (ad k1)), (2, .int x2), (3, .int x3)] → W p l e (mrm 0 0) s m args below meth c H locs 0 0 Q (F0 m 9 ls [])) := ⟨_, rfl⟩
  have hT : mT_pack_e l k1 post B9 S0 := by
    refine h B9 ?_
    · clear hP hD hS hl H locs ls
      intro S x2 x3 hT
      unfold mT_pack_9 at hT
      rw [hB9]
      intro H locs ls hP hD hS hl
      refine lv_iload_n hx hb dX9_pack_9 rfl (lv_at hl 3 rfl) ?_
      refine lv_if_lt (tgt := 30) hx hb dX9_pack_10 (by decide) (fun c1 => ?_) (fun c1 => ?_)
      · replace hT := hT.1 c1
        refine lv_iload_n hx hb dX9_pack_30 rfl (lv_at hl 2 rfl) ?_
        exact hret _ _ _ _ _ _ hP hD hS hT dX9_pack_31
      · replace hT := hT.2 c1
        refine lv_iload_n hx hb dX9_pack_13 rfl (lv_at hl 2 rfl) ?_
        refine lv_aload_n hx hb dX9_pack_14 rfl (lv_at hl 0 rfl) ?_
        refine mg_pegs (v := S.1 0) hx hb hts hown hK hP rfl dX9_pack_15 ?_
        refine lv_imul hx hb dX9_pack_18 ?_
        refine lv_aload_n hx hb dX9_pack_19 rfl (lv_at hl 1 rfl) ?_
        refine lv_iload_n hx hb dX9_pack_20 rfl (lv_at hl 3 rfl) ?_
        obtain ⟨hi2, hT⟩ := hT
        refine va_iald (f := S.2.1 k1) hx hb hK hP k1 0 (mat_sym hk1) rfl hi2 dX9_pack_21 ?_
        refine lv_iadd hx hb dX9_pack_22 ?_
        refine lv_topi (fun v2_3 ev2_3 => ?_)
        replace hT := hT v2_3 ev2_3
        refine lv_istore_n (lv' := [(2, .int v2_3), (0, .ref (ad 0)), (1, .ref (ad k1)), (3, .int x3)]) hx hb dX9_pack_23 rfl hl (by decide) rfl (fun ls hl => ?_)
        refine lv_iinc (v := x3 + (-1)) (lv' := [(3, .int (x3 + (-1))), (2, .int v2_3), (0, .ref (ad 0)), (1, .ref (ad k1))]) hx hb dX9_pack_24 hl (k := 3) rfl rfl (by decide) rfl (fun ls hl => ?_)
        refine lv_goto (tgt := 9) hx hb dX9_pack_27 (by decide) ?_
        rw [hB9] at hT
        exact hT _ _ _ hP hD hS (lv_sub hl [2, 3, 1, 0] rfl)
  unfold mT_pack_e at hT
  refine lv_iconst (v := 0) hx hb dX9_pack_0 (by decide) ?_
  refine lv_istore_n (lv' := [(2, .int 0), (0, .ref (ad 0)), (1, .ref (ad k1))]) hx hb dX9_pack_1 rfl hl (by decide) rfl (fun ls hl => ?_)
  refine lv_aload_n hx hb dX9_pack_2 rfl (lv_at hl 1 rfl) ?_
  refine mg_discs (v := S0.1 1) hx hb hts hown hK hP rfl dX9_pack_3 ?_
  refine lv_iconst (v := 1) hx hb dX9_pack_6 (by decide) ?_
  refine lv_isub hx hb dX9_pack_7 ?_
  refine lv_topi (fun v3_4 ev3_4 => ?_)
  replace hT := hT v3_4 ev3_4
  refine lv_istore_n (lv' := [(3, .int v3_4), (2, .int 0), (0, .ref (ad 0)), (1, .ref (ad k1))]) hx hb dX9_pack_8 rfl hl (by decide) rfl (fun ls hl => ?_)
  rw [hB9] at hT
  exact hT _ _ _ hP hD hS (lv_sub hl [2, 3, 1, 0] rfl)
abbrev mX_stands (l : Launch) (S : MS) (post : Int32 → MS → Prop) : Prop := mCtI l yX9_stands cX9_stands 3 0 0 (fun ad => []) S post
def mT_stands_4 (l : Launch) (post : Int32 → MS → Prop) (B4 : MS → Int32 → Int32 → Prop) (S : MS) (x1 : Int32) (x2 : Int32) : Prop := (S.1 1 ≤ x2 → post x1 S) ∧ (¬ S.1 1 ≤ x2 → ∀ v1_2 : Int32, v1_2 = x1 * (S.1 0) → B4 S v1_2 (x2 + 1))
def mT_stands_e (l : Launch) (post : Int32 → MS → Prop) (B4 : MS → Int32 → Int32 → Prop) (S0 : MS) : Prop := B4 S0 1 0
set_option maxHeartbeats 4000000 in
set_option maxRecDepth 100000 in
theorem m_stands (l : Launch) (S0 : MS) (post : Int32 → MS → Prop) (h : ∀ (B4 : MS → Int32 → Int32 → Prop), (∀ (S : MS) (x1 : Int32) (x2 : Int32), mT_stands_4 l post B4 S x1 x2 → B4 S x1 x2) → mT_stands_e l post B4 S0) : mX_stands l S0 post := by
  refine msetI rfl (fun _ => Nat.le_of_ble_eq_true rfl) ?_
  intro p e s m args below meth c D ad cI cZ cL A Q hx hb hml hown hts hK hA hret H locs ls hP hD hS hl
  replace hl : lv_has ls 3 [(0, .ref (ad 0))] := hl
  obtain ⟨B4, hB4⟩ : ∃ B : MS → Int32 → Int32 → Prop, B = (fun S x1 x2 => ∀ (H : Heap) (locs : List Loc) (ls : Array Slot), va_P D vwCl (mW ad cI cZ cL S) H → va_D A (mW ad cI cZ cL S) → va_S A s.heap H locs → lv_has ls 3 [(0, .ref (ad 0)), (1, .int x1), (2, .int x2)] → W p l e (mrm 0 0) s m args below meth c H locs 0 0 Q (F0 m 4 ls [])) := ⟨_, rfl⟩
  have hT : mT_stands_e l post B4 S0 := by
    refine h B4 ?_
    · clear hP hD hS hl H locs ls
      intro S x1 x2 hT
      unfold mT_stands_4 at hT
      rw [hB4]
      intro H locs ls hP hD hS hl
      refine lv_iload_n hx hb dX9_stands_4 rfl (lv_at hl 2 rfl) ?_
      refine lv_aload_n hx hb dX9_stands_5 rfl (lv_at hl 0 rfl) ?_
      refine mg_discs (v := S.1 1) hx hb hts hown hK hP rfl dX9_stands_6 ?_
      refine lv_icmp_ge (tgt := 25) hx hb dX9_stands_9 (by decide) (fun c1 => ?_) (fun c1 => ?_)
      · replace hT := hT.1 c1
        refine lv_iload_n hx hb dX9_stands_25 rfl (lv_at hl 1 rfl) ?_
        exact hret _ _ _ _ _ _ hP hD hS hT dX9_stands_26
      · replace hT := hT.2 c1
        refine lv_iload_n hx hb dX9_stands_12 rfl (lv_at hl 1 rfl) ?_
        refine lv_aload_n hx hb dX9_stands_13 rfl (lv_at hl 0 rfl) ?_
        refine mg_pegs (v := S.1 0) hx hb hts hown hK hP rfl dX9_stands_14 ?_
        refine lv_imul hx hb dX9_stands_17 ?_
        refine lv_topi (fun v1_2 ev1_2 => ?_)
        replace hT := hT v1_2 ev1_2
        refine lv_istore_n (lv' := [(1, .int v1_2), (0, .ref (ad 0)), (2, .int x2)]) hx hb dX9_stands_18 rfl hl (by decide) rfl (fun ls hl => ?_)
        refine lv_iinc (v := x2 + 1) (lv' := [(2, .int (x2 + 1)), (1, .int v1_2), (0, .ref (ad 0))]) hx hb dX9_stands_19 hl (k := 2) rfl rfl (by decide) rfl (fun ls hl => ?_)
        refine lv_goto (tgt := 4) hx hb dX9_stands_22 (by decide) ?_
        rw [hB4] at hT
        exact hT _ _ _ hP hD hS (lv_sub hl [2, 1, 0] rfl)
  unfold mT_stands_e at hT
  refine lv_iconst (v := 1) hx hb dX9_stands_0 (by decide) ?_
  refine lv_istore_n (lv' := [(1, .int 1), (0, .ref (ad 0))]) hx hb dX9_stands_1 rfl hl (by decide) rfl (fun ls hl => ?_)
  refine lv_iconst (v := 0) hx hb dX9_stands_2 (by decide) ?_
  refine lv_istore_n (lv' := [(2, .int 0), (1, .int 1), (0, .ref (ad 0))]) hx hb dX9_stands_3 rfl hl (by decide) rfl (fun ls hl => ?_)
  rw [hB4] at hT
  exact hT _ _ _ hP hD hS (lv_sub hl [2, 1, 0] rfl)
abbrev mX_below (l : Launch) (S : MS) (k1 : Nat) (a2 : Int32) (post : Int32 → MS → Prop) : Prop := mCtI l yX9_below cX9_below 4 0 0 (fun ad => [.ref (ad k1), .int a2]) S post
def mT_below_4 (l : Launch) (k1 : Nat) (a2 : Int32) (post : Int32 → MS → Prop) (B4 : MS → Int32 → Prop) (B27 : MS → Int32 → Prop) (S : MS) (x3 : Int32) : Prop := (S.1 1 ≤ x3 → B27 S x3) ∧ (¬ S.1 1 ≤ x3 → vp_in x3 7 ∧ vp_in a2 7 ∧ (S.2.1 k1 x3.toNatClampNeg = S.2.1 k1 a2.toNatClampNeg → B27 S x3) ∧ (¬ S.2.1 k1 x3.toNatClampNeg = S.2.1 k1 a2.toNatClampNeg → B4 S (x3 + 1)))
def mT_below_27 (l : Launch) (k1 : Nat) (a2 : Int32) (post : Int32 → MS → Prop) (B4 : MS → Int32 → Prop) (B27 : MS → Int32 → Prop) (S : MS) (x3 : Int32) : Prop := (S.1 1 ≤ x3 → post (-1) S) ∧ (¬ S.1 1 ≤ x3 → post x3 S)
def mT_below_e (l : Launch) (k1 : Nat) (a2 : Int32) (post : Int32 → MS → Prop) (B4 : MS → Int32 → Prop) (B27 : MS → Int32 → Prop) (S0 : MS) : Prop := ∀ v3_6 : Int32, v3_6 = a2 + 1 → B4 S0 v3_6
set_option maxHeartbeats 4000000 in
set_option maxRecDepth 100000 in
theorem m_below (l : Launch) (S0 : MS) (k1 : Nat) (a2 : Int32) (hk1 : m7 k1) (post : Int32 → MS → Prop) (h : ∀ (B4 : MS → Int32 → Prop) (B27 : MS → Int32 → Prop), (∀ (S : MS) (x3 : Int32), mT_below_4 l k1 a2 post B4 B27 S x3 → B4 S x3) → (∀ (S : MS) (x3 : Int32), mT_below_27 l k1 a2 post B4 B27 S x3 → B27 S x3) → mT_below_e l k1 a2 post B4 B27 S0) : mX_below l S0 k1 a2 post := by
  refine msetI rfl (fun _ => Nat.le_of_ble_eq_true rfl) ?_
  intro p e s m args below meth c D ad cI cZ cL A Q hx hb hml hown hts hK hA hret H locs ls hP hD hS hl
  replace hl : lv_has ls 4 [(0, .ref (ad 0)), (1, .ref (ad k1)), (2, .int a2)] := hl
  obtain ⟨B4, hB4⟩ : ∃ B : MS → Int32 → Prop, B = (fun S x3 => ∀ (H : Heap) (locs : List Loc) (ls : Array Slot), va_P D vwCl (mW ad cI cZ cL S) H → va_D A (mW ad cI cZ cL S) → va_S A s.heap H locs → lv_has ls 4 [(0, .ref (ad 0)), (1, .ref (ad k1)), (2, .int a2), (3, .int x3)] → W p l e (mrm 0 0) s m args below meth c H locs 0 0 Q (F0 m 4 ls [])) := ⟨_, rfl⟩
  obtain ⟨B27, hB27⟩ : ∃ B : MS → Int32 → Prop, B = (fun S x3 => ∀ (H : Heap) (locs : List Loc) (ls : Array Slot), va_P D vwCl (mW ad cI cZ cL S) H → va_D A (mW ad cI cZ cL S) → va_S A s.heap H locs → lv_has ls 4 [(0, .ref (ad 0)), (3, .int x3)] → W p l e (mrm 0 0) s m args below meth c H locs 0 0 Q (F0 m 27 ls [])) := ⟨_, rfl⟩
  have hT : mT_below_e l k1 a2 post B4 B27 S0 := by
    refine h B4 B27 ?_ ?_
    · clear hP hD hS hl H locs ls
      intro S x3 hT
      unfold mT_below_4 at hT
      rw [hB4]
      intro H locs ls hP hD hS hl
      refine lv_iload_n hx hb dX9_below_4 rfl (lv_at hl 3 rfl) ?_
      refine lv_aload_n hx hb dX9_below_5 rfl (lv_at hl 0 rfl) ?_
      refine mg_discs (v := S.1 1) hx hb hts hown hK hP rfl dX9_below_6 ?_
      refine lv_icmp_ge (tgt := 27) hx hb dX9_below_9 (by decide) (fun c1 => ?_) (fun c1 => ?_)
      · replace hT := hT.1 c1
        rw [hB27] at hT
        exact hT _ _ _ hP hD hS (lv_sub hl [0, 3] rfl)
      · replace hT := hT.2 c1
        refine lv_aload_n hx hb dX9_below_12 rfl (lv_at hl 1 rfl) ?_
        refine lv_iload_n hx hb dX9_below_13 rfl (lv_at hl 3 rfl) ?_
        obtain ⟨hi2, hT⟩ := hT
        refine va_iald (f := S.2.1 k1) hx hb hK hP k1 0 (mat_sym hk1) rfl hi2 dX9_below_14 ?_
        refine lv_aload_n hx hb dX9_below_15 rfl (lv_at hl 1 rfl) ?_
        refine lv_iload_n hx hb dX9_below_16 rfl (lv_at hl 2 rfl) ?_
        obtain ⟨hi3, hT⟩ := hT
        refine va_iald (f := S.2.1 k1) hx hb hK hP k1 0 (mat_sym hk1) rfl hi3 dX9_below_17 ?_
        refine lv_icmp_eq (tgt := 27) hx hb dX9_below_18 (by decide) (fun c4 => ?_) (fun c4 => ?_)
        · replace hT := hT.1 c4
          rw [hB27] at hT
          exact hT _ _ _ hP hD hS (lv_sub hl [0, 3] rfl)
        · replace hT := hT.2 c4
          refine lv_iinc (v := x3 + 1) (lv' := [(3, .int (x3 + 1)), (0, .ref (ad 0)), (1, .ref (ad k1)), (2, .int a2)]) hx hb dX9_below_21 hl (k := 3) rfl rfl (by decide) rfl (fun ls hl => ?_)
          refine lv_goto (tgt := 4) hx hb dX9_below_24 (by decide) ?_
          rw [hB4] at hT
          exact hT _ _ _ hP hD hS (lv_sub hl [1, 2, 3, 0] rfl)
    · clear hP hD hS hl H locs ls
      intro S x3 hT
      unfold mT_below_27 at hT
      rw [hB27]
      intro H locs ls hP hD hS hl
      refine lv_iload_n hx hb dX9_below_27 rfl (lv_at hl 1 rfl) ?_
      refine lv_aload_n hx hb dX9_below_28 rfl (lv_at hl 0 rfl) ?_
      refine mg_discs (v := S.1 1) hx hb hts hown hK hP rfl dX9_below_29 ?_
      refine lv_icmp_ge (tgt := 39) hx hb dX9_below_32 (by decide) (fun c5 => ?_) (fun c5 => ?_)
      · replace hT := hT.1 c5
        refine lv_iconst (v := (-1)) hx hb dX9_below_39 (by decide) ?_
        exact hret _ _ _ _ _ _ hP hD hS hT dX9_below_40
      · replace hT := hT.2 c5
        refine lv_iload_n hx hb dX9_below_35 rfl (lv_at hl 1 rfl) ?_
        refine lv_goto (tgt := 40) hx hb dX9_below_36 (by decide) ?_
        exact hret _ _ _ _ _ _ hP hD hS hT dX9_below_40
  unfold mT_below_e at hT
  refine lv_iload_n hx hb dX9_below_0 rfl (lv_at hl 2 rfl) ?_
  refine lv_iconst (v := 1) hx hb dX9_below_1 (by decide) ?_
  refine lv_iadd hx hb dX9_below_2 ?_
  refine lv_topi (fun v3_6 ev3_6 => ?_)
  replace hT := hT v3_6 ev3_6
  refine lv_istore_n (lv' := [(3, .int v3_6), (0, .ref (ad 0)), (1, .ref (ad k1)), (2, .int a2)]) hx hb dX9_below_3 rfl hl (by decide) rfl (fun ls hl => ?_)
  rw [hB4] at hT
  exact hT _ _ _ hP hD hS (lv_sub hl [1, 2, 3, 0] rfl)
abbrev mX_top (l : Launch) (S : MS) (k1 : Nat) (a2 : Int32) (post : Int32 → MS → Prop) : Prop := mCtI l yX9_top cX9_top 4 0 0 (fun ad => [.ref (ad k1), .int a2]) S post
def mT_top_2 (l : Launch) (k1 : Nat) (a2 : Int32) (post : Int32 → MS → Prop) (B2 : MS → Int32 → Prop) (B23 : MS → Int32 → Prop) (S : MS) (x3 : Int32) : Prop := (S.1 1 ≤ x3 → B23 S x3) ∧ (¬ S.1 1 ≤ x3 → vp_in x3 7 ∧ (S.2.1 k1 x3.toNatClampNeg = a2 → B23 S x3) ∧ (¬ S.2.1 k1 x3.toNatClampNeg = a2 → B2 S (x3 + 1)))
def mT_top_23 (l : Launch) (k1 : Nat) (a2 : Int32) (post : Int32 → MS → Prop) (B2 : MS → Int32 → Prop) (B23 : MS → Int32 → Prop) (S : MS) (x3 : Int32) : Prop := (S.1 1 ≤ x3 → post (-1) S) ∧ (¬ S.1 1 ≤ x3 → post x3 S)
def mT_top_e (l : Launch) (k1 : Nat) (a2 : Int32) (post : Int32 → MS → Prop) (B2 : MS → Int32 → Prop) (B23 : MS → Int32 → Prop) (S0 : MS) : Prop := B2 S0 0
set_option maxHeartbeats 4000000 in
set_option maxRecDepth 100000 in
theorem m_top (l : Launch) (S0 : MS) (k1 : Nat) (a2 : Int32) (hk1 : m7 k1) (post : Int32 → MS → Prop) (h : ∀ (B2 : MS → Int32 → Prop) (B23 : MS → Int32 → Prop), (∀ (S : MS) (x3 : Int32), mT_top_2 l k1 a2 post B2 B23 S x3 → B2 S x3) → (∀ (S : MS) (x3 : Int32), mT_top_23 l k1 a2 post B2 B23 S x3 → B23 S x3) → mT_top_e l k1 a2 post B2 B23 S0) : mX_top l S0 k1 a2 post := by
  refine msetI rfl (fun _ => Nat.le_of_ble_eq_true rfl) ?_
  intro p e s m args below meth c D ad cI cZ cL A Q hx hb hml hown hts hK hA hret H locs ls hP hD hS hl
  replace hl : lv_has ls 4 [(0, .ref (ad 0)), (1, .ref (ad k1)), (2, .int a2)] := hl
  obtain ⟨B2, hB2⟩ : ∃ B : MS → Int32 → Prop, B = (fun S x3 => ∀ (H : Heap) (locs : List Loc) (ls : Array Slot), va_P D vwCl (mW ad cI cZ cL S) H → va_D A (mW ad cI cZ cL S) → va_S A s.heap H locs → lv_has ls 4 [(0, .ref (ad 0)), (1, .ref (ad k1)), (2, .int a2), (3, .int x3)] → W p l e (mrm 0 0) s m args below meth c H locs 0 0 Q (F0 m 2 ls [])) := ⟨_, rfl⟩
  obtain ⟨B23, hB23⟩ : ∃ B : MS → Int32 → Prop, B = (fun S x3 => ∀ (H : Heap) (locs : List Loc) (ls : Array Slot), va_P D vwCl (mW ad cI cZ cL S) H → va_D A (mW ad cI cZ cL S) → va_S A s.heap H locs → lv_has ls 4 [(0, .ref (ad 0)), (3, .int x3)] → W p l e (mrm 0 0) s m args below meth c H locs 0 0 Q (F0 m 23 ls [])) := ⟨_, rfl⟩
  have hT : mT_top_e l k1 a2 post B2 B23 S0 := by
    refine h B2 B23 ?_ ?_
    · clear hP hD hS hl H locs ls
      intro S x3 hT
      unfold mT_top_2 at hT
      rw [hB2]
      intro H locs ls hP hD hS hl
      refine lv_iload_n hx hb dX9_top_2 rfl (lv_at hl 3 rfl) ?_
      refine lv_aload_n hx hb dX9_top_3 rfl (lv_at hl 0 rfl) ?_
      refine mg_discs (v := S.1 1) hx hb hts hown hK hP rfl dX9_top_4 ?_
      refine lv_icmp_ge (tgt := 23) hx hb dX9_top_7 (by decide) (fun c1 => ?_) (fun c1 => ?_)
      · replace hT := hT.1 c1
        rw [hB23] at hT
        exact hT _ _ _ hP hD hS (lv_sub hl [0, 3] rfl)
      · replace hT := hT.2 c1
        refine lv_aload_n hx hb dX9_top_10 rfl (lv_at hl 1 rfl) ?_
        refine lv_iload_n hx hb dX9_top_11 rfl (lv_at hl 3 rfl) ?_
        obtain ⟨hi2, hT⟩ := hT
        refine va_iald (f := S.2.1 k1) hx hb hK hP k1 0 (mat_sym hk1) rfl hi2 dX9_top_12 ?_
        refine lv_iload_n hx hb dX9_top_13 rfl (lv_at hl 2 rfl) ?_
        refine lv_icmp_eq (tgt := 23) hx hb dX9_top_14 (by decide) (fun c3 => ?_) (fun c3 => ?_)
        · replace hT := hT.1 c3
          rw [hB23] at hT
          exact hT _ _ _ hP hD hS (lv_sub hl [0, 3] rfl)
        · replace hT := hT.2 c3
          refine lv_iinc (v := x3 + 1) (lv' := [(3, .int (x3 + 1)), (0, .ref (ad 0)), (1, .ref (ad k1)), (2, .int a2)]) hx hb dX9_top_17 hl (k := 3) rfl rfl (by decide) rfl (fun ls hl => ?_)
          refine lv_goto (tgt := 2) hx hb dX9_top_20 (by decide) ?_
          rw [hB2] at hT
          exact hT _ _ _ hP hD hS (lv_sub hl [1, 2, 3, 0] rfl)
    · clear hP hD hS hl H locs ls
      intro S x3 hT
      unfold mT_top_23 at hT
      rw [hB23]
      intro H locs ls hP hD hS hl
      refine lv_iload_n hx hb dX9_top_23 rfl (lv_at hl 1 rfl) ?_
      refine lv_aload_n hx hb dX9_top_24 rfl (lv_at hl 0 rfl) ?_
      refine mg_discs (v := S.1 1) hx hb hts hown hK hP rfl dX9_top_25 ?_
      refine lv_icmp_ge (tgt := 35) hx hb dX9_top_28 (by decide) (fun c4 => ?_) (fun c4 => ?_)
      · replace hT := hT.1 c4
        refine lv_iconst (v := (-1)) hx hb dX9_top_35 (by decide) ?_
        exact hret _ _ _ _ _ _ hP hD hS hT dX9_top_36
      · replace hT := hT.2 c4
        refine lv_iload_n hx hb dX9_top_31 rfl (lv_at hl 1 rfl) ?_
        refine lv_goto (tgt := 36) hx hb dX9_top_32 (by decide) ?_
        exact hret _ _ _ _ _ _ hP hD hS hT dX9_top_36
  unfold mT_top_e at hT
  refine lv_iconst (v := 0) hx hb dX9_top_0 (by decide) ?_
  refine lv_istore_n (lv' := [(3, .int 0), (0, .ref (ad 0)), (1, .ref (ad k1)), (2, .int a2)]) hx hb dX9_top_1 rfl hl (by decide) rfl (fun ls hl => ?_)
  rw [hB2] at hT
  exact hT _ _ _ hP hD hS (lv_sub hl [1, 2, 3, 0] rfl)
abbrev mX_isRight (l : Launch) (S : MS) (k1 : Nat) (post : Bool → MS → Prop) : Prop := mCtZ l yX9_isRight cX9_isRight 4 1 23 (fun ad => [.ref (ad k1)]) S post
def mT_isRight_2 (l : Launch) (k1 : Nat) (post : Bool → MS → Prop) (B2 : MS → Int32 → Prop) (B44 : MS → Int32 → Prop) (S : MS) (x2 : Int32) : Prop := (S.1 1 ≤ x2 → post true S) ∧ (¬ S.1 1 ≤ x2 → mX_below l S k1 x2 (fun r3 S2 => (r3 = (-1) → B44 S2 x2) ∧ (¬ r3 = (-1) → vp_in r3 7 ∧ (¬ S2.2.1 1 r3.toNatClampNeg = 2 → B44 S2 x2) ∧ (S2.2.1 1 r3.toNatClampNeg = 2 → vp_in x2 7 ∧ (S2.2.1 1 x2.toNatClampNeg = 2 → B44 S2 x2) ∧ (¬ S2.2.1 1 x2.toNatClampNeg = 2 → post false S2)))))
def mT_isRight_44 (l : Launch) (k1 : Nat) (post : Bool → MS → Prop) (B2 : MS → Int32 → Prop) (B44 : MS → Int32 → Prop) (S : MS) (x2 : Int32) : Prop := B2 S (x2 + 1)
def mT_isRight_e (l : Launch) (k1 : Nat) (post : Bool → MS → Prop) (B2 : MS → Int32 → Prop) (B44 : MS → Int32 → Prop) (S0 : MS) : Prop := B2 S0 0
set_option maxHeartbeats 4000000 in
set_option maxRecDepth 100000 in
theorem m_isRight (l : Launch) (S0 : MS) (k1 : Nat) (hk1 : m7 k1) (post : Bool → MS → Prop) (h : ∀ (B2 : MS → Int32 → Prop) (B44 : MS → Int32 → Prop), (∀ (S : MS) (x2 : Int32), mT_isRight_2 l k1 post B2 B44 S x2 → B2 S x2) → (∀ (S : MS) (x2 : Int32), mT_isRight_44 l k1 post B2 B44 S x2 → B44 S x2) → mT_isRight_e l k1 post B2 B44 S0) : mX_isRight l S0 k1 post := by
  refine msetZ rfl (fun _ => Nat.le_of_ble_eq_true rfl) ?_
  intro p e s m args below meth c D ad cI cZ cL A Q hx hb hml hown hts hK hA hret H locs ls hP hD hS hl
  replace hl : lv_has ls 4 [(0, .ref (ad 0)), (1, .ref (ad k1))] := hl
  obtain ⟨B2, hB2⟩ : ∃ B : MS → Int32 → Prop, B = (fun S x2 => ∀ (H : Heap) (locs : List Loc) (ls : Array Slot), va_P D vwCl (mW ad cI cZ cL S) H → va_D A (mW ad cI cZ cL S) → va_S A s.heap H locs → lv_has ls 4 [(0, .ref (ad 0)), (1, .ref (ad k1)), (2, .int x2)] → W p l e (mrm 1 23) s m args below meth c H locs 0 0 Q (F0 m 2 ls [])) := ⟨_, rfl⟩
  obtain ⟨B44, hB44⟩ : ∃ B : MS → Int32 → Prop, B = (fun S x2 => ∀ (H : Heap) (locs : List Loc) (ls : Array Slot), va_P D vwCl (mW ad cI cZ cL S) H → va_D A (mW ad cI cZ cL S) → va_S A s.heap H locs → lv_has ls 4 [(0, .ref (ad 0)), (1, .ref (ad k1)), (2, .int x2)] → W p l e (mrm 1 23) s m args below meth c H locs 0 0 Q (F0 m 44 ls [])) := ⟨_, rfl⟩
  have hT : mT_isRight_e l k1 post B2 B44 S0 := by
    refine h B2 B44 ?_ ?_
    · clear hP hD hS hl H locs ls
      intro S x2 hT
      unfold mT_isRight_2 at hT
      rw [hB2]
      intro H locs ls hP hD hS hl
      refine lv_iload_n hx hb dX9_isRight_2 rfl (lv_at hl 2 rfl) ?_
      refine lv_aload_n hx hb dX9_isRight_3 rfl (lv_at hl 0 rfl) ?_
      refine mg_discs (v := S.1 1) hx hb hts hown hK hP rfl dX9_isRight_4 ?_
      refine lv_icmp_ge (tgt := 50) hx hb dX9_isRight_7 (by decide) (fun c1 => ?_) (fun c1 => ?_)
      · replace hT := hT.1 c1
        refine lv_iconst (v := 1) hx hb dX9_isRight_50 (by decide) ?_
        exact hret true _ _ _ _ _ hP hD hS hT dX9_isRight_51
      · replace hT := hT.2 c1
        refine lv_aload_n hx hb dX9_isRight_10 rfl (lv_at hl 0 rfl) ?_
        refine lv_aload_n hx hb dX9_isRight_11 rfl (lv_at hl 1 rfl) ?_
        refine lv_iload_n hx hb dX9_isRight_12 rfl (lv_at hl 2 rfl) ?_
        refine mcallI (n := 2) (rest := []) hT hx hb hml hown hts hK hA hP hD hS hl gg_149 hd_X9_below ⟨Nat.le_of_ble_eq_true rfl, Nat.le_of_ble_eq_true rfl⟩ rfl rfl (Nat.le_of_ble_eq_true rfl) dX9_isRight_13 (Nat.zero_le _) (Nat.zero_le _) (fun r3 S2 H locs hP hD hS hT => ?_)
        refine lv_istore_n (lv' := [(3, .int r3), (0, .ref (ad 0)), (1, .ref (ad k1)), (2, .int x2)]) hx hb dX9_isRight_16 rfl hl (by decide) rfl (fun ls hl => ?_)
        refine lv_iload_n hx hb dX9_isRight_17 rfl (lv_at hl 0 rfl) ?_
        refine lv_iconst (v := (-1)) hx hb dX9_isRight_18 (by decide) ?_
        refine lv_icmp_eq (tgt := 44) hx hb dX9_isRight_19 (by decide) (fun c4 => ?_) (fun c4 => ?_)
        · replace hT := hT.1 c4
          rw [hB44] at hT
          exact hT _ _ _ hP hD hS (lv_sub hl [1, 2, 3] rfl)
        · replace hT := hT.2 c4
          refine lv_aload_n hx hb dX9_isRight_22 rfl (lv_at hl 1 rfl) ?_
          refine mg_kinds hx hb hts hown hK hP dX9_isRight_23 ?_
          refine lv_iload_n hx hb dX9_isRight_26 rfl (lv_at hl 0 rfl) ?_
          obtain ⟨hi5, hT⟩ := hT
          refine va_iald (f := S2.2.1 1) hx hb hK hP 1 0 mat_1 rfl hi5 dX9_isRight_27 ?_
          refine lv_iconst (v := 2) hx hb dX9_isRight_28 (by decide) ?_
          refine lv_icmp_ne (tgt := 44) hx hb dX9_isRight_29 (by decide) (fun c6 => ?_) (fun c6 => ?_)
          · replace hT := hT.1 c6
            rw [hB44] at hT
            exact hT _ _ _ hP hD hS (lv_sub hl [1, 2, 3] rfl)
          · replace hT := hT.2 c6
            refine lv_aload_n hx hb dX9_isRight_32 rfl (lv_at hl 1 rfl) ?_
            refine mg_kinds hx hb hts hown hK hP dX9_isRight_33 ?_
            refine lv_iload_n hx hb dX9_isRight_36 rfl (lv_at hl 3 rfl) ?_
            obtain ⟨hi7, hT⟩ := hT
            refine va_iald (f := S2.2.1 1) hx hb hK hP 1 0 mat_1 rfl hi7 dX9_isRight_37 ?_
            refine lv_iconst (v := 2) hx hb dX9_isRight_38 (by decide) ?_
            refine lv_icmp_eq (tgt := 44) hx hb dX9_isRight_39 (by decide) (fun c8 => ?_) (fun c8 => ?_)
            · replace hT := hT.1 c8
              rw [hB44] at hT
              exact hT _ _ _ hP hD hS (lv_sub hl [1, 2, 3] rfl)
            · replace hT := hT.2 c8
              refine lv_iconst (v := 0) hx hb dX9_isRight_42 (by decide) ?_
              exact hret false _ _ _ _ _ hP hD hS hT dX9_isRight_43
    · clear hP hD hS hl H locs ls
      intro S x2 hT
      unfold mT_isRight_44 at hT
      rw [hB44]
      intro H locs ls hP hD hS hl
      refine lv_iinc (v := x2 + 1) (lv' := [(2, .int (x2 + 1)), (0, .ref (ad 0)), (1, .ref (ad k1))]) hx hb dX9_isRight_44 hl (k := 2) rfl rfl (by decide) rfl (fun ls hl => ?_)
      refine lv_goto (tgt := 2) hx hb dX9_isRight_47 (by decide) ?_
      rw [hB2] at hT
      exact hT _ _ _ hP hD hS (lv_sub hl [1, 2, 0] rfl)
  unfold mT_isRight_e at hT
  refine lv_iconst (v := 0) hx hb dX9_isRight_0 (by decide) ?_
  refine lv_istore_n (lv' := [(2, .int 0), (0, .ref (ad 0)), (1, .ref (ad k1))]) hx hb dX9_isRight_1 rfl hl (by decide) rfl (fun ls hl => ?_)
  rw [hB2] at hT
  exact hT _ _ _ hP hD hS (lv_sub hl [1, 2, 0] rfl)
abbrev mX_packOf (l : Launch) (S : MS) (k1 : Nat) (a2 : Int32) (post : Int32 → MS → Prop) : Prop := mCtI l yX9_packOf cX9_packOf 4 0 0 (fun ad => [.ref (ad k1), .int a2]) S post
def mT_packOf_2 (l : Launch) (k1 : Nat) (a2 : Int32) (post : Int32 → MS → Prop) (B2 : MS → Int32 → Prop) (S : MS) (x3 : Int32) : Prop := vp_in x3 7 ∧ (¬ S.2.1 1 x3.toNatClampNeg = 3 → post x3 S) ∧ (S.2.1 1 x3.toNatClampNeg = 3 → (S.1 1 ≤ x3 + 1 → post x3 S) ∧ (¬ S.1 1 ≤ x3 + 1 → vp_in (x3 + 1) 7 ∧ (¬ S.2.1 1 (x3 + 1).toNatClampNeg = 3 → post x3 S) ∧ (S.2.1 1 (x3 + 1).toNatClampNeg = 3 → vp_in (x3 + 1) 7 ∧ vp_in a2 7 ∧ (¬ S.2.1 k1 (x3 + 1).toNatClampNeg = S.2.1 k1 a2.toNatClampNeg → post x3 S) ∧ (S.2.1 k1 (x3 + 1).toNatClampNeg = S.2.1 k1 a2.toNatClampNeg → B2 S (x3 + 1)))))
def mT_packOf_e (l : Launch) (k1 : Nat) (a2 : Int32) (post : Int32 → MS → Prop) (B2 : MS → Int32 → Prop) (S0 : MS) : Prop := B2 S0 a2
set_option maxHeartbeats 4000000 in
set_option maxRecDepth 100000 in
theorem m_packOf (l : Launch) (S0 : MS) (k1 : Nat) (a2 : Int32) (hk1 : m7 k1) (post : Int32 → MS → Prop) (h : ∀ (B2 : MS → Int32 → Prop), (∀ (S : MS) (x3 : Int32), mT_packOf_2 l k1 a2 post B2 S x3 → B2 S x3) → mT_packOf_e l k1 a2 post B2 S0) : mX_packOf l S0 k1 a2 post := by
  refine msetI rfl (fun _ => Nat.le_of_ble_eq_true rfl) ?_
  intro p e s m args below meth c D ad cI cZ cL A Q hx hb hml hown hts hK hA hret H locs ls hP hD hS hl
  replace hl : lv_has ls 4 [(0, .ref (ad 0)), (1, .ref (ad k1)), (2, .int a2)] := hl
  obtain ⟨B2, hB2⟩ : ∃ B : MS → Int32 → Prop, B = (fun S x3 => ∀ (H : Heap) (locs : List Loc) (ls : Array Slot), va_P D vwCl (mW ad cI cZ cL S) H → va_D A (mW ad cI cZ cL S) → va_S A s.heap H locs → lv_has ls 4 [(0, .ref (ad 0)), (1, .ref (ad k1)), (2, .int a2), (3, .int x3)] → W p l e (mrm 0 0) s m args below meth c H locs 0 0 Q (F0 m 2 ls [])) := ⟨_, rfl⟩
  have hT : mT_packOf_e l k1 a2 post B2 S0 := by
    refine h B2 ?_
    · clear hP hD hS hl H locs ls
      intro S x3 hT
      unfold mT_packOf_2 at hT
      rw [hB2]
      intro H locs ls hP hD hS hl
      refine lv_aload_n hx hb dX9_packOf_2 rfl (lv_at hl 0 rfl) ?_
      refine mg_kinds hx hb hts hown hK hP dX9_packOf_3 ?_
      refine lv_iload_n hx hb dX9_packOf_6 rfl (lv_at hl 3 rfl) ?_
      obtain ⟨hi1, hT⟩ := hT
      refine va_iald (f := S.2.1 1) hx hb hK hP 1 0 mat_1 rfl hi1 dX9_packOf_7 ?_
      refine lv_iconst (v := 3) hx hb dX9_packOf_8 (by decide) ?_
      refine lv_icmp_ne (tgt := 51) hx hb dX9_packOf_9 (by decide) (fun c2 => ?_) (fun c2 => ?_)
      · replace hT := hT.1 c2
        refine lv_iload_n hx hb dX9_packOf_51 rfl (lv_at hl 3 rfl) ?_
        exact hret _ _ _ _ _ _ hP hD hS hT dX9_packOf_52
      · replace hT := hT.2 c2
        refine lv_iload_n hx hb dX9_packOf_12 rfl (lv_at hl 3 rfl) ?_
        refine lv_iconst (v := 1) hx hb dX9_packOf_13 (by decide) ?_
        refine lv_iadd hx hb dX9_packOf_14 ?_
        refine lv_aload_n hx hb dX9_packOf_15 rfl (lv_at hl 0 rfl) ?_
        refine mg_discs (v := S.1 1) hx hb hts hown hK hP rfl dX9_packOf_16 ?_
        refine lv_icmp_ge (tgt := 51) hx hb dX9_packOf_19 (by decide) (fun c3 => ?_) (fun c3 => ?_)
        · replace hT := hT.1 c3
          refine lv_iload_n hx hb dX9_packOf_51 rfl (lv_at hl 3 rfl) ?_
          exact hret _ _ _ _ _ _ hP hD hS hT dX9_packOf_52
        · replace hT := hT.2 c3
          refine lv_aload_n hx hb dX9_packOf_22 rfl (lv_at hl 0 rfl) ?_
          refine mg_kinds hx hb hts hown hK hP dX9_packOf_23 ?_
          refine lv_iload_n hx hb dX9_packOf_26 rfl (lv_at hl 3 rfl) ?_
          refine lv_iconst (v := 1) hx hb dX9_packOf_27 (by decide) ?_
          refine lv_iadd hx hb dX9_packOf_28 ?_
          obtain ⟨hi4, hT⟩ := hT
          refine va_iald (f := S.2.1 1) hx hb hK hP 1 0 mat_1 rfl hi4 dX9_packOf_29 ?_
          refine lv_iconst (v := 3) hx hb dX9_packOf_30 (by decide) ?_
          refine lv_icmp_ne (tgt := 51) hx hb dX9_packOf_31 (by decide) (fun c5 => ?_) (fun c5 => ?_)
          · replace hT := hT.1 c5
            refine lv_iload_n hx hb dX9_packOf_51 rfl (lv_at hl 3 rfl) ?_
            exact hret _ _ _ _ _ _ hP hD hS hT dX9_packOf_52
          · replace hT := hT.2 c5
            refine lv_aload_n hx hb dX9_packOf_34 rfl (lv_at hl 1 rfl) ?_
            refine lv_iload_n hx hb dX9_packOf_35 rfl (lv_at hl 3 rfl) ?_
            refine lv_iconst (v := 1) hx hb dX9_packOf_36 (by decide) ?_
            refine lv_iadd hx hb dX9_packOf_37 ?_
            obtain ⟨hi6, hT⟩ := hT
            refine va_iald (f := S.2.1 k1) hx hb hK hP k1 0 (mat_sym hk1) rfl hi6 dX9_packOf_38 ?_
            refine lv_aload_n hx hb dX9_packOf_39 rfl (lv_at hl 1 rfl) ?_
            refine lv_iload_n hx hb dX9_packOf_40 rfl (lv_at hl 2 rfl) ?_
            obtain ⟨hi7, hT⟩ := hT
            refine va_iald (f := S.2.1 k1) hx hb hK hP k1 0 (mat_sym hk1) rfl hi7 dX9_packOf_41 ?_
            refine lv_icmp_ne (tgt := 51) hx hb dX9_packOf_42 (by decide) (fun c8 => ?_) (fun c8 => ?_)
            · replace hT := hT.1 c8
              refine lv_iload_n hx hb dX9_packOf_51 rfl (lv_at hl 3 rfl) ?_
              exact hret _ _ _ _ _ _ hP hD hS hT dX9_packOf_52
            · replace hT := hT.2 c8
              refine lv_iinc (v := x3 + 1) (lv' := [(3, .int (x3 + 1)), (0, .ref (ad 0)), (1, .ref (ad k1)), (2, .int a2)]) hx hb dX9_packOf_45 hl (k := 3) rfl rfl (by decide) rfl (fun ls hl => ?_)
              refine lv_goto (tgt := 2) hx hb dX9_packOf_48 (by decide) ?_
              rw [hB2] at hT
              exact hT _ _ _ hP hD hS (lv_sub hl [1, 2, 3, 0] rfl)
  unfold mT_packOf_e at hT
  refine lv_iload_n hx hb dX9_packOf_0 rfl (lv_at hl 2 rfl) ?_
  refine lv_istore_n (lv' := [(3, .int a2), (0, .ref (ad 0)), (1, .ref (ad k1)), (2, .int a2)]) hx hb dX9_packOf_1 rfl hl (by decide) rfl (fun ls hl => ?_)
  rw [hB2] at hT
  exact hT _ _ _ hP hD hS (lv_sub hl [1, 2, 3, 0] rfl)
end
section
abbrev mX_whyOf (l : Launch) (S : MS) (k1 : Nat) (a2 : Int32) (a3 : Int32) (post : Int32 → MS → Prop) : Prop := mCtI l yX9_whyOf cX9_whyOf 7 1 23 (fun ad => [.ref (ad k1), .int a2, .int a3]) S post
def mT_whyOf_62 (l : Launch) (k1 : Nat) (a2 : Int32) (a3 : Int32) (post : Int32 → MS → Prop) (B62 : MS → Int32 → Prop) (B77 : MS → Int32 → Prop) (S : MS) (x5 : Int32) : Prop := vp_in ((5 * a2) + a3) 25 ∧ (¬ S.2.1 5 ((5 * a2) + a3).toNatClampNeg = 0 → B77 S x5) ∧ (S.2.1 5 ((5 * a2) + a3).toNatClampNeg = 0 → post 3 S)
def mT_whyOf_77 (l : Launch) (k1 : Nat) (a2 : Int32) (a3 : Int32) (post : Int32 → MS → Prop) (B62 : MS → Int32 → Prop) (B77 : MS → Int32 → Prop) (S : MS) (x5 : Int32) : Prop := mX_top l S k1 a3 (fun r4 S3 => (¬ r4 = (-1) → (x5 ≤ r4 → vp_in r4 7 ∧ (¬ S3.2.1 1 r4.toNatClampNeg = 2 → post 0 S3) ∧ (S3.2.1 1 r4.toNatClampNeg = 2 → vp_in x5 7 ∧ (S3.2.1 1 x5.toNatClampNeg = 2 → post 0 S3) ∧ (¬ S3.2.1 1 x5.toNatClampNeg = 2 → post 5 S3))) ∧ (¬ x5 ≤ r4 → post 4 S3)) ∧ (r4 = (-1) → post 0 S3))
def mT_whyOf_e (l : Launch) (k1 : Nat) (a2 : Int32) (a3 : Int32) (post : Int32 → MS → Prop) (B62 : MS → Int32 → Prop) (B77 : MS → Int32 → Prop) (S0 : MS) : Prop := vp_in ((5 * a2) + a3) 25 ∧ (¬ S0.2.1 4 ((5 * a2) + a3).toNatClampNeg = 0 → mX_top l S0 k1 a2 (fun r14 S13 => (¬ r14 = (-1) → mX_packOf l S13 k1 r14 (fun r17 S16 => vp_in r14 7 ∧ (S16.2.1 1 r14.toNatClampNeg = 1 → B62 S16 r17) ∧ (¬ S16.2.1 1 r14.toNatClampNeg = 1 → vp_in r14 7 ∧ (¬ S16.2.1 1 r14.toNatClampNeg = 2 → B77 S16 r17) ∧ (S16.2.1 1 r14.toNatClampNeg = 2 → B62 S16 r17)))) ∧ (r14 = (-1) → post 2 S13))) ∧ (S0.2.1 4 ((5 * a2) + a3).toNatClampNeg = 0 → post 1 S0)
set_option maxHeartbeats 4000000 in
set_option maxRecDepth 100000 in
theorem m_whyOf (l : Launch) (S0 : MS) (k1 : Nat) (a2 : Int32) (a3 : Int32) (hk1 : m7 k1) (post : Int32 → MS → Prop) (h : ∀ (B62 : MS → Int32 → Prop) (B77 : MS → Int32 → Prop), (∀ (S : MS) (x5 : Int32), mT_whyOf_62 l k1 a2 a3 post B62 B77 S x5 → B62 S x5) → (∀ (S : MS) (x5 : Int32), mT_whyOf_77 l k1 a2 a3 post B62 B77 S x5 → B77 S x5) → mT_whyOf_e l k1 a2 a3 post B62 B77 S0) : mX_whyOf l S0 k1 a2 a3 post := by
  refine msetI rfl (fun _ => Nat.le_of_ble_eq_true rfl) ?_
  intro p e s m args below meth c D ad cI cZ cL A Q hx hb hml hown hts hK hA hret H locs ls hP hD hS hl
  replace hl : lv_has ls 7 [(0, .ref (ad 0)), (1, .ref (ad k1)), (2, .int a2), (3, .int a3)] := hl
  obtain ⟨B62, hB62⟩ : ∃ B : MS → Int32 → Prop, B = (fun S x5 => ∀ (H : Heap) (locs : List Loc) (ls : Array Slot), va_P D vwCl (mW ad cI cZ cL S) H → va_D A (mW ad cI cZ cL S) → va_S A s.heap H locs → lv_has ls 7 [(0, .ref (ad 0)), (1, .ref (ad k1)), (2, .int a2), (3, .int a3), (5, .int x5)] → W p l e (mrm 1 23) s m args below meth c H locs 0 0 Q (F0 m 62 ls [])) := ⟨_, rfl⟩
  obtain ⟨B77, hB77⟩ : ∃ B : MS → Int32 → Prop, B = (fun S x5 => ∀ (H : Heap) (locs : List Loc) (ls : Array Slot), va_P D vwCl (mW ad cI cZ cL S) H → va_D A (mW ad cI cZ cL S) → va_S A s.heap H locs → lv_has ls 7 [(0, .ref (ad 0)), (1, .ref (ad k1)), (3, .int a3), (5, .int x5)] → W p l e (mrm 1 23) s m args below meth c H locs 0 0 Q (F0 m 77 ls [])) := ⟨_, rfl⟩
  have hT : mT_whyOf_e l k1 a2 a3 post B62 B77 S0 := by
    refine h B62 B77 ?_ ?_
    · clear hP hD hS hl H locs ls
      intro S x5 hT
      unfold mT_whyOf_62 at hT
      rw [hB62]
      intro H locs ls hP hD hS hl
      refine lv_aload_n hx hb dX9_whyOf_62 rfl (lv_at hl 0 rfl) ?_
      refine mg_isStrong hx hb hts hown hK hP dX9_whyOf_63 ?_
      refine lv_iconst (v := 5) hx hb dX9_whyOf_66 (by decide) ?_
      refine lv_iload_n hx hb dX9_whyOf_67 rfl (lv_at hl 2 rfl) ?_
      refine lv_imul hx hb dX9_whyOf_68 ?_
      refine lv_iload_n hx hb dX9_whyOf_69 rfl (lv_at hl 3 rfl) ?_
      refine lv_iadd hx hb dX9_whyOf_70 ?_
      obtain ⟨hi1, hT⟩ := hT
      refine va_zald (f := S.2.1 5) hx hb hK hP 5 1 mat_5 rfl hi1 dX9_whyOf_71 ?_
      refine lv_if_ne (tgt := 77) hx hb dX9_whyOf_72 (by decide) (fun c2 => ?_) (fun c2 => ?_)
      · replace hT := hT.1 c2
        rw [hB77] at hT
        exact hT _ _ _ hP hD hS (lv_sub hl [0, 1, 3, 4] rfl)
      · replace hT := hT.2 c2
        refine lv_iconst (v := 3) hx hb dX9_whyOf_75 (by decide) ?_
        exact hret _ _ _ _ _ _ hP hD hS hT dX9_whyOf_76
    · clear hP hD hS hl H locs ls
      intro S x5 hT
      unfold mT_whyOf_77 at hT
      rw [hB77]
      intro H locs ls hP hD hS hl
      refine lv_aload_n hx hb dX9_whyOf_77 rfl (lv_at hl 0 rfl) ?_
      refine lv_aload_n hx hb dX9_whyOf_78 rfl (lv_at hl 1 rfl) ?_
      refine lv_iload_n hx hb dX9_whyOf_79 rfl (lv_at hl 2 rfl) ?_
      refine mcallI (n := 2) (rest := []) hT hx hb hml hown hts hK hA hP hD hS hl gg_153 hd_X9_top ⟨Nat.le_of_ble_eq_true rfl, Nat.le_of_ble_eq_true rfl⟩ rfl rfl (Nat.le_of_ble_eq_true rfl) dX9_whyOf_80 (Nat.zero_le _) (Nat.zero_le _) (fun r4 S3 H locs hP hD hS hT => ?_)
      refine lv_istore (lv' := [(6, .int r4), (0, .ref (ad 0)), (1, .ref (ad k1)), (3, .int a3), (5, .int x5)]) hx hb dX9_whyOf_83 hl (by decide) rfl (fun ls hl => ?_)
      refine lv_iload hx hb dX9_whyOf_85 (lv_at hl 0 rfl) ?_
      refine lv_iconst (v := (-1)) hx hb dX9_whyOf_87 (by decide) ?_
      refine lv_icmp_ne (tgt := 93) hx hb dX9_whyOf_88 (by decide) (fun c5 => ?_) (fun c5 => ?_)
      · replace hT := hT.1 c5
        refine lv_iload hx hb dX9_whyOf_93 (lv_at hl 0 rfl) ?_
        refine lv_iload hx hb dX9_whyOf_95 (lv_at hl 4 rfl) ?_
        refine lv_icmp_ge (tgt := 102) hx hb dX9_whyOf_97 (by decide) (fun c6 => ?_) (fun c6 => ?_)
        · replace hT := hT.1 c6
          refine lv_aload_n hx hb dX9_whyOf_102 rfl (lv_at hl 1 rfl) ?_
          refine mg_kinds hx hb hts hown hK hP dX9_whyOf_103 ?_
          refine lv_iload hx hb dX9_whyOf_106 (lv_at hl 0 rfl) ?_
          obtain ⟨hi7, hT⟩ := hT
          refine va_iald (f := S3.2.1 1) hx hb hK hP 1 0 mat_1 rfl hi7 dX9_whyOf_108 ?_
          refine lv_iconst (v := 2) hx hb dX9_whyOf_109 (by decide) ?_
          refine lv_icmp_ne (tgt := 128) hx hb dX9_whyOf_110 (by decide) (fun c8 => ?_) (fun c8 => ?_)
          · replace hT := hT.1 c8
            refine lv_iconst (v := 0) hx hb dX9_whyOf_128 (by decide) ?_
            exact hret _ _ _ _ _ _ hP hD hS hT dX9_whyOf_129
          · replace hT := hT.2 c8
            refine lv_aload_n hx hb dX9_whyOf_113 rfl (lv_at hl 1 rfl) ?_
            refine mg_kinds hx hb hts hown hK hP dX9_whyOf_114 ?_
            refine lv_iload hx hb dX9_whyOf_117 (lv_at hl 4 rfl) ?_
            obtain ⟨hi9, hT⟩ := hT
            refine va_iald (f := S3.2.1 1) hx hb hK hP 1 0 mat_1 rfl hi9 dX9_whyOf_119 ?_
            refine lv_iconst (v := 2) hx hb dX9_whyOf_120 (by decide) ?_
            refine lv_icmp_eq (tgt := 128) hx hb dX9_whyOf_121 (by decide) (fun c10 => ?_) (fun c10 => ?_)
            · replace hT := hT.1 c10
              refine lv_iconst (v := 0) hx hb dX9_whyOf_128 (by decide) ?_
              exact hret _ _ _ _ _ _ hP hD hS hT dX9_whyOf_129
            · replace hT := hT.2 c10
              refine lv_iconst (v := 5) hx hb dX9_whyOf_124 (by decide) ?_
              refine lv_goto (tgt := 129) hx hb dX9_whyOf_125 (by decide) ?_
              exact hret _ _ _ _ _ _ hP hD hS hT dX9_whyOf_129
        · replace hT := hT.2 c6
          refine lv_iconst (v := 4) hx hb dX9_whyOf_100 (by decide) ?_
          exact hret _ _ _ _ _ _ hP hD hS hT dX9_whyOf_101
      · replace hT := hT.2 c5
        refine lv_iconst (v := 0) hx hb dX9_whyOf_91 (by decide) ?_
        exact hret _ _ _ _ _ _ hP hD hS hT dX9_whyOf_92
  unfold mT_whyOf_e at hT
  refine lv_aload_n hx hb dX9_whyOf_0 rfl (lv_at hl 0 rfl) ?_
  refine mg_costs hx hb hts hown hK hP dX9_whyOf_1 ?_
  refine lv_iconst (v := 5) hx hb dX9_whyOf_4 (by decide) ?_
  refine lv_iload_n hx hb dX9_whyOf_5 rfl (lv_at hl 2 rfl) ?_
  refine lv_imul hx hb dX9_whyOf_6 ?_
  refine lv_iload_n hx hb dX9_whyOf_7 rfl (lv_at hl 3 rfl) ?_
  refine lv_iadd hx hb dX9_whyOf_8 ?_
  obtain ⟨hi11, hT⟩ := hT
  refine va_iald (f := S0.2.1 4) hx hb hK hP 4 0 mat_4 rfl hi11 dX9_whyOf_9 ?_
  refine lv_if_ne (tgt := 15) hx hb dX9_whyOf_10 (by decide) (fun c12 => ?_) (fun c12 => ?_)
  · replace hT := hT.1 c12
    refine lv_aload_n hx hb dX9_whyOf_15 rfl (lv_at hl 0 rfl) ?_
    refine lv_aload_n hx hb dX9_whyOf_16 rfl (lv_at hl 1 rfl) ?_
    refine lv_iload_n hx hb dX9_whyOf_17 rfl (lv_at hl 2 rfl) ?_
    refine mcallI (n := 2) (rest := []) hT hx hb hml hown hts hK hA hP hD hS hl gg_153 hd_X9_top ⟨Nat.le_of_ble_eq_true rfl, Nat.le_of_ble_eq_true rfl⟩ rfl rfl (Nat.le_of_ble_eq_true rfl) dX9_whyOf_18 (Nat.zero_le _) (Nat.zero_le _) (fun r14 S13 H locs hP hD hS hT => ?_)
    refine lv_istore (lv' := [(4, .int r14), (0, .ref (ad 0)), (1, .ref (ad k1)), (2, .int a2), (3, .int a3)]) hx hb dX9_whyOf_21 hl (by decide) rfl (fun ls hl => ?_)
    refine lv_iload hx hb dX9_whyOf_23 (lv_at hl 0 rfl) ?_
    refine lv_iconst (v := (-1)) hx hb dX9_whyOf_25 (by decide) ?_
    refine lv_icmp_ne (tgt := 31) hx hb dX9_whyOf_26 (by decide) (fun c15 => ?_) (fun c15 => ?_)
    · replace hT := hT.1 c15
      refine lv_aload_n hx hb dX9_whyOf_31 rfl (lv_at hl 1 rfl) ?_
      refine lv_aload_n hx hb dX9_whyOf_32 rfl (lv_at hl 2 rfl) ?_
      refine lv_iload hx hb dX9_whyOf_33 (lv_at hl 0 rfl) ?_
      refine mcallI (n := 2) (rest := []) hT hx hb hml hown hts hK hA hP hD hS hl gg_156 hd_X9_packOf ⟨Nat.le_of_ble_eq_true rfl, Nat.le_of_ble_eq_true rfl⟩ rfl rfl (Nat.le_of_ble_eq_true rfl) dX9_whyOf_35 (Nat.zero_le _) (Nat.zero_le _) (fun r17 S16 H locs hP hD hS hT => ?_)
      refine lv_istore (lv' := [(5, .int r17), (4, .int r14), (0, .ref (ad 0)), (1, .ref (ad k1)), (2, .int a2), (3, .int a3)]) hx hb dX9_whyOf_38 hl (by decide) rfl (fun ls hl => ?_)
      refine lv_aload_n hx hb dX9_whyOf_40 rfl (lv_at hl 2 rfl) ?_
      refine mg_kinds hx hb hts hown hK hP dX9_whyOf_41 ?_
      refine lv_iload hx hb dX9_whyOf_44 (lv_at hl 1 rfl) ?_
      obtain ⟨hi18, hT⟩ := hT
      refine va_iald (f := S16.2.1 1) hx hb hK hP 1 0 mat_1 rfl hi18 dX9_whyOf_46 ?_
      refine lv_iconst (v := 1) hx hb dX9_whyOf_47 (by decide) ?_
      refine lv_icmp_eq (tgt := 62) hx hb dX9_whyOf_48 (by decide) (fun c19 => ?_) (fun c19 => ?_)
      · replace hT := hT.1 c19
        rw [hB62] at hT
        exact hT _ _ _ hP hD hS (lv_sub hl [2, 3, 4, 5, 0] rfl)
      · replace hT := hT.2 c19
        refine lv_aload_n hx hb dX9_whyOf_51 rfl (lv_at hl 2 rfl) ?_
        refine mg_kinds hx hb hts hown hK hP dX9_whyOf_52 ?_
        refine lv_iload hx hb dX9_whyOf_55 (lv_at hl 1 rfl) ?_
        obtain ⟨hi20, hT⟩ := hT
        refine va_iald (f := S16.2.1 1) hx hb hK hP 1 0 mat_1 rfl hi20 dX9_whyOf_57 ?_
        refine lv_iconst (v := 2) hx hb dX9_whyOf_58 (by decide) ?_
        refine lv_icmp_ne (tgt := 77) hx hb dX9_whyOf_59 (by decide) (fun c21 => ?_) (fun c21 => ?_)
        · replace hT := hT.1 c21
          rw [hB77] at hT
          exact hT _ _ _ hP hD hS (lv_sub hl [2, 3, 5, 0] rfl)
        · replace hT := hT.2 c21
          rw [hB62] at hT
          exact hT _ _ _ hP hD hS (lv_sub hl [2, 3, 4, 5, 0] rfl)
    · replace hT := hT.2 c15
      refine lv_iconst (v := 2) hx hb dX9_whyOf_29 (by decide) ?_
      exact hret _ _ _ _ _ _ hP hD hS hT dX9_whyOf_30
  · replace hT := hT.2 c12
    refine lv_iconst (v := 1) hx hb dX9_whyOf_13 (by decide) ?_
    exact hret _ _ _ _ _ _ hP hD hS hT dX9_whyOf_14
abbrev mX_moved (l : Launch) (S : MS) (k1 : Nat) (a2 : Int32) (a3 : Int32) (post : Int32 → MS → Prop) : Prop := mCtI l yX9_moved cX9_moved 7 1 23 (fun ad => [.ref (ad k1), .int a2, .int a3]) S post
def mT_moved_21 (l : Launch) (k1 : Nat) (a2 : Int32) (a3 : Int32) (post : Int32 → MS → Prop) (B21 : MS → Int32 → Int32 → Int32 → Prop) (S : MS) (x4 : Int32) (x5 : Int32) (x6 : Int32) : Prop := (x5 < x6 → post ((x5 - x4) + 1) S) ∧ (¬ x5 < x6 → vp_in x6 7 ∧ B21 (ma S k1 (upd (S.2.1 k1) x6.toNatClampNeg a3)) x4 x5 (x6 + 1))
def mT_moved_e (l : Launch) (k1 : Nat) (a2 : Int32) (a3 : Int32) (post : Int32 → MS → Prop) (B21 : MS → Int32 → Int32 → Int32 → Prop) (S0 : MS) : Prop := mX_top l S0 k1 a2 (fun r4 S3 => mX_packOf l S3 k1 r4 (fun r6 S5 => B21 S5 r4 r6 r4))
set_option maxHeartbeats 4000000 in
set_option maxRecDepth 100000 in
theorem m_moved (l : Launch) (S0 : MS) (k1 : Nat) (a2 : Int32) (a3 : Int32) (hk1 : m7 k1) (post : Int32 → MS → Prop) (h : ∀ (B21 : MS → Int32 → Int32 → Int32 → Prop), (∀ (S : MS) (x4 : Int32) (x5 : Int32) (x6 : Int32), mT_moved_21 l k1 a2 a3 post B21 S x4 x5 x6 → B21 S x4 x5 x6) → mT_moved_e l k1 a2 a3 post B21 S0) : mX_moved l S0 k1 a2 a3 post := by
  refine msetI rfl (fun _ => Nat.le_of_ble_eq_true rfl) ?_
  intro p e s m args below meth c D ad cI cZ cL A Q hx hb hml hown hts hK hA hret H locs ls hP hD hS hl
  replace hl : lv_has ls 7 [(0, .ref (ad 0)), (1, .ref (ad k1)), (2, .int a2), (3, .int a3)] := hl
  obtain ⟨B21, hB21⟩ : ∃ B : MS → Int32 → Int32 → Int32 → Prop, B = (fun S x4 x5 x6 => ∀ (H : Heap) (locs : List Loc) (ls : Array Slot), va_P D vwCl (mW ad cI cZ cL S) H → va_D A (mW ad cI cZ cL S) → va_S A s.heap H locs → lv_has ls 7 [(1, .ref (ad k1)), (3, .int a3), (4, .int x4), (5, .int x5), (6, .int x6)] → W p l e (mrm 1 23) s m args below meth c H locs 0 0 Q (F0 m 21 ls [])) := ⟨_, rfl⟩
  have hT : mT_moved_e l k1 a2 a3 post B21 S0 := by
    refine h B21 ?_
    · clear hP hD hS hl H locs ls
      intro S x4 x5 x6 hT
      unfold mT_moved_21 at hT
      rw [hB21]
      intro H locs ls hP hD hS hl
      refine lv_iload hx hb dX9_moved_21 (lv_at hl 4 rfl) ?_
      refine lv_iload hx hb dX9_moved_23 (lv_at hl 3 rfl) ?_
      refine lv_icmp_gt (tgt := 39) hx hb dX9_moved_25 (by decide) (fun c1 => ?_) (fun c1 => ?_)
      · replace hT := hT.1 c1
        refine lv_iload hx hb dX9_moved_39 (lv_at hl 3 rfl) ?_
        refine lv_iload hx hb dX9_moved_41 (lv_at hl 2 rfl) ?_
        refine lv_isub hx hb dX9_moved_43 ?_
        refine lv_iconst (v := 1) hx hb dX9_moved_44 (by decide) ?_
        refine lv_iadd hx hb dX9_moved_45 ?_
        exact hret _ _ _ _ _ _ hP hD hS hT dX9_moved_46
      · replace hT := hT.2 c1
        refine lv_aload_n hx hb dX9_moved_28 rfl (lv_at hl 0 rfl) ?_
        refine lv_iload hx hb dX9_moved_29 (lv_at hl 4 rfl) ?_
        refine lv_iload_n hx hb dX9_moved_31 rfl (lv_at hl 1 rfl) ?_
        obtain ⟨hi2, hT⟩ := hT
        refine va_iast (f := S.2.1 k1) hx hb hK hP hD hS k1 0 (mat_sym hk1) rfl hi2 dX9_moved_32 (fun H locs hP hD hS => ?_)
        replace hP := msetP_sym hk1 hP
        replace hD := msetD_sym hk1 hD
        refine lv_iinc (v := x6 + 1) (lv' := [(6, .int (x6 + 1)), (1, .ref (ad k1)), (3, .int a3), (4, .int x4), (5, .int x5)]) hx hb dX9_moved_33 hl (k := 4) rfl rfl (by decide) rfl (fun ls hl => ?_)
        refine lv_goto (tgt := 21) hx hb dX9_moved_36 (by decide) ?_
        rw [hB21] at hT
        exact hT _ _ _ hP hD hS (lv_sub hl [1, 2, 3, 4, 0] rfl)
  unfold mT_moved_e at hT
  refine lv_aload_n hx hb dX9_moved_0 rfl (lv_at hl 0 rfl) ?_
  refine lv_aload_n hx hb dX9_moved_1 rfl (lv_at hl 1 rfl) ?_
  refine lv_iload_n hx hb dX9_moved_2 rfl (lv_at hl 2 rfl) ?_
  refine mcallI (n := 2) (rest := []) hT hx hb hml hown hts hK hA hP hD hS hl gg_153 hd_X9_top ⟨Nat.le_of_ble_eq_true rfl, Nat.le_of_ble_eq_true rfl⟩ rfl rfl (Nat.le_of_ble_eq_true rfl) dX9_moved_3 (Nat.zero_le _) (Nat.zero_le _) (fun r4 S3 H locs hP hD hS hT => ?_)
  refine lv_istore (lv' := [(4, .int r4), (0, .ref (ad 0)), (1, .ref (ad k1)), (2, .int a2), (3, .int a3)]) hx hb dX9_moved_6 hl (by decide) rfl (fun ls hl => ?_)
  refine lv_aload_n hx hb dX9_moved_8 rfl (lv_at hl 1 rfl) ?_
  refine lv_aload_n hx hb dX9_moved_9 rfl (lv_at hl 2 rfl) ?_
  refine lv_iload hx hb dX9_moved_10 (lv_at hl 0 rfl) ?_
  refine mcallI (n := 2) (rest := []) hT hx hb hml hown hts hK hA hP hD hS hl gg_156 hd_X9_packOf ⟨Nat.le_of_ble_eq_true rfl, Nat.le_of_ble_eq_true rfl⟩ rfl rfl (Nat.le_of_ble_eq_true rfl) dX9_moved_12 (Nat.zero_le _) (Nat.zero_le _) (fun r6 S5 H locs hP hD hS hT => ?_)
  refine lv_istore (lv' := [(5, .int r6), (4, .int r4), (0, .ref (ad 0)), (1, .ref (ad k1)), (2, .int a2), (3, .int a3)]) hx hb dX9_moved_15 hl (by decide) rfl (fun ls hl => ?_)
  refine lv_iload hx hb dX9_moved_17 (lv_at hl 1 rfl) ?_
  refine lv_istore (lv' := [(6, .int r4), (5, .int r6), (4, .int r4), (0, .ref (ad 0)), (1, .ref (ad k1)), (2, .int a2), (3, .int a3)]) hx hb dX9_moved_19 hl (by decide) rfl (fun ls hl => ?_)
  rw [hB21] at hT
  exact hT _ _ _ hP hD hS (lv_sub hl [4, 6, 2, 1, 0] rfl)
abbrev mX_yard (l : Launch) (S : MS) (a1 : Int32) (a2 : Int32) (post : Bool → MS → Prop) : Prop := mCtZ l yX9_yard cX9_yard 4 1 23 (fun ad => [.int a1, .int a2]) S post
def mT_yard_26 (l : Launch) (a1 : Int32) (a2 : Int32) (post : Bool → MS → Prop) (B26 : MS → Prop) (B44 : MS → Int32 → Prop) (B79 : MS → Int32 → Prop) (S : MS) : Prop := mX_not l S 1 (fun b2 S1 => post b2 S1)
def mT_yard_44 (l : Launch) (a1 : Int32) (a2 : Int32) (post : Bool → MS → Prop) (B26 : MS → Prop) (B44 : MS → Int32 → Prop) (B79 : MS → Int32 → Prop) (S : MS) (x3 : Int32) : Prop := (7 ≤ x3 → B79 S 0) ∧ (¬ 7 ≤ x3 → vp_in x3 7 ∧ vp_in x3 7 ∧ vp_in x3 7 ∧ B44 (ma (ma (ma S 1 (upd (S.2.1 1) x3.toNatClampNeg 0)) 2 (upd (S.2.1 2) x3.toNatClampNeg 0)) 3 (upd (S.2.1 3) x3.toNatClampNeg 0)) (x3 + 1))
def mT_yard_79 (l : Launch) (a1 : Int32) (a2 : Int32) (post : Bool → MS → Prop) (B26 : MS → Prop) (B44 : MS → Int32 → Prop) (B79 : MS → Int32 → Prop) (S : MS) (x3 : Int32) : Prop := (25 ≤ x3 → mX_nothingUndone l S (fun S8 => post true S8)) ∧ (¬ 25 ≤ x3 → vp_in x3 25 ∧ vp_in x3 25 ∧ B79 (ma (ma S 4 (upd (S.2.1 4) x3.toNatClampNeg 0)) 5 (upd (S.2.1 5) x3.toNatClampNeg (vp_nar .boolean 0))) (x3 + 1))
def mT_yard_e (l : Launch) (a1 : Int32) (a2 : Int32) (post : Bool → MS → Prop) (B26 : MS → Prop) (B44 : MS → Int32 → Prop) (B79 : MS → Int32 → Prop) (S0 : MS) : Prop := mX_in l (mf S0 3 0) a1 2 5 (fun b12 S11 => (bI b12 = 0 → B26 S11) ∧ (¬ bI b12 = 0 → mX_in l S11 a2 1 7 (fun b15 S14 => (¬ bI b15 = 0 → B44 (mf (mf S14 0 a1) 1 a2) 0) ∧ (bI b15 = 0 → B26 S14))))
set_option maxHeartbeats 4000000 in
set_option maxRecDepth 100000 in
theorem m_yard (l : Launch) (S0 : MS) (a1 : Int32) (a2 : Int32) (post : Bool → MS → Prop) (h : ∀ (B26 : MS → Prop) (B44 : MS → Int32 → Prop) (B79 : MS → Int32 → Prop), (∀ (S : MS) , mT_yard_26 l a1 a2 post B26 B44 B79 S → B26 S ) → (∀ (S : MS) (x3 : Int32), mT_yard_44 l a1 a2 post B26 B44 B79 S x3 → B44 S x3) → (∀ (S : MS) (x3 : Int32), mT_yard_79 l a1 a2 post B26 B44 B79 S x3 → B79 S x3) → mT_yard_e l a1 a2 post B26 B44 B79 S0) : mX_yard l S0 a1 a2 post := by
  refine msetZ rfl (fun _ => Nat.le_of_ble_eq_true rfl) ?_
  intro p e s m args below meth c D ad cI cZ cL A Q hx hb hml hown hts hK hA hret H locs ls hP hD hS hl
  replace hl : lv_has ls 4 [(0, .ref (ad 0)), (1, .int a1), (2, .int a2)] := hl
  obtain ⟨B26, hB26⟩ : ∃ B : MS → Prop, B = (fun S => ∀ (H : Heap) (locs : List Loc) (ls : Array Slot), va_P D vwCl (mW ad cI cZ cL S) H → va_D A (mW ad cI cZ cL S) → va_S A s.heap H locs → lv_has ls 4 [(0, .ref (ad 0))] → W p l e (mrm 1 23) s m args below meth c H locs 0 0 Q (F0 m 26 ls [])) := ⟨_, rfl⟩
  obtain ⟨B44, hB44⟩ : ∃ B : MS → Int32 → Prop, B = (fun S x3 => ∀ (H : Heap) (locs : List Loc) (ls : Array Slot), va_P D vwCl (mW ad cI cZ cL S) H → va_D A (mW ad cI cZ cL S) → va_S A s.heap H locs → lv_has ls 4 [(0, .ref (ad 0)), (3, .int x3)] → W p l e (mrm 1 23) s m args below meth c H locs 0 0 Q (F0 m 44 ls [])) := ⟨_, rfl⟩
  obtain ⟨B79, hB79⟩ : ∃ B : MS → Int32 → Prop, B = (fun S x3 => ∀ (H : Heap) (locs : List Loc) (ls : Array Slot), va_P D vwCl (mW ad cI cZ cL S) H → va_D A (mW ad cI cZ cL S) → va_S A s.heap H locs → lv_has ls 4 [(0, .ref (ad 0)), (3, .int x3)] → W p l e (mrm 1 23) s m args below meth c H locs 0 0 Q (F0 m 79 ls [])) := ⟨_, rfl⟩
  have hT : mT_yard_e l a1 a2 post B26 B44 B79 S0 := by
    refine h B26 B44 B79 ?_ ?_ ?_
    · clear hP hD hS hl H locs ls
      intro S hT
      unfold mT_yard_26 at hT
      rw [hB26]
      intro H locs ls hP hD hS hl
      refine lv_aload_n hx hb dX9_yard_26 rfl (lv_at hl 0 rfl) ?_
      refine lv_iconst (v := 1) hx hb dX9_yard_27 (by decide) ?_
      refine mcallZ (n := 1) (rest := []) hT hx hb hml hown hts hK hA hP hD hS hl gg_159 hd_X9_not ⟨Nat.le_of_ble_eq_true rfl, Nat.le_of_ble_eq_true rfl⟩ rfl rfl (Nat.le_of_ble_eq_true rfl) dX9_yard_28 (Nat.zero_le _) (Nat.zero_le _) (fun b2 S1 H locs hP hD hS hT => ?_)
      exact hret b2 _ _ _ _ _ hP hD hS hT dX9_yard_31
    · clear hP hD hS hl H locs ls
      intro S x3 hT
      unfold mT_yard_44 at hT
      rw [hB44]
      intro H locs ls hP hD hS hl
      refine lv_iload_n hx hb dX9_yard_44 rfl (lv_at hl 1 rfl) ?_
      refine lv_bipush (v := 7) hx hb dX9_yard_45 (by decide) ?_
      refine lv_icmp_ge (tgt := 77) hx hb dX9_yard_47 (by decide) (fun c3 => ?_) (fun c3 => ?_)
      · replace hT := hT.1 c3
        refine lv_iconst (v := 0) hx hb dX9_yard_77 (by decide) ?_
        refine lv_istore_n (lv' := [(3, .int 0), (0, .ref (ad 0))]) hx hb dX9_yard_78 rfl hl (by decide) rfl (fun ls hl => ?_)
        rw [hB79] at hT
        exact hT _ _ _ hP hD hS (lv_sub hl [1, 0] rfl)
      · replace hT := hT.2 c3
        refine lv_aload_n hx hb dX9_yard_50 rfl (lv_at hl 0 rfl) ?_
        refine mg_kinds hx hb hts hown hK hP dX9_yard_51 ?_
        refine lv_iload_n hx hb dX9_yard_54 rfl (lv_at hl 1 rfl) ?_
        refine lv_iconst (v := 0) hx hb dX9_yard_55 (by decide) ?_
        obtain ⟨hi4, hT⟩ := hT
        refine va_iast (f := S.2.1 1) hx hb hK hP hD hS 1 0 mat_1 rfl hi4 dX9_yard_56 (fun H locs hP hD hS => ?_)
        replace hP := msetP_1 hP
        replace hD := msetD_1 hD
        refine lv_aload_n hx hb dX9_yard_57 rfl (lv_at hl 0 rfl) ?_
        refine mg_stand hx hb hts hown hK hP dX9_yard_58 ?_
        refine lv_iload_n hx hb dX9_yard_61 rfl (lv_at hl 1 rfl) ?_
        refine lv_iconst (v := 0) hx hb dX9_yard_62 (by decide) ?_
        obtain ⟨hi5, hT⟩ := hT
        refine va_iast (f := S.2.1 2) hx hb hK hP hD hS 2 0 mat_2 rfl hi5 dX9_yard_63 (fun H locs hP hD hS => ?_)
        replace hP := msetP_2 hP
        replace hD := msetD_2 hD
        refine lv_aload_n hx hb dX9_yard_64 rfl (lv_at hl 0 rfl) ?_
        refine mg_goal hx hb hts hown hK hP dX9_yard_65 ?_
        refine lv_iload_n hx hb dX9_yard_68 rfl (lv_at hl 1 rfl) ?_
        refine lv_iconst (v := 0) hx hb dX9_yard_69 (by decide) ?_
        obtain ⟨hi6, hT⟩ := hT
        refine va_iast (f := S.2.1 3) hx hb hK hP hD hS 3 0 mat_3 rfl hi6 dX9_yard_70 (fun H locs hP hD hS => ?_)
        replace hP := msetP_3 hP
        replace hD := msetD_3 hD
        refine lv_iinc (v := x3 + 1) (lv' := [(3, .int (x3 + 1)), (0, .ref (ad 0))]) hx hb dX9_yard_71 hl (k := 1) rfl rfl (by decide) rfl (fun ls hl => ?_)
        refine lv_goto (tgt := 44) hx hb dX9_yard_74 (by decide) ?_
        rw [hB44] at hT
        exact hT _ _ _ hP hD hS (lv_sub hl [1, 0] rfl)
    · clear hP hD hS hl H locs ls
      intro S x3 hT
      unfold mT_yard_79 at hT
      rw [hB79]
      intro H locs ls hP hD hS hl
      refine lv_iload_n hx hb dX9_yard_79 rfl (lv_at hl 1 rfl) ?_
      refine lv_bipush (v := 25) hx hb dX9_yard_80 (by decide) ?_
      refine lv_icmp_ge (tgt := 105) hx hb dX9_yard_82 (by decide) (fun c7 => ?_) (fun c7 => ?_)
      · replace hT := hT.1 c7
        refine lv_aload_n hx hb dX9_yard_105 rfl (lv_at hl 0 rfl) ?_
        refine mcallV (n := 0) (rest := []) hT hx hb hml hown hts hK hA hP hD hS hl gg_163 hd_X9_nothingUndone ⟨Nat.le_of_ble_eq_true rfl, Nat.le_of_ble_eq_true rfl⟩ rfl rfl (Nat.le_of_ble_eq_true rfl) dX9_yard_106 (Nat.zero_le _) (Nat.zero_le _) (fun S8 H locs hP hD hS hT => ?_)
        refine lv_iconst (v := 1) hx hb dX9_yard_109 (by decide) ?_
        exact hret true _ _ _ _ _ hP hD hS hT dX9_yard_110
      · replace hT := hT.2 c7
        refine lv_aload_n hx hb dX9_yard_85 rfl (lv_at hl 0 rfl) ?_
        refine mg_costs hx hb hts hown hK hP dX9_yard_86 ?_
        refine lv_iload_n hx hb dX9_yard_89 rfl (lv_at hl 1 rfl) ?_
        refine lv_iconst (v := 0) hx hb dX9_yard_90 (by decide) ?_
        obtain ⟨hi9, hT⟩ := hT
        refine va_iast (f := S.2.1 4) hx hb hK hP hD hS 4 0 mat_4 rfl hi9 dX9_yard_91 (fun H locs hP hD hS => ?_)
        replace hP := msetP_4 hP
        replace hD := msetD_4 hD
        refine lv_aload_n hx hb dX9_yard_92 rfl (lv_at hl 0 rfl) ?_
        refine mg_isStrong hx hb hts hown hK hP dX9_yard_93 ?_
        refine lv_iload_n hx hb dX9_yard_96 rfl (lv_at hl 1 rfl) ?_
        refine lv_iconst (v := 0) hx hb dX9_yard_97 (by decide) ?_
        obtain ⟨hi10, hT⟩ := hT
        refine va_zast (f := S.2.1 5) hx hb hK hP hD hS 5 1 mat_5 rfl hi10 dX9_yard_98 (fun H locs hP hD hS => ?_)
        replace hP := msetP_5 hP
        replace hD := msetD_5 hD
        refine lv_iinc (v := x3 + 1) (lv' := [(3, .int (x3 + 1)), (0, .ref (ad 0))]) hx hb dX9_yard_99 hl (k := 1) rfl rfl (by decide) rfl (fun ls hl => ?_)
        refine lv_goto (tgt := 79) hx hb dX9_yard_102 (by decide) ?_
        rw [hB79] at hT
        exact hT _ _ _ hP hD hS (lv_sub hl [1, 0] rfl)
  unfold mT_yard_e at hT
  refine lv_aload_n hx hb dX9_yard_0 rfl (lv_at hl 0 rfl) ?_
  refine lv_iconst (v := 0) hx hb dX9_yard_1 (by decide) ?_
  refine mp_thrown hx hb hts hown hK hP hD hS dX9_yard_2 (fun H locs hP hD hS => ?_)
  refine lv_aload_n hx hb dX9_yard_5 rfl (lv_at hl 0 rfl) ?_
  refine lv_iload_n hx hb dX9_yard_6 rfl (lv_at hl 1 rfl) ?_
  refine lv_iconst (v := 2) hx hb dX9_yard_7 (by decide) ?_
  refine lv_iconst (v := 5) hx hb dX9_yard_8 (by decide) ?_
  refine mcallZ (n := 3) (rest := []) hT hx hb hml hown hts hK hA hP hD hS hl gg_139 hd_X9_in ⟨Nat.le_of_ble_eq_true rfl, Nat.le_of_ble_eq_true rfl⟩ rfl rfl (Nat.le_of_ble_eq_true rfl) dX9_yard_9 (Nat.zero_le _) (Nat.zero_le _) (fun b12 S11 H locs hP hD hS hT => ?_)
  refine lv_if_eq (tgt := 26) hx hb dX9_yard_12 (by decide) (fun c13 => ?_) (fun c13 => ?_)
  · replace hT := hT.1 c13
    rw [hB26] at hT
    exact hT _ _ _ hP hD hS (lv_sub hl [0] rfl)
  · replace hT := hT.2 c13
    refine lv_aload_n hx hb dX9_yard_15 rfl (lv_at hl 0 rfl) ?_
    refine lv_iload_n hx hb dX9_yard_16 rfl (lv_at hl 2 rfl) ?_
    refine lv_iconst (v := 1) hx hb dX9_yard_17 (by decide) ?_
    refine lv_bipush (v := 7) hx hb dX9_yard_18 (by decide) ?_
    refine mcallZ (n := 3) (rest := []) hT hx hb hml hown hts hK hA hP hD hS hl gg_139 hd_X9_in ⟨Nat.le_of_ble_eq_true rfl, Nat.le_of_ble_eq_true rfl⟩ rfl rfl (Nat.le_of_ble_eq_true rfl) dX9_yard_20 (Nat.zero_le _) (Nat.zero_le _) (fun b15 S14 H locs hP hD hS hT => ?_)
    refine lv_if_ne (tgt := 32) hx hb dX9_yard_23 (by decide) (fun c16 => ?_) (fun c16 => ?_)
    · replace hT := hT.1 c16
      refine lv_aload_n hx hb dX9_yard_32 rfl (lv_at hl 0 rfl) ?_
      refine lv_iload_n hx hb dX9_yard_33 rfl (lv_at hl 1 rfl) ?_
      refine mp_pegs hx hb hts hown hK hP hD hS dX9_yard_34 (fun H locs hP hD hS => ?_)
      refine lv_aload_n hx hb dX9_yard_37 rfl (lv_at hl 0 rfl) ?_
      refine lv_iload_n hx hb dX9_yard_38 rfl (lv_at hl 2 rfl) ?_
      refine mp_discs hx hb hts hown hK hP hD hS dX9_yard_39 (fun H locs hP hD hS => ?_)
      refine lv_iconst (v := 0) hx hb dX9_yard_42 (by decide) ?_
      refine lv_istore_n (lv' := [(3, .int 0), (0, .ref (ad 0)), (1, .int a1), (2, .int a2)]) hx hb dX9_yard_43 rfl hl (by decide) rfl (fun ls hl => ?_)
      rw [hB44] at hT
      exact hT _ _ _ hP hD hS (lv_sub hl [1, 0] rfl)
    · replace hT := hT.2 c16
      rw [hB26] at hT
      exact hT _ _ _ hP hD hS (lv_sub hl [0] rfl)
abbrev mX_kind (l : Launch) (S : MS) (a1 : Int32) (a2 : Int32) (post : Bool → MS → Prop) : Prop := mCtZ l yX9_kind cX9_kind 4 2 46 (fun ad => [.int a1, .int a2]) S post
def mT_kind_30 (l : Launch) (a1 : Int32) (a2 : Int32) (post : Bool → MS → Prop) (B30 : MS → Prop) (B72 : MS → Int32 → Prop) (S : MS) : Prop := mX_not l S 1 (fun b2 S1 => post b2 S1)
def mT_kind_72 (l : Launch) (a1 : Int32) (a2 : Int32) (post : Bool → MS → Prop) (B30 : MS → Prop) (B72 : MS → Int32 → Prop) (S : MS) (x3 : Int32) : Prop := vp_in a1 7 ∧ mX_not l (ma S 1 (upd (S.2.1 1) a1.toNatClampNeg x3)) 3 (fun b5 S4 => post b5 S4)
def mT_kind_e (l : Launch) (a1 : Int32) (a2 : Int32) (post : Bool → MS → Prop) (B30 : MS → Prop) (B72 : MS → Int32 → Prop) (S0 : MS) : Prop := mX_in l (mf S0 3 0) a1 0 ((S0.1 1) - 1) (fun b7 S6 => (bI b7 = 0 → B30 S6) ∧ (¬ bI b7 = 0 → mX_in l S6 a2 0 3 (fun b10 S9 => (¬ bI b10 = 0 → vp_in a1 7 ∧ ∀ v3_13 : Int32, v3_13 = S9.2.1 1 a1.toNatClampNeg → vp_in a1 7 ∧ mX_isRight l (ma S9 1 (upd (S9.2.1 1) a1.toNatClampNeg a2)) 2 (fun b16 S15 => (bI b16 = 0 → B72 S15 v3_13) ∧ (¬ bI b16 = 0 → mX_isRight l S15 3 (fun b19 S18 => (¬ bI b19 = 0 → mX_nothingUndone l S18 (fun S21 => post true S21)) ∧ (bI b19 = 0 → B72 S18 v3_13))))) ∧ (bI b10 = 0 → B30 S9))))
set_option maxHeartbeats 4000000 in
set_option maxRecDepth 100000 in
theorem m_kind (l : Launch) (S0 : MS) (a1 : Int32) (a2 : Int32) (post : Bool → MS → Prop) (h : ∀ (B30 : MS → Prop) (B72 : MS → Int32 → Prop), (∀ (S : MS) , mT_kind_30 l a1 a2 post B30 B72 S → B30 S ) → (∀ (S : MS) (x3 : Int32), mT_kind_72 l a1 a2 post B30 B72 S x3 → B72 S x3) → mT_kind_e l a1 a2 post B30 B72 S0) : mX_kind l S0 a1 a2 post := by
  refine msetZ rfl (fun _ => Nat.le_of_ble_eq_true rfl) ?_
  intro p e s m args below meth c D ad cI cZ cL A Q hx hb hml hown hts hK hA hret H locs ls hP hD hS hl
  replace hl : lv_has ls 4 [(0, .ref (ad 0)), (1, .int a1), (2, .int a2)] := hl
  obtain ⟨B30, hB30⟩ : ∃ B : MS → Prop, B = (fun S => ∀ (H : Heap) (locs : List Loc) (ls : Array Slot), va_P D vwCl (mW ad cI cZ cL S) H → va_D A (mW ad cI cZ cL S) → va_S A s.heap H locs → lv_has ls 4 [(0, .ref (ad 0))] → W p l e (mrm 2 46) s m args below meth c H locs 0 0 Q (F0 m 30 ls [])) := ⟨_, rfl⟩
  obtain ⟨B72, hB72⟩ : ∃ B : MS → Int32 → Prop, B = (fun S x3 => ∀ (H : Heap) (locs : List Loc) (ls : Array Slot), va_P D vwCl (mW ad cI cZ cL S) H → va_D A (mW ad cI cZ cL S) → va_S A s.heap H locs → lv_has ls 4 [(0, .ref (ad 0)), (1, .int a1), (3, .int x3)] → W p l e (mrm 2 46) s m args below meth c H locs 0 0 Q (F0 m 72 ls [])) := ⟨_, rfl⟩
  have hT : mT_kind_e l a1 a2 post B30 B72 S0 := by
    refine h B30 B72 ?_ ?_
    · clear hP hD hS hl H locs ls
      intro S hT
      unfold mT_kind_30 at hT
      rw [hB30]
      intro H locs ls hP hD hS hl
      refine lv_aload_n hx hb dX9_kind_30 rfl (lv_at hl 0 rfl) ?_
      refine lv_iconst (v := 1) hx hb dX9_kind_31 (by decide) ?_
      refine mcallZ (n := 1) (rest := []) hT hx hb hml hown hts hK hA hP hD hS hl gg_159 hd_X9_not ⟨Nat.le_of_ble_eq_true rfl, Nat.le_of_ble_eq_true rfl⟩ rfl rfl (Nat.le_of_ble_eq_true rfl) dX9_kind_32 (Nat.zero_le _) (Nat.zero_le _) (fun b2 S1 H locs hP hD hS hT => ?_)
      exact hret b2 _ _ _ _ _ hP hD hS hT dX9_kind_35
    · clear hP hD hS hl H locs ls
      intro S x3 hT
      unfold mT_kind_72 at hT
      rw [hB72]
      intro H locs ls hP hD hS hl
      refine lv_aload_n hx hb dX9_kind_72 rfl (lv_at hl 0 rfl) ?_
      refine mg_kinds hx hb hts hown hK hP dX9_kind_73 ?_
      refine lv_iload_n hx hb dX9_kind_76 rfl (lv_at hl 1 rfl) ?_
      refine lv_iload_n hx hb dX9_kind_77 rfl (lv_at hl 2 rfl) ?_
      obtain ⟨hi3, hT⟩ := hT
      refine va_iast (f := S.2.1 1) hx hb hK hP hD hS 1 0 mat_1 rfl hi3 dX9_kind_78 (fun H locs hP hD hS => ?_)
      replace hP := msetP_1 hP
      replace hD := msetD_1 hD
      refine lv_aload_n hx hb dX9_kind_79 rfl (lv_at hl 0 rfl) ?_
      refine lv_iconst (v := 3) hx hb dX9_kind_80 (by decide) ?_
      refine mcallZ (n := 1) (rest := []) hT hx hb hml hown hts hK hA hP hD hS hl gg_159 hd_X9_not ⟨Nat.le_of_ble_eq_true rfl, Nat.le_of_ble_eq_true rfl⟩ rfl rfl (Nat.le_of_ble_eq_true rfl) dX9_kind_81 (Nat.zero_le _) (Nat.zero_le _) (fun b5 S4 H locs hP hD hS hT => ?_)
      exact hret b5 _ _ _ _ _ hP hD hS hT dX9_kind_84
  unfold mT_kind_e at hT
  refine lv_aload_n hx hb dX9_kind_0 rfl (lv_at hl 0 rfl) ?_
  refine lv_iconst (v := 0) hx hb dX9_kind_1 (by decide) ?_
  refine mp_thrown hx hb hts hown hK hP hD hS dX9_kind_2 (fun H locs hP hD hS => ?_)
  refine lv_aload_n hx hb dX9_kind_5 rfl (lv_at hl 0 rfl) ?_
  refine lv_iload_n hx hb dX9_kind_6 rfl (lv_at hl 1 rfl) ?_
  refine lv_iconst (v := 0) hx hb dX9_kind_7 (by decide) ?_
  refine lv_aload_n hx hb dX9_kind_8 rfl (lv_at hl 0 rfl) ?_
  refine mg_discs (v := S0.1 1) hx hb hts hown hK hP rfl dX9_kind_9 ?_
  refine lv_iconst (v := 1) hx hb dX9_kind_12 (by decide) ?_
  refine lv_isub hx hb dX9_kind_13 ?_
  refine mcallZ (n := 3) (rest := []) hT hx hb hml hown hts hK hA hP hD hS hl gg_139 hd_X9_in ⟨Nat.le_of_ble_eq_true rfl, Nat.le_of_ble_eq_true rfl⟩ rfl rfl (Nat.le_of_ble_eq_true rfl) dX9_kind_14 (Nat.zero_le _) (Nat.zero_le _) (fun b7 S6 H locs hP hD hS hT => ?_)
  refine lv_if_eq (tgt := 30) hx hb dX9_kind_17 (by decide) (fun c8 => ?_) (fun c8 => ?_)
  · replace hT := hT.1 c8
    rw [hB30] at hT
    exact hT _ _ _ hP hD hS (lv_sub hl [0] rfl)
  · replace hT := hT.2 c8
    refine lv_aload_n hx hb dX9_kind_20 rfl (lv_at hl 0 rfl) ?_
    refine lv_iload_n hx hb dX9_kind_21 rfl (lv_at hl 2 rfl) ?_
    refine lv_iconst (v := 0) hx hb dX9_kind_22 (by decide) ?_
    refine lv_iconst (v := 3) hx hb dX9_kind_23 (by decide) ?_
    refine mcallZ (n := 3) (rest := []) hT hx hb hml hown hts hK hA hP hD hS hl gg_139 hd_X9_in ⟨Nat.le_of_ble_eq_true rfl, Nat.le_of_ble_eq_true rfl⟩ rfl rfl (Nat.le_of_ble_eq_true rfl) dX9_kind_24 (Nat.zero_le _) (Nat.zero_le _) (fun b10 S9 H locs hP hD hS hT => ?_)
    refine lv_if_ne (tgt := 36) hx hb dX9_kind_27 (by decide) (fun c11 => ?_) (fun c11 => ?_)
    · replace hT := hT.1 c11
      refine lv_aload_n hx hb dX9_kind_36 rfl (lv_at hl 0 rfl) ?_
      refine mg_kinds hx hb hts hown hK hP dX9_kind_37 ?_
      refine lv_iload_n hx hb dX9_kind_40 rfl (lv_at hl 1 rfl) ?_
      obtain ⟨hi12, hT⟩ := hT
      refine va_iald (f := S9.2.1 1) hx hb hK hP 1 0 mat_1 rfl hi12 dX9_kind_41 ?_
      refine lv_topi (fun v3_13 ev3_13 => ?_)
      replace hT := hT v3_13 ev3_13
      refine lv_istore_n (lv' := [(3, .int v3_13), (0, .ref (ad 0)), (1, .int a1), (2, .int a2)]) hx hb dX9_kind_42 rfl hl (by decide) rfl (fun ls hl => ?_)
      refine lv_aload_n hx hb dX9_kind_43 rfl (lv_at hl 1 rfl) ?_
      refine mg_kinds hx hb hts hown hK hP dX9_kind_44 ?_
      refine lv_iload_n hx hb dX9_kind_47 rfl (lv_at hl 2 rfl) ?_
      refine lv_iload_n hx hb dX9_kind_48 rfl (lv_at hl 3 rfl) ?_
      obtain ⟨hi14, hT⟩ := hT
      refine va_iast (f := S9.2.1 1) hx hb hK hP hD hS 1 0 mat_1 rfl hi14 dX9_kind_49 (fun H locs hP hD hS => ?_)
      replace hP := msetP_1 hP
      replace hD := msetD_1 hD
      refine lv_aload_n hx hb dX9_kind_50 rfl (lv_at hl 1 rfl) ?_
      refine lv_aload_n hx hb dX9_kind_51 rfl (lv_at hl 1 rfl) ?_
      refine mg_stand hx hb hts hown hK hP dX9_kind_52 ?_
      refine mcallZ (n := 1) (rest := []) hT hx hb hml hown hts hK hA hP hD hS hl gg_166 hd_X9_isRight ⟨Nat.le_of_ble_eq_true rfl, Nat.le_of_ble_eq_true rfl⟩ rfl rfl (Nat.le_of_ble_eq_true rfl) dX9_kind_55 (Nat.zero_le _) (Nat.zero_le _) (fun b16 S15 H locs hP hD hS hT => ?_)
      refine lv_if_eq (tgt := 72) hx hb dX9_kind_58 (by decide) (fun c17 => ?_) (fun c17 => ?_)
      · replace hT := hT.1 c17
        rw [hB72] at hT
        exact hT _ _ _ hP hD hS (lv_sub hl [1, 2, 0] rfl)
      · replace hT := hT.2 c17
        refine lv_aload_n hx hb dX9_kind_61 rfl (lv_at hl 1 rfl) ?_
        refine lv_aload_n hx hb dX9_kind_62 rfl (lv_at hl 1 rfl) ?_
        refine mg_goal hx hb hts hown hK hP dX9_kind_63 ?_
        refine mcallZ (n := 1) (rest := []) hT hx hb hml hown hts hK hA hP hD hS hl gg_166 hd_X9_isRight ⟨Nat.le_of_ble_eq_true rfl, Nat.le_of_ble_eq_true rfl⟩ rfl rfl (Nat.le_of_ble_eq_true rfl) dX9_kind_66 (Nat.zero_le _) (Nat.zero_le _) (fun b19 S18 H locs hP hD hS hT => ?_)
        refine lv_if_ne (tgt := 85) hx hb dX9_kind_69 (by decide) (fun c20 => ?_) (fun c20 => ?_)
        · replace hT := hT.1 c20
          refine lv_aload_n hx hb dX9_kind_85 rfl (lv_at hl 1 rfl) ?_
          refine mcallV (n := 0) (rest := []) hT hx hb hml hown hts hK hA hP hD hS hl gg_163 hd_X9_nothingUndone ⟨Nat.le_of_ble_eq_true rfl, Nat.le_of_ble_eq_true rfl⟩ rfl rfl (Nat.le_of_ble_eq_true rfl) dX9_kind_86 (Nat.zero_le _) (Nat.zero_le _) (fun S21 H locs hP hD hS hT => ?_)
          refine lv_iconst (v := 1) hx hb dX9_kind_89 (by decide) ?_
          exact hret true _ _ _ _ _ hP hD hS hT dX9_kind_90
        · replace hT := hT.2 c20
          rw [hB72] at hT
          exact hT _ _ _ hP hD hS (lv_sub hl [1, 2, 0] rfl)
    · replace hT := hT.2 c11
      rw [hB30] at hT
      exact hT _ _ _ hP hD hS (lv_sub hl [0] rfl)
abbrev mX_lane (l : Launch) (S : MS) (a1 : Int32) (a2 : Int32) (a3 : Int32) (a4 : Bool) (post : Bool → MS → Prop) : Prop := mCtZ l yX9_lane cX9_lane 5 2 44 (fun ad => [.int a1, .int a2, .int a3, .int (bI a4)]) S post
def mT_lane_37 (l : Launch) (a1 : Int32) (a2 : Int32) (a3 : Int32) (a4 : Bool) (post : Bool → MS → Prop) (B37 : MS → Prop) (S : MS) : Prop := mX_not l S 1 (fun b2 S1 => post b2 S1)
def mT_lane_e (l : Launch) (a1 : Int32) (a2 : Int32) (a3 : Int32) (a4 : Bool) (post : Bool → MS → Prop) (B37 : MS → Prop) (S0 : MS) : Prop := mX_isPeg l (mf S0 3 0) a1 (fun b4 S3 => (bI b4 = 0 → B37 S3) ∧ (¬ bI b4 = 0 → mX_isPeg l S3 a2 (fun b7 S6 => (bI b7 = 0 → B37 S6) ∧ (¬ bI b7 = 0 → (a1 = a2 → B37 S6) ∧ (¬ a1 = a2 → mX_in l S6 a3 0 100 (fun b11 S10 => (¬ bI b11 = 0 → vp_in ((5 * a1) + a2) 25 ∧ vp_in ((5 * a1) + a2) 25 ∧ mX_nothingUndone l (ma (ma S10 4 (upd (S10.2.1 4) ((5 * a1) + a2).toNatClampNeg a3)) 5 (upd (S10.2.1 5) ((5 * a1) + a2).toNatClampNeg (vp_nar .boolean (bI a4)))) (fun S15 => post true S15)) ∧ (bI b11 = 0 → B37 S10)))))))
set_option maxHeartbeats 4000000 in
set_option maxRecDepth 100000 in
theorem m_lane (l : Launch) (S0 : MS) (a1 : Int32) (a2 : Int32) (a3 : Int32) (a4 : Bool) (post : Bool → MS → Prop) (h : ∀ (B37 : MS → Prop), (∀ (S : MS) , mT_lane_37 l a1 a2 a3 a4 post B37 S → B37 S ) → mT_lane_e l a1 a2 a3 a4 post B37 S0) : mX_lane l S0 a1 a2 a3 a4 post := by
  refine msetZ rfl (fun _ => Nat.le_of_ble_eq_true rfl) ?_
  intro p e s m args below meth c D ad cI cZ cL A Q hx hb hml hown hts hK hA hret H locs ls hP hD hS hl
  replace hl : lv_has ls 5 [(0, .ref (ad 0)), (1, .int a1), (2, .int a2), (3, .int a3), (4, .int (bI a4))] := hl
  obtain ⟨B37, hB37⟩ : ∃ B : MS → Prop, B = (fun S => ∀ (H : Heap) (locs : List Loc) (ls : Array Slot), va_P D vwCl (mW ad cI cZ cL S) H → va_D A (mW ad cI cZ cL S) → va_S A s.heap H locs → lv_has ls 5 [(0, .ref (ad 0))] → W p l e (mrm 2 44) s m args below meth c H locs 0 0 Q (F0 m 37 ls [])) := ⟨_, rfl⟩
  have hT : mT_lane_e l a1 a2 a3 a4 post B37 S0 := by
    refine h B37 ?_
    · clear hP hD hS hl H locs ls
      intro S hT
      unfold mT_lane_37 at hT
      rw [hB37]
      intro H locs ls hP hD hS hl
      refine lv_aload_n hx hb dX9_lane_37 rfl (lv_at hl 0 rfl) ?_
      refine lv_iconst (v := 1) hx hb dX9_lane_38 (by decide) ?_
      refine mcallZ (n := 1) (rest := []) hT hx hb hml hown hts hK hA hP hD hS hl gg_159 hd_X9_not ⟨Nat.le_of_ble_eq_true rfl, Nat.le_of_ble_eq_true rfl⟩ rfl rfl (Nat.le_of_ble_eq_true rfl) dX9_lane_39 (Nat.zero_le _) (Nat.zero_le _) (fun b2 S1 H locs hP hD hS hT => ?_)
      exact hret b2 _ _ _ _ _ hP hD hS hT dX9_lane_42
  unfold mT_lane_e at hT
  refine lv_aload_n hx hb dX9_lane_0 rfl (lv_at hl 0 rfl) ?_
  refine lv_iconst (v := 0) hx hb dX9_lane_1 (by decide) ?_
  refine mp_thrown hx hb hts hown hK hP hD hS dX9_lane_2 (fun H locs hP hD hS => ?_)
  refine lv_aload_n hx hb dX9_lane_5 rfl (lv_at hl 0 rfl) ?_
  refine lv_iload_n hx hb dX9_lane_6 rfl (lv_at hl 1 rfl) ?_
  refine mcallZ (n := 1) (rest := []) hT hx hb hml hown hts hK hA hP hD hS hl gg_170 hd_X9_isPeg ⟨Nat.le_of_ble_eq_true rfl, Nat.le_of_ble_eq_true rfl⟩ rfl rfl (Nat.le_of_ble_eq_true rfl) dX9_lane_7 (Nat.zero_le _) (Nat.zero_le _) (fun b4 S3 H locs hP hD hS hT => ?_)
  refine lv_if_eq (tgt := 37) hx hb dX9_lane_10 (by decide) (fun c5 => ?_) (fun c5 => ?_)
  · replace hT := hT.1 c5
    rw [hB37] at hT
    exact hT _ _ _ hP hD hS (lv_sub hl [0] rfl)
  · replace hT := hT.2 c5
    refine lv_aload_n hx hb dX9_lane_13 rfl (lv_at hl 0 rfl) ?_
    refine lv_iload_n hx hb dX9_lane_14 rfl (lv_at hl 2 rfl) ?_
    refine mcallZ (n := 1) (rest := []) hT hx hb hml hown hts hK hA hP hD hS hl gg_170 hd_X9_isPeg ⟨Nat.le_of_ble_eq_true rfl, Nat.le_of_ble_eq_true rfl⟩ rfl rfl (Nat.le_of_ble_eq_true rfl) dX9_lane_15 (Nat.zero_le _) (Nat.zero_le _) (fun b7 S6 H locs hP hD hS hT => ?_)
    refine lv_if_eq (tgt := 37) hx hb dX9_lane_18 (by decide) (fun c8 => ?_) (fun c8 => ?_)
    · replace hT := hT.1 c8
      rw [hB37] at hT
      exact hT _ _ _ hP hD hS (lv_sub hl [0] rfl)
    · replace hT := hT.2 c8
      refine lv_iload_n hx hb dX9_lane_21 rfl (lv_at hl 1 rfl) ?_
      refine lv_iload_n hx hb dX9_lane_22 rfl (lv_at hl 2 rfl) ?_
      refine lv_icmp_eq (tgt := 37) hx hb dX9_lane_23 (by decide) (fun c9 => ?_) (fun c9 => ?_)
      · replace hT := hT.1 c9
        rw [hB37] at hT
        exact hT _ _ _ hP hD hS (lv_sub hl [0] rfl)
      · replace hT := hT.2 c9
        refine lv_aload_n hx hb dX9_lane_26 rfl (lv_at hl 0 rfl) ?_
        refine lv_iload_n hx hb dX9_lane_27 rfl (lv_at hl 3 rfl) ?_
        refine lv_iconst (v := 0) hx hb dX9_lane_28 (by decide) ?_
        refine lv_bipush (v := 100) hx hb dX9_lane_29 (by decide) ?_
        refine mcallZ (n := 3) (rest := []) hT hx hb hml hown hts hK hA hP hD hS hl gg_139 hd_X9_in ⟨Nat.le_of_ble_eq_true rfl, Nat.le_of_ble_eq_true rfl⟩ rfl rfl (Nat.le_of_ble_eq_true rfl) dX9_lane_31 (Nat.zero_le _) (Nat.zero_le _) (fun b11 S10 H locs hP hD hS hT => ?_)
        refine lv_if_ne (tgt := 43) hx hb dX9_lane_34 (by decide) (fun c12 => ?_) (fun c12 => ?_)
        · replace hT := hT.1 c12
          refine lv_aload_n hx hb dX9_lane_43 rfl (lv_at hl 0 rfl) ?_
          refine mg_costs hx hb hts hown hK hP dX9_lane_44 ?_
          refine lv_iconst (v := 5) hx hb dX9_lane_47 (by decide) ?_
          refine lv_iload_n hx hb dX9_lane_48 rfl (lv_at hl 1 rfl) ?_
          refine lv_imul hx hb dX9_lane_49 ?_
          refine lv_iload_n hx hb dX9_lane_50 rfl (lv_at hl 2 rfl) ?_
          refine lv_iadd hx hb dX9_lane_51 ?_
          refine lv_iload_n hx hb dX9_lane_52 rfl (lv_at hl 3 rfl) ?_
          obtain ⟨hi13, hT⟩ := hT
          refine va_iast (f := S10.2.1 4) hx hb hK hP hD hS 4 0 mat_4 rfl hi13 dX9_lane_53 (fun H locs hP hD hS => ?_)
          replace hP := msetP_4 hP
          replace hD := msetD_4 hD
          refine lv_aload_n hx hb dX9_lane_54 rfl (lv_at hl 0 rfl) ?_
          refine mg_isStrong hx hb hts hown hK hP dX9_lane_55 ?_
          refine lv_iconst (v := 5) hx hb dX9_lane_58 (by decide) ?_
          refine lv_iload_n hx hb dX9_lane_59 rfl (lv_at hl 1 rfl) ?_
          refine lv_imul hx hb dX9_lane_60 ?_
          refine lv_iload_n hx hb dX9_lane_61 rfl (lv_at hl 2 rfl) ?_
          refine lv_iadd hx hb dX9_lane_62 ?_
          refine lv_iload hx hb dX9_lane_63 (lv_at hl 4 rfl) ?_
          obtain ⟨hi14, hT⟩ := hT
          refine va_zast (f := S10.2.1 5) hx hb hK hP hD hS 5 1 mat_5 rfl hi14 dX9_lane_65 (fun H locs hP hD hS => ?_)
          replace hP := msetP_5 hP
          replace hD := msetD_5 hD
          refine lv_aload_n hx hb dX9_lane_66 rfl (lv_at hl 0 rfl) ?_
          refine mcallV (n := 0) (rest := []) hT hx hb hml hown hts hK hA hP hD hS hl gg_163 hd_X9_nothingUndone ⟨Nat.le_of_ble_eq_true rfl, Nat.le_of_ble_eq_true rfl⟩ rfl rfl (Nat.le_of_ble_eq_true rfl) dX9_lane_67 (Nat.zero_le _) (Nat.zero_le _) (fun S15 H locs hP hD hS hT => ?_)
          refine lv_iconst (v := 1) hx hb dX9_lane_70 (by decide) ?_
          exact hret true _ _ _ _ _ hP hD hS hT dX9_lane_71
        · replace hT := hT.2 c12
          rw [hB37] at hT
          exact hT _ _ _ hP hD hS (lv_sub hl [0] rfl)
end
section
abbrev mX_lanesThere (l : Launch) (S : MS) (post : Int32 → MS → Prop) : Prop := mCtI l yX9_lanesThere cX9_lanesThere 3 0 0 (fun ad => []) S post
def mT_lanesThere_4 (l : Launch) (post : Int32 → MS → Prop) (B4 : MS → Int32 → Int32 → Prop) (S : MS) (x1 : Int32) (x2 : Int32) : Prop := (25 ≤ x2 → post x1 S) ∧ (¬ 25 ≤ x2 → vp_in x2 25 ∧ (S.2.1 4 x2.toNatClampNeg ≤ 0 → ∀ v1_4 : Int32, v1_4 = x1 + 0 → B4 S v1_4 (x2 + 1)) ∧ (¬ S.2.1 4 x2.toNatClampNeg ≤ 0 → ∀ v1_5 : Int32, v1_5 = x1 + 1 → B4 S v1_5 (x2 + 1)))
def mT_lanesThere_e (l : Launch) (post : Int32 → MS → Prop) (B4 : MS → Int32 → Int32 → Prop) (S0 : MS) : Prop := B4 S0 0 0
set_option maxHeartbeats 4000000 in
set_option maxRecDepth 100000 in
theorem m_lanesThere (l : Launch) (S0 : MS) (post : Int32 → MS → Prop) (h : ∀ (B4 : MS → Int32 → Int32 → Prop), (∀ (S : MS) (x1 : Int32) (x2 : Int32), mT_lanesThere_4 l post B4 S x1 x2 → B4 S x1 x2) → mT_lanesThere_e l post B4 S0) : mX_lanesThere l S0 post := by
  refine msetI rfl (fun _ => Nat.le_of_ble_eq_true rfl) ?_
  intro p e s m args below meth c D ad cI cZ cL A Q hx hb hml hown hts hK hA hret H locs ls hP hD hS hl
  replace hl : lv_has ls 3 [(0, .ref (ad 0))] := hl
  obtain ⟨B4, hB4⟩ : ∃ B : MS → Int32 → Int32 → Prop, B = (fun S x1 x2 => ∀ (H : Heap) (locs : List Loc) (ls : Array Slot), va_P D vwCl (mW ad cI cZ cL S) H → va_D A (mW ad cI cZ cL S) → va_S A s.heap H locs → lv_has ls 3 [(0, .ref (ad 0)), (1, .int x1), (2, .int x2)] → W p l e (mrm 0 0) s m args below meth c H locs 0 0 Q (F0 m 4 ls [])) := ⟨_, rfl⟩
  have hT : mT_lanesThere_e l post B4 S0 := by
    refine h B4 ?_
    · clear hP hD hS hl H locs ls
      intro S x1 x2 hT
      unfold mT_lanesThere_4 at hT
      rw [hB4]
      intro H locs ls hP hD hS hl
      refine lv_iload_n hx hb dX9_lanesThere_4 rfl (lv_at hl 2 rfl) ?_
      refine lv_bipush (v := 25) hx hb dX9_lanesThere_5 (by decide) ?_
      refine lv_icmp_ge (tgt := 33) hx hb dX9_lanesThere_7 (by decide) (fun c1 => ?_) (fun c1 => ?_)
      · replace hT := hT.1 c1
        refine lv_iload_n hx hb dX9_lanesThere_33 rfl (lv_at hl 1 rfl) ?_
        exact hret _ _ _ _ _ _ hP hD hS hT dX9_lanesThere_34
      · replace hT := hT.2 c1
        refine lv_iload_n hx hb dX9_lanesThere_10 rfl (lv_at hl 1 rfl) ?_
        refine lv_aload_n hx hb dX9_lanesThere_11 rfl (lv_at hl 0 rfl) ?_
        refine mg_costs hx hb hts hown hK hP dX9_lanesThere_12 ?_
        refine lv_iload_n hx hb dX9_lanesThere_15 rfl (lv_at hl 2 rfl) ?_
        obtain ⟨hi2, hT⟩ := hT
        refine va_iald (f := S.2.1 4) hx hb hK hP 4 0 mat_4 rfl hi2 dX9_lanesThere_16 ?_
        refine lv_if_le (tgt := 24) hx hb dX9_lanesThere_17 (by decide) (fun c3 => ?_) (fun c3 => ?_)
        · replace hT := hT.1 c3
          refine lv_iconst (v := 0) hx hb dX9_lanesThere_24 (by decide) ?_
          refine lv_iadd hx hb dX9_lanesThere_25 ?_
          refine lv_topi (fun v1_4 ev1_4 => ?_)
          replace hT := hT v1_4 ev1_4
          refine lv_istore_n (lv' := [(1, .int v1_4), (0, .ref (ad 0)), (2, .int x2)]) hx hb dX9_lanesThere_26 rfl hl (by decide) rfl (fun ls hl => ?_)
          refine lv_iinc (v := x2 + 1) (lv' := [(2, .int (x2 + 1)), (1, .int v1_4), (0, .ref (ad 0))]) hx hb dX9_lanesThere_27 hl (k := 2) rfl rfl (by decide) rfl (fun ls hl => ?_)
          refine lv_goto (tgt := 4) hx hb dX9_lanesThere_30 (by decide) ?_
          rw [hB4] at hT
          exact hT _ _ _ hP hD hS (lv_sub hl [2, 1, 0] rfl)
        · replace hT := hT.2 c3
          refine lv_iconst (v := 1) hx hb dX9_lanesThere_20 (by decide) ?_
          refine lv_goto (tgt := 25) hx hb dX9_lanesThere_21 (by decide) ?_
          refine lv_iadd hx hb dX9_lanesThere_25 ?_
          refine lv_topi (fun v1_5 ev1_5 => ?_)
          replace hT := hT v1_5 ev1_5
          refine lv_istore_n (lv' := [(1, .int v1_5), (0, .ref (ad 0)), (2, .int x2)]) hx hb dX9_lanesThere_26 rfl hl (by decide) rfl (fun ls hl => ?_)
          refine lv_iinc (v := x2 + 1) (lv' := [(2, .int (x2 + 1)), (1, .int v1_5), (0, .ref (ad 0))]) hx hb dX9_lanesThere_27 hl (k := 2) rfl rfl (by decide) rfl (fun ls hl => ?_)
          refine lv_goto (tgt := 4) hx hb dX9_lanesThere_30 (by decide) ?_
          rw [hB4] at hT
          exact hT _ _ _ hP hD hS (lv_sub hl [2, 1, 0] rfl)
  unfold mT_lanesThere_e at hT
  refine lv_iconst (v := 0) hx hb dX9_lanesThere_0 (by decide) ?_
  refine lv_istore_n (lv' := [(1, .int 0), (0, .ref (ad 0))]) hx hb dX9_lanesThere_1 rfl hl (by decide) rfl (fun ls hl => ?_)
  refine lv_iconst (v := 0) hx hb dX9_lanesThere_2 (by decide) ?_
  refine lv_istore_n (lv' := [(2, .int 0), (1, .int 0), (0, .ref (ad 0))]) hx hb dX9_lanesThere_3 rfl hl (by decide) rfl (fun ls hl => ?_)
  rw [hB4] at hT
  exact hT _ _ _ hP hD hS (lv_sub hl [2, 1, 0] rfl)
abbrev mX_lanes (l : Launch) (S : MS) (post : Int32 → MS → Prop) : Prop := mCtI l yX9_lanes cX9_lanes 3 1 22 (fun ad => []) S post
def mT_lanes_7 (l : Launch) (post : Int32 → MS → Prop) (B7 : MS → Int32 → Prop) (B17 : MS → Int32 → Int32 → Prop) (B55 : MS → Int32 → Int32 → Prop) (S : MS) (x1 : Int32) : Prop := (S.1 0 ≤ x1 → mX_lanesThere l (mf (mf S 4 0) 5 0) (fun r3 S2 => post r3 S2)) ∧ (¬ S.1 0 ≤ x1 → B17 S x1 0)
def mT_lanes_17 (l : Launch) (post : Int32 → MS → Prop) (B7 : MS → Int32 → Prop) (B17 : MS → Int32 → Int32 → Prop) (B55 : MS → Int32 → Int32 → Prop) (S : MS) (x1 : Int32) (x2 : Int32) : Prop := (S.1 0 ≤ x2 → B7 S (x1 + 1)) ∧ (¬ S.1 0 ≤ x2 → (¬ x1 = x2 → vp_in ((5 * x1) + x2) 25 ∧ vp_in ((5 * x1) + x2) 25 ∧ B55 (ma (ma S 4 (upd (S.2.1 4) ((5 * x1) + x2).toNatClampNeg 1)) 5 (upd (S.2.1 5) ((5 * x1) + x2).toNatClampNeg (vp_nar .boolean 1))) x1 x2) ∧ (x1 = x2 → B55 S x1 x2))
def mT_lanes_55 (l : Launch) (post : Int32 → MS → Prop) (B7 : MS → Int32 → Prop) (B17 : MS → Int32 → Int32 → Prop) (B55 : MS → Int32 → Int32 → Prop) (S : MS) (x1 : Int32) (x2 : Int32) : Prop := B17 S x1 (x2 + 1)
def mT_lanes_e (l : Launch) (post : Int32 → MS → Prop) (B7 : MS → Int32 → Prop) (B17 : MS → Int32 → Int32 → Prop) (B55 : MS → Int32 → Int32 → Prop) (S0 : MS) : Prop := B7 (mf S0 3 0) 0
set_option maxHeartbeats 4000000 in
set_option maxRecDepth 100000 in
theorem m_lanes (l : Launch) (S0 : MS) (post : Int32 → MS → Prop) (h : ∀ (B7 : MS → Int32 → Prop) (B17 : MS → Int32 → Int32 → Prop) (B55 : MS → Int32 → Int32 → Prop), (∀ (S : MS) (x1 : Int32), mT_lanes_7 l post B7 B17 B55 S x1 → B7 S x1) → (∀ (S : MS) (x1 : Int32) (x2 : Int32), mT_lanes_17 l post B7 B17 B55 S x1 x2 → B17 S x1 x2) → (∀ (S : MS) (x1 : Int32) (x2 : Int32), mT_lanes_55 l post B7 B17 B55 S x1 x2 → B55 S x1 x2) → mT_lanes_e l post B7 B17 B55 S0) : mX_lanes l S0 post := by
  refine msetI rfl (fun _ => Nat.le_of_ble_eq_true rfl) ?_
  intro p e s m args below meth c D ad cI cZ cL A Q hx hb hml hown hts hK hA hret H locs ls hP hD hS hl
  replace hl : lv_has ls 3 [(0, .ref (ad 0))] := hl
  obtain ⟨B7, hB7⟩ : ∃ B : MS → Int32 → Prop, B = (fun S x1 => ∀ (H : Heap) (locs : List Loc) (ls : Array Slot), va_P D vwCl (mW ad cI cZ cL S) H → va_D A (mW ad cI cZ cL S) → va_S A s.heap H locs → lv_has ls 3 [(0, .ref (ad 0)), (1, .int x1)] → W p l e (mrm 1 22) s m args below meth c H locs 0 0 Q (F0 m 7 ls [])) := ⟨_, rfl⟩
  obtain ⟨B17, hB17⟩ : ∃ B : MS → Int32 → Int32 → Prop, B = (fun S x1 x2 => ∀ (H : Heap) (locs : List Loc) (ls : Array Slot), va_P D vwCl (mW ad cI cZ cL S) H → va_D A (mW ad cI cZ cL S) → va_S A s.heap H locs → lv_has ls 3 [(0, .ref (ad 0)), (1, .int x1), (2, .int x2)] → W p l e (mrm 1 22) s m args below meth c H locs 0 0 Q (F0 m 17 ls [])) := ⟨_, rfl⟩
  obtain ⟨B55, hB55⟩ : ∃ B : MS → Int32 → Int32 → Prop, B = (fun S x1 x2 => ∀ (H : Heap) (locs : List Loc) (ls : Array Slot), va_P D vwCl (mW ad cI cZ cL S) H → va_D A (mW ad cI cZ cL S) → va_S A s.heap H locs → lv_has ls 3 [(0, .ref (ad 0)), (1, .int x1), (2, .int x2)] → W p l e (mrm 1 22) s m args below meth c H locs 0 0 Q (F0 m 55 ls [])) := ⟨_, rfl⟩
  have hT : mT_lanes_e l post B7 B17 B55 S0 := by
    refine h B7 B17 B55 ?_ ?_ ?_
    · clear hP hD hS hl H locs ls
      intro S x1 hT
      unfold mT_lanes_7 at hT
      rw [hB7]
      intro H locs ls hP hD hS hl
      refine lv_iload_n hx hb dX9_lanes_7 rfl (lv_at hl 1 rfl) ?_
      refine lv_aload_n hx hb dX9_lanes_8 rfl (lv_at hl 0 rfl) ?_
      refine mg_pegs (v := S.1 0) hx hb hts hown hK hP rfl dX9_lanes_9 ?_
      refine lv_icmp_ge (tgt := 67) hx hb dX9_lanes_12 (by decide) (fun c1 => ?_) (fun c1 => ?_)
      · replace hT := hT.1 c1
        refine lv_aload_n hx hb dX9_lanes_67 rfl (lv_at hl 0 rfl) ?_
        refine lv_iconst (v := 0) hx hb dX9_lanes_68 (by decide) ?_
        refine mp_undos hx hb hts hown hK hP hD hS dX9_lanes_69 (fun H locs hP hD hS => ?_)
        refine lv_aload_n hx hb dX9_lanes_72 rfl (lv_at hl 0 rfl) ?_
        refine lv_iconst (v := 0) hx hb dX9_lanes_73 (by decide) ?_
        refine mp_redos hx hb hts hown hK hP hD hS dX9_lanes_74 (fun H locs hP hD hS => ?_)
        refine lv_aload_n hx hb dX9_lanes_77 rfl (lv_at hl 0 rfl) ?_
        refine mcallI (n := 0) (rest := []) hT hx hb hml hown hts hK hA hP hD hS hl gg_173 hd_X9_lanesThere ⟨Nat.le_of_ble_eq_true rfl, Nat.le_of_ble_eq_true rfl⟩ rfl rfl (Nat.le_of_ble_eq_true rfl) dX9_lanes_78 (Nat.zero_le _) (Nat.zero_le _) (fun r3 S2 H locs hP hD hS hT => ?_)
        exact hret _ _ _ _ _ _ hP hD hS hT dX9_lanes_81
      · replace hT := hT.2 c1
        refine lv_iconst (v := 0) hx hb dX9_lanes_15 (by decide) ?_
        refine lv_istore_n (lv' := [(2, .int 0), (0, .ref (ad 0)), (1, .int x1)]) hx hb dX9_lanes_16 rfl hl (by decide) rfl (fun ls hl => ?_)
        rw [hB17] at hT
        exact hT _ _ _ hP hD hS (lv_sub hl [1, 2, 0] rfl)
    · clear hP hD hS hl H locs ls
      intro S x1 x2 hT
      unfold mT_lanes_17 at hT
      rw [hB17]
      intro H locs ls hP hD hS hl
      refine lv_iload_n hx hb dX9_lanes_17 rfl (lv_at hl 2 rfl) ?_
      refine lv_aload_n hx hb dX9_lanes_18 rfl (lv_at hl 0 rfl) ?_
      refine mg_pegs (v := S.1 0) hx hb hts hown hK hP rfl dX9_lanes_19 ?_
      refine lv_icmp_ge (tgt := 61) hx hb dX9_lanes_22 (by decide) (fun c4 => ?_) (fun c4 => ?_)
      · replace hT := hT.1 c4
        refine lv_iinc (v := x1 + 1) (lv' := [(1, .int (x1 + 1)), (0, .ref (ad 0)), (2, .int x2)]) hx hb dX9_lanes_61 hl (k := 1) rfl rfl (by decide) rfl (fun ls hl => ?_)
        refine lv_goto (tgt := 7) hx hb dX9_lanes_64 (by decide) ?_
        rw [hB7] at hT
        exact hT _ _ _ hP hD hS (lv_sub hl [1, 0] rfl)
      · replace hT := hT.2 c4
        refine lv_iload_n hx hb dX9_lanes_25 rfl (lv_at hl 1 rfl) ?_
        refine lv_iload_n hx hb dX9_lanes_26 rfl (lv_at hl 2 rfl) ?_
        refine lv_icmp_ne (tgt := 33) hx hb dX9_lanes_27 (by decide) (fun c5 => ?_) (fun c5 => ?_)
        · replace hT := hT.1 c5
          refine lv_aload_n hx hb dX9_lanes_33 rfl (lv_at hl 0 rfl) ?_
          refine mg_costs hx hb hts hown hK hP dX9_lanes_34 ?_
          refine lv_iconst (v := 5) hx hb dX9_lanes_37 (by decide) ?_
          refine lv_iload_n hx hb dX9_lanes_38 rfl (lv_at hl 1 rfl) ?_
          refine lv_imul hx hb dX9_lanes_39 ?_
          refine lv_iload_n hx hb dX9_lanes_40 rfl (lv_at hl 2 rfl) ?_
          refine lv_iadd hx hb dX9_lanes_41 ?_
          refine lv_iconst (v := 1) hx hb dX9_lanes_42 (by decide) ?_
          obtain ⟨hi6, hT⟩ := hT
          refine va_iast (f := S.2.1 4) hx hb hK hP hD hS 4 0 mat_4 rfl hi6 dX9_lanes_43 (fun H locs hP hD hS => ?_)
          replace hP := msetP_4 hP
          replace hD := msetD_4 hD
          refine lv_aload_n hx hb dX9_lanes_44 rfl (lv_at hl 0 rfl) ?_
          refine mg_isStrong hx hb hts hown hK hP dX9_lanes_45 ?_
          refine lv_iconst (v := 5) hx hb dX9_lanes_48 (by decide) ?_
          refine lv_iload_n hx hb dX9_lanes_49 rfl (lv_at hl 1 rfl) ?_
          refine lv_imul hx hb dX9_lanes_50 ?_
          refine lv_iload_n hx hb dX9_lanes_51 rfl (lv_at hl 2 rfl) ?_
          refine lv_iadd hx hb dX9_lanes_52 ?_
          refine lv_iconst (v := 1) hx hb dX9_lanes_53 (by decide) ?_
          obtain ⟨hi7, hT⟩ := hT
          refine va_zast (f := S.2.1 5) hx hb hK hP hD hS 5 1 mat_5 rfl hi7 dX9_lanes_54 (fun H locs hP hD hS => ?_)
          replace hP := msetP_5 hP
          replace hD := msetD_5 hD
          rw [hB55] at hT
          exact hT _ _ _ hP hD hS (lv_sub hl [0, 1, 2] rfl)
        · replace hT := hT.2 c5
          refine lv_goto (tgt := 55) hx hb dX9_lanes_30 (by decide) ?_
          rw [hB55] at hT
          exact hT _ _ _ hP hD hS (lv_sub hl [0, 1, 2] rfl)
    · clear hP hD hS hl H locs ls
      intro S x1 x2 hT
      unfold mT_lanes_55 at hT
      rw [hB55]
      intro H locs ls hP hD hS hl
      refine lv_iinc (v := x2 + 1) (lv' := [(2, .int (x2 + 1)), (0, .ref (ad 0)), (1, .int x1)]) hx hb dX9_lanes_55 hl (k := 2) rfl rfl (by decide) rfl (fun ls hl => ?_)
      refine lv_goto (tgt := 17) hx hb dX9_lanes_58 (by decide) ?_
      rw [hB17] at hT
      exact hT _ _ _ hP hD hS (lv_sub hl [1, 2, 0] rfl)
  unfold mT_lanes_e at hT
  refine lv_aload_n hx hb dX9_lanes_0 rfl (lv_at hl 0 rfl) ?_
  refine lv_iconst (v := 0) hx hb dX9_lanes_1 (by decide) ?_
  refine mp_thrown hx hb hts hown hK hP hD hS dX9_lanes_2 (fun H locs hP hD hS => ?_)
  refine lv_iconst (v := 0) hx hb dX9_lanes_5 (by decide) ?_
  refine lv_istore_n (lv' := [(1, .int 0), (0, .ref (ad 0))]) hx hb dX9_lanes_6 rfl hl (by decide) rfl (fun ls hl => ?_)
  rw [hB7] at hT
  exact hT _ _ _ hP hD hS (lv_sub hl [1, 0] rfl)
abbrev mX_cost (l : Launch) (S : MS) (a1 : Int32) (a2 : Int32) (post : Int32 → MS → Prop) : Prop := mCtI l yX9_cost cX9_cost 3 2 44 (fun ad => [.int a1, .int a2]) S post
def mT_cost_e (l : Launch) (a1 : Int32) (a2 : Int32) (post : Int32 → MS → Prop) (S0 : MS) : Prop := mX_isPeg l (mf S0 3 0) a1 (fun b2 S1 => (bI b2 = 0 → post (-1) S1) ∧ (¬ bI b2 = 0 → mX_isPeg l S1 a2 (fun b5 S4 => (bI b5 = 0 → post (-1) S4) ∧ (¬ bI b5 = 0 → vp_in ((5 * a1) + a2) 25 ∧ post (S4.2.1 4 ((5 * a1) + a2).toNatClampNeg) S4))))
set_option maxHeartbeats 4000000 in
set_option maxRecDepth 100000 in
theorem m_cost (l : Launch) (S0 : MS) (a1 : Int32) (a2 : Int32) (post : Int32 → MS → Prop) (h : mT_cost_e l a1 a2 post S0) : mX_cost l S0 a1 a2 post := by
  refine msetI rfl (fun _ => Nat.le_of_ble_eq_true rfl) ?_
  intro p e s m args below meth c D ad cI cZ cL A Q hx hb hml hown hts hK hA hret H locs ls hP hD hS hl
  replace hl : lv_has ls 3 [(0, .ref (ad 0)), (1, .int a1), (2, .int a2)] := hl
  have hT := h
  unfold mT_cost_e at hT
  refine lv_aload_n hx hb dX9_cost_0 rfl (lv_at hl 0 rfl) ?_
  refine lv_iconst (v := 0) hx hb dX9_cost_1 (by decide) ?_
  refine mp_thrown hx hb hts hown hK hP hD hS dX9_cost_2 (fun H locs hP hD hS => ?_)
  refine lv_aload_n hx hb dX9_cost_5 rfl (lv_at hl 0 rfl) ?_
  refine lv_iload_n hx hb dX9_cost_6 rfl (lv_at hl 1 rfl) ?_
  refine mcallZ (n := 1) (rest := []) hT hx hb hml hown hts hK hA hP hD hS hl gg_170 hd_X9_isPeg ⟨Nat.le_of_ble_eq_true rfl, Nat.le_of_ble_eq_true rfl⟩ rfl rfl (Nat.le_of_ble_eq_true rfl) dX9_cost_7 (Nat.zero_le _) (Nat.zero_le _) (fun b2 S1 H locs hP hD hS hT => ?_)
  refine lv_if_eq (tgt := 34) hx hb dX9_cost_10 (by decide) (fun c3 => ?_) (fun c3 => ?_)
  · replace hT := hT.1 c3
    refine lv_iconst (v := (-1)) hx hb dX9_cost_34 (by decide) ?_
    exact hret _ _ _ _ _ _ hP hD hS hT dX9_cost_35
  · replace hT := hT.2 c3
    refine lv_aload_n hx hb dX9_cost_13 rfl (lv_at hl 0 rfl) ?_
    refine lv_iload_n hx hb dX9_cost_14 rfl (lv_at hl 2 rfl) ?_
    refine mcallZ (n := 1) (rest := []) hT hx hb hml hown hts hK hA hP hD hS hl gg_170 hd_X9_isPeg ⟨Nat.le_of_ble_eq_true rfl, Nat.le_of_ble_eq_true rfl⟩ rfl rfl (Nat.le_of_ble_eq_true rfl) dX9_cost_15 (Nat.zero_le _) (Nat.zero_le _) (fun b5 S4 H locs hP hD hS hT => ?_)
    refine lv_if_eq (tgt := 34) hx hb dX9_cost_18 (by decide) (fun c6 => ?_) (fun c6 => ?_)
    · replace hT := hT.1 c6
      refine lv_iconst (v := (-1)) hx hb dX9_cost_34 (by decide) ?_
      exact hret _ _ _ _ _ _ hP hD hS hT dX9_cost_35
    · replace hT := hT.2 c6
      refine lv_aload_n hx hb dX9_cost_21 rfl (lv_at hl 0 rfl) ?_
      refine mg_costs hx hb hts hown hK hP dX9_cost_22 ?_
      refine lv_iconst (v := 5) hx hb dX9_cost_25 (by decide) ?_
      refine lv_iload_n hx hb dX9_cost_26 rfl (lv_at hl 1 rfl) ?_
      refine lv_imul hx hb dX9_cost_27 ?_
      refine lv_iload_n hx hb dX9_cost_28 rfl (lv_at hl 2 rfl) ?_
      refine lv_iadd hx hb dX9_cost_29 ?_
      obtain ⟨hi7, hT⟩ := hT
      refine va_iald (f := S4.2.1 4) hx hb hK hP 4 0 mat_4 rfl hi7 dX9_cost_30 ?_
      refine lv_goto (tgt := 35) hx hb dX9_cost_31 (by decide) ?_
      exact hret _ _ _ _ _ _ hP hD hS hT dX9_cost_35
abbrev mX_stand (l : Launch) (S : MS) (a1 : Int32) (a2 : Bool) (post : Bool → MS → Prop) : Prop := mCtZ l yX9_stand cX9_stand 4 2 46 (fun ad => [.int a1, .int (bI a2)]) S post
def mT_stand_54 (l : Launch) (a1 : Int32) (a2 : Bool) (post : Bool → MS → Prop) (B54 : MS → Int32 → Prop) (B93 : MS → Int32 → Prop) (S : MS) (x3 : Int32) : Prop := (S.1 1 ≤ x3 → (¬ bI a2 = 0 → post true (mf S 2 0)) ∧ (bI a2 = 0 → mX_nothingUndone l (mf S 2 0) (fun S3 => post true S3))) ∧ (¬ S.1 1 ≤ x3 → (bI a2 = 0 → vp_in x3 7 ∧ vp_in x3 7 ∧ B93 (ma S 2 (upd (S.2.1 2) x3.toNatClampNeg (S.2.1 8 x3.toNatClampNeg))) x3) ∧ (¬ bI a2 = 0 → vp_in x3 7 ∧ vp_in x3 7 ∧ B93 (ma S 3 (upd (S.2.1 3) x3.toNatClampNeg (S.2.1 8 x3.toNatClampNeg))) x3))
def mT_stand_93 (l : Launch) (a1 : Int32) (a2 : Bool) (post : Bool → MS → Prop) (B54 : MS → Int32 → Prop) (B93 : MS → Int32 → Prop) (S : MS) (x3 : Int32) : Prop := B54 S (x3 + 1)
def mT_stand_e (l : Launch) (a1 : Int32) (a2 : Bool) (post : Bool → MS → Prop) (B54 : MS → Int32 → Prop) (B93 : MS → Int32 → Prop) (S0 : MS) : Prop := mX_stands l (mf S0 3 0) (fun r10 S9 => mX_in l S9 a1 0 (r10 - 1) (fun b12 S11 => (¬ bI b12 = 0 → mX_unpack l S11 a1 8 (fun S14 => mX_isRight l S14 8 (fun b16 S15 => (¬ bI b16 = 0 → B54 S15 0) ∧ (bI b16 = 0 → mX_not l S15 3 (fun b19 S18 => post b19 S18))))) ∧ (bI b12 = 0 → mX_not l S11 1 (fun b21 S20 => post b21 S20))))
set_option maxHeartbeats 4000000 in
set_option maxRecDepth 100000 in
theorem m_stand (l : Launch) (S0 : MS) (a1 : Int32) (a2 : Bool) (post : Bool → MS → Prop) (h : ∀ (B54 : MS → Int32 → Prop) (B93 : MS → Int32 → Prop), (∀ (S : MS) (x3 : Int32), mT_stand_54 l a1 a2 post B54 B93 S x3 → B54 S x3) → (∀ (S : MS) (x3 : Int32), mT_stand_93 l a1 a2 post B54 B93 S x3 → B93 S x3) → mT_stand_e l a1 a2 post B54 B93 S0) : mX_stand l S0 a1 a2 post := by
  refine msetZ rfl (fun _ => Nat.le_of_ble_eq_true rfl) ?_
  intro p e s m args below meth c D ad cI cZ cL A Q hx hb hml hown hts hK hA hret H locs ls hP hD hS hl
  replace hl : lv_has ls 4 [(0, .ref (ad 0)), (1, .int a1), (2, .int (bI a2))] := hl
  obtain ⟨B54, hB54⟩ : ∃ B : MS → Int32 → Prop, B = (fun S x3 => ∀ (H : Heap) (locs : List Loc) (ls : Array Slot), va_P D vwCl (mW ad cI cZ cL S) H → va_D A (mW ad cI cZ cL S) → va_S A s.heap H locs → lv_has ls 4 [(0, .ref (ad 0)), (2, .int (bI a2)), (3, .int x3)] → W p l e (mrm 2 46) s m args below meth c H locs 0 0 Q (F0 m 54 ls [])) := ⟨_, rfl⟩
  obtain ⟨B93, hB93⟩ : ∃ B : MS → Int32 → Prop, B = (fun S x3 => ∀ (H : Heap) (locs : List Loc) (ls : Array Slot), va_P D vwCl (mW ad cI cZ cL S) H → va_D A (mW ad cI cZ cL S) → va_S A s.heap H locs → lv_has ls 4 [(0, .ref (ad 0)), (2, .int (bI a2)), (3, .int x3)] → W p l e (mrm 2 46) s m args below meth c H locs 0 0 Q (F0 m 93 ls [])) := ⟨_, rfl⟩
  have hT : mT_stand_e l a1 a2 post B54 B93 S0 := by
    refine h B54 B93 ?_ ?_
    · clear hP hD hS hl H locs ls
      intro S x3 hT
      unfold mT_stand_54 at hT
      rw [hB54]
      intro H locs ls hP hD hS hl
      refine lv_iload_n hx hb dX9_stand_54 rfl (lv_at hl 2 rfl) ?_
      refine lv_aload_n hx hb dX9_stand_55 rfl (lv_at hl 0 rfl) ?_
      refine mg_discs (v := S.1 1) hx hb hts hown hK hP rfl dX9_stand_56 ?_
      refine lv_icmp_ge (tgt := 99) hx hb dX9_stand_59 (by decide) (fun c1 => ?_) (fun c1 => ?_)
      · replace hT := hT.1 c1
        refine lv_aload_n hx hb dX9_stand_99 rfl (lv_at hl 0 rfl) ?_
        refine lv_iconst (v := 0) hx hb dX9_stand_100 (by decide) ?_
        refine mp_trouble hx hb hts hown hK hP hD hS dX9_stand_101 (fun H locs hP hD hS => ?_)
        refine lv_iload_n hx hb dX9_stand_104 rfl (lv_at hl 1 rfl) ?_
        refine lv_if_ne (tgt := 112) hx hb dX9_stand_105 (by decide) (fun c2 => ?_) (fun c2 => ?_)
        · replace hT := hT.1 c2
          refine lv_iconst (v := 1) hx hb dX9_stand_112 (by decide) ?_
          exact hret true _ _ _ _ _ hP hD hS hT dX9_stand_113
        · replace hT := hT.2 c2
          refine lv_aload_n hx hb dX9_stand_108 rfl (lv_at hl 0 rfl) ?_
          refine mcallV (n := 0) (rest := []) hT hx hb hml hown hts hK hA hP hD hS hl gg_163 hd_X9_nothingUndone ⟨Nat.le_of_ble_eq_true rfl, Nat.le_of_ble_eq_true rfl⟩ rfl rfl (Nat.le_of_ble_eq_true rfl) dX9_stand_109 (Nat.zero_le _) (Nat.zero_le _) (fun S3 H locs hP hD hS hT => ?_)
          refine lv_iconst (v := 1) hx hb dX9_stand_112 (by decide) ?_
          exact hret true _ _ _ _ _ hP hD hS hT dX9_stand_113
      · replace hT := hT.2 c1
        refine lv_iload_n hx hb dX9_stand_62 rfl (lv_at hl 1 rfl) ?_
        refine lv_if_eq (tgt := 81) hx hb dX9_stand_63 (by decide) (fun c4 => ?_) (fun c4 => ?_)
        · replace hT := hT.1 c4
          refine lv_aload_n hx hb dX9_stand_81 rfl (lv_at hl 0 rfl) ?_
          refine mg_stand hx hb hts hown hK hP dX9_stand_82 ?_
          refine lv_iload_n hx hb dX9_stand_85 rfl (lv_at hl 2 rfl) ?_
          refine lv_aload_n hx hb dX9_stand_86 rfl (lv_at hl 0 rfl) ?_
          refine mg_at hx hb hts hown hK hP dX9_stand_87 ?_
          refine lv_iload_n hx hb dX9_stand_90 rfl (lv_at hl 2 rfl) ?_
          obtain ⟨hi5, hT⟩ := hT
          refine va_iald (f := S.2.1 8) hx hb hK hP 8 0 mat_8 rfl hi5 dX9_stand_91 ?_
          obtain ⟨hi6, hT⟩ := hT
          refine va_iast (f := S.2.1 2) hx hb hK hP hD hS 2 0 mat_2 rfl hi6 dX9_stand_92 (fun H locs hP hD hS => ?_)
          replace hP := msetP_2 hP
          replace hD := msetD_2 hD
          rw [hB93] at hT
          exact hT _ _ _ hP hD hS (lv_sub hl [0, 1, 2] rfl)
        · replace hT := hT.2 c4
          refine lv_aload_n hx hb dX9_stand_66 rfl (lv_at hl 0 rfl) ?_
          refine mg_goal hx hb hts hown hK hP dX9_stand_67 ?_
          refine lv_iload_n hx hb dX9_stand_70 rfl (lv_at hl 2 rfl) ?_
          refine lv_aload_n hx hb dX9_stand_71 rfl (lv_at hl 0 rfl) ?_
          refine mg_at hx hb hts hown hK hP dX9_stand_72 ?_
          refine lv_iload_n hx hb dX9_stand_75 rfl (lv_at hl 2 rfl) ?_
          obtain ⟨hi7, hT⟩ := hT
          refine va_iald (f := S.2.1 8) hx hb hK hP 8 0 mat_8 rfl hi7 dX9_stand_76 ?_
          obtain ⟨hi8, hT⟩ := hT
          refine va_iast (f := S.2.1 3) hx hb hK hP hD hS 3 0 mat_3 rfl hi8 dX9_stand_77 (fun H locs hP hD hS => ?_)
          replace hP := msetP_3 hP
          replace hD := msetD_3 hD
          refine lv_goto (tgt := 93) hx hb dX9_stand_78 (by decide) ?_
          rw [hB93] at hT
          exact hT _ _ _ hP hD hS (lv_sub hl [0, 1, 2] rfl)
    · clear hP hD hS hl H locs ls
      intro S x3 hT
      unfold mT_stand_93 at hT
      rw [hB93]
      intro H locs ls hP hD hS hl
      refine lv_iinc (v := x3 + 1) (lv' := [(3, .int (x3 + 1)), (0, .ref (ad 0)), (2, .int (bI a2))]) hx hb dX9_stand_93 hl (k := 2) rfl rfl (by decide) rfl (fun ls hl => ?_)
      refine lv_goto (tgt := 54) hx hb dX9_stand_96 (by decide) ?_
      rw [hB54] at hT
      exact hT _ _ _ hP hD hS (lv_sub hl [1, 2, 0] rfl)
  unfold mT_stand_e at hT
  refine lv_aload_n hx hb dX9_stand_0 rfl (lv_at hl 0 rfl) ?_
  refine lv_iconst (v := 0) hx hb dX9_stand_1 (by decide) ?_
  refine mp_thrown hx hb hts hown hK hP hD hS dX9_stand_2 (fun H locs hP hD hS => ?_)
  refine lv_aload_n hx hb dX9_stand_5 rfl (lv_at hl 0 rfl) ?_
  refine lv_iload_n hx hb dX9_stand_6 rfl (lv_at hl 1 rfl) ?_
  refine lv_iconst (v := 0) hx hb dX9_stand_7 (by decide) ?_
  refine lv_aload_n hx hb dX9_stand_8 rfl (lv_at hl 0 rfl) ?_
  refine mcallI (n := 0) (rest := [.int 0, .int a1, .ref (ad 0)]) hT hx hb hml hown hts hK hA hP hD hS hl gg_177 hd_X9_stands ⟨Nat.le_of_ble_eq_true rfl, Nat.le_of_ble_eq_true rfl⟩ rfl rfl (Nat.le_of_ble_eq_true rfl) dX9_stand_9 (Nat.zero_le _) (Nat.zero_le _) (fun r10 S9 H locs hP hD hS hT => ?_)
  refine lv_iconst (v := 1) hx hb dX9_stand_12 (by decide) ?_
  refine lv_isub hx hb dX9_stand_13 ?_
  refine mcallZ (n := 3) (rest := []) hT hx hb hml hown hts hK hA hP hD hS hl gg_139 hd_X9_in ⟨Nat.le_of_ble_eq_true rfl, Nat.le_of_ble_eq_true rfl⟩ rfl rfl (Nat.le_of_ble_eq_true rfl) dX9_stand_14 (Nat.zero_le _) (Nat.zero_le _) (fun b12 S11 H locs hP hD hS hT => ?_)
  refine lv_if_ne (tgt := 26) hx hb dX9_stand_17 (by decide) (fun c13 => ?_) (fun c13 => ?_)
  · replace hT := hT.1 c13
    refine lv_aload_n hx hb dX9_stand_26 rfl (lv_at hl 0 rfl) ?_
    refine lv_iload_n hx hb dX9_stand_27 rfl (lv_at hl 1 rfl) ?_
    refine lv_aload_n hx hb dX9_stand_28 rfl (lv_at hl 0 rfl) ?_
    refine mg_at hx hb hts hown hK hP dX9_stand_29 ?_
    refine mcallV (n := 2) (rest := []) hT hx hb hml hown hts hK hA hP hD hS hl gg_180 hd_X9_unpack ⟨Nat.le_of_ble_eq_true rfl, Nat.le_of_ble_eq_true rfl⟩ rfl rfl (Nat.le_of_ble_eq_true rfl) dX9_stand_32 (Nat.zero_le _) (Nat.zero_le _) (fun S14 H locs hP hD hS hT => ?_)
    refine lv_aload_n hx hb dX9_stand_35 rfl (lv_at hl 0 rfl) ?_
    refine lv_aload_n hx hb dX9_stand_36 rfl (lv_at hl 0 rfl) ?_
    refine mg_at hx hb hts hown hK hP dX9_stand_37 ?_
    refine mcallZ (n := 1) (rest := []) hT hx hb hml hown hts hK hA hP hD hS hl gg_166 hd_X9_isRight ⟨Nat.le_of_ble_eq_true rfl, Nat.le_of_ble_eq_true rfl⟩ rfl rfl (Nat.le_of_ble_eq_true rfl) dX9_stand_40 (Nat.zero_le _) (Nat.zero_le _) (fun b16 S15 H locs hP hD hS hT => ?_)
    refine lv_if_ne (tgt := 52) hx hb dX9_stand_43 (by decide) (fun c17 => ?_) (fun c17 => ?_)
    · replace hT := hT.1 c17
      refine lv_iconst (v := 0) hx hb dX9_stand_52 (by decide) ?_
      refine lv_istore_n (lv' := [(3, .int 0), (0, .ref (ad 0)), (1, .int a1), (2, .int (bI a2))]) hx hb dX9_stand_53 rfl hl (by decide) rfl (fun ls hl => ?_)
      rw [hB54] at hT
      exact hT _ _ _ hP hD hS (lv_sub hl [1, 3, 0] rfl)
    · replace hT := hT.2 c17
      refine lv_aload_n hx hb dX9_stand_46 rfl (lv_at hl 0 rfl) ?_
      refine lv_iconst (v := 3) hx hb dX9_stand_47 (by decide) ?_
      refine mcallZ (n := 1) (rest := []) hT hx hb hml hown hts hK hA hP hD hS hl gg_159 hd_X9_not ⟨Nat.le_of_ble_eq_true rfl, Nat.le_of_ble_eq_true rfl⟩ rfl rfl (Nat.le_of_ble_eq_true rfl) dX9_stand_48 (Nat.zero_le _) (Nat.zero_le _) (fun b19 S18 H locs hP hD hS hT => ?_)
      exact hret b19 _ _ _ _ _ hP hD hS hT dX9_stand_51
  · replace hT := hT.2 c13
    refine lv_aload_n hx hb dX9_stand_20 rfl (lv_at hl 0 rfl) ?_
    refine lv_iconst (v := 1) hx hb dX9_stand_21 (by decide) ?_
    refine mcallZ (n := 1) (rest := []) hT hx hb hml hown hts hK hA hP hD hS hl gg_159 hd_X9_not ⟨Nat.le_of_ble_eq_true rfl, Nat.le_of_ble_eq_true rfl⟩ rfl rfl (Nat.le_of_ble_eq_true rfl) dX9_stand_22 (Nat.zero_le _) (Nat.zero_le _) (fun b21 S20 H locs hP hD hS hT => ?_)
    exact hret b21 _ _ _ _ _ hP hD hS hT dX9_stand_25
abbrev mX_number (l : Launch) (S : MS) (a1 : Bool) (post : Int32 → MS → Prop) : Prop := mCtI l yX9_number cX9_number 2 1 23 (fun ad => [.int (bI a1)]) S post
def mT_number_e (l : Launch) (a1 : Bool) (post : Int32 → MS → Prop) (S0 : MS) : Prop := (bI a1 = 0 → mX_pack l (mf S0 3 0) 2 (fun r3 S2 => post r3 S2)) ∧ (¬ bI a1 = 0 → mX_pack l (mf S0 3 0) 3 (fun r5 S4 => post r5 S4))
set_option maxHeartbeats 4000000 in
set_option maxRecDepth 100000 in
theorem m_number (l : Launch) (S0 : MS) (a1 : Bool) (post : Int32 → MS → Prop) (h : mT_number_e l a1 post S0) : mX_number l S0 a1 post := by
  refine msetI rfl (fun _ => Nat.le_of_ble_eq_true rfl) ?_
  intro p e s m args below meth c D ad cI cZ cL A Q hx hb hml hown hts hK hA hret H locs ls hP hD hS hl
  replace hl : lv_has ls 2 [(0, .ref (ad 0)), (1, .int (bI a1))] := hl
  have hT := h
  unfold mT_number_e at hT
  refine lv_aload_n hx hb dX9_number_0 rfl (lv_at hl 0 rfl) ?_
  refine lv_iconst (v := 0) hx hb dX9_number_1 (by decide) ?_
  refine mp_thrown hx hb hts hown hK hP hD hS dX9_number_2 (fun H locs hP hD hS => ?_)
  refine lv_aload_n hx hb dX9_number_5 rfl (lv_at hl 0 rfl) ?_
  refine lv_iload_n hx hb dX9_number_6 rfl (lv_at hl 1 rfl) ?_
  refine lv_if_eq (tgt := 17) hx hb dX9_number_7 (by decide) (fun c1 => ?_) (fun c1 => ?_)
  · replace hT := hT.1 c1
    refine lv_aload_n hx hb dX9_number_17 rfl (lv_at hl 0 rfl) ?_
    refine mg_stand hx hb hts hown hK hP dX9_number_18 ?_
    refine mcallI (n := 1) (rest := []) hT hx hb hml hown hts hK hA hP hD hS hl gg_184 hd_X9_pack ⟨Nat.le_of_ble_eq_true rfl, Nat.le_of_ble_eq_true rfl⟩ rfl rfl (Nat.le_of_ble_eq_true rfl) dX9_number_21 (Nat.zero_le _) (Nat.zero_le _) (fun r3 S2 H locs hP hD hS hT => ?_)
    exact hret _ _ _ _ _ _ hP hD hS hT dX9_number_24
  · replace hT := hT.2 c1
    refine lv_aload_n hx hb dX9_number_10 rfl (lv_at hl 0 rfl) ?_
    refine mg_goal hx hb hts hown hK hP dX9_number_11 ?_
    refine lv_goto (tgt := 21) hx hb dX9_number_14 (by decide) ?_
    refine mcallI (n := 1) (rest := []) hT hx hb hml hown hts hK hA hP hD hS hl gg_184 hd_X9_pack ⟨Nat.le_of_ble_eq_true rfl, Nat.le_of_ble_eq_true rfl⟩ rfl rfl (Nat.le_of_ble_eq_true rfl) dX9_number_21 (Nat.zero_le _) (Nat.zero_le _) (fun r5 S4 H locs hP hD hS hT => ?_)
    exact hret _ _ _ _ _ _ hP hD hS hT dX9_number_24
abbrev mX_peg (l : Launch) (S : MS) (a1 : Int32) (post : Int32 → MS → Prop) : Prop := mCtI l yX9_peg cX9_peg 2 1 23 (fun ad => [.int a1]) S post
def mT_peg_e (l : Launch) (a1 : Int32) (post : Int32 → MS → Prop) (S0 : MS) : Prop := mX_in l (mf S0 3 0) a1 0 ((S0.1 1) - 1) (fun b2 S1 => (bI b2 = 0 → post (-1) S1) ∧ (¬ bI b2 = 0 → vp_in a1 7 ∧ post (S1.2.1 2 a1.toNatClampNeg) S1))
set_option maxHeartbeats 4000000 in
set_option maxRecDepth 100000 in
theorem m_peg (l : Launch) (S0 : MS) (a1 : Int32) (post : Int32 → MS → Prop) (h : mT_peg_e l a1 post S0) : mX_peg l S0 a1 post := by
  refine msetI rfl (fun _ => Nat.le_of_ble_eq_true rfl) ?_
  intro p e s m args below meth c D ad cI cZ cL A Q hx hb hml hown hts hK hA hret H locs ls hP hD hS hl
  replace hl : lv_has ls 2 [(0, .ref (ad 0)), (1, .int a1)] := hl
  have hT := h
  unfold mT_peg_e at hT
  refine lv_aload_n hx hb dX9_peg_0 rfl (lv_at hl 0 rfl) ?_
  refine lv_iconst (v := 0) hx hb dX9_peg_1 (by decide) ?_
  refine mp_thrown hx hb hts hown hK hP hD hS dX9_peg_2 (fun H locs hP hD hS => ?_)
  refine lv_aload_n hx hb dX9_peg_5 rfl (lv_at hl 0 rfl) ?_
  refine lv_iload_n hx hb dX9_peg_6 rfl (lv_at hl 1 rfl) ?_
  refine lv_iconst (v := 0) hx hb dX9_peg_7 (by decide) ?_
  refine lv_aload_n hx hb dX9_peg_8 rfl (lv_at hl 0 rfl) ?_
  refine mg_discs (v := S0.1 1) hx hb hts hown hK hP rfl dX9_peg_9 ?_
  refine lv_iconst (v := 1) hx hb dX9_peg_12 (by decide) ?_
  refine lv_isub hx hb dX9_peg_13 ?_
  refine mcallZ (n := 3) (rest := []) hT hx hb hml hown hts hK hA hP hD hS hl gg_139 hd_X9_in ⟨Nat.le_of_ble_eq_true rfl, Nat.le_of_ble_eq_true rfl⟩ rfl rfl (Nat.le_of_ble_eq_true rfl) dX9_peg_14 (Nat.zero_le _) (Nat.zero_le _) (fun b2 S1 H locs hP hD hS hT => ?_)
  refine lv_if_eq (tgt := 29) hx hb dX9_peg_17 (by decide) (fun c3 => ?_) (fun c3 => ?_)
  · replace hT := hT.1 c3
    refine lv_iconst (v := (-1)) hx hb dX9_peg_29 (by decide) ?_
    exact hret _ _ _ _ _ _ hP hD hS hT dX9_peg_30
  · replace hT := hT.2 c3
    refine lv_aload_n hx hb dX9_peg_20 rfl (lv_at hl 0 rfl) ?_
    refine mg_stand hx hb hts hown hK hP dX9_peg_21 ?_
    refine lv_iload_n hx hb dX9_peg_24 rfl (lv_at hl 1 rfl) ?_
    obtain ⟨hi4, hT⟩ := hT
    refine va_iald (f := S1.2.1 2) hx hb hK hP 2 0 mat_2 rfl hi4 dX9_peg_25 ?_
    refine lv_goto (tgt := 30) hx hb dX9_peg_26 (by decide) ?_
    exact hret _ _ _ _ _ _ hP hD hS hT dX9_peg_30
abbrev mX_disc (l : Launch) (S : MS) (a1 : Int32) (a2 : Int32) (post : Int32 → MS → Prop) : Prop := mCtI l yX9_disc cX9_disc 5 2 44 (fun ad => [.int a1, .int a2]) S post
def mT_disc_25 (l : Launch) (a1 : Int32) (a2 : Int32) (post : Int32 → MS → Prop) (B25 : MS → Int32 → Int32 → Prop) (B58 : MS → Int32 → Int32 → Prop) (S : MS) (x3 : Int32) (x4 : Int32) : Prop := (x4 < 0 → post (-1) S) ∧ (¬ x4 < 0 → (x3 < 0 → post (-1) S) ∧ (¬ x3 < 0 → vp_in x4 7 ∧ (S.2.1 2 x4.toNatClampNeg = a1 → (¬ x3 = 0 → B58 S (x3 + (-1)) x4) ∧ (x3 = 0 → post x4 S)) ∧ (¬ S.2.1 2 x4.toNatClampNeg = a1 → B58 S x3 x4)))
def mT_disc_58 (l : Launch) (a1 : Int32) (a2 : Int32) (post : Int32 → MS → Prop) (B25 : MS → Int32 → Int32 → Prop) (B58 : MS → Int32 → Int32 → Prop) (S : MS) (x3 : Int32) (x4 : Int32) : Prop := B25 S x3 (x4 + (-1))
def mT_disc_e (l : Launch) (a1 : Int32) (a2 : Int32) (post : Int32 → MS → Prop) (B25 : MS → Int32 → Int32 → Prop) (B58 : MS → Int32 → Int32 → Prop) (S0 : MS) : Prop := mX_isPeg l (mf S0 3 0) a1 (fun b7 S6 => (¬ bI b7 = 0 → ∀ v4_9 : Int32, v4_9 = (S6.1 1) - 1 → B25 S6 a2 v4_9) ∧ (bI b7 = 0 → post (-1) S6))
set_option maxHeartbeats 4000000 in
set_option maxRecDepth 100000 in
theorem m_disc (l : Launch) (S0 : MS) (a1 : Int32) (a2 : Int32) (post : Int32 → MS → Prop) (h : ∀ (B25 : MS → Int32 → Int32 → Prop) (B58 : MS → Int32 → Int32 → Prop), (∀ (S : MS) (x3 : Int32) (x4 : Int32), mT_disc_25 l a1 a2 post B25 B58 S x3 x4 → B25 S x3 x4) → (∀ (S : MS) (x3 : Int32) (x4 : Int32), mT_disc_58 l a1 a2 post B25 B58 S x3 x4 → B58 S x3 x4) → mT_disc_e l a1 a2 post B25 B58 S0) : mX_disc l S0 a1 a2 post := by
  refine msetI rfl (fun _ => Nat.le_of_ble_eq_true rfl) ?_
  intro p e s m args below meth c D ad cI cZ cL A Q hx hb hml hown hts hK hA hret H locs ls hP hD hS hl
  replace hl : lv_has ls 5 [(0, .ref (ad 0)), (1, .int a1), (2, .int a2)] := hl
  obtain ⟨B25, hB25⟩ : ∃ B : MS → Int32 → Int32 → Prop, B = (fun S x3 x4 => ∀ (H : Heap) (locs : List Loc) (ls : Array Slot), va_P D vwCl (mW ad cI cZ cL S) H → va_D A (mW ad cI cZ cL S) → va_S A s.heap H locs → lv_has ls 5 [(0, .ref (ad 0)), (1, .int a1), (3, .int x3), (4, .int x4)] → W p l e (mrm 2 44) s m args below meth c H locs 0 0 Q (F0 m 25 ls [])) := ⟨_, rfl⟩
  obtain ⟨B58, hB58⟩ : ∃ B : MS → Int32 → Int32 → Prop, B = (fun S x3 x4 => ∀ (H : Heap) (locs : List Loc) (ls : Array Slot), va_P D vwCl (mW ad cI cZ cL S) H → va_D A (mW ad cI cZ cL S) → va_S A s.heap H locs → lv_has ls 5 [(0, .ref (ad 0)), (1, .int a1), (3, .int x3), (4, .int x4)] → W p l e (mrm 2 44) s m args below meth c H locs 0 0 Q (F0 m 58 ls [])) := ⟨_, rfl⟩
  have hT : mT_disc_e l a1 a2 post B25 B58 S0 := by
    refine h B25 B58 ?_ ?_
    · clear hP hD hS hl H locs ls
      intro S x3 x4 hT
      unfold mT_disc_25 at hT
      rw [hB25]
      intro H locs ls hP hD hS hl
      refine lv_iload hx hb dX9_disc_25 (lv_at hl 3 rfl) ?_
      refine lv_if_lt (tgt := 64) hx hb dX9_disc_27 (by decide) (fun c1 => ?_) (fun c1 => ?_)
      · replace hT := hT.1 c1
        refine lv_iconst (v := (-1)) hx hb dX9_disc_64 (by decide) ?_
        exact hret _ _ _ _ _ _ hP hD hS hT dX9_disc_65
      · replace hT := hT.2 c1
        refine lv_iload_n hx hb dX9_disc_30 rfl (lv_at hl 2 rfl) ?_
        refine lv_if_lt (tgt := 64) hx hb dX9_disc_31 (by decide) (fun c2 => ?_) (fun c2 => ?_)
        · replace hT := hT.1 c2
          refine lv_iconst (v := (-1)) hx hb dX9_disc_64 (by decide) ?_
          exact hret _ _ _ _ _ _ hP hD hS hT dX9_disc_65
        · replace hT := hT.2 c2
          refine lv_aload_n hx hb dX9_disc_34 rfl (lv_at hl 0 rfl) ?_
          refine mg_stand hx hb hts hown hK hP dX9_disc_35 ?_
          refine lv_iload hx hb dX9_disc_38 (lv_at hl 3 rfl) ?_
          obtain ⟨hi3, hT⟩ := hT
          refine va_iald (f := S.2.1 2) hx hb hK hP 2 0 mat_2 rfl hi3 dX9_disc_40 ?_
          refine lv_iload_n hx hb dX9_disc_41 rfl (lv_at hl 1 rfl) ?_
          refine lv_icmp_eq (tgt := 48) hx hb dX9_disc_42 (by decide) (fun c4 => ?_) (fun c4 => ?_)
          · replace hT := hT.1 c4
            refine lv_iload_n hx hb dX9_disc_48 rfl (lv_at hl 2 rfl) ?_
            refine lv_if_ne (tgt := 55) hx hb dX9_disc_49 (by decide) (fun c5 => ?_) (fun c5 => ?_)
            · replace hT := hT.1 c5
              refine lv_iinc (v := x3 + (-1)) (lv' := [(3, .int (x3 + (-1))), (0, .ref (ad 0)), (1, .int a1), (4, .int x4)]) hx hb dX9_disc_55 hl (k := 2) rfl rfl (by decide) rfl (fun ls hl => ?_)
              rw [hB58] at hT
              exact hT _ _ _ hP hD hS (lv_sub hl [1, 2, 0, 3] rfl)
            · replace hT := hT.2 c5
              refine lv_iload hx hb dX9_disc_52 (lv_at hl 3 rfl) ?_
              exact hret _ _ _ _ _ _ hP hD hS hT dX9_disc_54
          · replace hT := hT.2 c4
            refine lv_goto (tgt := 58) hx hb dX9_disc_45 (by decide) ?_
            rw [hB58] at hT
            exact hT _ _ _ hP hD hS (lv_sub hl [0, 1, 2, 3] rfl)
    · clear hP hD hS hl H locs ls
      intro S x3 x4 hT
      unfold mT_disc_58 at hT
      rw [hB58]
      intro H locs ls hP hD hS hl
      refine lv_iinc (v := x4 + (-1)) (lv' := [(4, .int (x4 + (-1))), (0, .ref (ad 0)), (1, .int a1), (3, .int x3)]) hx hb dX9_disc_58 hl (k := 3) rfl rfl (by decide) rfl (fun ls hl => ?_)
      refine lv_goto (tgt := 25) hx hb dX9_disc_61 (by decide) ?_
      rw [hB25] at hT
      exact hT _ _ _ hP hD hS (lv_sub hl [1, 2, 3, 0] rfl)
  unfold mT_disc_e at hT
  refine lv_aload_n hx hb dX9_disc_0 rfl (lv_at hl 0 rfl) ?_
  refine lv_iconst (v := 0) hx hb dX9_disc_1 (by decide) ?_
  refine mp_thrown hx hb hts hown hK hP hD hS dX9_disc_2 (fun H locs hP hD hS => ?_)
  refine lv_aload_n hx hb dX9_disc_5 rfl (lv_at hl 0 rfl) ?_
  refine lv_iload_n hx hb dX9_disc_6 rfl (lv_at hl 1 rfl) ?_
  refine mcallZ (n := 1) (rest := []) hT hx hb hml hown hts hK hA hP hD hS hl gg_170 hd_X9_isPeg ⟨Nat.le_of_ble_eq_true rfl, Nat.le_of_ble_eq_true rfl⟩ rfl rfl (Nat.le_of_ble_eq_true rfl) dX9_disc_7 (Nat.zero_le _) (Nat.zero_le _) (fun b7 S6 H locs hP hD hS hT => ?_)
  refine lv_if_ne (tgt := 15) hx hb dX9_disc_10 (by decide) (fun c8 => ?_) (fun c8 => ?_)
  · replace hT := hT.1 c8
    refine lv_iload_n hx hb dX9_disc_15 rfl (lv_at hl 2 rfl) ?_
    refine lv_istore_n (lv' := [(3, .int a2), (0, .ref (ad 0)), (1, .int a1), (2, .int a2)]) hx hb dX9_disc_16 rfl hl (by decide) rfl (fun ls hl => ?_)
    refine lv_aload_n hx hb dX9_disc_17 rfl (lv_at hl 1 rfl) ?_
    refine mg_discs (v := S6.1 1) hx hb hts hown hK hP rfl dX9_disc_18 ?_
    refine lv_iconst (v := 1) hx hb dX9_disc_21 (by decide) ?_
    refine lv_isub hx hb dX9_disc_22 ?_
    refine lv_topi (fun v4_9 ev4_9 => ?_)
    replace hT := hT v4_9 ev4_9
    refine lv_istore (lv' := [(4, .int v4_9), (3, .int a2), (0, .ref (ad 0)), (1, .int a1), (2, .int a2)]) hx hb dX9_disc_23 hl (by decide) rfl (fun ls hl => ?_)
    rw [hB25] at hT
    exact hT _ _ _ hP hD hS (lv_sub hl [2, 3, 1, 0] rfl)
  · replace hT := hT.2 c8
    refine lv_iconst (v := (-1)) hx hb dX9_disc_13 (by decide) ?_
    exact hret _ _ _ _ _ _ hP hD hS hT dX9_disc_14
abbrev mX_why (l : Launch) (S : MS) (a1 : Int32) (a2 : Int32) (post : Int32 → MS → Prop) : Prop := mCtI l yX9_why cX9_why 3 2 49 (fun ad => [.int a1, .int a2]) S post
def mT_why_e (l : Launch) (a1 : Int32) (a2 : Int32) (post : Int32 → MS → Prop) (S0 : MS) : Prop := mX_isPeg l (mf S0 3 0) a1 (fun b2 S1 => (bI b2 = 0 → post (-1) S1) ∧ (¬ bI b2 = 0 → mX_isPeg l S1 a2 (fun b5 S4 => (bI b5 = 0 → post (-1) S4) ∧ (¬ bI b5 = 0 → mX_whyOf l S4 2 a1 a2 (fun r8 S7 => post r8 S7)))))
set_option maxHeartbeats 4000000 in
set_option maxRecDepth 100000 in
theorem m_why (l : Launch) (S0 : MS) (a1 : Int32) (a2 : Int32) (post : Int32 → MS → Prop) (h : mT_why_e l a1 a2 post S0) : mX_why l S0 a1 a2 post := by
  refine msetI rfl (fun _ => Nat.le_of_ble_eq_true rfl) ?_
  intro p e s m args below meth c D ad cI cZ cL A Q hx hb hml hown hts hK hA hret H locs ls hP hD hS hl
  replace hl : lv_has ls 3 [(0, .ref (ad 0)), (1, .int a1), (2, .int a2)] := hl
  have hT := h
  unfold mT_why_e at hT
  refine lv_aload_n hx hb dX9_why_0 rfl (lv_at hl 0 rfl) ?_
  refine lv_iconst (v := 0) hx hb dX9_why_1 (by decide) ?_
  refine mp_thrown hx hb hts hown hK hP hD hS dX9_why_2 (fun H locs hP hD hS => ?_)
  refine lv_aload_n hx hb dX9_why_5 rfl (lv_at hl 0 rfl) ?_
  refine lv_iload_n hx hb dX9_why_6 rfl (lv_at hl 1 rfl) ?_
  refine mcallZ (n := 1) (rest := []) hT hx hb hml hown hts hK hA hP hD hS hl gg_170 hd_X9_isPeg ⟨Nat.le_of_ble_eq_true rfl, Nat.le_of_ble_eq_true rfl⟩ rfl rfl (Nat.le_of_ble_eq_true rfl) dX9_why_7 (Nat.zero_le _) (Nat.zero_le _) (fun b2 S1 H locs hP hD hS hT => ?_)
  refine lv_if_eq (tgt := 34) hx hb dX9_why_10 (by decide) (fun c3 => ?_) (fun c3 => ?_)
  · replace hT := hT.1 c3
    refine lv_iconst (v := (-1)) hx hb dX9_why_34 (by decide) ?_
    exact hret _ _ _ _ _ _ hP hD hS hT dX9_why_35
  · replace hT := hT.2 c3
    refine lv_aload_n hx hb dX9_why_13 rfl (lv_at hl 0 rfl) ?_
    refine lv_iload_n hx hb dX9_why_14 rfl (lv_at hl 2 rfl) ?_
    refine mcallZ (n := 1) (rest := []) hT hx hb hml hown hts hK hA hP hD hS hl gg_170 hd_X9_isPeg ⟨Nat.le_of_ble_eq_true rfl, Nat.le_of_ble_eq_true rfl⟩ rfl rfl (Nat.le_of_ble_eq_true rfl) dX9_why_15 (Nat.zero_le _) (Nat.zero_le _) (fun b5 S4 H locs hP hD hS hT => ?_)
    refine lv_if_eq (tgt := 34) hx hb dX9_why_18 (by decide) (fun c6 => ?_) (fun c6 => ?_)
    · replace hT := hT.1 c6
      refine lv_iconst (v := (-1)) hx hb dX9_why_34 (by decide) ?_
      exact hret _ _ _ _ _ _ hP hD hS hT dX9_why_35
    · replace hT := hT.2 c6
      refine lv_aload_n hx hb dX9_why_21 rfl (lv_at hl 0 rfl) ?_
      refine lv_aload_n hx hb dX9_why_22 rfl (lv_at hl 0 rfl) ?_
      refine mg_stand hx hb hts hown hK hP dX9_why_23 ?_
      refine lv_iload_n hx hb dX9_why_26 rfl (lv_at hl 1 rfl) ?_
      refine lv_iload_n hx hb dX9_why_27 rfl (lv_at hl 2 rfl) ?_
      refine mcallI (n := 3) (rest := []) hT hx hb hml hown hts hK hA hP hD hS hl gg_188 hd_X9_whyOf ⟨Nat.le_of_ble_eq_true rfl, Nat.le_of_ble_eq_true rfl⟩ rfl rfl (Nat.le_of_ble_eq_true rfl) dX9_why_28 (Nat.zero_le _) (Nat.zero_le _) (fun r8 S7 H locs hP hD hS hT => ?_)
      refine lv_goto (tgt := 35) hx hb dX9_why_31 (by decide) ?_
      exact hret _ _ _ _ _ _ hP hD hS hT dX9_why_35
end
section
abbrev mX_move (l : Launch) (S : MS) (a1 : Int32) (a2 : Int32) (post : Int32 → MS → Prop) : Prop := mCtI l yX9_move cX9_move 4 2 49 (fun ad => [.int a1, .int a2]) S post
def mT_move_21 (l : Launch) (a1 : Int32) (a2 : Int32) (post : Int32 → MS → Prop) (B21 : MS → Prop) (B63 : MS → Int32 → Prop) (B101 : MS → Prop) (S : MS) : Prop := mX_no l S 1 (fun r2 S1 => post r2 S1)
def mT_move_63 (l : Launch) (a1 : Int32) (a2 : Int32) (post : Int32 → MS → Prop) (B21 : MS → Prop) (B63 : MS → Int32 → Prop) (B101 : MS → Prop) (S : MS) (x3 : Int32) : Prop := (S.1 4 ≤ x3 → B101 (mf S 4 ((S.1 4) - 1))) ∧ (¬ S.1 4 ≤ x3 → vp_in x3 201 ∧ vp_in (x3 - 1) 201 ∧ B63 (ma S 6 (upd (S.2.1 6) (x3 - 1).toNatClampNeg (S.2.1 6 x3.toNatClampNeg))) (x3 + 1))
def mT_move_101 (l : Launch) (a1 : Int32) (a2 : Int32) (post : Int32 → MS → Prop) (B21 : MS → Prop) (B63 : MS → Int32 → Prop) (B101 : MS → Prop) (S : MS) : Prop := mX_pack l S 2 (fun r7 S6 => vp_in (S.1 4) 201 ∧ mX_moved l (mf (mf (ma S6 6 (upd (S6.2.1 6) (S.1 4).toNatClampNeg r7)) 4 ((S6.1 4) + 1)) 5 0) 2 a1 a2 (fun r10 S9 => post r10 S9))
def mT_move_e (l : Launch) (a1 : Int32) (a2 : Int32) (post : Int32 → MS → Prop) (B21 : MS → Prop) (B63 : MS → Int32 → Prop) (B101 : MS → Prop) (S0 : MS) : Prop := mX_isPeg l (mf S0 3 0) a1 (fun b12 S11 => (bI b12 = 0 → B21 S11) ∧ (¬ bI b12 = 0 → mX_isPeg l S11 a2 (fun b15 S14 => (¬ bI b15 = 0 → mX_whyOf l S14 2 a1 a2 (fun r18 S17 => (r18 ≤ 0 → (¬ S17.1 4 = 200 → B101 (mf S17 2 0)) ∧ (S17.1 4 = 200 → B63 (mf S17 2 0) 1)) ∧ (¬ r18 ≤ 0 → mX_no l S17 4 (fun r22 S21 => post r22 S21)))) ∧ (bI b15 = 0 → B21 S14))))
set_option maxHeartbeats 4000000 in
set_option maxRecDepth 100000 in
theorem m_move (l : Launch) (S0 : MS) (a1 : Int32) (a2 : Int32) (post : Int32 → MS → Prop) (h : ∀ (B21 : MS → Prop) (B63 : MS → Int32 → Prop) (B101 : MS → Prop), (∀ (S : MS) , mT_move_21 l a1 a2 post B21 B63 B101 S → B21 S ) → (∀ (S : MS) (x3 : Int32), mT_move_63 l a1 a2 post B21 B63 B101 S x3 → B63 S x3) → (∀ (S : MS) , mT_move_101 l a1 a2 post B21 B63 B101 S → B101 S ) → mT_move_e l a1 a2 post B21 B63 B101 S0) : mX_move l S0 a1 a2 post := by
  refine msetI rfl (fun _ => Nat.le_of_ble_eq_true rfl) ?_
  intro p e s m args below meth c D ad cI cZ cL A Q hx hb hml hown hts hK hA hret H locs ls hP hD hS hl
  replace hl : lv_has ls 4 [(0, .ref (ad 0)), (1, .int a1), (2, .int a2)] := hl
  obtain ⟨B21, hB21⟩ : ∃ B : MS → Prop, B = (fun S => ∀ (H : Heap) (locs : List Loc) (ls : Array Slot), va_P D vwCl (mW ad cI cZ cL S) H → va_D A (mW ad cI cZ cL S) → va_S A s.heap H locs → lv_has ls 4 [(0, .ref (ad 0))] → W p l e (mrm 2 49) s m args below meth c H locs 0 0 Q (F0 m 21 ls [])) := ⟨_, rfl⟩
  obtain ⟨B63, hB63⟩ : ∃ B : MS → Int32 → Prop, B = (fun S x3 => ∀ (H : Heap) (locs : List Loc) (ls : Array Slot), va_P D vwCl (mW ad cI cZ cL S) H → va_D A (mW ad cI cZ cL S) → va_S A s.heap H locs → lv_has ls 4 [(0, .ref (ad 0)), (1, .int a1), (2, .int a2), (3, .int x3)] → W p l e (mrm 2 49) s m args below meth c H locs 0 0 Q (F0 m 63 ls [])) := ⟨_, rfl⟩
  obtain ⟨B101, hB101⟩ : ∃ B : MS → Prop, B = (fun S => ∀ (H : Heap) (locs : List Loc) (ls : Array Slot), va_P D vwCl (mW ad cI cZ cL S) H → va_D A (mW ad cI cZ cL S) → va_S A s.heap H locs → lv_has ls 4 [(0, .ref (ad 0)), (1, .int a1), (2, .int a2)] → W p l e (mrm 2 49) s m args below meth c H locs 0 0 Q (F0 m 101 ls [])) := ⟨_, rfl⟩
  have hT : mT_move_e l a1 a2 post B21 B63 B101 S0 := by
    refine h B21 B63 B101 ?_ ?_ ?_
    · clear hP hD hS hl H locs ls
      intro S hT
      unfold mT_move_21 at hT
      rw [hB21]
      intro H locs ls hP hD hS hl
      refine lv_aload_n hx hb dX9_move_21 rfl (lv_at hl 0 rfl) ?_
      refine lv_iconst (v := 1) hx hb dX9_move_22 (by decide) ?_
      refine mcallI (n := 1) (rest := []) hT hx hb hml hown hts hK hA hP hD hS hl gg_192 hd_X9_no ⟨Nat.le_of_ble_eq_true rfl, Nat.le_of_ble_eq_true rfl⟩ rfl rfl (Nat.le_of_ble_eq_true rfl) dX9_move_23 (Nat.zero_le _) (Nat.zero_le _) (fun r2 S1 H locs hP hD hS hT => ?_)
      exact hret _ _ _ _ _ _ hP hD hS hT dX9_move_26
    · clear hP hD hS hl H locs ls
      intro S x3 hT
      unfold mT_move_63 at hT
      rw [hB63]
      intro H locs ls hP hD hS hl
      refine lv_iload_n hx hb dX9_move_63 rfl (lv_at hl 3 rfl) ?_
      refine lv_aload_n hx hb dX9_move_64 rfl (lv_at hl 0 rfl) ?_
      refine mg_undos (v := S.1 4) hx hb hts hown hK hP rfl dX9_move_65 ?_
      refine lv_icmp_ge (tgt := 91) hx hb dX9_move_68 (by decide) (fun c3 => ?_) (fun c3 => ?_)
      · replace hT := hT.1 c3
        refine lv_aload_n hx hb dX9_move_91 rfl (lv_at hl 0 rfl) ?_
        refine lv_dup hx hb dX9_move_92 rfl ?_
        refine mg_undos (v := S.1 4) hx hb hts hown hK hP rfl dX9_move_93 ?_
        refine lv_iconst (v := 1) hx hb dX9_move_96 (by decide) ?_
        refine lv_isub hx hb dX9_move_97 ?_
        refine mp_undos hx hb hts hown hK hP hD hS dX9_move_98 (fun H locs hP hD hS => ?_)
        rw [hB101] at hT
        exact hT _ _ _ hP hD hS (lv_sub hl [0, 1, 2] rfl)
      · replace hT := hT.2 c3
        refine lv_aload_n hx hb dX9_move_71 rfl (lv_at hl 0 rfl) ?_
        refine mg_past hx hb hts hown hK hP dX9_move_72 ?_
        refine lv_iload_n hx hb dX9_move_75 rfl (lv_at hl 3 rfl) ?_
        refine lv_iconst (v := 1) hx hb dX9_move_76 (by decide) ?_
        refine lv_isub hx hb dX9_move_77 ?_
        refine lv_aload_n hx hb dX9_move_78 rfl (lv_at hl 0 rfl) ?_
        refine mg_past hx hb hts hown hK hP dX9_move_79 ?_
        refine lv_iload_n hx hb dX9_move_82 rfl (lv_at hl 3 rfl) ?_
        obtain ⟨hi4, hT⟩ := hT
        refine va_iald (f := S.2.1 6) hx hb hK hP 6 0 mat_6 rfl hi4 dX9_move_83 ?_
        obtain ⟨hi5, hT⟩ := hT
        refine va_iast (f := S.2.1 6) hx hb hK hP hD hS 6 0 mat_6 rfl hi5 dX9_move_84 (fun H locs hP hD hS => ?_)
        replace hP := msetP_6 hP
        replace hD := msetD_6 hD
        refine lv_iinc (v := x3 + 1) (lv' := [(3, .int (x3 + 1)), (0, .ref (ad 0)), (1, .int a1), (2, .int a2)]) hx hb dX9_move_85 hl (k := 3) rfl rfl (by decide) rfl (fun ls hl => ?_)
        refine lv_goto (tgt := 63) hx hb dX9_move_88 (by decide) ?_
        rw [hB63] at hT
        exact hT _ _ _ hP hD hS (lv_sub hl [1, 2, 3, 0] rfl)
    · clear hP hD hS hl H locs ls
      intro S hT
      unfold mT_move_101 at hT
      rw [hB101]
      intro H locs ls hP hD hS hl
      refine lv_aload_n hx hb dX9_move_101 rfl (lv_at hl 0 rfl) ?_
      refine mg_past hx hb hts hown hK hP dX9_move_102 ?_
      refine lv_aload_n hx hb dX9_move_105 rfl (lv_at hl 0 rfl) ?_
      refine mg_undos (v := S.1 4) hx hb hts hown hK hP rfl dX9_move_106 ?_
      refine lv_aload_n hx hb dX9_move_109 rfl (lv_at hl 0 rfl) ?_
      refine lv_aload_n hx hb dX9_move_110 rfl (lv_at hl 0 rfl) ?_
      refine mg_stand hx hb hts hown hK hP dX9_move_111 ?_
      refine mcallI (n := 1) (rest := [.int (S.1 4), .ref (ad 6)]) hT hx hb hml hown hts hK hA hP hD hS hl gg_184 hd_X9_pack ⟨Nat.le_of_ble_eq_true rfl, Nat.le_of_ble_eq_true rfl⟩ rfl rfl (Nat.le_of_ble_eq_true rfl) dX9_move_114 (Nat.zero_le _) (Nat.zero_le _) (fun r7 S6 H locs hP hD hS hT => ?_)
      obtain ⟨hi8, hT⟩ := hT
      refine va_iast (f := S6.2.1 6) hx hb hK hP hD hS 6 0 mat_6 rfl hi8 dX9_move_117 (fun H locs hP hD hS => ?_)
      replace hP := msetP_6 hP
      replace hD := msetD_6 hD
      refine lv_aload_n hx hb dX9_move_118 rfl (lv_at hl 0 rfl) ?_
      refine lv_dup hx hb dX9_move_119 rfl ?_
      refine mg_undos (v := S6.1 4) hx hb hts hown hK hP rfl dX9_move_120 ?_
      refine lv_iconst (v := 1) hx hb dX9_move_123 (by decide) ?_
      refine lv_iadd hx hb dX9_move_124 ?_
      refine mp_undos hx hb hts hown hK hP hD hS dX9_move_125 (fun H locs hP hD hS => ?_)
      refine lv_aload_n hx hb dX9_move_128 rfl (lv_at hl 0 rfl) ?_
      refine lv_iconst (v := 0) hx hb dX9_move_129 (by decide) ?_
      refine mp_redos hx hb hts hown hK hP hD hS dX9_move_130 (fun H locs hP hD hS => ?_)
      refine lv_aload_n hx hb dX9_move_133 rfl (lv_at hl 0 rfl) ?_
      refine lv_aload_n hx hb dX9_move_134 rfl (lv_at hl 0 rfl) ?_
      refine mg_stand hx hb hts hown hK hP dX9_move_135 ?_
      refine lv_iload_n hx hb dX9_move_138 rfl (lv_at hl 1 rfl) ?_
      refine lv_iload_n hx hb dX9_move_139 rfl (lv_at hl 2 rfl) ?_
      refine mcallI (n := 3) (rest := []) hT hx hb hml hown hts hK hA hP hD hS hl gg_196 hd_X9_moved ⟨Nat.le_of_ble_eq_true rfl, Nat.le_of_ble_eq_true rfl⟩ rfl rfl (Nat.le_of_ble_eq_true rfl) dX9_move_140 (Nat.zero_le _) (Nat.zero_le _) (fun r10 S9 H locs hP hD hS hT => ?_)
      exact hret _ _ _ _ _ _ hP hD hS hT dX9_move_143
  unfold mT_move_e at hT
  refine lv_aload_n hx hb dX9_move_0 rfl (lv_at hl 0 rfl) ?_
  refine lv_iconst (v := 0) hx hb dX9_move_1 (by decide) ?_
  refine mp_thrown hx hb hts hown hK hP hD hS dX9_move_2 (fun H locs hP hD hS => ?_)
  refine lv_aload_n hx hb dX9_move_5 rfl (lv_at hl 0 rfl) ?_
  refine lv_iload_n hx hb dX9_move_6 rfl (lv_at hl 1 rfl) ?_
  refine mcallZ (n := 1) (rest := []) hT hx hb hml hown hts hK hA hP hD hS hl gg_170 hd_X9_isPeg ⟨Nat.le_of_ble_eq_true rfl, Nat.le_of_ble_eq_true rfl⟩ rfl rfl (Nat.le_of_ble_eq_true rfl) dX9_move_7 (Nat.zero_le _) (Nat.zero_le _) (fun b12 S11 H locs hP hD hS hT => ?_)
  refine lv_if_eq (tgt := 21) hx hb dX9_move_10 (by decide) (fun c13 => ?_) (fun c13 => ?_)
  · replace hT := hT.1 c13
    rw [hB21] at hT
    exact hT _ _ _ hP hD hS (lv_sub hl [0] rfl)
  · replace hT := hT.2 c13
    refine lv_aload_n hx hb dX9_move_13 rfl (lv_at hl 0 rfl) ?_
    refine lv_iload_n hx hb dX9_move_14 rfl (lv_at hl 2 rfl) ?_
    refine mcallZ (n := 1) (rest := []) hT hx hb hml hown hts hK hA hP hD hS hl gg_170 hd_X9_isPeg ⟨Nat.le_of_ble_eq_true rfl, Nat.le_of_ble_eq_true rfl⟩ rfl rfl (Nat.le_of_ble_eq_true rfl) dX9_move_15 (Nat.zero_le _) (Nat.zero_le _) (fun b15 S14 H locs hP hD hS hT => ?_)
    refine lv_if_ne (tgt := 27) hx hb dX9_move_18 (by decide) (fun c16 => ?_) (fun c16 => ?_)
    · replace hT := hT.1 c16
      refine lv_aload_n hx hb dX9_move_27 rfl (lv_at hl 0 rfl) ?_
      refine lv_aload_n hx hb dX9_move_28 rfl (lv_at hl 0 rfl) ?_
      refine mg_stand hx hb hts hown hK hP dX9_move_29 ?_
      refine lv_iload_n hx hb dX9_move_32 rfl (lv_at hl 1 rfl) ?_
      refine lv_iload_n hx hb dX9_move_33 rfl (lv_at hl 2 rfl) ?_
      refine mcallI (n := 3) (rest := []) hT hx hb hml hown hts hK hA hP hD hS hl gg_188 hd_X9_whyOf ⟨Nat.le_of_ble_eq_true rfl, Nat.le_of_ble_eq_true rfl⟩ rfl rfl (Nat.le_of_ble_eq_true rfl) dX9_move_34 (Nat.zero_le _) (Nat.zero_le _) (fun r18 S17 H locs hP hD hS hT => ?_)
      refine lv_if_le (tgt := 46) hx hb dX9_move_37 (by decide) (fun c19 => ?_) (fun c19 => ?_)
      · replace hT := hT.1 c19
        refine lv_aload_n hx hb dX9_move_46 rfl (lv_at hl 0 rfl) ?_
        refine lv_iconst (v := 0) hx hb dX9_move_47 (by decide) ?_
        refine mp_trouble hx hb hts hown hK hP hD hS dX9_move_48 (fun H locs hP hD hS => ?_)
        refine lv_aload_n hx hb dX9_move_51 rfl (lv_at hl 0 rfl) ?_
        refine mg_undos (v := S17.1 4) hx hb hts hown hK hP rfl dX9_move_52 ?_
        refine lv_sipush (v := 200) hx hb dX9_move_55 (by decide) ?_
        refine lv_icmp_ne (tgt := 101) hx hb dX9_move_58 (by decide) (fun c20 => ?_) (fun c20 => ?_)
        · replace hT := hT.1 c20
          rw [hB101] at hT
          exact hT _ _ _ hP hD hS (lv_sub hl [0, 1, 2] rfl)
        · replace hT := hT.2 c20
          refine lv_iconst (v := 1) hx hb dX9_move_61 (by decide) ?_
          refine lv_istore_n (lv' := [(3, .int 1), (0, .ref (ad 0)), (1, .int a1), (2, .int a2)]) hx hb dX9_move_62 rfl hl (by decide) rfl (fun ls hl => ?_)
          rw [hB63] at hT
          exact hT _ _ _ hP hD hS (lv_sub hl [1, 2, 3, 0] rfl)
      · replace hT := hT.2 c19
        refine lv_aload_n hx hb dX9_move_40 rfl (lv_at hl 0 rfl) ?_
        refine lv_iconst (v := 4) hx hb dX9_move_41 (by decide) ?_
        refine mcallI (n := 1) (rest := []) hT hx hb hml hown hts hK hA hP hD hS hl gg_192 hd_X9_no ⟨Nat.le_of_ble_eq_true rfl, Nat.le_of_ble_eq_true rfl⟩ rfl rfl (Nat.le_of_ble_eq_true rfl) dX9_move_42 (Nat.zero_le _) (Nat.zero_le _) (fun r22 S21 H locs hP hD hS hT => ?_)
        exact hret _ _ _ _ _ _ hP hD hS hT dX9_move_45
    · replace hT := hT.2 c16
      rw [hB21] at hT
      exact hT _ _ _ hP hD hS (lv_sub hl [0] rfl)
abbrev mX_undo (l : Launch) (S : MS) (post : Int32 → MS → Prop) : Prop := mCtI l yX9_undo cX9_undo 2 1 24 (fun ad => []) S post
def mT_undo_e (l : Launch) (post : Int32 → MS → Prop) (S0 : MS) : Prop := (¬ S0.1 4 = 0 → vp_in ((S0.1 4) - 1) 201 ∧ ∀ v1_3 : Int32, v1_3 = S0.2.1 6 ((S0.1 4) - 1).toNatClampNeg → mX_pack l (mf (mf S0 3 0) 4 ((S0.1 4) - 1)) 2 (fun r5 S4 => vp_in ((S0.1 4) - 1) 201 ∧ mX_unpack l (mf (ma S4 6 (upd (S4.2.1 6) ((S0.1 4) - 1).toNatClampNeg r5)) 5 ((S4.1 5) + 1)) v1_3 2 (fun S7 => post 1 S7))) ∧ (S0.1 4 = 0 → post 0 (mf S0 3 0))
set_option maxHeartbeats 4000000 in
set_option maxRecDepth 100000 in
theorem m_undo (l : Launch) (S0 : MS) (post : Int32 → MS → Prop) (h : mT_undo_e l post S0) : mX_undo l S0 post := by
  refine msetI rfl (fun _ => Nat.le_of_ble_eq_true rfl) ?_
  intro p e s m args below meth c D ad cI cZ cL A Q hx hb hml hown hts hK hA hret H locs ls hP hD hS hl
  replace hl : lv_has ls 2 [(0, .ref (ad 0))] := hl
  have hT := h
  unfold mT_undo_e at hT
  refine lv_aload_n hx hb dX9_undo_0 rfl (lv_at hl 0 rfl) ?_
  refine lv_iconst (v := 0) hx hb dX9_undo_1 (by decide) ?_
  refine mp_thrown hx hb hts hown hK hP hD hS dX9_undo_2 (fun H locs hP hD hS => ?_)
  refine lv_aload_n hx hb dX9_undo_5 rfl (lv_at hl 0 rfl) ?_
  refine mg_undos (v := S0.1 4) hx hb hts hown hK hP rfl dX9_undo_6 ?_
  refine lv_if_ne (tgt := 14) hx hb dX9_undo_9 (by decide) (fun c1 => ?_) (fun c1 => ?_)
  · replace hT := hT.1 c1
    refine lv_aload_n hx hb dX9_undo_14 rfl (lv_at hl 0 rfl) ?_
    refine lv_dup hx hb dX9_undo_15 rfl ?_
    refine mg_undos (v := S0.1 4) hx hb hts hown hK hP rfl dX9_undo_16 ?_
    refine lv_iconst (v := 1) hx hb dX9_undo_19 (by decide) ?_
    refine lv_isub hx hb dX9_undo_20 ?_
    refine mp_undos hx hb hts hown hK hP hD hS dX9_undo_21 (fun H locs hP hD hS => ?_)
    refine lv_aload_n hx hb dX9_undo_24 rfl (lv_at hl 0 rfl) ?_
    refine mg_past hx hb hts hown hK hP dX9_undo_25 ?_
    refine lv_aload_n hx hb dX9_undo_28 rfl (lv_at hl 0 rfl) ?_
    refine mg_undos (v := (S0.1 4) - 1) hx hb hts hown hK hP rfl dX9_undo_29 ?_
    obtain ⟨hi2, hT⟩ := hT
    refine va_iald (f := S0.2.1 6) hx hb hK hP 6 0 mat_6 rfl hi2 dX9_undo_32 ?_
    refine lv_topi (fun v1_3 ev1_3 => ?_)
    replace hT := hT v1_3 ev1_3
    refine lv_istore_n (lv' := [(1, .int v1_3), (0, .ref (ad 0))]) hx hb dX9_undo_33 rfl hl (by decide) rfl (fun ls hl => ?_)
    refine lv_aload_n hx hb dX9_undo_34 rfl (lv_at hl 1 rfl) ?_
    refine mg_past hx hb hts hown hK hP dX9_undo_35 ?_
    refine lv_aload_n hx hb dX9_undo_38 rfl (lv_at hl 1 rfl) ?_
    refine mg_undos (v := (S0.1 4) - 1) hx hb hts hown hK hP rfl dX9_undo_39 ?_
    refine lv_aload_n hx hb dX9_undo_42 rfl (lv_at hl 1 rfl) ?_
    refine lv_aload_n hx hb dX9_undo_43 rfl (lv_at hl 1 rfl) ?_
    refine mg_stand hx hb hts hown hK hP dX9_undo_44 ?_
    refine mcallI (n := 1) (rest := [.int ((S0.1 4) - 1), .ref (ad 6)]) hT hx hb hml hown hts hK hA hP hD hS hl gg_184 hd_X9_pack ⟨Nat.le_of_ble_eq_true rfl, Nat.le_of_ble_eq_true rfl⟩ rfl rfl (Nat.le_of_ble_eq_true rfl) dX9_undo_47 (Nat.zero_le _) (Nat.zero_le _) (fun r5 S4 H locs hP hD hS hT => ?_)
    obtain ⟨hi6, hT⟩ := hT
    refine va_iast (f := S4.2.1 6) hx hb hK hP hD hS 6 0 mat_6 rfl hi6 dX9_undo_50 (fun H locs hP hD hS => ?_)
    replace hP := msetP_6 hP
    replace hD := msetD_6 hD
    refine lv_aload_n hx hb dX9_undo_51 rfl (lv_at hl 1 rfl) ?_
    refine lv_dup hx hb dX9_undo_52 rfl ?_
    refine mg_redos (v := S4.1 5) hx hb hts hown hK hP rfl dX9_undo_53 ?_
    refine lv_iconst (v := 1) hx hb dX9_undo_56 (by decide) ?_
    refine lv_iadd hx hb dX9_undo_57 ?_
    refine mp_redos hx hb hts hown hK hP hD hS dX9_undo_58 (fun H locs hP hD hS => ?_)
    refine lv_aload_n hx hb dX9_undo_61 rfl (lv_at hl 1 rfl) ?_
    refine lv_iload_n hx hb dX9_undo_62 rfl (lv_at hl 0 rfl) ?_
    refine lv_aload_n hx hb dX9_undo_63 rfl (lv_at hl 1 rfl) ?_
    refine mg_stand hx hb hts hown hK hP dX9_undo_64 ?_
    refine mcallV (n := 2) (rest := []) hT hx hb hml hown hts hK hA hP hD hS hl gg_180 hd_X9_unpack ⟨Nat.le_of_ble_eq_true rfl, Nat.le_of_ble_eq_true rfl⟩ rfl rfl (Nat.le_of_ble_eq_true rfl) dX9_undo_67 (Nat.zero_le _) (Nat.zero_le _) (fun S7 H locs hP hD hS hT => ?_)
    refine lv_iconst (v := 1) hx hb dX9_undo_70 (by decide) ?_
    exact hret _ _ _ _ _ _ hP hD hS hT dX9_undo_71
  · replace hT := hT.2 c1
    refine lv_iconst (v := 0) hx hb dX9_undo_12 (by decide) ?_
    exact hret _ _ _ _ _ _ hP hD hS hT dX9_undo_13
abbrev mX_redo (l : Launch) (S : MS) (post : Int32 → MS → Prop) : Prop := mCtI l yX9_redo cX9_redo 2 1 24 (fun ad => []) S post
def mT_redo_e (l : Launch) (post : Int32 → MS → Prop) (S0 : MS) : Prop := (¬ S0.1 5 = 0 → vp_in (S0.1 4) 201 ∧ ∀ v1_3 : Int32, v1_3 = S0.2.1 6 (S0.1 4).toNatClampNeg → mX_pack l (mf S0 3 0) 2 (fun r5 S4 => vp_in (S0.1 4) 201 ∧ mX_unpack l (mf (mf (ma S4 6 (upd (S4.2.1 6) (S0.1 4).toNatClampNeg r5)) 4 ((S4.1 4) + 1)) 5 ((S4.1 5) - 1)) v1_3 2 (fun S7 => post 1 S7))) ∧ (S0.1 5 = 0 → post 0 (mf S0 3 0))
set_option maxHeartbeats 4000000 in
set_option maxRecDepth 100000 in
theorem m_redo (l : Launch) (S0 : MS) (post : Int32 → MS → Prop) (h : mT_redo_e l post S0) : mX_redo l S0 post := by
  refine msetI rfl (fun _ => Nat.le_of_ble_eq_true rfl) ?_
  intro p e s m args below meth c D ad cI cZ cL A Q hx hb hml hown hts hK hA hret H locs ls hP hD hS hl
  replace hl : lv_has ls 2 [(0, .ref (ad 0))] := hl
  have hT := h
  unfold mT_redo_e at hT
  refine lv_aload_n hx hb dX9_redo_0 rfl (lv_at hl 0 rfl) ?_
  refine lv_iconst (v := 0) hx hb dX9_redo_1 (by decide) ?_
  refine mp_thrown hx hb hts hown hK hP hD hS dX9_redo_2 (fun H locs hP hD hS => ?_)
  refine lv_aload_n hx hb dX9_redo_5 rfl (lv_at hl 0 rfl) ?_
  refine mg_redos (v := S0.1 5) hx hb hts hown hK hP rfl dX9_redo_6 ?_
  refine lv_if_ne (tgt := 14) hx hb dX9_redo_9 (by decide) (fun c1 => ?_) (fun c1 => ?_)
  · replace hT := hT.1 c1
    refine lv_aload_n hx hb dX9_redo_14 rfl (lv_at hl 0 rfl) ?_
    refine mg_past hx hb hts hown hK hP dX9_redo_15 ?_
    refine lv_aload_n hx hb dX9_redo_18 rfl (lv_at hl 0 rfl) ?_
    refine mg_undos (v := S0.1 4) hx hb hts hown hK hP rfl dX9_redo_19 ?_
    obtain ⟨hi2, hT⟩ := hT
    refine va_iald (f := S0.2.1 6) hx hb hK hP 6 0 mat_6 rfl hi2 dX9_redo_22 ?_
    refine lv_topi (fun v1_3 ev1_3 => ?_)
    replace hT := hT v1_3 ev1_3
    refine lv_istore_n (lv' := [(1, .int v1_3), (0, .ref (ad 0))]) hx hb dX9_redo_23 rfl hl (by decide) rfl (fun ls hl => ?_)
    refine lv_aload_n hx hb dX9_redo_24 rfl (lv_at hl 1 rfl) ?_
    refine mg_past hx hb hts hown hK hP dX9_redo_25 ?_
    refine lv_aload_n hx hb dX9_redo_28 rfl (lv_at hl 1 rfl) ?_
    refine mg_undos (v := S0.1 4) hx hb hts hown hK hP rfl dX9_redo_29 ?_
    refine lv_aload_n hx hb dX9_redo_32 rfl (lv_at hl 1 rfl) ?_
    refine lv_aload_n hx hb dX9_redo_33 rfl (lv_at hl 1 rfl) ?_
    refine mg_stand hx hb hts hown hK hP dX9_redo_34 ?_
    refine mcallI (n := 1) (rest := [.int (S0.1 4), .ref (ad 6)]) hT hx hb hml hown hts hK hA hP hD hS hl gg_184 hd_X9_pack ⟨Nat.le_of_ble_eq_true rfl, Nat.le_of_ble_eq_true rfl⟩ rfl rfl (Nat.le_of_ble_eq_true rfl) dX9_redo_37 (Nat.zero_le _) (Nat.zero_le _) (fun r5 S4 H locs hP hD hS hT => ?_)
    obtain ⟨hi6, hT⟩ := hT
    refine va_iast (f := S4.2.1 6) hx hb hK hP hD hS 6 0 mat_6 rfl hi6 dX9_redo_40 (fun H locs hP hD hS => ?_)
    replace hP := msetP_6 hP
    replace hD := msetD_6 hD
    refine lv_aload_n hx hb dX9_redo_41 rfl (lv_at hl 1 rfl) ?_
    refine lv_dup hx hb dX9_redo_42 rfl ?_
    refine mg_undos (v := S4.1 4) hx hb hts hown hK hP rfl dX9_redo_43 ?_
    refine lv_iconst (v := 1) hx hb dX9_redo_46 (by decide) ?_
    refine lv_iadd hx hb dX9_redo_47 ?_
    refine mp_undos hx hb hts hown hK hP hD hS dX9_redo_48 (fun H locs hP hD hS => ?_)
    refine lv_aload_n hx hb dX9_redo_51 rfl (lv_at hl 1 rfl) ?_
    refine lv_dup hx hb dX9_redo_52 rfl ?_
    refine mg_redos (v := S4.1 5) hx hb hts hown hK hP rfl dX9_redo_53 ?_
    refine lv_iconst (v := 1) hx hb dX9_redo_56 (by decide) ?_
    refine lv_isub hx hb dX9_redo_57 ?_
    refine mp_redos hx hb hts hown hK hP hD hS dX9_redo_58 (fun H locs hP hD hS => ?_)
    refine lv_aload_n hx hb dX9_redo_61 rfl (lv_at hl 1 rfl) ?_
    refine lv_iload_n hx hb dX9_redo_62 rfl (lv_at hl 0 rfl) ?_
    refine lv_aload_n hx hb dX9_redo_63 rfl (lv_at hl 1 rfl) ?_
    refine mg_stand hx hb hts hown hK hP dX9_redo_64 ?_
    refine mcallV (n := 2) (rest := []) hT hx hb hml hown hts hK hA hP hD hS hl gg_180 hd_X9_unpack ⟨Nat.le_of_ble_eq_true rfl, Nat.le_of_ble_eq_true rfl⟩ rfl rfl (Nat.le_of_ble_eq_true rfl) dX9_redo_67 (Nat.zero_le _) (Nat.zero_le _) (fun S7 H locs hP hD hS hT => ?_)
    refine lv_iconst (v := 1) hx hb dX9_redo_70 (by decide) ?_
    exact hret _ _ _ _ _ _ hP hD hS hT dX9_redo_71
  · replace hT := hT.2 c1
    refine lv_iconst (v := 0) hx hb dX9_redo_12 (by decide) ?_
    exact hret _ _ _ _ _ _ hP hD hS hT dX9_redo_13
abbrev mX_moves (l : Launch) (S : MS) (post : Int32 → MS → Prop) : Prop := mCtI l yX9_moves cX9_moves 4 2 49 (fun ad => []) S post
def mT_moves_9 (l : Launch) (post : Int32 → MS → Prop) (B9 : MS → Int32 → Int32 → Prop) (B19 : MS → Int32 → Int32 → Int32 → Prop) (S : MS) (x1 : Int32) (x2 : Int32) : Prop := (S.1 0 ≤ x2 → post x1 S) ∧ (¬ S.1 0 ≤ x2 → B19 S x1 x2 0)
def mT_moves_19 (l : Launch) (post : Int32 → MS → Prop) (B9 : MS → Int32 → Int32 → Prop) (B19 : MS → Int32 → Int32 → Int32 → Prop) (S : MS) (x1 : Int32) (x2 : Int32) (x3 : Int32) : Prop := (S.1 0 ≤ x3 → B9 S x1 (x2 + 1)) ∧ (¬ S.1 0 ≤ x3 → mX_whyOf l S 2 x2 x3 (fun r4 S3 => (¬ r4 = 0 → ∀ v1_6 : Int32, v1_6 = x1 + 0 → B19 S3 v1_6 x2 (x3 + 1)) ∧ (r4 = 0 → ∀ v1_7 : Int32, v1_7 = x1 + 1 → B19 S3 v1_7 x2 (x3 + 1))))
def mT_moves_e (l : Launch) (post : Int32 → MS → Prop) (B9 : MS → Int32 → Int32 → Prop) (B19 : MS → Int32 → Int32 → Int32 → Prop) (S0 : MS) : Prop := B9 (mf S0 3 0) 0 0
set_option maxHeartbeats 4000000 in
set_option maxRecDepth 100000 in
theorem m_moves (l : Launch) (S0 : MS) (post : Int32 → MS → Prop) (h : ∀ (B9 : MS → Int32 → Int32 → Prop) (B19 : MS → Int32 → Int32 → Int32 → Prop), (∀ (S : MS) (x1 : Int32) (x2 : Int32), mT_moves_9 l post B9 B19 S x1 x2 → B9 S x1 x2) → (∀ (S : MS) (x1 : Int32) (x2 : Int32) (x3 : Int32), mT_moves_19 l post B9 B19 S x1 x2 x3 → B19 S x1 x2 x3) → mT_moves_e l post B9 B19 S0) : mX_moves l S0 post := by
  refine msetI rfl (fun _ => Nat.le_of_ble_eq_true rfl) ?_
  intro p e s m args below meth c D ad cI cZ cL A Q hx hb hml hown hts hK hA hret H locs ls hP hD hS hl
  replace hl : lv_has ls 4 [(0, .ref (ad 0))] := hl
  obtain ⟨B9, hB9⟩ : ∃ B : MS → Int32 → Int32 → Prop, B = (fun S x1 x2 => ∀ (H : Heap) (locs : List Loc) (ls : Array Slot), va_P D vwCl (mW ad cI cZ cL S) H → va_D A (mW ad cI cZ cL S) → va_S A s.heap H locs → lv_has ls 4 [(0, .ref (ad 0)), (1, .int x1), (2, .int x2)] → W p l e (mrm 2 49) s m args below meth c H locs 0 0 Q (F0 m 9 ls [])) := ⟨_, rfl⟩
  obtain ⟨B19, hB19⟩ : ∃ B : MS → Int32 → Int32 → Int32 → Prop, B = (fun S x1 x2 x3 => ∀ (H : Heap) (locs : List Loc) (ls : Array Slot), va_P D vwCl (mW ad cI cZ cL S) H → va_D A (mW ad cI cZ cL S) → va_S A s.heap H locs → lv_has ls 4 [(0, .ref (ad 0)), (1, .int x1), (2, .int x2), (3, .int x3)] → W p l e (mrm 2 49) s m args below meth c H locs 0 0 Q (F0 m 19 ls [])) := ⟨_, rfl⟩
  have hT : mT_moves_e l post B9 B19 S0 := by
    refine h B9 B19 ?_ ?_
    · clear hP hD hS hl H locs ls
      intro S x1 x2 hT
      unfold mT_moves_9 at hT
      rw [hB9]
      intro H locs ls hP hD hS hl
      refine lv_iload_n hx hb dX9_moves_9 rfl (lv_at hl 2 rfl) ?_
      refine lv_aload_n hx hb dX9_moves_10 rfl (lv_at hl 0 rfl) ?_
      refine mg_pegs (v := S.1 0) hx hb hts hown hK hP rfl dX9_moves_11 ?_
      refine lv_icmp_ge (tgt := 60) hx hb dX9_moves_14 (by decide) (fun c1 => ?_) (fun c1 => ?_)
      · replace hT := hT.1 c1
        refine lv_iload_n hx hb dX9_moves_60 rfl (lv_at hl 1 rfl) ?_
        exact hret _ _ _ _ _ _ hP hD hS hT dX9_moves_61
      · replace hT := hT.2 c1
        refine lv_iconst (v := 0) hx hb dX9_moves_17 (by decide) ?_
        refine lv_istore_n (lv' := [(3, .int 0), (0, .ref (ad 0)), (1, .int x1), (2, .int x2)]) hx hb dX9_moves_18 rfl hl (by decide) rfl (fun ls hl => ?_)
        rw [hB19] at hT
        exact hT _ _ _ hP hD hS (lv_sub hl [1, 2, 3, 0] rfl)
    · clear hP hD hS hl H locs ls
      intro S x1 x2 x3 hT
      unfold mT_moves_19 at hT
      rw [hB19]
      intro H locs ls hP hD hS hl
      refine lv_iload_n hx hb dX9_moves_19 rfl (lv_at hl 3 rfl) ?_
      refine lv_aload_n hx hb dX9_moves_20 rfl (lv_at hl 0 rfl) ?_
      refine mg_pegs (v := S.1 0) hx hb hts hown hK hP rfl dX9_moves_21 ?_
      refine lv_icmp_ge (tgt := 54) hx hb dX9_moves_24 (by decide) (fun c2 => ?_) (fun c2 => ?_)
      · replace hT := hT.1 c2
        refine lv_iinc (v := x2 + 1) (lv' := [(2, .int (x2 + 1)), (0, .ref (ad 0)), (1, .int x1), (3, .int x3)]) hx hb dX9_moves_54 hl (k := 2) rfl rfl (by decide) rfl (fun ls hl => ?_)
        refine lv_goto (tgt := 9) hx hb dX9_moves_57 (by decide) ?_
        rw [hB9] at hT
        exact hT _ _ _ hP hD hS (lv_sub hl [1, 2, 0] rfl)
      · replace hT := hT.2 c2
        refine lv_iload_n hx hb dX9_moves_27 rfl (lv_at hl 1 rfl) ?_
        refine lv_aload_n hx hb dX9_moves_28 rfl (lv_at hl 0 rfl) ?_
        refine lv_aload_n hx hb dX9_moves_29 rfl (lv_at hl 0 rfl) ?_
        refine mg_stand hx hb hts hown hK hP dX9_moves_30 ?_
        refine lv_iload_n hx hb dX9_moves_33 rfl (lv_at hl 2 rfl) ?_
        refine lv_iload_n hx hb dX9_moves_34 rfl (lv_at hl 3 rfl) ?_
        refine mcallI (n := 3) (rest := [.int x1]) hT hx hb hml hown hts hK hA hP hD hS hl gg_188 hd_X9_whyOf ⟨Nat.le_of_ble_eq_true rfl, Nat.le_of_ble_eq_true rfl⟩ rfl rfl (Nat.le_of_ble_eq_true rfl) dX9_moves_35 (Nat.zero_le _) (Nat.zero_le _) (fun r4 S3 H locs hP hD hS hT => ?_)
        refine lv_if_ne (tgt := 45) hx hb dX9_moves_38 (by decide) (fun c5 => ?_) (fun c5 => ?_)
        · replace hT := hT.1 c5
          refine lv_iconst (v := 0) hx hb dX9_moves_45 (by decide) ?_
          refine lv_iadd hx hb dX9_moves_46 ?_
          refine lv_topi (fun v1_6 ev1_6 => ?_)
          replace hT := hT v1_6 ev1_6
          refine lv_istore_n (lv' := [(1, .int v1_6), (0, .ref (ad 0)), (2, .int x2), (3, .int x3)]) hx hb dX9_moves_47 rfl hl (by decide) rfl (fun ls hl => ?_)
          refine lv_iinc (v := x3 + 1) (lv' := [(3, .int (x3 + 1)), (1, .int v1_6), (0, .ref (ad 0)), (2, .int x2)]) hx hb dX9_moves_48 hl (k := 3) rfl rfl (by decide) rfl (fun ls hl => ?_)
          refine lv_goto (tgt := 19) hx hb dX9_moves_51 (by decide) ?_
          rw [hB19] at hT
          exact hT _ _ _ hP hD hS (lv_sub hl [2, 1, 3, 0] rfl)
        · replace hT := hT.2 c5
          refine lv_iconst (v := 1) hx hb dX9_moves_41 (by decide) ?_
          refine lv_goto (tgt := 46) hx hb dX9_moves_42 (by decide) ?_
          refine lv_iadd hx hb dX9_moves_46 ?_
          refine lv_topi (fun v1_7 ev1_7 => ?_)
          replace hT := hT v1_7 ev1_7
          refine lv_istore_n (lv' := [(1, .int v1_7), (0, .ref (ad 0)), (2, .int x2), (3, .int x3)]) hx hb dX9_moves_47 rfl hl (by decide) rfl (fun ls hl => ?_)
          refine lv_iinc (v := x3 + 1) (lv' := [(3, .int (x3 + 1)), (1, .int v1_7), (0, .ref (ad 0)), (2, .int x2)]) hx hb dX9_moves_48 hl (k := 3) rfl rfl (by decide) rfl (fun ls hl => ?_)
          refine lv_goto (tgt := 19) hx hb dX9_moves_51 (by decide) ?_
          rw [hB19] at hT
          exact hT _ _ _ hP hD hS (lv_sub hl [2, 1, 3, 0] rfl)
  unfold mT_moves_e at hT
  refine lv_aload_n hx hb dX9_moves_0 rfl (lv_at hl 0 rfl) ?_
  refine lv_iconst (v := 0) hx hb dX9_moves_1 (by decide) ?_
  refine mp_thrown hx hb hts hown hK hP hD hS dX9_moves_2 (fun H locs hP hD hS => ?_)
  refine lv_iconst (v := 0) hx hb dX9_moves_5 (by decide) ?_
  refine lv_istore_n (lv' := [(1, .int 0), (0, .ref (ad 0))]) hx hb dX9_moves_6 rfl hl (by decide) rfl (fun ls hl => ?_)
  refine lv_iconst (v := 0) hx hb dX9_moves_7 (by decide) ?_
  refine lv_istore_n (lv' := [(2, .int 0), (1, .int 0), (0, .ref (ad 0))]) hx hb dX9_moves_8 rfl hl (by decide) rfl (fun ls hl => ?_)
  rw [hB9] at hT
  exact hT _ _ _ hP hD hS (lv_sub hl [2, 1, 0] rfl)
abbrev mX_fits (l : Launch) (S : MS) (post : Bool → MS → Prop) : Prop := mCtZ l yX9_fits cX9_fits 1 1 22 (fun ad => []) S post
def mT_fits_e (l : Launch) (post : Bool → MS → Prop) (S0 : MS) : Prop := mX_stands l S0 (fun r2 S1 => (20000 < r2 → post false S1) ∧ (¬ 20000 < r2 → post true S1))
set_option maxHeartbeats 4000000 in
set_option maxRecDepth 100000 in
theorem m_fits (l : Launch) (S0 : MS) (post : Bool → MS → Prop) (h : mT_fits_e l post S0) : mX_fits l S0 post := by
  refine msetZ rfl (fun _ => Nat.le_of_ble_eq_true rfl) ?_
  intro p e s m args below meth c D ad cI cZ cL A Q hx hb hml hown hts hK hA hret H locs ls hP hD hS hl
  replace hl : lv_has ls 1 [(0, .ref (ad 0))] := hl
  have hT := h
  unfold mT_fits_e at hT
  refine lv_aload_n hx hb dX9_fits_0 rfl (lv_at hl 0 rfl) ?_
  refine mcallI (n := 0) (rest := []) hT hx hb hml hown hts hK hA hP hD hS hl gg_177 hd_X9_stands ⟨Nat.le_of_ble_eq_true rfl, Nat.le_of_ble_eq_true rfl⟩ rfl rfl (Nat.le_of_ble_eq_true rfl) dX9_fits_1 (Nat.zero_le _) (Nat.zero_le _) (fun r2 S1 H locs hP hD hS hT => ?_)
  refine lv_sipush (v := 20000) hx hb dX9_fits_4 (by decide) ?_
  refine lv_icmp_gt (tgt := 14) hx hb dX9_fits_7 (by decide) (fun c3 => ?_) (fun c3 => ?_)
  · replace hT := hT.1 c3
    refine lv_iconst (v := 0) hx hb dX9_fits_14 (by decide) ?_
    exact hret false _ _ _ _ _ hP hD hS hT dX9_fits_15
  · replace hT := hT.2 c3
    refine lv_iconst (v := 1) hx hb dX9_fits_10 (by decide) ?_
    refine lv_goto (tgt := 15) hx hb dX9_fits_11 (by decide) ?_
    exact hret true _ _ _ _ _ hP hD hS hT dX9_fits_15
abbrev mX_unlink (l : Launch) (S : MS) (a1 : Int32) (post : MS → Prop) : Prop := mCtV l yX9_unlink cX9_unlink 3 0 0 (fun ad => [.int a1]) S post
def mT_unlink_52 (l : Launch) (a1 : Int32) (post : MS → Prop) (B52 : MS → Prop) (S : MS) : Prop := vp_in a1 20000 ∧ (S.2.1 11 a1.toNatClampNeg = (-1) → post S) ∧ (¬ S.2.1 11 a1.toNatClampNeg = (-1) → vp_in a1 20000 ∧ vp_in a1 20000 ∧ vp_in (S.2.1 11 a1.toNatClampNeg) 20000 ∧ post (ma S 12 (upd (S.2.1 12) (S.2.1 11 a1.toNatClampNeg).toNatClampNeg (S.2.1 12 a1.toNatClampNeg))))
def mT_unlink_e (l : Launch) (a1 : Int32) (post : MS → Prop) (B52 : MS → Prop) (S0 : MS) : Prop := vp_in a1 20000 ∧ ∀ v2_7 : Int32, v2_7 = (S0.2.1 10 a1.toNatClampNeg) - (S0.2.1 10 a1.toNatClampNeg) / 101 * 101 → vp_in a1 20000 ∧ (¬ S0.2.1 12 a1.toNatClampNeg = (-1) → vp_in a1 20000 ∧ vp_in a1 20000 ∧ vp_in (S0.2.1 12 a1.toNatClampNeg) 20000 ∧ B52 (ma S0 11 (upd (S0.2.1 11) (S0.2.1 12 a1.toNatClampNeg).toNatClampNeg (S0.2.1 11 a1.toNatClampNeg)))) ∧ (S0.2.1 12 a1.toNatClampNeg = (-1) → vp_in a1 20000 ∧ vp_in v2_7 101 ∧ B52 (ma S0 13 (upd (S0.2.1 13) v2_7.toNatClampNeg (S0.2.1 11 a1.toNatClampNeg))))
set_option maxHeartbeats 4000000 in
set_option maxRecDepth 100000 in
theorem m_unlink (l : Launch) (S0 : MS) (a1 : Int32) (post : MS → Prop) (h : ∀ (B52 : MS → Prop), (∀ (S : MS) , mT_unlink_52 l a1 post B52 S → B52 S ) → mT_unlink_e l a1 post B52 S0) : mX_unlink l S0 a1 post := by
  refine msetV rfl (fun _ => Nat.le_of_ble_eq_true rfl) ?_
  intro p e s m args below meth c D ad cI cZ cL A Q hx hb hml hown hts hK hA hret H locs ls hP hD hS hl
  replace hl : lv_has ls 3 [(0, .ref (ad 0)), (1, .int a1)] := hl
  obtain ⟨B52, hB52⟩ : ∃ B : MS → Prop, B = (fun S => ∀ (H : Heap) (locs : List Loc) (ls : Array Slot), va_P D vwCl (mW ad cI cZ cL S) H → va_D A (mW ad cI cZ cL S) → va_S A s.heap H locs → lv_has ls 3 [(0, .ref (ad 0)), (1, .int a1)] → W p l e (mrm 0 0) s m args below meth c H locs 0 0 Q (F0 m 52 ls [])) := ⟨_, rfl⟩
  have hT : mT_unlink_e l a1 post B52 S0 := by
    refine h B52 ?_
    · clear hP hD hS hl H locs ls
      intro S hT
      unfold mT_unlink_52 at hT
      rw [hB52]
      intro H locs ls hP hD hS hl
      refine lv_aload_n hx hb dX9_unlink_52 rfl (lv_at hl 0 rfl) ?_
      refine mg_after hx hb hts hown hK hP dX9_unlink_53 ?_
      refine lv_iload_n hx hb dX9_unlink_56 rfl (lv_at hl 1 rfl) ?_
      obtain ⟨hi1, hT⟩ := hT
      refine va_iald (f := S.2.1 11) hx hb hK hP 11 0 mat_11 rfl hi1 dX9_unlink_57 ?_
      refine lv_iconst (v := (-1)) hx hb dX9_unlink_58 (by decide) ?_
      refine lv_icmp_eq (tgt := 79) hx hb dX9_unlink_59 (by decide) (fun c2 => ?_) (fun c2 => ?_)
      · replace hT := hT.1 c2
        exact hret _ _ _ _ _ hP hD hS hT dX9_unlink_79
      · replace hT := hT.2 c2
        refine lv_aload_n hx hb dX9_unlink_62 rfl (lv_at hl 0 rfl) ?_
        refine mg_before hx hb hts hown hK hP dX9_unlink_63 ?_
        refine lv_aload_n hx hb dX9_unlink_66 rfl (lv_at hl 0 rfl) ?_
        refine mg_after hx hb hts hown hK hP dX9_unlink_67 ?_
        refine lv_iload_n hx hb dX9_unlink_70 rfl (lv_at hl 1 rfl) ?_
        obtain ⟨hi3, hT⟩ := hT
        refine va_iald (f := S.2.1 11) hx hb hK hP 11 0 mat_11 rfl hi3 dX9_unlink_71 ?_
        refine lv_aload_n hx hb dX9_unlink_72 rfl (lv_at hl 0 rfl) ?_
        refine mg_before hx hb hts hown hK hP dX9_unlink_73 ?_
        refine lv_iload_n hx hb dX9_unlink_76 rfl (lv_at hl 1 rfl) ?_
        obtain ⟨hi4, hT⟩ := hT
        refine va_iald (f := S.2.1 12) hx hb hK hP 12 0 mat_12 rfl hi4 dX9_unlink_77 ?_
        obtain ⟨hi5, hT⟩ := hT
        refine va_iast (f := S.2.1 12) hx hb hK hP hD hS 12 0 mat_12 rfl hi5 dX9_unlink_78 (fun H locs hP hD hS => ?_)
        replace hP := msetP_12 hP
        replace hD := msetD_12 hD
        exact hret _ _ _ _ _ hP hD hS hT dX9_unlink_79
  unfold mT_unlink_e at hT
  refine lv_aload_n hx hb dX9_unlink_0 rfl (lv_at hl 0 rfl) ?_
  refine mg_far hx hb hts hown hK hP dX9_unlink_1 ?_
  refine lv_iload_n hx hb dX9_unlink_4 rfl (lv_at hl 1 rfl) ?_
  obtain ⟨hi6, hT⟩ := hT
  refine va_iald (f := S0.2.1 10) hx hb hK hP 10 0 mat_10 rfl hi6 dX9_unlink_5 ?_
  refine lv_bipush (v := 101) hx hb dX9_unlink_6 (by decide) ?_
  refine lv_irem hx hb dX9_unlink_8 (by decide) ?_
  refine lv_topi (fun v2_7 ev2_7 => ?_)
  replace hT := hT v2_7 ev2_7
  refine lv_istore_n (lv' := [(2, .int v2_7), (0, .ref (ad 0)), (1, .int a1)]) hx hb dX9_unlink_9 rfl hl (by decide) rfl (fun ls hl => ?_)
  refine lv_aload_n hx hb dX9_unlink_10 rfl (lv_at hl 1 rfl) ?_
  refine mg_before hx hb hts hown hK hP dX9_unlink_11 ?_
  refine lv_iload_n hx hb dX9_unlink_14 rfl (lv_at hl 2 rfl) ?_
  obtain ⟨hi8, hT⟩ := hT
  refine va_iald (f := S0.2.1 12) hx hb hK hP 12 0 mat_12 rfl hi8 dX9_unlink_15 ?_
  refine lv_iconst (v := (-1)) hx hb dX9_unlink_16 (by decide) ?_
  refine lv_icmp_ne (tgt := 35) hx hb dX9_unlink_17 (by decide) (fun c9 => ?_) (fun c9 => ?_)
  · replace hT := hT.1 c9
    refine lv_aload_n hx hb dX9_unlink_35 rfl (lv_at hl 1 rfl) ?_
    refine mg_after hx hb hts hown hK hP dX9_unlink_36 ?_
    refine lv_aload_n hx hb dX9_unlink_39 rfl (lv_at hl 1 rfl) ?_
    refine mg_before hx hb hts hown hK hP dX9_unlink_40 ?_
    refine lv_iload_n hx hb dX9_unlink_43 rfl (lv_at hl 2 rfl) ?_
    obtain ⟨hi10, hT⟩ := hT
    refine va_iald (f := S0.2.1 12) hx hb hK hP 12 0 mat_12 rfl hi10 dX9_unlink_44 ?_
    refine lv_aload_n hx hb dX9_unlink_45 rfl (lv_at hl 1 rfl) ?_
    refine mg_after hx hb hts hown hK hP dX9_unlink_46 ?_
    refine lv_iload_n hx hb dX9_unlink_49 rfl (lv_at hl 2 rfl) ?_
    obtain ⟨hi11, hT⟩ := hT
    refine va_iald (f := S0.2.1 11) hx hb hK hP 11 0 mat_11 rfl hi11 dX9_unlink_50 ?_
    obtain ⟨hi12, hT⟩ := hT
    refine va_iast (f := S0.2.1 11) hx hb hK hP hD hS 11 0 mat_11 rfl hi12 dX9_unlink_51 (fun H locs hP hD hS => ?_)
    replace hP := msetP_11 hP
    replace hD := msetD_11 hD
    rw [hB52] at hT
    exact hT _ _ _ hP hD hS (lv_sub hl [1, 2] rfl)
  · replace hT := hT.2 c9
    refine lv_aload_n hx hb dX9_unlink_20 rfl (lv_at hl 1 rfl) ?_
    refine mg_heads hx hb hts hown hK hP dX9_unlink_21 ?_
    refine lv_iload_n hx hb dX9_unlink_24 rfl (lv_at hl 0 rfl) ?_
    refine lv_aload_n hx hb dX9_unlink_25 rfl (lv_at hl 1 rfl) ?_
    refine mg_after hx hb hts hown hK hP dX9_unlink_26 ?_
    refine lv_iload_n hx hb dX9_unlink_29 rfl (lv_at hl 2 rfl) ?_
    obtain ⟨hi13, hT⟩ := hT
    refine va_iald (f := S0.2.1 11) hx hb hK hP 11 0 mat_11 rfl hi13 dX9_unlink_30 ?_
    obtain ⟨hi14, hT⟩ := hT
    refine va_iast (f := S0.2.1 13) hx hb hK hP hD hS 13 0 mat_13 rfl hi14 dX9_unlink_31 (fun H locs hP hD hS => ?_)
    replace hP := msetP_13 hP
    replace hD := msetD_13 hD
    refine lv_goto (tgt := 52) hx hb dX9_unlink_32 (by decide) ?_
    rw [hB52] at hT
    exact hT _ _ _ hP hD hS (lv_sub hl [1, 2] rfl)
abbrev mX_link (l : Launch) (S : MS) (a1 : Int32) (a2 : Int32) (post : MS → Prop) : Prop := mCtV l yX9_link cX9_link 4 0 0 (fun ad => [.int a1, .int a2]) S post
def mT_link_e (l : Launch) (a1 : Int32) (a2 : Int32) (post : MS → Prop) (S0 : MS) : Prop := vp_in a1 20000 ∧ ∀ v3_2 : Int32, v3_2 = a2 - a2 / 101 * 101 → vp_in a1 20000 ∧ vp_in v3_2 101 ∧ vp_in a1 20000 ∧ vp_in v3_2 101 ∧ (S0.2.1 13 v3_2.toNatClampNeg = (-1) → vp_in v3_2 101 ∧ post (ma (ma (ma (ma S0 10 (upd (S0.2.1 10) a1.toNatClampNeg a2)) 12 (upd (S0.2.1 12) a1.toNatClampNeg (-1))) 11 (upd (S0.2.1 11) a1.toNatClampNeg (S0.2.1 13 v3_2.toNatClampNeg))) 13 (upd (S0.2.1 13) v3_2.toNatClampNeg a1))) ∧ (¬ S0.2.1 13 v3_2.toNatClampNeg = (-1) → vp_in v3_2 101 ∧ vp_in (S0.2.1 13 v3_2.toNatClampNeg) 20000 ∧ vp_in v3_2 101 ∧ post (ma (ma (ma (ma (ma S0 10 (upd (S0.2.1 10) a1.toNatClampNeg a2)) 12 (upd (S0.2.1 12) a1.toNatClampNeg (-1))) 11 (upd (S0.2.1 11) a1.toNatClampNeg (S0.2.1 13 v3_2.toNatClampNeg))) 12 (upd (upd (S0.2.1 12) a1.toNatClampNeg (-1)) (S0.2.1 13 v3_2.toNatClampNeg).toNatClampNeg a1)) 13 (upd (S0.2.1 13) v3_2.toNatClampNeg a1)))
set_option maxHeartbeats 4000000 in
set_option maxRecDepth 100000 in
theorem m_link (l : Launch) (S0 : MS) (a1 : Int32) (a2 : Int32) (post : MS → Prop) (h : mT_link_e l a1 a2 post S0) : mX_link l S0 a1 a2 post := by
  refine msetV rfl (fun _ => Nat.le_of_ble_eq_true rfl) ?_
  intro p e s m args below meth c D ad cI cZ cL A Q hx hb hml hown hts hK hA hret H locs ls hP hD hS hl
  replace hl : lv_has ls 4 [(0, .ref (ad 0)), (1, .int a1), (2, .int a2)] := hl
  have hT := h
  unfold mT_link_e at hT
  refine lv_aload_n hx hb dX9_link_0 rfl (lv_at hl 0 rfl) ?_
  refine mg_far hx hb hts hown hK hP dX9_link_1 ?_
  refine lv_iload_n hx hb dX9_link_4 rfl (lv_at hl 1 rfl) ?_
  refine lv_iload_n hx hb dX9_link_5 rfl (lv_at hl 2 rfl) ?_
  obtain ⟨hi1, hT⟩ := hT
  refine va_iast (f := S0.2.1 10) hx hb hK hP hD hS 10 0 mat_10 rfl hi1 dX9_link_6 (fun H locs hP hD hS => ?_)
  replace hP := msetP_10 hP
  replace hD := msetD_10 hD
  refine lv_iload_n hx hb dX9_link_7 rfl (lv_at hl 2 rfl) ?_
  refine lv_bipush (v := 101) hx hb dX9_link_8 (by decide) ?_
  refine lv_irem hx hb dX9_link_10 (by decide) ?_
  refine lv_topi (fun v3_2 ev3_2 => ?_)
  replace hT := hT v3_2 ev3_2
  refine lv_istore_n (lv' := [(3, .int v3_2), (0, .ref (ad 0)), (1, .int a1), (2, .int a2)]) hx hb dX9_link_11 rfl hl (by decide) rfl (fun ls hl => ?_)
  refine lv_aload_n hx hb dX9_link_12 rfl (lv_at hl 1 rfl) ?_
  refine mg_before hx hb hts hown hK hP dX9_link_13 ?_
  refine lv_iload_n hx hb dX9_link_16 rfl (lv_at hl 2 rfl) ?_
  refine lv_iconst (v := (-1)) hx hb dX9_link_17 (by decide) ?_
  obtain ⟨hi3, hT⟩ := hT
  refine va_iast (f := S0.2.1 12) hx hb hK hP hD hS 12 0 mat_12 rfl hi3 dX9_link_18 (fun H locs hP hD hS => ?_)
  replace hP := msetP_12 hP
  replace hD := msetD_12 hD
  refine lv_aload_n hx hb dX9_link_19 rfl (lv_at hl 1 rfl) ?_
  refine mg_after hx hb hts hown hK hP dX9_link_20 ?_
  refine lv_iload_n hx hb dX9_link_23 rfl (lv_at hl 2 rfl) ?_
  refine lv_aload_n hx hb dX9_link_24 rfl (lv_at hl 1 rfl) ?_
  refine mg_heads hx hb hts hown hK hP dX9_link_25 ?_
  refine lv_iload_n hx hb dX9_link_28 rfl (lv_at hl 0 rfl) ?_
  obtain ⟨hi4, hT⟩ := hT
  refine va_iald (f := S0.2.1 13) hx hb hK hP 13 0 mat_13 rfl hi4 dX9_link_29 ?_
  obtain ⟨hi5, hT⟩ := hT
  refine va_iast (f := S0.2.1 11) hx hb hK hP hD hS 11 0 mat_11 rfl hi5 dX9_link_30 (fun H locs hP hD hS => ?_)
  replace hP := msetP_11 hP
  replace hD := msetD_11 hD
  refine lv_aload_n hx hb dX9_link_31 rfl (lv_at hl 1 rfl) ?_
  refine mg_heads hx hb hts hown hK hP dX9_link_32 ?_
  refine lv_iload_n hx hb dX9_link_35 rfl (lv_at hl 0 rfl) ?_
  obtain ⟨hi6, hT⟩ := hT
  refine va_iald (f := S0.2.1 13) hx hb hK hP 13 0 mat_13 rfl hi6 dX9_link_36 ?_
  refine lv_iconst (v := (-1)) hx hb dX9_link_37 (by decide) ?_
  refine lv_icmp_eq (tgt := 53) hx hb dX9_link_38 (by decide) (fun c7 => ?_) (fun c7 => ?_)
  · replace hT := hT.1 c7
    refine lv_aload_n hx hb dX9_link_53 rfl (lv_at hl 1 rfl) ?_
    refine mg_heads hx hb hts hown hK hP dX9_link_54 ?_
    refine lv_iload_n hx hb dX9_link_57 rfl (lv_at hl 0 rfl) ?_
    refine lv_iload_n hx hb dX9_link_58 rfl (lv_at hl 2 rfl) ?_
    obtain ⟨hi8, hT⟩ := hT
    refine va_iast (f := S0.2.1 13) hx hb hK hP hD hS 13 0 mat_13 rfl hi8 dX9_link_59 (fun H locs hP hD hS => ?_)
    replace hP := msetP_13 hP
    replace hD := msetD_13 hD
    exact hret _ _ _ _ _ hP hD hS hT dX9_link_60
  · replace hT := hT.2 c7
    refine lv_aload_n hx hb dX9_link_41 rfl (lv_at hl 1 rfl) ?_
    refine mg_before hx hb hts hown hK hP dX9_link_42 ?_
    refine lv_aload_n hx hb dX9_link_45 rfl (lv_at hl 1 rfl) ?_
    refine mg_heads hx hb hts hown hK hP dX9_link_46 ?_
    refine lv_iload_n hx hb dX9_link_49 rfl (lv_at hl 0 rfl) ?_
    obtain ⟨hi9, hT⟩ := hT
    refine va_iald (f := S0.2.1 13) hx hb hK hP 13 0 mat_13 rfl hi9 dX9_link_50 ?_
    refine lv_iload_n hx hb dX9_link_51 rfl (lv_at hl 2 rfl) ?_
    obtain ⟨hi10, hT⟩ := hT
    refine va_iast (f := upd (S0.2.1 12) a1.toNatClampNeg (-1)) hx hb hK hP hD hS 12 0 mat_12 rfl hi10 dX9_link_52 (fun H locs hP hD hS => ?_)
    replace hP := msetP_12 hP
    replace hD := msetD_12 hD
    refine lv_aload_n hx hb dX9_link_53 rfl (lv_at hl 1 rfl) ?_
    refine mg_heads hx hb hts hown hK hP dX9_link_54 ?_
    refine lv_iload_n hx hb dX9_link_57 rfl (lv_at hl 0 rfl) ?_
    refine lv_iload_n hx hb dX9_link_58 rfl (lv_at hl 2 rfl) ?_
    obtain ⟨hi11, hT⟩ := hT
    refine va_iast (f := S0.2.1 13) hx hb hK hP hD hS 13 0 mat_13 rfl hi11 dX9_link_59 (fun H locs hP hD hS => ?_)
    replace hP := msetP_13 hP
    replace hD := msetD_13 hD
    exact hret _ _ _ _ _ hP hD hS hT dX9_link_60
end
section
abbrev mX_leads (l : Launch) (S : MS) (a1 : Int32) (a2 : Int32) (post : Int32 → MS → Prop) : Prop := mCtI l yX9_leads cX9_leads 4 2 49 (fun ad => [.int a1, .int a2]) S post
def mT_leads_22 (l : Launch) (a1 : Int32) (a2 : Int32) (post : Int32 → MS → Prop) (B22 : MS → Int32 → Prop) (S : MS) (x3 : Int32) : Prop := (S.1 1 ≤ x3 → mX_moved l S 9 a1 a2 (fun r3 S2 => (r3 ≤ 0 → post (-1) S2) ∧ (¬ r3 ≤ 0 → mX_pack l S2 9 (fun r6 S5 => post r6 S5)))) ∧ (¬ S.1 1 ≤ x3 → vp_in x3 7 ∧ vp_in x3 7 ∧ B22 (ma S 9 (upd (S.2.1 9) x3.toNatClampNeg (S.2.1 8 x3.toNatClampNeg))) (x3 + 1))
def mT_leads_e (l : Launch) (a1 : Int32) (a2 : Int32) (post : Int32 → MS → Prop) (B22 : MS → Int32 → Prop) (S0 : MS) : Prop := (a1 = a2 → post (-1) S0) ∧ (¬ a1 = a2 → mX_whyOf l S0 8 a1 a2 (fun r11 S10 => (r11 ≤ 0 → B22 S10 0) ∧ (¬ r11 ≤ 0 → post (-1) S10)))
set_option maxHeartbeats 4000000 in
set_option maxRecDepth 100000 in
theorem m_leads (l : Launch) (S0 : MS) (a1 : Int32) (a2 : Int32) (post : Int32 → MS → Prop) (h : ∀ (B22 : MS → Int32 → Prop), (∀ (S : MS) (x3 : Int32), mT_leads_22 l a1 a2 post B22 S x3 → B22 S x3) → mT_leads_e l a1 a2 post B22 S0) : mX_leads l S0 a1 a2 post := by
  refine msetI rfl (fun _ => Nat.le_of_ble_eq_true rfl) ?_
  intro p e s m args below meth c D ad cI cZ cL A Q hx hb hml hown hts hK hA hret H locs ls hP hD hS hl
  replace hl : lv_has ls 4 [(0, .ref (ad 0)), (1, .int a1), (2, .int a2)] := hl
  obtain ⟨B22, hB22⟩ : ∃ B : MS → Int32 → Prop, B = (fun S x3 => ∀ (H : Heap) (locs : List Loc) (ls : Array Slot), va_P D vwCl (mW ad cI cZ cL S) H → va_D A (mW ad cI cZ cL S) → va_S A s.heap H locs → lv_has ls 4 [(0, .ref (ad 0)), (1, .int a1), (2, .int a2), (3, .int x3)] → W p l e (mrm 2 49) s m args below meth c H locs 0 0 Q (F0 m 22 ls [])) := ⟨_, rfl⟩
  have hT : mT_leads_e l a1 a2 post B22 S0 := by
    refine h B22 ?_
    · clear hP hD hS hl H locs ls
      intro S x3 hT
      unfold mT_leads_22 at hT
      rw [hB22]
      intro H locs ls hP hD hS hl
      refine lv_iload_n hx hb dX9_leads_22 rfl (lv_at hl 3 rfl) ?_
      refine lv_aload_n hx hb dX9_leads_23 rfl (lv_at hl 0 rfl) ?_
      refine mg_discs (v := S.1 1) hx hb hts hown hK hP rfl dX9_leads_24 ?_
      refine lv_icmp_ge (tgt := 48) hx hb dX9_leads_27 (by decide) (fun c1 => ?_) (fun c1 => ?_)
      · replace hT := hT.1 c1
        refine lv_aload_n hx hb dX9_leads_48 rfl (lv_at hl 0 rfl) ?_
        refine lv_aload_n hx hb dX9_leads_49 rfl (lv_at hl 0 rfl) ?_
        refine mg_next hx hb hts hown hK hP dX9_leads_50 ?_
        refine lv_iload_n hx hb dX9_leads_53 rfl (lv_at hl 1 rfl) ?_
        refine lv_iload_n hx hb dX9_leads_54 rfl (lv_at hl 2 rfl) ?_
        refine mcallI (n := 3) (rest := []) hT hx hb hml hown hts hK hA hP hD hS hl gg_196 hd_X9_moved ⟨Nat.le_of_ble_eq_true rfl, Nat.le_of_ble_eq_true rfl⟩ rfl rfl (Nat.le_of_ble_eq_true rfl) dX9_leads_55 (Nat.zero_le _) (Nat.zero_le _) (fun r3 S2 H locs hP hD hS hT => ?_)
        refine lv_istore_n (lv' := [(3, .int r3), (0, .ref (ad 0)), (1, .int a1), (2, .int a2)]) hx hb dX9_leads_58 rfl hl (by decide) rfl (fun ls hl => ?_)
        refine lv_iload_n hx hb dX9_leads_59 rfl (lv_at hl 0 rfl) ?_
        refine lv_if_le (tgt := 74) hx hb dX9_leads_60 (by decide) (fun c4 => ?_) (fun c4 => ?_)
        · replace hT := hT.1 c4
          refine lv_iconst (v := (-1)) hx hb dX9_leads_74 (by decide) ?_
          exact hret _ _ _ _ _ _ hP hD hS hT dX9_leads_75
        · replace hT := hT.2 c4
          refine lv_aload_n hx hb dX9_leads_63 rfl (lv_at hl 1 rfl) ?_
          refine lv_aload_n hx hb dX9_leads_64 rfl (lv_at hl 1 rfl) ?_
          refine mg_next hx hb hts hown hK hP dX9_leads_65 ?_
          refine mcallI (n := 1) (rest := []) hT hx hb hml hown hts hK hA hP hD hS hl gg_184 hd_X9_pack ⟨Nat.le_of_ble_eq_true rfl, Nat.le_of_ble_eq_true rfl⟩ rfl rfl (Nat.le_of_ble_eq_true rfl) dX9_leads_68 (Nat.zero_le _) (Nat.zero_le _) (fun r6 S5 H locs hP hD hS hT => ?_)
          refine lv_goto (tgt := 75) hx hb dX9_leads_71 (by decide) ?_
          exact hret _ _ _ _ _ _ hP hD hS hT dX9_leads_75
      · replace hT := hT.2 c1
        refine lv_aload_n hx hb dX9_leads_30 rfl (lv_at hl 0 rfl) ?_
        refine mg_next hx hb hts hown hK hP dX9_leads_31 ?_
        refine lv_iload_n hx hb dX9_leads_34 rfl (lv_at hl 3 rfl) ?_
        refine lv_aload_n hx hb dX9_leads_35 rfl (lv_at hl 0 rfl) ?_
        refine mg_at hx hb hts hown hK hP dX9_leads_36 ?_
        refine lv_iload_n hx hb dX9_leads_39 rfl (lv_at hl 3 rfl) ?_
        obtain ⟨hi7, hT⟩ := hT
        refine va_iald (f := S.2.1 8) hx hb hK hP 8 0 mat_8 rfl hi7 dX9_leads_40 ?_
        obtain ⟨hi8, hT⟩ := hT
        refine va_iast (f := S.2.1 9) hx hb hK hP hD hS 9 0 mat_9 rfl hi8 dX9_leads_41 (fun H locs hP hD hS => ?_)
        replace hP := msetP_9 hP
        replace hD := msetD_9 hD
        refine lv_iinc (v := x3 + 1) (lv' := [(3, .int (x3 + 1)), (0, .ref (ad 0)), (1, .int a1), (2, .int a2)]) hx hb dX9_leads_42 hl (k := 3) rfl rfl (by decide) rfl (fun ls hl => ?_)
        refine lv_goto (tgt := 22) hx hb dX9_leads_45 (by decide) ?_
        rw [hB22] at hT
        exact hT _ _ _ hP hD hS (lv_sub hl [1, 2, 3, 0] rfl)
  unfold mT_leads_e at hT
  refine lv_iload_n hx hb dX9_leads_0 rfl (lv_at hl 1 rfl) ?_
  refine lv_iload_n hx hb dX9_leads_1 rfl (lv_at hl 2 rfl) ?_
  refine lv_icmp_eq (tgt := 18) hx hb dX9_leads_2 (by decide) (fun c9 => ?_) (fun c9 => ?_)
  · replace hT := hT.1 c9
    refine lv_iconst (v := (-1)) hx hb dX9_leads_18 (by decide) ?_
    exact hret _ _ _ _ _ _ hP hD hS hT dX9_leads_19
  · replace hT := hT.2 c9
    refine lv_aload_n hx hb dX9_leads_5 rfl (lv_at hl 0 rfl) ?_
    refine lv_aload_n hx hb dX9_leads_6 rfl (lv_at hl 0 rfl) ?_
    refine mg_at hx hb hts hown hK hP dX9_leads_7 ?_
    refine lv_iload_n hx hb dX9_leads_10 rfl (lv_at hl 1 rfl) ?_
    refine lv_iload_n hx hb dX9_leads_11 rfl (lv_at hl 2 rfl) ?_
    refine mcallI (n := 3) (rest := []) hT hx hb hml hown hts hK hA hP hD hS hl gg_188 hd_X9_whyOf ⟨Nat.le_of_ble_eq_true rfl, Nat.le_of_ble_eq_true rfl⟩ rfl rfl (Nat.le_of_ble_eq_true rfl) dX9_leads_12 (Nat.zero_le _) (Nat.zero_le _) (fun r11 S10 H locs hP hD hS hT => ?_)
    refine lv_if_le (tgt := 20) hx hb dX9_leads_15 (by decide) (fun c12 => ?_) (fun c12 => ?_)
    · replace hT := hT.1 c12
      refine lv_iconst (v := 0) hx hb dX9_leads_20 (by decide) ?_
      refine lv_istore_n (lv' := [(3, .int 0), (0, .ref (ad 0)), (1, .int a1), (2, .int a2)]) hx hb dX9_leads_21 rfl hl (by decide) rfl (fun ls hl => ?_)
      rw [hB22] at hT
      exact hT _ _ _ hP hD hS (lv_sub hl [1, 2, 3, 0] rfl)
    · replace hT := hT.2 c12
      refine lv_iconst (v := (-1)) hx hb dX9_leads_18 (by decide) ?_
      exact hret _ _ _ _ _ _ hP hD hS hT dX9_leads_19
abbrev mX_measure (l : Launch) (S : MS) (post : MS → Prop) : Prop := mCtV l yX9_measure cX9_measure 9 3 72 (fun ad => []) S post
def mT_measure_7 (l : Launch) (post : MS → Prop) (B7 : MS → Int32 → Int32 → Prop) (B35 : MS → Int32 → Prop) (B76 : MS → Int32 → Int32 → Prop) (B86 : MS → Int32 → Int32 → Int32 → Prop) (B157 : MS → Int32 → Int32 → Int32 → Int32 → Prop) (B169 : MS → Int32 → Int32 → Int32 → Int32 → Int32 → Prop) (B255 : MS → Int32 → Int32 → Int32 → Int32 → Int32 → Int32 → Prop) (B275 : MS → Int32 → Int32 → Int32 → Int32 → Int32 → Prop) (S : MS) (x1 : Int32) (x2 : Int32) : Prop := (x1 ≤ x2 → B35 S 0) ∧ (¬ x1 ≤ x2 → vp_in x2 20000 ∧ vp_in x2 20000 ∧ B7 (ma (ma S 10 (upd (S.2.1 10) x2.toNatClampNeg 2147483647)) 17 (upd (S.2.1 17) x2.toNatClampNeg (vp_nar .boolean 0))) x1 (x2 + 1))
def mT_measure_35 (l : Launch) (post : MS → Prop) (B7 : MS → Int32 → Int32 → Prop) (B35 : MS → Int32 → Prop) (B76 : MS → Int32 → Int32 → Prop) (B86 : MS → Int32 → Int32 → Int32 → Prop) (B157 : MS → Int32 → Int32 → Int32 → Int32 → Prop) (B169 : MS → Int32 → Int32 → Int32 → Int32 → Int32 → Prop) (B255 : MS → Int32 → Int32 → Int32 → Int32 → Int32 → Int32 → Prop) (B275 : MS → Int32 → Int32 → Int32 → Int32 → Int32 → Prop) (S : MS) (x2 : Int32) : Prop := (101 ≤ x2 → mX_pack l (mf S 7 0) 2 (fun r6 S5 => mX_link l S5 r6 0 (fun S7 => B76 S7 1 0))) ∧ (¬ 101 ≤ x2 → vp_in x2 101 ∧ B35 (ma S 13 (upd (S.2.1 13) x2.toNatClampNeg (-1))) (x2 + 1))
def mT_measure_76 (l : Launch) (post : MS → Prop) (B7 : MS → Int32 → Int32 → Prop) (B35 : MS → Int32 → Prop) (B76 : MS → Int32 → Int32 → Prop) (B86 : MS → Int32 → Int32 → Int32 → Prop) (B157 : MS → Int32 → Int32 → Int32 → Int32 → Prop) (B169 : MS → Int32 → Int32 → Int32 → Int32 → Int32 → Prop) (B255 : MS → Int32 → Int32 → Int32 → Int32 → Int32 → Int32 → Prop) (B275 : MS → Int32 → Int32 → Int32 → Int32 → Int32 → Prop) (S : MS) (x2 : Int32) (x3 : Int32) : Prop := (x2 ≤ 0 → post S) ∧ (¬ x2 ≤ 0 → ∀ v4_10 : Int32, v4_10 = x3 - x3 / 101 * 101 → B86 S x2 x3 v4_10)
def mT_measure_86 (l : Launch) (post : MS → Prop) (B7 : MS → Int32 → Int32 → Prop) (B35 : MS → Int32 → Prop) (B76 : MS → Int32 → Int32 → Prop) (B86 : MS → Int32 → Int32 → Int32 → Prop) (B157 : MS → Int32 → Int32 → Int32 → Int32 → Prop) (B169 : MS → Int32 → Int32 → Int32 → Int32 → Int32 → Prop) (B255 : MS → Int32 → Int32 → Int32 → Int32 → Int32 → Int32 → Prop) (B275 : MS → Int32 → Int32 → Int32 → Int32 → Int32 → Prop) (S : MS) (x2 : Int32) (x3 : Int32) (x4 : Int32) : Prop := vp_in x4 101 ∧ (S.2.1 13 x4.toNatClampNeg = (-1) → B76 S x2 (x3 + 1)) ∧ (¬ S.2.1 13 x4.toNatClampNeg = (-1) → vp_in x4 101 ∧ ∀ v5_14 : Int32, v5_14 = S.2.1 13 x4.toNatClampNeg → mX_unlink l S v5_14 (fun S15 => vp_in v5_14 20000 ∧ vp_in (S15.1 7) 20000 ∧ mX_unpack l (mf (ma (ma S15 17 (upd (S15.2.1 17) v5_14.toNatClampNeg (vp_nar .boolean 1))) 14 (upd (S15.2.1 14) (S15.1 7).toNatClampNeg v5_14)) 7 ((S15.1 7) + 1)) v5_14 8 (fun S18 => B157 S18 (x2 + (-1)) x3 x4 0)))
def mT_measure_157 (l : Launch) (post : MS → Prop) (B7 : MS → Int32 → Int32 → Prop) (B35 : MS → Int32 → Prop) (B76 : MS → Int32 → Int32 → Prop) (B86 : MS → Int32 → Int32 → Int32 → Prop) (B157 : MS → Int32 → Int32 → Int32 → Int32 → Prop) (B169 : MS → Int32 → Int32 → Int32 → Int32 → Int32 → Prop) (B255 : MS → Int32 → Int32 → Int32 → Int32 → Int32 → Int32 → Prop) (B275 : MS → Int32 → Int32 → Int32 → Int32 → Int32 → Prop) (S : MS) (x2 : Int32) (x3 : Int32) (x4 : Int32) (x6 : Int32) : Prop := (S.1 0 ≤ x6 → B86 S x2 x3 x4) ∧ (¬ S.1 0 ≤ x6 → B169 S x2 x3 x4 x6 0)
def mT_measure_169 (l : Launch) (post : MS → Prop) (B7 : MS → Int32 → Int32 → Prop) (B35 : MS → Int32 → Prop) (B76 : MS → Int32 → Int32 → Prop) (B86 : MS → Int32 → Int32 → Int32 → Prop) (B157 : MS → Int32 → Int32 → Int32 → Int32 → Prop) (B169 : MS → Int32 → Int32 → Int32 → Int32 → Int32 → Prop) (B255 : MS → Int32 → Int32 → Int32 → Int32 → Int32 → Int32 → Prop) (B275 : MS → Int32 → Int32 → Int32 → Int32 → Int32 → Prop) (S : MS) (x2 : Int32) (x3 : Int32) (x4 : Int32) (x6 : Int32) (x7 : Int32) : Prop := (S.1 0 ≤ x7 → B157 S x2 x3 x4 (x6 + 1)) ∧ (¬ S.1 0 ≤ x7 → mX_leads l S x6 x7 (fun r22 S21 => (r22 = (-1) → B275 S21 x2 x3 x4 x6 x7) ∧ (¬ r22 = (-1) → vp_in r22 20000 ∧ (¬ S21.2.1 17 r22.toNatClampNeg = 0 → B275 S21 x2 x3 x4 x6 x7) ∧ (S21.2.1 17 r22.toNatClampNeg = 0 → vp_in r22 20000 ∧ vp_in ((5 * x6) + x7) 25 ∧ (x3 + (S21.2.1 4 ((5 * x6) + x7).toNatClampNeg) < S21.2.1 10 r22.toNatClampNeg → vp_in r22 20000 ∧ (¬ S21.2.1 10 r22.toNatClampNeg = 2147483647 → mX_unlink l S21 r22 (fun S31 => B255 S31 x2 x3 x4 x6 x7 r22)) ∧ (S21.2.1 10 r22.toNatClampNeg = 2147483647 → B255 S21 (x2 + 1) x3 x4 x6 x7 r22)) ∧ (¬ x3 + (S21.2.1 4 ((5 * x6) + x7).toNatClampNeg) < S21.2.1 10 r22.toNatClampNeg → B275 S21 x2 x3 x4 x6 x7)))))
def mT_measure_255 (l : Launch) (post : MS → Prop) (B7 : MS → Int32 → Int32 → Prop) (B35 : MS → Int32 → Prop) (B76 : MS → Int32 → Int32 → Prop) (B86 : MS → Int32 → Int32 → Int32 → Prop) (B157 : MS → Int32 → Int32 → Int32 → Int32 → Prop) (B169 : MS → Int32 → Int32 → Int32 → Int32 → Int32 → Prop) (B255 : MS → Int32 → Int32 → Int32 → Int32 → Int32 → Int32 → Prop) (B275 : MS → Int32 → Int32 → Int32 → Int32 → Int32 → Prop) (S : MS) (x2 : Int32) (x3 : Int32) (x4 : Int32) (x6 : Int32) (x7 : Int32) (x8 : Int32) : Prop := vp_in ((5 * x6) + x7) 25 ∧ mX_link l S x8 (x3 + (S.2.1 4 ((5 * x6) + x7).toNatClampNeg)) (fun S33 => B275 S33 x2 x3 x4 x6 x7)
def mT_measure_275 (l : Launch) (post : MS → Prop) (B7 : MS → Int32 → Int32 → Prop) (B35 : MS → Int32 → Prop) (B76 : MS → Int32 → Int32 → Prop) (B86 : MS → Int32 → Int32 → Int32 → Prop) (B157 : MS → Int32 → Int32 → Int32 → Int32 → Prop) (B169 : MS → Int32 → Int32 → Int32 → Int32 → Int32 → Prop) (B255 : MS → Int32 → Int32 → Int32 → Int32 → Int32 → Int32 → Prop) (B275 : MS → Int32 → Int32 → Int32 → Int32 → Int32 → Prop) (S : MS) (x2 : Int32) (x3 : Int32) (x4 : Int32) (x6 : Int32) (x7 : Int32) : Prop := B169 S x2 x3 x4 x6 (x7 + 1)
def mT_measure_e (l : Launch) (post : MS → Prop) (B7 : MS → Int32 → Int32 → Prop) (B35 : MS → Int32 → Prop) (B76 : MS → Int32 → Int32 → Prop) (B86 : MS → Int32 → Int32 → Int32 → Prop) (B157 : MS → Int32 → Int32 → Int32 → Int32 → Prop) (B169 : MS → Int32 → Int32 → Int32 → Int32 → Int32 → Prop) (B255 : MS → Int32 → Int32 → Int32 → Int32 → Int32 → Int32 → Prop) (B275 : MS → Int32 → Int32 → Int32 → Int32 → Int32 → Prop) (S0 : MS) : Prop := mX_stands l S0 (fun r35 S34 => B7 S34 r35 0)
set_option maxHeartbeats 4000000 in
set_option maxRecDepth 100000 in
theorem m_measure (l : Launch) (S0 : MS) (post : MS → Prop) (h : ∀ (B7 : MS → Int32 → Int32 → Prop) (B35 : MS → Int32 → Prop) (B76 : MS → Int32 → Int32 → Prop) (B86 : MS → Int32 → Int32 → Int32 → Prop) (B157 : MS → Int32 → Int32 → Int32 → Int32 → Prop) (B169 : MS → Int32 → Int32 → Int32 → Int32 → Int32 → Prop) (B255 : MS → Int32 → Int32 → Int32 → Int32 → Int32 → Int32 → Prop) (B275 : MS → Int32 → Int32 → Int32 → Int32 → Int32 → Prop), (∀ (S : MS) (x1 : Int32) (x2 : Int32), mT_measure_7 l post B7 B35 B76 B86 B157 B169 B255 B275 S x1 x2 → B7 S x1 x2) → (∀ (S : MS) (x2 : Int32), mT_measure_35 l post B7 B35 B76 B86 B157 B169 B255 B275 S x2 → B35 S x2) → (∀ (S : MS) (x2 : Int32) (x3 : Int32), mT_measure_76 l post B7 B35 B76 B86 B157 B169 B255 B275 S x2 x3 → B76 S x2 x3) → (∀ (S : MS) (x2 : Int32) (x3 : Int32) (x4 : Int32), mT_measure_86 l post B7 B35 B76 B86 B157 B169 B255 B275 S x2 x3 x4 → B86 S x2 x3 x4) → (∀ (S : MS) (x2 : Int32) (x3 : Int32) (x4 : Int32) (x6 : Int32), mT_measure_157 l post B7 B35 B76 B86 B157 B169 B255 B275 S x2 x3 x4 x6 → B157 S x2 x3 x4 x6) → (∀ (S : MS) (x2 : Int32) (x3 : Int32) (x4 : Int32) (x6 : Int32) (x7 : Int32), mT_measure_169 l post B7 B35 B76 B86 B157 B169 B255 B275 S x2 x3 x4 x6 x7 → B169 S x2 x3 x4 x6 x7) → (∀ (S : MS) (x2 : Int32) (x3 : Int32) (x4 : Int32) (x6 : Int32) (x7 : Int32) (x8 : Int32), mT_measure_255 l post B7 B35 B76 B86 B157 B169 B255 B275 S x2 x3 x4 x6 x7 x8 → B255 S x2 x3 x4 x6 x7 x8) → (∀ (S : MS) (x2 : Int32) (x3 : Int32) (x4 : Int32) (x6 : Int32) (x7 : Int32), mT_measure_275 l post B7 B35 B76 B86 B157 B169 B255 B275 S x2 x3 x4 x6 x7 → B275 S x2 x3 x4 x6 x7) → mT_measure_e l post B7 B35 B76 B86 B157 B169 B255 B275 S0) : mX_measure l S0 post := by
  refine msetV rfl (fun _ => Nat.le_of_ble_eq_true rfl) ?_
  intro p e s m args below meth c D ad cI cZ cL A Q hx hb hml hown hts hK hA hret H locs ls hP hD hS hl
  replace hl : lv_has ls 9 [(0, .ref (ad 0))] := hl
  obtain ⟨B7, hB7⟩ : ∃ B : MS → Int32 → Int32 → Prop, B = (fun S x1 x2 => ∀ (H : Heap) (locs : List Loc) (ls : Array Slot), va_P D vwCl (mW ad cI cZ cL S) H → va_D A (mW ad cI cZ cL S) → va_S A s.heap H locs → lv_has ls 9 [(0, .ref (ad 0)), (1, .int x1), (2, .int x2)] → W p l e (mrm 3 72) s m args below meth c H locs 0 0 Q (F0 m 7 ls [])) := ⟨_, rfl⟩
  obtain ⟨B35, hB35⟩ : ∃ B : MS → Int32 → Prop, B = (fun S x2 => ∀ (H : Heap) (locs : List Loc) (ls : Array Slot), va_P D vwCl (mW ad cI cZ cL S) H → va_D A (mW ad cI cZ cL S) → va_S A s.heap H locs → lv_has ls 9 [(0, .ref (ad 0)), (2, .int x2)] → W p l e (mrm 3 72) s m args below meth c H locs 0 0 Q (F0 m 35 ls [])) := ⟨_, rfl⟩
  obtain ⟨B76, hB76⟩ : ∃ B : MS → Int32 → Int32 → Prop, B = (fun S x2 x3 => ∀ (H : Heap) (locs : List Loc) (ls : Array Slot), va_P D vwCl (mW ad cI cZ cL S) H → va_D A (mW ad cI cZ cL S) → va_S A s.heap H locs → lv_has ls 9 [(0, .ref (ad 0)), (2, .int x2), (3, .int x3)] → W p l e (mrm 3 72) s m args below meth c H locs 0 0 Q (F0 m 76 ls [])) := ⟨_, rfl⟩
  obtain ⟨B86, hB86⟩ : ∃ B : MS → Int32 → Int32 → Int32 → Prop, B = (fun S x2 x3 x4 => ∀ (H : Heap) (locs : List Loc) (ls : Array Slot), va_P D vwCl (mW ad cI cZ cL S) H → va_D A (mW ad cI cZ cL S) → va_S A s.heap H locs → lv_has ls 9 [(0, .ref (ad 0)), (2, .int x2), (3, .int x3), (4, .int x4)] → W p l e (mrm 3 72) s m args below meth c H locs 0 0 Q (F0 m 86 ls [])) := ⟨_, rfl⟩
  obtain ⟨B157, hB157⟩ : ∃ B : MS → Int32 → Int32 → Int32 → Int32 → Prop, B = (fun S x2 x3 x4 x6 => ∀ (H : Heap) (locs : List Loc) (ls : Array Slot), va_P D vwCl (mW ad cI cZ cL S) H → va_D A (mW ad cI cZ cL S) → va_S A s.heap H locs → lv_has ls 9 [(0, .ref (ad 0)), (2, .int x2), (3, .int x3), (4, .int x4), (6, .int x6)] → W p l e (mrm 3 72) s m args below meth c H locs 0 0 Q (F0 m 157 ls [])) := ⟨_, rfl⟩
  obtain ⟨B169, hB169⟩ : ∃ B : MS → Int32 → Int32 → Int32 → Int32 → Int32 → Prop, B = (fun S x2 x3 x4 x6 x7 => ∀ (H : Heap) (locs : List Loc) (ls : Array Slot), va_P D vwCl (mW ad cI cZ cL S) H → va_D A (mW ad cI cZ cL S) → va_S A s.heap H locs → lv_has ls 9 [(0, .ref (ad 0)), (2, .int x2), (3, .int x3), (4, .int x4), (6, .int x6), (7, .int x7)] → W p l e (mrm 3 72) s m args below meth c H locs 0 0 Q (F0 m 169 ls [])) := ⟨_, rfl⟩
  obtain ⟨B255, hB255⟩ : ∃ B : MS → Int32 → Int32 → Int32 → Int32 → Int32 → Int32 → Prop, B = (fun S x2 x3 x4 x6 x7 x8 => ∀ (H : Heap) (locs : List Loc) (ls : Array Slot), va_P D vwCl (mW ad cI cZ cL S) H → va_D A (mW ad cI cZ cL S) → va_S A s.heap H locs → lv_has ls 9 [(0, .ref (ad 0)), (2, .int x2), (3, .int x3), (4, .int x4), (6, .int x6), (7, .int x7), (8, .int x8)] → W p l e (mrm 3 72) s m args below meth c H locs 0 0 Q (F0 m 255 ls [])) := ⟨_, rfl⟩
  obtain ⟨B275, hB275⟩ : ∃ B : MS → Int32 → Int32 → Int32 → Int32 → Int32 → Prop, B = (fun S x2 x3 x4 x6 x7 => ∀ (H : Heap) (locs : List Loc) (ls : Array Slot), va_P D vwCl (mW ad cI cZ cL S) H → va_D A (mW ad cI cZ cL S) → va_S A s.heap H locs → lv_has ls 9 [(0, .ref (ad 0)), (2, .int x2), (3, .int x3), (4, .int x4), (6, .int x6), (7, .int x7)] → W p l e (mrm 3 72) s m args below meth c H locs 0 0 Q (F0 m 275 ls [])) := ⟨_, rfl⟩
  have hT : mT_measure_e l post B7 B35 B76 B86 B157 B169 B255 B275 S0 := by
    refine h B7 B35 B76 B86 B157 B169 B255 B275 ?_ ?_ ?_ ?_ ?_ ?_ ?_ ?_
    · clear hP hD hS hl H locs ls
      intro S x1 x2 hT
      unfold mT_measure_7 at hT
      rw [hB7]
      intro H locs ls hP hD hS hl
      refine lv_iload_n hx hb dX9_measure_7 rfl (lv_at hl 2 rfl) ?_
      refine lv_iload_n hx hb dX9_measure_8 rfl (lv_at hl 1 rfl) ?_
      refine lv_icmp_ge (tgt := 33) hx hb dX9_measure_9 (by decide) (fun c1 => ?_) (fun c1 => ?_)
      · replace hT := hT.1 c1
        refine lv_iconst (v := 0) hx hb dX9_measure_33 (by decide) ?_
        refine lv_istore_n (lv' := [(2, .int 0), (0, .ref (ad 0)), (1, .int x1)]) hx hb dX9_measure_34 rfl hl (by decide) rfl (fun ls hl => ?_)
        rw [hB35] at hT
        exact hT _ _ _ hP hD hS (lv_sub hl [1, 0] rfl)
      · replace hT := hT.2 c1
        refine lv_aload_n hx hb dX9_measure_12 rfl (lv_at hl 0 rfl) ?_
        refine mg_far hx hb hts hown hK hP dX9_measure_13 ?_
        refine lv_iload_n hx hb dX9_measure_16 rfl (lv_at hl 2 rfl) ?_
        refine lv_ldc (v := 2147483647) hx hb hown (hts _ k_1101) dX9_measure_17 ?_
        obtain ⟨hi2, hT⟩ := hT
        refine va_iast (f := S.2.1 10) hx hb hK hP hD hS 10 0 mat_10 rfl hi2 dX9_measure_19 (fun H locs hP hD hS => ?_)
        replace hP := msetP_10 hP
        replace hD := msetD_10 hD
        refine lv_aload_n hx hb dX9_measure_20 rfl (lv_at hl 0 rfl) ?_
        refine mg_isDone hx hb hts hown hK hP dX9_measure_21 ?_
        refine lv_iload_n hx hb dX9_measure_24 rfl (lv_at hl 2 rfl) ?_
        refine lv_iconst (v := 0) hx hb dX9_measure_25 (by decide) ?_
        obtain ⟨hi3, hT⟩ := hT
        refine va_zast (f := S.2.1 17) hx hb hK hP hD hS 17 1 mat_17 rfl hi3 dX9_measure_26 (fun H locs hP hD hS => ?_)
        replace hP := msetP_17 hP
        replace hD := msetD_17 hD
        refine lv_iinc (v := x2 + 1) (lv' := [(2, .int (x2 + 1)), (0, .ref (ad 0)), (1, .int x1)]) hx hb dX9_measure_27 hl (k := 2) rfl rfl (by decide) rfl (fun ls hl => ?_)
        refine lv_goto (tgt := 7) hx hb dX9_measure_30 (by decide) ?_
        rw [hB7] at hT
        exact hT _ _ _ hP hD hS (lv_sub hl [1, 2, 0] rfl)
    · clear hP hD hS hl H locs ls
      intro S x2 hT
      unfold mT_measure_35 at hT
      rw [hB35]
      intro H locs ls hP hD hS hl
      refine lv_iload_n hx hb dX9_measure_35 rfl (lv_at hl 1 rfl) ?_
      refine lv_bipush (v := 101) hx hb dX9_measure_36 (by decide) ?_
      refine lv_icmp_ge (tgt := 54) hx hb dX9_measure_38 (by decide) (fun c4 => ?_) (fun c4 => ?_)
      · replace hT := hT.1 c4
        refine lv_aload_n hx hb dX9_measure_54 rfl (lv_at hl 0 rfl) ?_
        refine lv_iconst (v := 0) hx hb dX9_measure_55 (by decide) ?_
        refine mp_metMany hx hb hts hown hK hP hD hS dX9_measure_56 (fun H locs hP hD hS => ?_)
        refine lv_aload_n hx hb dX9_measure_59 rfl (lv_at hl 0 rfl) ?_
        refine lv_aload_n hx hb dX9_measure_60 rfl (lv_at hl 0 rfl) ?_
        refine lv_aload_n hx hb dX9_measure_61 rfl (lv_at hl 0 rfl) ?_
        refine mg_stand hx hb hts hown hK hP dX9_measure_62 ?_
        refine mcallI (n := 1) (rest := [.ref (ad 0)]) hT hx hb hml hown hts hK hA hP hD hS hl gg_184 hd_X9_pack ⟨Nat.le_of_ble_eq_true rfl, Nat.le_of_ble_eq_true rfl⟩ rfl rfl (Nat.le_of_ble_eq_true rfl) dX9_measure_65 (Nat.zero_le _) (Nat.zero_le _) (fun r6 S5 H locs hP hD hS hT => ?_)
        refine lv_iconst (v := 0) hx hb dX9_measure_68 (by decide) ?_
        refine mcallV (n := 2) (rest := []) hT hx hb hml hown hts hK hA hP hD hS hl gg_203 hd_X9_link ⟨Nat.le_of_ble_eq_true rfl, Nat.le_of_ble_eq_true rfl⟩ rfl rfl (Nat.le_of_ble_eq_true rfl) dX9_measure_69 (Nat.zero_le _) (Nat.zero_le _) (fun S7 H locs hP hD hS hT => ?_)
        refine lv_iconst (v := 1) hx hb dX9_measure_72 (by decide) ?_
        refine lv_istore_n (lv' := [(2, .int 1), (0, .ref (ad 0))]) hx hb dX9_measure_73 rfl hl (by decide) rfl (fun ls hl => ?_)
        refine lv_iconst (v := 0) hx hb dX9_measure_74 (by decide) ?_
        refine lv_istore_n (lv' := [(3, .int 0), (2, .int 1), (0, .ref (ad 0))]) hx hb dX9_measure_75 rfl hl (by decide) rfl (fun ls hl => ?_)
        rw [hB76] at hT
        exact hT _ _ _ hP hD hS (lv_sub hl [2, 1, 0] rfl)
      · replace hT := hT.2 c4
        refine lv_aload_n hx hb dX9_measure_41 rfl (lv_at hl 0 rfl) ?_
        refine mg_heads hx hb hts hown hK hP dX9_measure_42 ?_
        refine lv_iload_n hx hb dX9_measure_45 rfl (lv_at hl 1 rfl) ?_
        refine lv_iconst (v := (-1)) hx hb dX9_measure_46 (by decide) ?_
        obtain ⟨hi8, hT⟩ := hT
        refine va_iast (f := S.2.1 13) hx hb hK hP hD hS 13 0 mat_13 rfl hi8 dX9_measure_47 (fun H locs hP hD hS => ?_)
        replace hP := msetP_13 hP
        replace hD := msetD_13 hD
        refine lv_iinc (v := x2 + 1) (lv' := [(2, .int (x2 + 1)), (0, .ref (ad 0))]) hx hb dX9_measure_48 hl (k := 1) rfl rfl (by decide) rfl (fun ls hl => ?_)
        refine lv_goto (tgt := 35) hx hb dX9_measure_51 (by decide) ?_
        rw [hB35] at hT
        exact hT _ _ _ hP hD hS (lv_sub hl [1, 0] rfl)
    · clear hP hD hS hl H locs ls
      intro S x2 x3 hT
      unfold mT_measure_76 at hT
      rw [hB76]
      intro H locs ls hP hD hS hl
      refine lv_iload_n hx hb dX9_measure_76 rfl (lv_at hl 1 rfl) ?_
      refine lv_if_le (tgt := 296) hx hb dX9_measure_77 (by decide) (fun c9 => ?_) (fun c9 => ?_)
      · replace hT := hT.1 c9
        exact hret _ _ _ _ _ hP hD hS hT dX9_measure_296
      · replace hT := hT.2 c9
        refine lv_iload_n hx hb dX9_measure_80 rfl (lv_at hl 2 rfl) ?_
        refine lv_bipush (v := 101) hx hb dX9_measure_81 (by decide) ?_
        refine lv_irem hx hb dX9_measure_83 (by decide) ?_
        refine lv_topi (fun v4_10 ev4_10 => ?_)
        replace hT := hT v4_10 ev4_10
        refine lv_istore (lv' := [(4, .int v4_10), (0, .ref (ad 0)), (2, .int x2), (3, .int x3)]) hx hb dX9_measure_84 hl (by decide) rfl (fun ls hl => ?_)
        rw [hB86] at hT
        exact hT _ _ _ hP hD hS (lv_sub hl [1, 2, 3, 0] rfl)
    · clear hP hD hS hl H locs ls
      intro S x2 x3 x4 hT
      unfold mT_measure_86 at hT
      rw [hB86]
      intro H locs ls hP hD hS hl
      refine lv_aload_n hx hb dX9_measure_86 rfl (lv_at hl 0 rfl) ?_
      refine mg_heads hx hb hts hown hK hP dX9_measure_87 ?_
      refine lv_iload hx hb dX9_measure_90 (lv_at hl 3 rfl) ?_
      obtain ⟨hi11, hT⟩ := hT
      refine va_iald (f := S.2.1 13) hx hb hK hP 13 0 mat_13 rfl hi11 dX9_measure_92 ?_
      refine lv_iconst (v := (-1)) hx hb dX9_measure_93 (by decide) ?_
      refine lv_icmp_eq (tgt := 290) hx hb dX9_measure_94 (by decide) (fun c12 => ?_) (fun c12 => ?_)
      · replace hT := hT.1 c12
        refine lv_iinc (v := x3 + 1) (lv' := [(3, .int (x3 + 1)), (0, .ref (ad 0)), (2, .int x2), (4, .int x4)]) hx hb dX9_measure_290 hl (k := 2) rfl rfl (by decide) rfl (fun ls hl => ?_)
        refine lv_goto (tgt := 76) hx hb dX9_measure_293 (by decide) ?_
        rw [hB76] at hT
        exact hT _ _ _ hP hD hS (lv_sub hl [1, 2, 0] rfl)
      · replace hT := hT.2 c12
        refine lv_aload_n hx hb dX9_measure_97 rfl (lv_at hl 0 rfl) ?_
        refine mg_heads hx hb hts hown hK hP dX9_measure_98 ?_
        refine lv_iload hx hb dX9_measure_101 (lv_at hl 3 rfl) ?_
        obtain ⟨hi13, hT⟩ := hT
        refine va_iald (f := S.2.1 13) hx hb hK hP 13 0 mat_13 rfl hi13 dX9_measure_103 ?_
        refine lv_topi (fun v5_14 ev5_14 => ?_)
        replace hT := hT v5_14 ev5_14
        refine lv_istore (lv' := [(5, .int v5_14), (0, .ref (ad 0)), (2, .int x2), (3, .int x3), (4, .int x4)]) hx hb dX9_measure_104 hl (by decide) rfl (fun ls hl => ?_)
        refine lv_aload_n hx hb dX9_measure_106 rfl (lv_at hl 1 rfl) ?_
        refine lv_iload hx hb dX9_measure_107 (lv_at hl 0 rfl) ?_
        refine mcallV (n := 1) (rest := []) hT hx hb hml hown hts hK hA hP hD hS hl gg_207 hd_X9_unlink ⟨Nat.le_of_ble_eq_true rfl, Nat.le_of_ble_eq_true rfl⟩ rfl rfl (Nat.le_of_ble_eq_true rfl) dX9_measure_109 (Nat.zero_le _) (Nat.zero_le _) (fun S15 H locs hP hD hS hT => ?_)
        refine lv_aload_n hx hb dX9_measure_112 rfl (lv_at hl 1 rfl) ?_
        refine mg_isDone hx hb hts hown hK hP dX9_measure_113 ?_
        refine lv_iload hx hb dX9_measure_116 (lv_at hl 0 rfl) ?_
        refine lv_iconst (v := 1) hx hb dX9_measure_118 (by decide) ?_
        obtain ⟨hi16, hT⟩ := hT
        refine va_zast (f := S15.2.1 17) hx hb hK hP hD hS 17 1 mat_17 rfl hi16 dX9_measure_119 (fun H locs hP hD hS => ?_)
        replace hP := msetP_17 hP
        replace hD := msetD_17 hD
        refine lv_iinc (v := x2 + (-1)) (lv' := [(2, .int (x2 + (-1))), (5, .int v5_14), (0, .ref (ad 0)), (3, .int x3), (4, .int x4)]) hx hb dX9_measure_120 hl (k := 2) rfl rfl (by decide) rfl (fun ls hl => ?_)
        refine lv_aload_n hx hb dX9_measure_123 rfl (lv_at hl 2 rfl) ?_
        refine mg_met hx hb hts hown hK hP dX9_measure_124 ?_
        refine lv_aload_n hx hb dX9_measure_127 rfl (lv_at hl 2 rfl) ?_
        refine mg_metMany (v := S15.1 7) hx hb hts hown hK hP rfl dX9_measure_128 ?_
        refine lv_iload hx hb dX9_measure_131 (lv_at hl 1 rfl) ?_
        obtain ⟨hi17, hT⟩ := hT
        refine va_iast (f := S15.2.1 14) hx hb hK hP hD hS 14 0 mat_14 rfl hi17 dX9_measure_133 (fun H locs hP hD hS => ?_)
        replace hP := msetP_14 hP
        replace hD := msetD_14 hD
        refine lv_aload_n hx hb dX9_measure_134 rfl (lv_at hl 2 rfl) ?_
        refine lv_dup hx hb dX9_measure_135 rfl ?_
        refine mg_metMany (v := S15.1 7) hx hb hts hown hK hP rfl dX9_measure_136 ?_
        refine lv_iconst (v := 1) hx hb dX9_measure_139 (by decide) ?_
        refine lv_iadd hx hb dX9_measure_140 ?_
        refine mp_metMany hx hb hts hown hK hP hD hS dX9_measure_141 (fun H locs hP hD hS => ?_)
        refine lv_aload_n hx hb dX9_measure_144 rfl (lv_at hl 2 rfl) ?_
        refine lv_iload hx hb dX9_measure_145 (lv_at hl 1 rfl) ?_
        refine lv_aload_n hx hb dX9_measure_147 rfl (lv_at hl 2 rfl) ?_
        refine mg_at hx hb hts hown hK hP dX9_measure_148 ?_
        refine mcallV (n := 2) (rest := []) hT hx hb hml hown hts hK hA hP hD hS hl gg_180 hd_X9_unpack ⟨Nat.le_of_ble_eq_true rfl, Nat.le_of_ble_eq_true rfl⟩ rfl rfl (Nat.le_of_ble_eq_true rfl) dX9_measure_151 (Nat.zero_le _) (Nat.zero_le _) (fun S18 H locs hP hD hS hT => ?_)
        refine lv_iconst (v := 0) hx hb dX9_measure_154 (by decide) ?_
        refine lv_istore (lv' := [(6, .int 0), (2, .int (x2 + (-1))), (5, .int v5_14), (0, .ref (ad 0)), (3, .int x3), (4, .int x4)]) hx hb dX9_measure_155 hl (by decide) rfl (fun ls hl => ?_)
        rw [hB157] at hT
        exact hT _ _ _ hP hD hS (lv_sub hl [3, 1, 4, 5, 0] rfl)
    · clear hP hD hS hl H locs ls
      intro S x2 x3 x4 x6 hT
      unfold mT_measure_157 at hT
      rw [hB157]
      intro H locs ls hP hD hS hl
      refine lv_iload hx hb dX9_measure_157 (lv_at hl 4 rfl) ?_
      refine lv_aload_n hx hb dX9_measure_159 rfl (lv_at hl 0 rfl) ?_
      refine mg_pegs (v := S.1 0) hx hb hts hown hK hP rfl dX9_measure_160 ?_
      refine lv_icmp_ge (tgt := 287) hx hb dX9_measure_163 (by decide) (fun c19 => ?_) (fun c19 => ?_)
      · replace hT := hT.1 c19
        refine lv_goto (tgt := 86) hx hb dX9_measure_287 (by decide) ?_
        rw [hB86] at hT
        exact hT _ _ _ hP hD hS (lv_sub hl [0, 1, 2, 3] rfl)
      · replace hT := hT.2 c19
        refine lv_iconst (v := 0) hx hb dX9_measure_166 (by decide) ?_
        refine lv_istore (lv' := [(7, .int 0), (0, .ref (ad 0)), (2, .int x2), (3, .int x3), (4, .int x4), (6, .int x6)]) hx hb dX9_measure_167 hl (by decide) rfl (fun ls hl => ?_)
        rw [hB169] at hT
        exact hT _ _ _ hP hD hS (lv_sub hl [1, 2, 3, 4, 5, 0] rfl)
    · clear hP hD hS hl H locs ls
      intro S x2 x3 x4 x6 x7 hT
      unfold mT_measure_169 at hT
      rw [hB169]
      intro H locs ls hP hD hS hl
      refine lv_iload hx hb dX9_measure_169 (lv_at hl 5 rfl) ?_
      refine lv_aload_n hx hb dX9_measure_171 rfl (lv_at hl 0 rfl) ?_
      refine mg_pegs (v := S.1 0) hx hb hts hown hK hP rfl dX9_measure_172 ?_
      refine lv_icmp_ge (tgt := 281) hx hb dX9_measure_175 (by decide) (fun c20 => ?_) (fun c20 => ?_)
      · replace hT := hT.1 c20
        refine lv_iinc (v := x6 + 1) (lv' := [(6, .int (x6 + 1)), (0, .ref (ad 0)), (2, .int x2), (3, .int x3), (4, .int x4), (7, .int x7)]) hx hb dX9_measure_281 hl (k := 4) rfl rfl (by decide) rfl (fun ls hl => ?_)
        refine lv_goto (tgt := 157) hx hb dX9_measure_284 (by decide) ?_
        rw [hB157] at hT
        exact hT _ _ _ hP hD hS (lv_sub hl [1, 2, 3, 4, 0] rfl)
      · replace hT := hT.2 c20
        refine lv_aload_n hx hb dX9_measure_178 rfl (lv_at hl 0 rfl) ?_
        refine lv_iload hx hb dX9_measure_179 (lv_at hl 4 rfl) ?_
        refine lv_iload hx hb dX9_measure_181 (lv_at hl 5 rfl) ?_
        refine mcallI (n := 2) (rest := []) hT hx hb hml hown hts hK hA hP hD hS hl gg_211 hd_X9_leads ⟨Nat.le_of_ble_eq_true rfl, Nat.le_of_ble_eq_true rfl⟩ rfl rfl (Nat.le_of_ble_eq_true rfl) dX9_measure_183 (Nat.zero_le _) (Nat.zero_le _) (fun r22 S21 H locs hP hD hS hT => ?_)
        refine lv_istore (lv' := [(8, .int r22), (0, .ref (ad 0)), (2, .int x2), (3, .int x3), (4, .int x4), (6, .int x6), (7, .int x7)]) hx hb dX9_measure_186 hl (by decide) rfl (fun ls hl => ?_)
        refine lv_iload hx hb dX9_measure_188 (lv_at hl 0 rfl) ?_
        refine lv_iconst (v := (-1)) hx hb dX9_measure_190 (by decide) ?_
        refine lv_icmp_eq (tgt := 275) hx hb dX9_measure_191 (by decide) (fun c23 => ?_) (fun c23 => ?_)
        · replace hT := hT.1 c23
          rw [hB275] at hT
          exact hT _ _ _ hP hD hS (lv_sub hl [1, 2, 3, 4, 5, 6] rfl)
        · replace hT := hT.2 c23
          refine lv_aload_n hx hb dX9_measure_194 rfl (lv_at hl 1 rfl) ?_
          refine mg_isDone hx hb hts hown hK hP dX9_measure_195 ?_
          refine lv_iload hx hb dX9_measure_198 (lv_at hl 0 rfl) ?_
          obtain ⟨hi24, hT⟩ := hT
          refine va_zald (f := S21.2.1 17) hx hb hK hP 17 1 mat_17 rfl hi24 dX9_measure_200 ?_
          refine lv_if_ne (tgt := 275) hx hb dX9_measure_201 (by decide) (fun c25 => ?_) (fun c25 => ?_)
          · replace hT := hT.1 c25
            rw [hB275] at hT
            exact hT _ _ _ hP hD hS (lv_sub hl [1, 2, 3, 4, 5, 6] rfl)
          · replace hT := hT.2 c25
            refine lv_aload_n hx hb dX9_measure_204 rfl (lv_at hl 1 rfl) ?_
            refine mg_far hx hb hts hown hK hP dX9_measure_205 ?_
            refine lv_iload hx hb dX9_measure_208 (lv_at hl 0 rfl) ?_
            obtain ⟨hi26, hT⟩ := hT
            refine va_iald (f := S21.2.1 10) hx hb hK hP 10 0 mat_10 rfl hi26 dX9_measure_210 ?_
            refine lv_iload_n hx hb dX9_measure_211 rfl (lv_at hl 3 rfl) ?_
            refine lv_aload_n hx hb dX9_measure_212 rfl (lv_at hl 1 rfl) ?_
            refine mg_costs hx hb hts hown hK hP dX9_measure_213 ?_
            refine lv_iconst (v := 5) hx hb dX9_measure_216 (by decide) ?_
            refine lv_iload hx hb dX9_measure_217 (lv_at hl 5 rfl) ?_
            refine lv_imul hx hb dX9_measure_219 ?_
            refine lv_iload hx hb dX9_measure_220 (lv_at hl 6 rfl) ?_
            refine lv_iadd hx hb dX9_measure_222 ?_
            obtain ⟨hi27, hT⟩ := hT
            refine va_iald (f := S21.2.1 4) hx hb hK hP 4 0 mat_4 rfl hi27 dX9_measure_223 ?_
            refine lv_iadd hx hb dX9_measure_224 ?_
            refine lv_icmp_gt (tgt := 231) hx hb dX9_measure_225 (by decide) (fun c28 => ?_) (fun c28 => ?_)
            · replace hT := hT.1 c28
              refine lv_aload_n hx hb dX9_measure_231 rfl (lv_at hl 1 rfl) ?_
              refine mg_far hx hb hts hown hK hP dX9_measure_232 ?_
              refine lv_iload hx hb dX9_measure_235 (lv_at hl 0 rfl) ?_
              obtain ⟨hi29, hT⟩ := hT
              refine va_iald (f := S21.2.1 10) hx hb hK hP 10 0 mat_10 rfl hi29 dX9_measure_237 ?_
              refine lv_ldc (v := 2147483647) hx hb hown (hts _ k_1101) dX9_measure_238 ?_
              refine lv_icmp_ne (tgt := 249) hx hb dX9_measure_240 (by decide) (fun c30 => ?_) (fun c30 => ?_)
              · replace hT := hT.1 c30
                refine lv_aload_n hx hb dX9_measure_249 rfl (lv_at hl 1 rfl) ?_
                refine lv_iload hx hb dX9_measure_250 (lv_at hl 0 rfl) ?_
                refine mcallV (n := 1) (rest := []) hT hx hb hml hown hts hK hA hP hD hS hl gg_207 hd_X9_unlink ⟨Nat.le_of_ble_eq_true rfl, Nat.le_of_ble_eq_true rfl⟩ rfl rfl (Nat.le_of_ble_eq_true rfl) dX9_measure_252 (Nat.zero_le _) (Nat.zero_le _) (fun S31 H locs hP hD hS hT => ?_)
                rw [hB255] at hT
                exact hT _ _ _ hP hD hS (lv_sub hl [1, 2, 3, 4, 5, 6, 0] rfl)
              · replace hT := hT.2 c30
                refine lv_iinc (v := x2 + 1) (lv' := [(2, .int (x2 + 1)), (8, .int r22), (0, .ref (ad 0)), (3, .int x3), (4, .int x4), (6, .int x6), (7, .int x7)]) hx hb dX9_measure_243 hl (k := 2) rfl rfl (by decide) rfl (fun ls hl => ?_)
                refine lv_goto (tgt := 255) hx hb dX9_measure_246 (by decide) ?_
                rw [hB255] at hT
                exact hT _ _ _ hP hD hS (lv_sub hl [2, 0, 3, 4, 5, 6, 1] rfl)
            · replace hT := hT.2 c28
              refine lv_goto (tgt := 275) hx hb dX9_measure_228 (by decide) ?_
              rw [hB275] at hT
              exact hT _ _ _ hP hD hS (lv_sub hl [1, 2, 3, 4, 5, 6] rfl)
    · clear hP hD hS hl H locs ls
      intro S x2 x3 x4 x6 x7 x8 hT
      unfold mT_measure_255 at hT
      rw [hB255]
      intro H locs ls hP hD hS hl
      refine lv_aload_n hx hb dX9_measure_255 rfl (lv_at hl 0 rfl) ?_
      refine lv_iload hx hb dX9_measure_256 (lv_at hl 6 rfl) ?_
      refine lv_iload_n hx hb dX9_measure_258 rfl (lv_at hl 2 rfl) ?_
      refine lv_aload_n hx hb dX9_measure_259 rfl (lv_at hl 0 rfl) ?_
      refine mg_costs hx hb hts hown hK hP dX9_measure_260 ?_
      refine lv_iconst (v := 5) hx hb dX9_measure_263 (by decide) ?_
      refine lv_iload hx hb dX9_measure_264 (lv_at hl 4 rfl) ?_
      refine lv_imul hx hb dX9_measure_266 ?_
      refine lv_iload hx hb dX9_measure_267 (lv_at hl 5 rfl) ?_
      refine lv_iadd hx hb dX9_measure_269 ?_
      obtain ⟨hi32, hT⟩ := hT
      refine va_iald (f := S.2.1 4) hx hb hK hP 4 0 mat_4 rfl hi32 dX9_measure_270 ?_
      refine lv_iadd hx hb dX9_measure_271 ?_
      refine mcallV (n := 2) (rest := []) hT hx hb hml hown hts hK hA hP hD hS hl gg_203 hd_X9_link ⟨Nat.le_of_ble_eq_true rfl, Nat.le_of_ble_eq_true rfl⟩ rfl rfl (Nat.le_of_ble_eq_true rfl) dX9_measure_272 (Nat.zero_le _) (Nat.zero_le _) (fun S33 H locs hP hD hS hT => ?_)
      rw [hB275] at hT
      exact hT _ _ _ hP hD hS (lv_sub hl [0, 1, 2, 3, 4, 5] rfl)
    · clear hP hD hS hl H locs ls
      intro S x2 x3 x4 x6 x7 hT
      unfold mT_measure_275 at hT
      rw [hB275]
      intro H locs ls hP hD hS hl
      refine lv_iinc (v := x7 + 1) (lv' := [(7, .int (x7 + 1)), (0, .ref (ad 0)), (2, .int x2), (3, .int x3), (4, .int x4), (6, .int x6)]) hx hb dX9_measure_275 hl (k := 5) rfl rfl (by decide) rfl (fun ls hl => ?_)
      refine lv_goto (tgt := 169) hx hb dX9_measure_278 (by decide) ?_
      rw [hB169] at hT
      exact hT _ _ _ hP hD hS (lv_sub hl [1, 2, 3, 4, 5, 0] rfl)
  unfold mT_measure_e at hT
  refine lv_aload_n hx hb dX9_measure_0 rfl (lv_at hl 0 rfl) ?_
  refine mcallI (n := 0) (rest := []) hT hx hb hml hown hts hK hA hP hD hS hl gg_177 hd_X9_stands ⟨Nat.le_of_ble_eq_true rfl, Nat.le_of_ble_eq_true rfl⟩ rfl rfl (Nat.le_of_ble_eq_true rfl) dX9_measure_1 (Nat.zero_le _) (Nat.zero_le _) (fun r35 S34 H locs hP hD hS hT => ?_)
  refine lv_istore_n (lv' := [(1, .int r35), (0, .ref (ad 0))]) hx hb dX9_measure_4 rfl hl (by decide) rfl (fun ls hl => ?_)
  refine lv_iconst (v := 0) hx hb dX9_measure_5 (by decide) ?_
  refine lv_istore_n (lv' := [(2, .int 0), (1, .int r35), (0, .ref (ad 0))]) hx hb dX9_measure_6 rfl hl (by decide) rfl (fun ls hl => ?_)
  rw [hB7] at hT
  exact hT _ _ _ hP hD hS (lv_sub hl [2, 1, 0] rfl)
abbrev mX_fewest (l : Launch) (S : MS) (post : Int32 → MS → Prop) : Prop := mCtI l yX9_fewest cX9_fewest 2 4 100 (fun ad => []) S post
def mT_fewest_e (l : Launch) (post : Int32 → MS → Prop) (S0 : MS) : Prop := mX_fits l (mf S0 3 0) (fun b2 S1 => (¬ bI b2 = 0 → mX_measure l (mf S1 2 0) (fun S4 => mX_pack l S4 3 (fun r6 S5 => vp_in r6 20000 ∧ ∀ v1_8 : Int32, v1_8 = S5.2.1 10 r6.toNatClampNeg → (¬ v1_8 = 2147483647 → post v1_8 S5) ∧ (v1_8 = 2147483647 → post (-2) S5)))) ∧ (bI b2 = 0 → mX_no l S1 2 (fun r11 S10 => post r11 S10)))
set_option maxHeartbeats 4000000 in
set_option maxRecDepth 100000 in
theorem m_fewest (l : Launch) (S0 : MS) (post : Int32 → MS → Prop) (h : mT_fewest_e l post S0) : mX_fewest l S0 post := by
  refine msetI rfl (fun _ => Nat.le_of_ble_eq_true rfl) ?_
  intro p e s m args below meth c D ad cI cZ cL A Q hx hb hml hown hts hK hA hret H locs ls hP hD hS hl
  replace hl : lv_has ls 2 [(0, .ref (ad 0))] := hl
  have hT := h
  unfold mT_fewest_e at hT
  refine lv_aload_n hx hb dX9_fewest_0 rfl (lv_at hl 0 rfl) ?_
  refine lv_iconst (v := 0) hx hb dX9_fewest_1 (by decide) ?_
  refine mp_thrown hx hb hts hown hK hP hD hS dX9_fewest_2 (fun H locs hP hD hS => ?_)
  refine lv_aload_n hx hb dX9_fewest_5 rfl (lv_at hl 0 rfl) ?_
  refine mcallZ (n := 0) (rest := []) hT hx hb hml hown hts hK hA hP hD hS hl gg_215 hd_X9_fits ⟨Nat.le_of_ble_eq_true rfl, Nat.le_of_ble_eq_true rfl⟩ rfl rfl (Nat.le_of_ble_eq_true rfl) dX9_fewest_6 (Nat.zero_le _) (Nat.zero_le _) (fun b2 S1 H locs hP hD hS hT => ?_)
  refine lv_if_ne (tgt := 18) hx hb dX9_fewest_9 (by decide) (fun c3 => ?_) (fun c3 => ?_)
  · replace hT := hT.1 c3
    refine lv_aload_n hx hb dX9_fewest_18 rfl (lv_at hl 0 rfl) ?_
    refine lv_iconst (v := 0) hx hb dX9_fewest_19 (by decide) ?_
    refine mp_trouble hx hb hts hown hK hP hD hS dX9_fewest_20 (fun H locs hP hD hS => ?_)
    refine lv_aload_n hx hb dX9_fewest_23 rfl (lv_at hl 0 rfl) ?_
    refine mcallV (n := 0) (rest := []) hT hx hb hml hown hts hK hA hP hD hS hl gg_219 hd_X9_measure ⟨Nat.le_of_ble_eq_true rfl, Nat.le_of_ble_eq_true rfl⟩ rfl rfl (Nat.le_of_ble_eq_true rfl) dX9_fewest_24 (Nat.zero_le _) (Nat.zero_le _) (fun S4 H locs hP hD hS hT => ?_)
    refine lv_aload_n hx hb dX9_fewest_27 rfl (lv_at hl 0 rfl) ?_
    refine mg_far hx hb hts hown hK hP dX9_fewest_28 ?_
    refine lv_aload_n hx hb dX9_fewest_31 rfl (lv_at hl 0 rfl) ?_
    refine lv_aload_n hx hb dX9_fewest_32 rfl (lv_at hl 0 rfl) ?_
    refine mg_goal hx hb hts hown hK hP dX9_fewest_33 ?_
    refine mcallI (n := 1) (rest := [.ref (ad 10)]) hT hx hb hml hown hts hK hA hP hD hS hl gg_184 hd_X9_pack ⟨Nat.le_of_ble_eq_true rfl, Nat.le_of_ble_eq_true rfl⟩ rfl rfl (Nat.le_of_ble_eq_true rfl) dX9_fewest_36 (Nat.zero_le _) (Nat.zero_le _) (fun r6 S5 H locs hP hD hS hT => ?_)
    obtain ⟨hi7, hT⟩ := hT
    refine va_iald (f := S5.2.1 10) hx hb hK hP 10 0 mat_10 rfl hi7 dX9_fewest_39 ?_
    refine lv_topi (fun v1_8 ev1_8 => ?_)
    replace hT := hT v1_8 ev1_8
    refine lv_istore_n (lv' := [(1, .int v1_8), (0, .ref (ad 0))]) hx hb dX9_fewest_40 rfl hl (by decide) rfl (fun ls hl => ?_)
    refine lv_iload_n hx hb dX9_fewest_41 rfl (lv_at hl 0 rfl) ?_
    refine lv_ldc (v := 2147483647) hx hb hown (hts _ k_1101) dX9_fewest_42 ?_
    refine lv_icmp_ne (tgt := 52) hx hb dX9_fewest_44 (by decide) (fun c9 => ?_) (fun c9 => ?_)
    · replace hT := hT.1 c9
      refine lv_iload_n hx hb dX9_fewest_52 rfl (lv_at hl 0 rfl) ?_
      exact hret _ _ _ _ _ _ hP hD hS hT dX9_fewest_53
    · replace hT := hT.2 c9
      refine lv_bipush (v := (-2)) hx hb dX9_fewest_47 (by decide) ?_
      refine lv_goto (tgt := 53) hx hb dX9_fewest_49 (by decide) ?_
      exact hret _ _ _ _ _ _ hP hD hS hT dX9_fewest_53
  · replace hT := hT.2 c3
    refine lv_aload_n hx hb dX9_fewest_12 rfl (lv_at hl 0 rfl) ?_
    refine lv_iconst (v := 2) hx hb dX9_fewest_13 (by decide) ?_
    refine mcallI (n := 1) (rest := []) hT hx hb hml hown hts hK hA hP hD hS hl gg_192 hd_X9_no ⟨Nat.le_of_ble_eq_true rfl, Nat.le_of_ble_eq_true rfl⟩ rfl rfl (Nat.le_of_ble_eq_true rfl) dX9_fewest_14 (Nat.zero_le _) (Nat.zero_le _) (fun r11 S10 H locs hP hD hS hT => ?_)
    exact hret _ _ _ _ _ _ hP hD hS hT dX9_fewest_17
abbrev mX_isNear (l : Launch) (S : MS) (a1 : Int32) (a2 : Int32) (a3 : Int32) (a4 : Int32) (post : Bool → MS → Prop) : Prop := mCtZ l yX9_isNear cX9_isNear 5 0 0 (fun ad => [.int a1, .int a2, .int a3, .int a4]) S post
def mT_isNear_e (l : Launch) (a1 : Int32) (a2 : Int32) (a3 : Int32) (a4 : Int32) (post : Bool → MS → Prop) (S0 : MS) : Prop := (a2 = (-1) → post false S0) ∧ (¬ a2 = (-1) → vp_in a2 20000 ∧ vp_in a1 20000 ∧ vp_in ((5 * a3) + a4) 25 ∧ (¬ S0.2.1 10 a2.toNatClampNeg = (S0.2.1 10 a1.toNatClampNeg) + (S0.2.1 4 ((5 * a3) + a4).toNatClampNeg) → post false S0) ∧ (S0.2.1 10 a2.toNatClampNeg = (S0.2.1 10 a1.toNatClampNeg) + (S0.2.1 4 ((5 * a3) + a4).toNatClampNeg) → post true S0))
set_option maxHeartbeats 4000000 in
set_option maxRecDepth 100000 in
theorem m_isNear (l : Launch) (S0 : MS) (a1 : Int32) (a2 : Int32) (a3 : Int32) (a4 : Int32) (post : Bool → MS → Prop) (h : mT_isNear_e l a1 a2 a3 a4 post S0) : mX_isNear l S0 a1 a2 a3 a4 post := by
  refine msetZ rfl (fun _ => Nat.le_of_ble_eq_true rfl) ?_
  intro p e s m args below meth c D ad cI cZ cL A Q hx hb hml hown hts hK hA hret H locs ls hP hD hS hl
  replace hl : lv_has ls 5 [(0, .ref (ad 0)), (1, .int a1), (2, .int a2), (3, .int a3), (4, .int a4)] := hl
  have hT := h
  unfold mT_isNear_e at hT
  refine lv_iload_n hx hb dX9_isNear_0 rfl (lv_at hl 2 rfl) ?_
  refine lv_iconst (v := (-1)) hx hb dX9_isNear_1 (by decide) ?_
  refine lv_icmp_eq (tgt := 36) hx hb dX9_isNear_2 (by decide) (fun c1 => ?_) (fun c1 => ?_)
  · replace hT := hT.1 c1
    refine lv_iconst (v := 0) hx hb dX9_isNear_36 (by decide) ?_
    exact hret false _ _ _ _ _ hP hD hS hT dX9_isNear_37
  · replace hT := hT.2 c1
    refine lv_aload_n hx hb dX9_isNear_5 rfl (lv_at hl 0 rfl) ?_
    refine mg_far hx hb hts hown hK hP dX9_isNear_6 ?_
    refine lv_iload_n hx hb dX9_isNear_9 rfl (lv_at hl 2 rfl) ?_
    obtain ⟨hi2, hT⟩ := hT
    refine va_iald (f := S0.2.1 10) hx hb hK hP 10 0 mat_10 rfl hi2 dX9_isNear_10 ?_
    refine lv_aload_n hx hb dX9_isNear_11 rfl (lv_at hl 0 rfl) ?_
    refine mg_far hx hb hts hown hK hP dX9_isNear_12 ?_
    refine lv_iload_n hx hb dX9_isNear_15 rfl (lv_at hl 1 rfl) ?_
    obtain ⟨hi3, hT⟩ := hT
    refine va_iald (f := S0.2.1 10) hx hb hK hP 10 0 mat_10 rfl hi3 dX9_isNear_16 ?_
    refine lv_aload_n hx hb dX9_isNear_17 rfl (lv_at hl 0 rfl) ?_
    refine mg_costs hx hb hts hown hK hP dX9_isNear_18 ?_
    refine lv_iconst (v := 5) hx hb dX9_isNear_21 (by decide) ?_
    refine lv_iload_n hx hb dX9_isNear_22 rfl (lv_at hl 3 rfl) ?_
    refine lv_imul hx hb dX9_isNear_23 ?_
    refine lv_iload hx hb dX9_isNear_24 (lv_at hl 4 rfl) ?_
    refine lv_iadd hx hb dX9_isNear_26 ?_
    obtain ⟨hi4, hT⟩ := hT
    refine va_iald (f := S0.2.1 4) hx hb hK hP 4 0 mat_4 rfl hi4 dX9_isNear_27 ?_
    refine lv_iadd hx hb dX9_isNear_28 ?_
    refine lv_icmp_ne (tgt := 36) hx hb dX9_isNear_29 (by decide) (fun c5 => ?_) (fun c5 => ?_)
    · replace hT := hT.1 c5
      refine lv_iconst (v := 0) hx hb dX9_isNear_36 (by decide) ?_
      exact hret false _ _ _ _ _ hP hD hS hT dX9_isNear_37
    · replace hT := hT.2 c5
      refine lv_iconst (v := 1) hx hb dX9_isNear_32 (by decide) ?_
      refine lv_goto (tgt := 37) hx hb dX9_isNear_33 (by decide) ?_
      exact hret true _ _ _ _ _ hP hD hS hT dX9_isNear_37
abbrev mX_plan (l : Launch) (S : MS) (post : Int32 → MS → Prop) : Prop := mCtI l yX9_plan cX9_plan 7 4 100 (fun ad => []) S post
def mT_plan_57 (l : Launch) (post : Int32 → MS → Prop) (B57 : MS → Int32 → Int32 → Prop) (B96 : MS → Int32 → Int32 → Int32 → Int32 → Prop) (B108 : MS → Int32 → Int32 → Int32 → Int32 → Int32 → Prop) (B158 : MS → Int32 → Int32 → Int32 → Int32 → Int32 → Prop) (B190 : MS → Int32 → Int32 → Prop) (B209 : MS → Int32 → Int32 → Int32 → Int32 → Prop) (B226 : MS → Int32 → Int32 → Int32 → Int32 → Int32 → Prop) (B307 : MS → Int32 → Int32 → Int32 → Int32 → Int32 → Prop) (B313 : MS → Int32 → Int32 → Int32 → Int32 → Prop) (B319 : MS → Int32 → Int32 → Prop) (S : MS) (x1 : Int32) (x2 : Int32) : Prop := (x2 < 0 → mX_pack l (mf S 6 0) 2 (fun r3 S2 => B190 S2 x1 r3)) ∧ (¬ x2 < 0 → vp_in x2 20000 ∧ ∀ v3_5 : Int32, v3_5 = S.2.1 14 x2.toNatClampNeg → (¬ v3_5 = x1 → vp_in v3_5 20000 ∧ mX_unpack l (ma S 16 (upd (S.2.1 16) v3_5.toNatClampNeg (vp_nar .boolean 0))) v3_5 8 (fun S8 => B96 S8 x1 x2 v3_5 0)) ∧ (v3_5 = x1 → vp_in v3_5 20000 ∧ mX_unpack l (ma S 16 (upd (S.2.1 16) v3_5.toNatClampNeg (vp_nar .boolean 1))) v3_5 8 (fun S10 => B96 S10 x1 x2 v3_5 0)))
def mT_plan_96 (l : Launch) (post : Int32 → MS → Prop) (B57 : MS → Int32 → Int32 → Prop) (B96 : MS → Int32 → Int32 → Int32 → Int32 → Prop) (B108 : MS → Int32 → Int32 → Int32 → Int32 → Int32 → Prop) (B158 : MS → Int32 → Int32 → Int32 → Int32 → Int32 → Prop) (B190 : MS → Int32 → Int32 → Prop) (B209 : MS → Int32 → Int32 → Int32 → Int32 → Prop) (B226 : MS → Int32 → Int32 → Int32 → Int32 → Int32 → Prop) (B307 : MS → Int32 → Int32 → Int32 → Int32 → Int32 → Prop) (B313 : MS → Int32 → Int32 → Int32 → Int32 → Prop) (B319 : MS → Int32 → Int32 → Prop) (S : MS) (x1 : Int32) (x2 : Int32) (x3 : Int32) (x4 : Int32) : Prop := (S.1 0 ≤ x4 → B57 S x1 (x2 + (-1))) ∧ (¬ S.1 0 ≤ x4 → B108 S x1 x2 x3 x4 0)
def mT_plan_108 (l : Launch) (post : Int32 → MS → Prop) (B57 : MS → Int32 → Int32 → Prop) (B96 : MS → Int32 → Int32 → Int32 → Int32 → Prop) (B108 : MS → Int32 → Int32 → Int32 → Int32 → Int32 → Prop) (B158 : MS → Int32 → Int32 → Int32 → Int32 → Int32 → Prop) (B190 : MS → Int32 → Int32 → Prop) (B209 : MS → Int32 → Int32 → Int32 → Int32 → Prop) (B226 : MS → Int32 → Int32 → Int32 → Int32 → Int32 → Prop) (B307 : MS → Int32 → Int32 → Int32 → Int32 → Int32 → Prop) (B313 : MS → Int32 → Int32 → Int32 → Int32 → Prop) (B319 : MS → Int32 → Int32 → Prop) (S : MS) (x1 : Int32) (x2 : Int32) (x3 : Int32) (x4 : Int32) (x5 : Int32) : Prop := (S.1 0 ≤ x5 → B96 S x1 x2 x3 (x4 + 1)) ∧ (¬ S.1 0 ≤ x5 → mX_leads l S x4 x5 (fun r14 S13 => mX_isNear l S13 x3 r14 x4 x5 (fun b16 S15 => (bI b16 = 0 → B158 S15 x1 x2 x3 x4 x5) ∧ (¬ bI b16 = 0 → vp_in r14 20000 ∧ (S15.2.1 16 r14.toNatClampNeg = 0 → B158 S15 x1 x2 x3 x4 x5) ∧ (¬ S15.2.1 16 r14.toNatClampNeg = 0 → vp_in x3 20000 ∧ B158 (ma S15 16 (upd (S15.2.1 16) x3.toNatClampNeg (vp_nar .boolean 1))) x1 x2 x3 x4 x5)))))
def mT_plan_158 (l : Launch) (post : Int32 → MS → Prop) (B57 : MS → Int32 → Int32 → Prop) (B96 : MS → Int32 → Int32 → Int32 → Int32 → Prop) (B108 : MS → Int32 → Int32 → Int32 → Int32 → Int32 → Prop) (B158 : MS → Int32 → Int32 → Int32 → Int32 → Int32 → Prop) (B190 : MS → Int32 → Int32 → Prop) (B209 : MS → Int32 → Int32 → Int32 → Int32 → Prop) (B226 : MS → Int32 → Int32 → Int32 → Int32 → Int32 → Prop) (B307 : MS → Int32 → Int32 → Int32 → Int32 → Int32 → Prop) (B313 : MS → Int32 → Int32 → Int32 → Int32 → Prop) (B319 : MS → Int32 → Int32 → Prop) (S : MS) (x1 : Int32) (x2 : Int32) (x3 : Int32) (x4 : Int32) (x5 : Int32) : Prop := B108 S x1 x2 x3 x4 (x5 + 1)
def mT_plan_190 (l : Launch) (post : Int32 → MS → Prop) (B57 : MS → Int32 → Int32 → Prop) (B96 : MS → Int32 → Int32 → Int32 → Int32 → Prop) (B108 : MS → Int32 → Int32 → Int32 → Int32 → Int32 → Prop) (B158 : MS → Int32 → Int32 → Int32 → Int32 → Int32 → Prop) (B190 : MS → Int32 → Int32 → Prop) (B209 : MS → Int32 → Int32 → Int32 → Int32 → Prop) (B226 : MS → Int32 → Int32 → Int32 → Int32 → Int32 → Prop) (B307 : MS → Int32 → Int32 → Int32 → Int32 → Int32 → Prop) (B313 : MS → Int32 → Int32 → Int32 → Int32 → Prop) (B319 : MS → Int32 → Int32 → Prop) (S : MS) (x1 : Int32) (x2 : Int32) : Prop := (x2 = x1 → post (S.1 6) S) ∧ (¬ x2 = x1 → mX_unpack l S x2 8 (fun S22 => B209 S22 x1 x2 (-1) 0))
def mT_plan_209 (l : Launch) (post : Int32 → MS → Prop) (B57 : MS → Int32 → Int32 → Prop) (B96 : MS → Int32 → Int32 → Int32 → Int32 → Prop) (B108 : MS → Int32 → Int32 → Int32 → Int32 → Int32 → Prop) (B158 : MS → Int32 → Int32 → Int32 → Int32 → Int32 → Prop) (B190 : MS → Int32 → Int32 → Prop) (B209 : MS → Int32 → Int32 → Int32 → Int32 → Prop) (B226 : MS → Int32 → Int32 → Int32 → Int32 → Int32 → Prop) (B307 : MS → Int32 → Int32 → Int32 → Int32 → Int32 → Prop) (B313 : MS → Int32 → Int32 → Int32 → Int32 → Prop) (B319 : MS → Int32 → Int32 → Prop) (S : MS) (x1 : Int32) (x2 : Int32) (x3 : Int32) (x4 : Int32) : Prop := (S.1 0 ≤ x4 → B319 S x1 x3) ∧ (¬ S.1 0 ≤ x4 → (¬ x3 = (-1) → B319 S x1 x3) ∧ (x3 = (-1) → B226 S x1 x2 x3 x4 0))
def mT_plan_226 (l : Launch) (post : Int32 → MS → Prop) (B57 : MS → Int32 → Int32 → Prop) (B96 : MS → Int32 → Int32 → Int32 → Int32 → Prop) (B108 : MS → Int32 → Int32 → Int32 → Int32 → Int32 → Prop) (B158 : MS → Int32 → Int32 → Int32 → Int32 → Int32 → Prop) (B190 : MS → Int32 → Int32 → Prop) (B209 : MS → Int32 → Int32 → Int32 → Int32 → Prop) (B226 : MS → Int32 → Int32 → Int32 → Int32 → Int32 → Prop) (B307 : MS → Int32 → Int32 → Int32 → Int32 → Int32 → Prop) (B313 : MS → Int32 → Int32 → Int32 → Int32 → Prop) (B319 : MS → Int32 → Int32 → Prop) (S : MS) (x1 : Int32) (x2 : Int32) (x3 : Int32) (x4 : Int32) (x5 : Int32) : Prop := (S.1 0 ≤ x5 → B313 S x1 x2 x3 x4) ∧ (¬ S.1 0 ≤ x5 → (¬ x3 = (-1) → B313 S x1 x2 x3 x4) ∧ (x3 = (-1) → mX_leads l S x4 x5 (fun r28 S27 => mX_isNear l S27 x2 r28 x4 x5 (fun b30 S29 => (bI b30 = 0 → B307 S29 x1 x2 x3 x4 x5) ∧ (¬ bI b30 = 0 → vp_in r28 20000 ∧ (¬ S29.2.1 16 r28.toNatClampNeg = 0 → vp_in (S29.1 6) 20000 ∧ B307 (mf (ma S29 7 (upd (S29.2.1 7) (S29.1 6).toNatClampNeg ((10 * x4) + x5))) 6 ((S29.1 6) + 1)) x1 x2 r28 x4 x5) ∧ (S29.2.1 16 r28.toNatClampNeg = 0 → B307 S29 x1 x2 x3 x4 x5))))))
def mT_plan_307 (l : Launch) (post : Int32 → MS → Prop) (B57 : MS → Int32 → Int32 → Prop) (B96 : MS → Int32 → Int32 → Int32 → Int32 → Prop) (B108 : MS → Int32 → Int32 → Int32 → Int32 → Int32 → Prop) (B158 : MS → Int32 → Int32 → Int32 → Int32 → Int32 → Prop) (B190 : MS → Int32 → Int32 → Prop) (B209 : MS → Int32 → Int32 → Int32 → Int32 → Prop) (B226 : MS → Int32 → Int32 → Int32 → Int32 → Int32 → Prop) (B307 : MS → Int32 → Int32 → Int32 → Int32 → Int32 → Prop) (B313 : MS → Int32 → Int32 → Int32 → Int32 → Prop) (B319 : MS → Int32 → Int32 → Prop) (S : MS) (x1 : Int32) (x2 : Int32) (x3 : Int32) (x4 : Int32) (x5 : Int32) : Prop := B226 S x1 x2 x3 x4 (x5 + 1)
def mT_plan_313 (l : Launch) (post : Int32 → MS → Prop) (B57 : MS → Int32 → Int32 → Prop) (B96 : MS → Int32 → Int32 → Int32 → Int32 → Prop) (B108 : MS → Int32 → Int32 → Int32 → Int32 → Int32 → Prop) (B158 : MS → Int32 → Int32 → Int32 → Int32 → Int32 → Prop) (B190 : MS → Int32 → Int32 → Prop) (B209 : MS → Int32 → Int32 → Int32 → Int32 → Prop) (B226 : MS → Int32 → Int32 → Int32 → Int32 → Int32 → Prop) (B307 : MS → Int32 → Int32 → Int32 → Int32 → Int32 → Prop) (B313 : MS → Int32 → Int32 → Int32 → Int32 → Prop) (B319 : MS → Int32 → Int32 → Prop) (S : MS) (x1 : Int32) (x2 : Int32) (x3 : Int32) (x4 : Int32) : Prop := B209 S x1 x2 x3 (x4 + 1)
def mT_plan_319 (l : Launch) (post : Int32 → MS → Prop) (B57 : MS → Int32 → Int32 → Prop) (B96 : MS → Int32 → Int32 → Int32 → Int32 → Prop) (B108 : MS → Int32 → Int32 → Int32 → Int32 → Int32 → Prop) (B158 : MS → Int32 → Int32 → Int32 → Int32 → Int32 → Prop) (B190 : MS → Int32 → Int32 → Prop) (B209 : MS → Int32 → Int32 → Int32 → Int32 → Prop) (B226 : MS → Int32 → Int32 → Int32 → Int32 → Int32 → Prop) (B307 : MS → Int32 → Int32 → Int32 → Int32 → Int32 → Prop) (B313 : MS → Int32 → Int32 → Int32 → Int32 → Prop) (B319 : MS → Int32 → Int32 → Prop) (S : MS) (x1 : Int32) (x3 : Int32) : Prop := B190 S x1 x3
def mT_plan_e (l : Launch) (post : Int32 → MS → Prop) (B57 : MS → Int32 → Int32 → Prop) (B96 : MS → Int32 → Int32 → Int32 → Int32 → Prop) (B108 : MS → Int32 → Int32 → Int32 → Int32 → Int32 → Prop) (B158 : MS → Int32 → Int32 → Int32 → Int32 → Int32 → Prop) (B190 : MS → Int32 → Int32 → Prop) (B209 : MS → Int32 → Int32 → Int32 → Int32 → Prop) (B226 : MS → Int32 → Int32 → Int32 → Int32 → Int32 → Prop) (B307 : MS → Int32 → Int32 → Int32 → Int32 → Int32 → Prop) (B313 : MS → Int32 → Int32 → Int32 → Int32 → Prop) (B319 : MS → Int32 → Int32 → Prop) (S0 : MS) : Prop := mX_fits l (mf S0 3 0) (fun b36 S35 => (¬ bI b36 = 0 → mX_measure l (mf S35 2 0) (fun S38 => mX_pack l S38 3 (fun r40 S39 => vp_in r40 20000 ∧ (¬ S39.2.1 10 r40.toNatClampNeg = 2147483647 → ∀ v2_43 : Int32, v2_43 = (S39.1 7) - 1 → B57 S39 r40 v2_43) ∧ (S39.2.1 10 r40.toNatClampNeg = 2147483647 → post (-2) S39)))) ∧ (bI b36 = 0 → mX_no l S35 2 (fun r45 S44 => post r45 S44)))
set_option maxHeartbeats 4000000 in
set_option maxRecDepth 100000 in
theorem m_plan (l : Launch) (S0 : MS) (post : Int32 → MS → Prop) (h : ∀ (B57 : MS → Int32 → Int32 → Prop) (B96 : MS → Int32 → Int32 → Int32 → Int32 → Prop) (B108 : MS → Int32 → Int32 → Int32 → Int32 → Int32 → Prop) (B158 : MS → Int32 → Int32 → Int32 → Int32 → Int32 → Prop) (B190 : MS → Int32 → Int32 → Prop) (B209 : MS → Int32 → Int32 → Int32 → Int32 → Prop) (B226 : MS → Int32 → Int32 → Int32 → Int32 → Int32 → Prop) (B307 : MS → Int32 → Int32 → Int32 → Int32 → Int32 → Prop) (B313 : MS → Int32 → Int32 → Int32 → Int32 → Prop) (B319 : MS → Int32 → Int32 → Prop), (∀ (S : MS) (x1 : Int32) (x2 : Int32), mT_plan_57 l post B57 B96 B108 B158 B190 B209 B226 B307 B313 B319 S x1 x2 → B57 S x1 x2) → (∀ (S : MS) (x1 : Int32) (x2 : Int32) (x3 : Int32) (x4 : Int32), mT_plan_96 l post B57 B96 B108 B158 B190 B209 B226 B307 B313 B319 S x1 x2 x3 x4 → B96 S x1 x2 x3 x4) → (∀ (S : MS) (x1 : Int32) (x2 : Int32) (x3 : Int32) (x4 : Int32) (x5 : Int32), mT_plan_108 l post B57 B96 B108 B158 B190 B209 B226 B307 B313 B319 S x1 x2 x3 x4 x5 → B108 S x1 x2 x3 x4 x5) → (∀ (S : MS) (x1 : Int32) (x2 : Int32) (x3 : Int32) (x4 : Int32) (x5 : Int32), mT_plan_158 l post B57 B96 B108 B158 B190 B209 B226 B307 B313 B319 S x1 x2 x3 x4 x5 → B158 S x1 x2 x3 x4 x5) → (∀ (S : MS) (x1 : Int32) (x2 : Int32), mT_plan_190 l post B57 B96 B108 B158 B190 B209 B226 B307 B313 B319 S x1 x2 → B190 S x1 x2) → (∀ (S : MS) (x1 : Int32) (x2 : Int32) (x3 : Int32) (x4 : Int32), mT_plan_209 l post B57 B96 B108 B158 B190 B209 B226 B307 B313 B319 S x1 x2 x3 x4 → B209 S x1 x2 x3 x4) → (∀ (S : MS) (x1 : Int32) (x2 : Int32) (x3 : Int32) (x4 : Int32) (x5 : Int32), mT_plan_226 l post B57 B96 B108 B158 B190 B209 B226 B307 B313 B319 S x1 x2 x3 x4 x5 → B226 S x1 x2 x3 x4 x5) → (∀ (S : MS) (x1 : Int32) (x2 : Int32) (x3 : Int32) (x4 : Int32) (x5 : Int32), mT_plan_307 l post B57 B96 B108 B158 B190 B209 B226 B307 B313 B319 S x1 x2 x3 x4 x5 → B307 S x1 x2 x3 x4 x5) → (∀ (S : MS) (x1 : Int32) (x2 : Int32) (x3 : Int32) (x4 : Int32), mT_plan_313 l post B57 B96 B108 B158 B190 B209 B226 B307 B313 B319 S x1 x2 x3 x4 → B313 S x1 x2 x3 x4) → (∀ (S : MS) (x1 : Int32) (x3 : Int32), mT_plan_319 l post B57 B96 B108 B158 B190 B209 B226 B307 B313 B319 S x1 x3 → B319 S x1 x3) → mT_plan_e l post B57 B96 B108 B158 B190 B209 B226 B307 B313 B319 S0) : mX_plan l S0 post := by
  refine msetI rfl (fun _ => Nat.le_of_ble_eq_true rfl) ?_
  intro p e s m args below meth c D ad cI cZ cL A Q hx hb hml hown hts hK hA hret H locs ls hP hD hS hl
  replace hl : lv_has ls 7 [(0, .ref (ad 0))] := hl
  obtain ⟨B57, hB57⟩ : ∃ B : MS → Int32 → Int32 → Prop, B = (fun S x1 x2 => ∀ (H : Heap) (locs : List Loc) (ls : Array Slot), va_P D vwCl (mW ad cI cZ cL S) H → va_D A (mW ad cI cZ cL S) → va_S A s.heap H locs → lv_has ls 7 [(0, .ref (ad 0)), (1, .int x1), (2, .int x2)] → W p l e (mrm 4 100) s m args below meth c H locs 0 0 Q (F0 m 57 ls [])) := ⟨_, rfl⟩
  obtain ⟨B96, hB96⟩ : ∃ B : MS → Int32 → Int32 → Int32 → Int32 → Prop, B = (fun S x1 x2 x3 x4 => ∀ (H : Heap) (locs : List Loc) (ls : Array Slot), va_P D vwCl (mW ad cI cZ cL S) H → va_D A (mW ad cI cZ cL S) → va_S A s.heap H locs → lv_has ls 7 [(0, .ref (ad 0)), (1, .int x1), (2, .int x2), (3, .int x3), (4, .int x4)] → W p l e (mrm 4 100) s m args below meth c H locs 0 0 Q (F0 m 96 ls [])) := ⟨_, rfl⟩
  obtain ⟨B108, hB108⟩ : ∃ B : MS → Int32 → Int32 → Int32 → Int32 → Int32 → Prop, B = (fun S x1 x2 x3 x4 x5 => ∀ (H : Heap) (locs : List Loc) (ls : Array Slot), va_P D vwCl (mW ad cI cZ cL S) H → va_D A (mW ad cI cZ cL S) → va_S A s.heap H locs → lv_has ls 7 [(0, .ref (ad 0)), (1, .int x1), (2, .int x2), (3, .int x3), (4, .int x4), (5, .int x5)] → W p l e (mrm 4 100) s m args below meth c H locs 0 0 Q (F0 m 108 ls [])) := ⟨_, rfl⟩
  obtain ⟨B158, hB158⟩ : ∃ B : MS → Int32 → Int32 → Int32 → Int32 → Int32 → Prop, B = (fun S x1 x2 x3 x4 x5 => ∀ (H : Heap) (locs : List Loc) (ls : Array Slot), va_P D vwCl (mW ad cI cZ cL S) H → va_D A (mW ad cI cZ cL S) → va_S A s.heap H locs → lv_has ls 7 [(0, .ref (ad 0)), (1, .int x1), (2, .int x2), (3, .int x3), (4, .int x4), (5, .int x5)] → W p l e (mrm 4 100) s m args below meth c H locs 0 0 Q (F0 m 158 ls [])) := ⟨_, rfl⟩
  obtain ⟨B190, hB190⟩ : ∃ B : MS → Int32 → Int32 → Prop, B = (fun S x1 x2 => ∀ (H : Heap) (locs : List Loc) (ls : Array Slot), va_P D vwCl (mW ad cI cZ cL S) H → va_D A (mW ad cI cZ cL S) → va_S A s.heap H locs → lv_has ls 7 [(0, .ref (ad 0)), (1, .int x1), (2, .int x2)] → W p l e (mrm 4 100) s m args below meth c H locs 0 0 Q (F0 m 190 ls [])) := ⟨_, rfl⟩
  obtain ⟨B209, hB209⟩ : ∃ B : MS → Int32 → Int32 → Int32 → Int32 → Prop, B = (fun S x1 x2 x3 x4 => ∀ (H : Heap) (locs : List Loc) (ls : Array Slot), va_P D vwCl (mW ad cI cZ cL S) H → va_D A (mW ad cI cZ cL S) → va_S A s.heap H locs → lv_has ls 7 [(0, .ref (ad 0)), (1, .int x1), (2, .int x2), (3, .int x3), (4, .int x4)] → W p l e (mrm 4 100) s m args below meth c H locs 0 0 Q (F0 m 209 ls [])) := ⟨_, rfl⟩
  obtain ⟨B226, hB226⟩ : ∃ B : MS → Int32 → Int32 → Int32 → Int32 → Int32 → Prop, B = (fun S x1 x2 x3 x4 x5 => ∀ (H : Heap) (locs : List Loc) (ls : Array Slot), va_P D vwCl (mW ad cI cZ cL S) H → va_D A (mW ad cI cZ cL S) → va_S A s.heap H locs → lv_has ls 7 [(0, .ref (ad 0)), (1, .int x1), (2, .int x2), (3, .int x3), (4, .int x4), (5, .int x5)] → W p l e (mrm 4 100) s m args below meth c H locs 0 0 Q (F0 m 226 ls [])) := ⟨_, rfl⟩
  obtain ⟨B307, hB307⟩ : ∃ B : MS → Int32 → Int32 → Int32 → Int32 → Int32 → Prop, B = (fun S x1 x2 x3 x4 x5 => ∀ (H : Heap) (locs : List Loc) (ls : Array Slot), va_P D vwCl (mW ad cI cZ cL S) H → va_D A (mW ad cI cZ cL S) → va_S A s.heap H locs → lv_has ls 7 [(0, .ref (ad 0)), (1, .int x1), (2, .int x2), (3, .int x3), (4, .int x4), (5, .int x5)] → W p l e (mrm 4 100) s m args below meth c H locs 0 0 Q (F0 m 307 ls [])) := ⟨_, rfl⟩
  obtain ⟨B313, hB313⟩ : ∃ B : MS → Int32 → Int32 → Int32 → Int32 → Prop, B = (fun S x1 x2 x3 x4 => ∀ (H : Heap) (locs : List Loc) (ls : Array Slot), va_P D vwCl (mW ad cI cZ cL S) H → va_D A (mW ad cI cZ cL S) → va_S A s.heap H locs → lv_has ls 7 [(0, .ref (ad 0)), (1, .int x1), (2, .int x2), (3, .int x3), (4, .int x4)] → W p l e (mrm 4 100) s m args below meth c H locs 0 0 Q (F0 m 313 ls [])) := ⟨_, rfl⟩
  obtain ⟨B319, hB319⟩ : ∃ B : MS → Int32 → Int32 → Prop, B = (fun S x1 x3 => ∀ (H : Heap) (locs : List Loc) (ls : Array Slot), va_P D vwCl (mW ad cI cZ cL S) H → va_D A (mW ad cI cZ cL S) → va_S A s.heap H locs → lv_has ls 7 [(0, .ref (ad 0)), (1, .int x1), (3, .int x3)] → W p l e (mrm 4 100) s m args below meth c H locs 0 0 Q (F0 m 319 ls [])) := ⟨_, rfl⟩
  have hT : mT_plan_e l post B57 B96 B108 B158 B190 B209 B226 B307 B313 B319 S0 := by
    refine h B57 B96 B108 B158 B190 B209 B226 B307 B313 B319 ?_ ?_ ?_ ?_ ?_ ?_ ?_ ?_ ?_ ?_
    · clear hP hD hS hl H locs ls
      intro S x1 x2 hT
      unfold mT_plan_57 at hT
      rw [hB57]
      intro H locs ls hP hD hS hl
      refine lv_iload_n hx hb dX9_plan_57 rfl (lv_at hl 2 rfl) ?_
      refine lv_if_lt (tgt := 176) hx hb dX9_plan_58 (by decide) (fun c1 => ?_) (fun c1 => ?_)
      · replace hT := hT.1 c1
        refine lv_aload_n hx hb dX9_plan_176 rfl (lv_at hl 0 rfl) ?_
        refine lv_iconst (v := 0) hx hb dX9_plan_177 (by decide) ?_
        refine mp_planned hx hb hts hown hK hP hD hS dX9_plan_178 (fun H locs hP hD hS => ?_)
        refine lv_aload_n hx hb dX9_plan_181 rfl (lv_at hl 0 rfl) ?_
        refine lv_aload_n hx hb dX9_plan_182 rfl (lv_at hl 0 rfl) ?_
        refine mg_stand hx hb hts hown hK hP dX9_plan_183 ?_
        refine mcallI (n := 1) (rest := []) hT hx hb hml hown hts hK hA hP hD hS hl gg_184 hd_X9_pack ⟨Nat.le_of_ble_eq_true rfl, Nat.le_of_ble_eq_true rfl⟩ rfl rfl (Nat.le_of_ble_eq_true rfl) dX9_plan_186 (Nat.zero_le _) (Nat.zero_le _) (fun r3 S2 H locs hP hD hS hT => ?_)
        refine lv_istore_n (lv' := [(2, .int r3), (0, .ref (ad 0)), (1, .int x1)]) hx hb dX9_plan_189 rfl hl (by decide) rfl (fun ls hl => ?_)
        rw [hB190] at hT
        exact hT _ _ _ hP hD hS (lv_sub hl [1, 2, 0] rfl)
      · replace hT := hT.2 c1
        refine lv_aload_n hx hb dX9_plan_61 rfl (lv_at hl 0 rfl) ?_
        refine mg_met hx hb hts hown hK hP dX9_plan_62 ?_
        refine lv_iload_n hx hb dX9_plan_65 rfl (lv_at hl 2 rfl) ?_
        obtain ⟨hi4, hT⟩ := hT
        refine va_iald (f := S.2.1 14) hx hb hK hP 14 0 mat_14 rfl hi4 dX9_plan_66 ?_
        refine lv_topi (fun v3_5 ev3_5 => ?_)
        replace hT := hT v3_5 ev3_5
        refine lv_istore_n (lv' := [(3, .int v3_5), (0, .ref (ad 0)), (1, .int x1), (2, .int x2)]) hx hb dX9_plan_67 rfl hl (by decide) rfl (fun ls hl => ?_)
        refine lv_aload_n hx hb dX9_plan_68 rfl (lv_at hl 1 rfl) ?_
        refine mg_isGood hx hb hts hown hK hP dX9_plan_69 ?_
        refine lv_iload_n hx hb dX9_plan_72 rfl (lv_at hl 0 rfl) ?_
        refine lv_iload_n hx hb dX9_plan_73 rfl (lv_at hl 0 rfl) ?_
        refine lv_iload_n hx hb dX9_plan_74 rfl (lv_at hl 2 rfl) ?_
        refine lv_icmp_ne (tgt := 82) hx hb dX9_plan_75 (by decide) (fun c6 => ?_) (fun c6 => ?_)
        · replace hT := hT.1 c6
          refine lv_iconst (v := 0) hx hb dX9_plan_82 (by decide) ?_
          obtain ⟨hi7, hT⟩ := hT
          refine va_zast (f := S.2.1 16) hx hb hK hP hD hS 16 1 mat_16 rfl hi7 dX9_plan_83 (fun H locs hP hD hS => ?_)
          replace hP := msetP_16 hP
          replace hD := msetD_16 hD
          refine lv_aload_n hx hb dX9_plan_84 rfl (lv_at hl 1 rfl) ?_
          refine lv_iload_n hx hb dX9_plan_85 rfl (lv_at hl 0 rfl) ?_
          refine lv_aload_n hx hb dX9_plan_86 rfl (lv_at hl 1 rfl) ?_
          refine mg_at hx hb hts hown hK hP dX9_plan_87 ?_
          refine mcallV (n := 2) (rest := []) hT hx hb hml hown hts hK hA hP hD hS hl gg_180 hd_X9_unpack ⟨Nat.le_of_ble_eq_true rfl, Nat.le_of_ble_eq_true rfl⟩ rfl rfl (Nat.le_of_ble_eq_true rfl) dX9_plan_90 (Nat.zero_le _) (Nat.zero_le _) (fun S8 H locs hP hD hS hT => ?_)
          refine lv_iconst (v := 0) hx hb dX9_plan_93 (by decide) ?_
          refine lv_istore (lv' := [(4, .int 0), (3, .int v3_5), (0, .ref (ad 0)), (1, .int x1), (2, .int x2)]) hx hb dX9_plan_94 hl (by decide) rfl (fun ls hl => ?_)
          rw [hB96] at hT
          exact hT _ _ _ hP hD hS (lv_sub hl [2, 3, 4, 1, 0] rfl)
        · replace hT := hT.2 c6
          refine lv_iconst (v := 1) hx hb dX9_plan_78 (by decide) ?_
          refine lv_goto (tgt := 83) hx hb dX9_plan_79 (by decide) ?_
          obtain ⟨hi9, hT⟩ := hT
          refine va_zast (f := S.2.1 16) hx hb hK hP hD hS 16 1 mat_16 rfl hi9 dX9_plan_83 (fun H locs hP hD hS => ?_)
          replace hP := msetP_16 hP
          replace hD := msetD_16 hD
          refine lv_aload_n hx hb dX9_plan_84 rfl (lv_at hl 1 rfl) ?_
          refine lv_iload_n hx hb dX9_plan_85 rfl (lv_at hl 0 rfl) ?_
          refine lv_aload_n hx hb dX9_plan_86 rfl (lv_at hl 1 rfl) ?_
          refine mg_at hx hb hts hown hK hP dX9_plan_87 ?_
          refine mcallV (n := 2) (rest := []) hT hx hb hml hown hts hK hA hP hD hS hl gg_180 hd_X9_unpack ⟨Nat.le_of_ble_eq_true rfl, Nat.le_of_ble_eq_true rfl⟩ rfl rfl (Nat.le_of_ble_eq_true rfl) dX9_plan_90 (Nat.zero_le _) (Nat.zero_le _) (fun S10 H locs hP hD hS hT => ?_)
          refine lv_iconst (v := 0) hx hb dX9_plan_93 (by decide) ?_
          refine lv_istore (lv' := [(4, .int 0), (3, .int v3_5), (0, .ref (ad 0)), (1, .int x1), (2, .int x2)]) hx hb dX9_plan_94 hl (by decide) rfl (fun ls hl => ?_)
          rw [hB96] at hT
          exact hT _ _ _ hP hD hS (lv_sub hl [2, 3, 4, 1, 0] rfl)
    · clear hP hD hS hl H locs ls
      intro S x1 x2 x3 x4 hT
      unfold mT_plan_96 at hT
      rw [hB96]
      intro H locs ls hP hD hS hl
      refine lv_iload hx hb dX9_plan_96 (lv_at hl 4 rfl) ?_
      refine lv_aload_n hx hb dX9_plan_98 rfl (lv_at hl 0 rfl) ?_
      refine mg_pegs (v := S.1 0) hx hb hts hown hK hP rfl dX9_plan_99 ?_
      refine lv_icmp_ge (tgt := 170) hx hb dX9_plan_102 (by decide) (fun c11 => ?_) (fun c11 => ?_)
      · replace hT := hT.1 c11
        refine lv_iinc (v := x2 + (-1)) (lv' := [(2, .int (x2 + (-1))), (0, .ref (ad 0)), (1, .int x1), (3, .int x3), (4, .int x4)]) hx hb dX9_plan_170 hl (k := 2) rfl rfl (by decide) rfl (fun ls hl => ?_)
        refine lv_goto (tgt := 57) hx hb dX9_plan_173 (by decide) ?_
        rw [hB57] at hT
        exact hT _ _ _ hP hD hS (lv_sub hl [1, 2, 0] rfl)
      · replace hT := hT.2 c11
        refine lv_iconst (v := 0) hx hb dX9_plan_105 (by decide) ?_
        refine lv_istore (lv' := [(5, .int 0), (0, .ref (ad 0)), (1, .int x1), (2, .int x2), (3, .int x3), (4, .int x4)]) hx hb dX9_plan_106 hl (by decide) rfl (fun ls hl => ?_)
        rw [hB108] at hT
        exact hT _ _ _ hP hD hS (lv_sub hl [1, 2, 3, 4, 5, 0] rfl)
    · clear hP hD hS hl H locs ls
      intro S x1 x2 x3 x4 x5 hT
      unfold mT_plan_108 at hT
      rw [hB108]
      intro H locs ls hP hD hS hl
      refine lv_iload hx hb dX9_plan_108 (lv_at hl 5 rfl) ?_
      refine lv_aload_n hx hb dX9_plan_110 rfl (lv_at hl 0 rfl) ?_
      refine mg_pegs (v := S.1 0) hx hb hts hown hK hP rfl dX9_plan_111 ?_
      refine lv_icmp_ge (tgt := 164) hx hb dX9_plan_114 (by decide) (fun c12 => ?_) (fun c12 => ?_)
      · replace hT := hT.1 c12
        refine lv_iinc (v := x4 + 1) (lv' := [(4, .int (x4 + 1)), (0, .ref (ad 0)), (1, .int x1), (2, .int x2), (3, .int x3), (5, .int x5)]) hx hb dX9_plan_164 hl (k := 4) rfl rfl (by decide) rfl (fun ls hl => ?_)
        refine lv_goto (tgt := 96) hx hb dX9_plan_167 (by decide) ?_
        rw [hB96] at hT
        exact hT _ _ _ hP hD hS (lv_sub hl [1, 2, 3, 4, 0] rfl)
      · replace hT := hT.2 c12
        refine lv_aload_n hx hb dX9_plan_117 rfl (lv_at hl 0 rfl) ?_
        refine lv_iload hx hb dX9_plan_118 (lv_at hl 4 rfl) ?_
        refine lv_iload hx hb dX9_plan_120 (lv_at hl 5 rfl) ?_
        refine mcallI (n := 2) (rest := []) hT hx hb hml hown hts hK hA hP hD hS hl gg_211 hd_X9_leads ⟨Nat.le_of_ble_eq_true rfl, Nat.le_of_ble_eq_true rfl⟩ rfl rfl (Nat.le_of_ble_eq_true rfl) dX9_plan_122 (Nat.zero_le _) (Nat.zero_le _) (fun r14 S13 H locs hP hD hS hT => ?_)
        refine lv_istore (lv' := [(6, .int r14), (0, .ref (ad 0)), (1, .int x1), (2, .int x2), (3, .int x3), (4, .int x4), (5, .int x5)]) hx hb dX9_plan_125 hl (by decide) rfl (fun ls hl => ?_)
        refine lv_aload_n hx hb dX9_plan_127 rfl (lv_at hl 1 rfl) ?_
        refine lv_iload_n hx hb dX9_plan_128 rfl (lv_at hl 4 rfl) ?_
        refine lv_iload hx hb dX9_plan_129 (lv_at hl 0 rfl) ?_
        refine lv_iload hx hb dX9_plan_131 (lv_at hl 5 rfl) ?_
        refine lv_iload hx hb dX9_plan_133 (lv_at hl 6 rfl) ?_
        refine mcallZ (n := 4) (rest := []) hT hx hb hml hown hts hK hA hP hD hS hl gg_222 hd_X9_isNear ⟨Nat.le_of_ble_eq_true rfl, Nat.le_of_ble_eq_true rfl⟩ rfl rfl (Nat.le_of_ble_eq_true rfl) dX9_plan_135 (Nat.zero_le _) (Nat.zero_le _) (fun b16 S15 H locs hP hD hS hT => ?_)
        refine lv_if_eq (tgt := 158) hx hb dX9_plan_138 (by decide) (fun c17 => ?_) (fun c17 => ?_)
        · replace hT := hT.1 c17
          rw [hB158] at hT
          exact hT _ _ _ hP hD hS (lv_sub hl [1, 2, 3, 4, 5, 6] rfl)
        · replace hT := hT.2 c17
          refine lv_aload_n hx hb dX9_plan_141 rfl (lv_at hl 1 rfl) ?_
          refine mg_isGood hx hb hts hown hK hP dX9_plan_142 ?_
          refine lv_iload hx hb dX9_plan_145 (lv_at hl 0 rfl) ?_
          obtain ⟨hi18, hT⟩ := hT
          refine va_zald (f := S15.2.1 16) hx hb hK hP 16 1 mat_16 rfl hi18 dX9_plan_147 ?_
          refine lv_if_eq (tgt := 158) hx hb dX9_plan_148 (by decide) (fun c19 => ?_) (fun c19 => ?_)
          · replace hT := hT.1 c19
            rw [hB158] at hT
            exact hT _ _ _ hP hD hS (lv_sub hl [1, 2, 3, 4, 5, 6] rfl)
          · replace hT := hT.2 c19
            refine lv_aload_n hx hb dX9_plan_151 rfl (lv_at hl 1 rfl) ?_
            refine mg_isGood hx hb hts hown hK hP dX9_plan_152 ?_
            refine lv_iload_n hx hb dX9_plan_155 rfl (lv_at hl 4 rfl) ?_
            refine lv_iconst (v := 1) hx hb dX9_plan_156 (by decide) ?_
            obtain ⟨hi20, hT⟩ := hT
            refine va_zast (f := S15.2.1 16) hx hb hK hP hD hS 16 1 mat_16 rfl hi20 dX9_plan_157 (fun H locs hP hD hS => ?_)
            replace hP := msetP_16 hP
            replace hD := msetD_16 hD
            rw [hB158] at hT
            exact hT _ _ _ hP hD hS (lv_sub hl [1, 2, 3, 4, 5, 6] rfl)
    · clear hP hD hS hl H locs ls
      intro S x1 x2 x3 x4 x5 hT
      unfold mT_plan_158 at hT
      rw [hB158]
      intro H locs ls hP hD hS hl
      refine lv_iinc (v := x5 + 1) (lv' := [(5, .int (x5 + 1)), (0, .ref (ad 0)), (1, .int x1), (2, .int x2), (3, .int x3), (4, .int x4)]) hx hb dX9_plan_158 hl (k := 5) rfl rfl (by decide) rfl (fun ls hl => ?_)
      refine lv_goto (tgt := 108) hx hb dX9_plan_161 (by decide) ?_
      rw [hB108] at hT
      exact hT _ _ _ hP hD hS (lv_sub hl [1, 2, 3, 4, 5, 0] rfl)
    · clear hP hD hS hl H locs ls
      intro S x1 x2 hT
      unfold mT_plan_190 at hT
      rw [hB190]
      intro H locs ls hP hD hS hl
      refine lv_iload_n hx hb dX9_plan_190 rfl (lv_at hl 2 rfl) ?_
      refine lv_iload_n hx hb dX9_plan_191 rfl (lv_at hl 1 rfl) ?_
      refine lv_icmp_eq (tgt := 324) hx hb dX9_plan_192 (by decide) (fun c21 => ?_) (fun c21 => ?_)
      · replace hT := hT.1 c21
        refine lv_aload_n hx hb dX9_plan_324 rfl (lv_at hl 0 rfl) ?_
        refine mg_planned (v := S.1 6) hx hb hts hown hK hP rfl dX9_plan_325 ?_
        exact hret _ _ _ _ _ _ hP hD hS hT dX9_plan_328
      · replace hT := hT.2 c21
        refine lv_aload_n hx hb dX9_plan_195 rfl (lv_at hl 0 rfl) ?_
        refine lv_iload_n hx hb dX9_plan_196 rfl (lv_at hl 2 rfl) ?_
        refine lv_aload_n hx hb dX9_plan_197 rfl (lv_at hl 0 rfl) ?_
        refine mg_at hx hb hts hown hK hP dX9_plan_198 ?_
        refine mcallV (n := 2) (rest := []) hT hx hb hml hown hts hK hA hP hD hS hl gg_180 hd_X9_unpack ⟨Nat.le_of_ble_eq_true rfl, Nat.le_of_ble_eq_true rfl⟩ rfl rfl (Nat.le_of_ble_eq_true rfl) dX9_plan_201 (Nat.zero_le _) (Nat.zero_le _) (fun S22 H locs hP hD hS hT => ?_)
        refine lv_iconst (v := (-1)) hx hb dX9_plan_204 (by decide) ?_
        refine lv_istore_n (lv' := [(3, .int (-1)), (0, .ref (ad 0)), (1, .int x1), (2, .int x2)]) hx hb dX9_plan_205 rfl hl (by decide) rfl (fun ls hl => ?_)
        refine lv_iconst (v := 0) hx hb dX9_plan_206 (by decide) ?_
        refine lv_istore (lv' := [(4, .int 0), (3, .int (-1)), (0, .ref (ad 0)), (1, .int x1), (2, .int x2)]) hx hb dX9_plan_207 hl (by decide) rfl (fun ls hl => ?_)
        rw [hB209] at hT
        exact hT _ _ _ hP hD hS (lv_sub hl [2, 3, 4, 1, 0] rfl)
    · clear hP hD hS hl H locs ls
      intro S x1 x2 x3 x4 hT
      unfold mT_plan_209 at hT
      rw [hB209]
      intro H locs ls hP hD hS hl
      refine lv_iload hx hb dX9_plan_209 (lv_at hl 4 rfl) ?_
      refine lv_aload_n hx hb dX9_plan_211 rfl (lv_at hl 0 rfl) ?_
      refine mg_pegs (v := S.1 0) hx hb hts hown hK hP rfl dX9_plan_212 ?_
      refine lv_icmp_ge (tgt := 319) hx hb dX9_plan_215 (by decide) (fun c23 => ?_) (fun c23 => ?_)
      · replace hT := hT.1 c23
        rw [hB319] at hT
        exact hT _ _ _ hP hD hS (lv_sub hl [0, 1, 3] rfl)
      · replace hT := hT.2 c23
        refine lv_iload_n hx hb dX9_plan_218 rfl (lv_at hl 3 rfl) ?_
        refine lv_iconst (v := (-1)) hx hb dX9_plan_219 (by decide) ?_
        refine lv_icmp_ne (tgt := 319) hx hb dX9_plan_220 (by decide) (fun c24 => ?_) (fun c24 => ?_)
        · replace hT := hT.1 c24
          rw [hB319] at hT
          exact hT _ _ _ hP hD hS (lv_sub hl [0, 1, 3] rfl)
        · replace hT := hT.2 c24
          refine lv_iconst (v := 0) hx hb dX9_plan_223 (by decide) ?_
          refine lv_istore (lv' := [(5, .int 0), (0, .ref (ad 0)), (1, .int x1), (2, .int x2), (3, .int x3), (4, .int x4)]) hx hb dX9_plan_224 hl (by decide) rfl (fun ls hl => ?_)
          rw [hB226] at hT
          exact hT _ _ _ hP hD hS (lv_sub hl [1, 2, 3, 4, 5, 0] rfl)
    · clear hP hD hS hl H locs ls
      intro S x1 x2 x3 x4 x5 hT
      unfold mT_plan_226 at hT
      rw [hB226]
      intro H locs ls hP hD hS hl
      refine lv_iload hx hb dX9_plan_226 (lv_at hl 5 rfl) ?_
      refine lv_aload_n hx hb dX9_plan_228 rfl (lv_at hl 0 rfl) ?_
      refine mg_pegs (v := S.1 0) hx hb hts hown hK hP rfl dX9_plan_229 ?_
      refine lv_icmp_ge (tgt := 313) hx hb dX9_plan_232 (by decide) (fun c25 => ?_) (fun c25 => ?_)
      · replace hT := hT.1 c25
        rw [hB313] at hT
        exact hT _ _ _ hP hD hS (lv_sub hl [0, 1, 2, 3, 4] rfl)
      · replace hT := hT.2 c25
        refine lv_iload_n hx hb dX9_plan_235 rfl (lv_at hl 3 rfl) ?_
        refine lv_iconst (v := (-1)) hx hb dX9_plan_236 (by decide) ?_
        refine lv_icmp_ne (tgt := 313) hx hb dX9_plan_237 (by decide) (fun c26 => ?_) (fun c26 => ?_)
        · replace hT := hT.1 c26
          rw [hB313] at hT
          exact hT _ _ _ hP hD hS (lv_sub hl [0, 1, 2, 3, 4] rfl)
        · replace hT := hT.2 c26
          refine lv_aload_n hx hb dX9_plan_240 rfl (lv_at hl 0 rfl) ?_
          refine lv_iload hx hb dX9_plan_241 (lv_at hl 4 rfl) ?_
          refine lv_iload hx hb dX9_plan_243 (lv_at hl 5 rfl) ?_
          refine mcallI (n := 2) (rest := []) hT hx hb hml hown hts hK hA hP hD hS hl gg_211 hd_X9_leads ⟨Nat.le_of_ble_eq_true rfl, Nat.le_of_ble_eq_true rfl⟩ rfl rfl (Nat.le_of_ble_eq_true rfl) dX9_plan_245 (Nat.zero_le _) (Nat.zero_le _) (fun r28 S27 H locs hP hD hS hT => ?_)
          refine lv_istore (lv' := [(6, .int r28), (0, .ref (ad 0)), (1, .int x1), (2, .int x2), (3, .int x3), (4, .int x4), (5, .int x5)]) hx hb dX9_plan_248 hl (by decide) rfl (fun ls hl => ?_)
          refine lv_aload_n hx hb dX9_plan_250 rfl (lv_at hl 1 rfl) ?_
          refine lv_iload_n hx hb dX9_plan_251 rfl (lv_at hl 3 rfl) ?_
          refine lv_iload hx hb dX9_plan_252 (lv_at hl 0 rfl) ?_
          refine lv_iload hx hb dX9_plan_254 (lv_at hl 5 rfl) ?_
          refine lv_iload hx hb dX9_plan_256 (lv_at hl 6 rfl) ?_
          refine mcallZ (n := 4) (rest := []) hT hx hb hml hown hts hK hA hP hD hS hl gg_222 hd_X9_isNear ⟨Nat.le_of_ble_eq_true rfl, Nat.le_of_ble_eq_true rfl⟩ rfl rfl (Nat.le_of_ble_eq_true rfl) dX9_plan_258 (Nat.zero_le _) (Nat.zero_le _) (fun b30 S29 H locs hP hD hS hT => ?_)
          refine lv_if_eq (tgt := 307) hx hb dX9_plan_261 (by decide) (fun c31 => ?_) (fun c31 => ?_)
          · replace hT := hT.1 c31
            rw [hB307] at hT
            exact hT _ _ _ hP hD hS (lv_sub hl [1, 2, 3, 4, 5, 6] rfl)
          · replace hT := hT.2 c31
            refine lv_aload_n hx hb dX9_plan_264 rfl (lv_at hl 1 rfl) ?_
            refine mg_isGood hx hb hts hown hK hP dX9_plan_265 ?_
            refine lv_iload hx hb dX9_plan_268 (lv_at hl 0 rfl) ?_
            obtain ⟨hi32, hT⟩ := hT
            refine va_zald (f := S29.2.1 16) hx hb hK hP 16 1 mat_16 rfl hi32 dX9_plan_270 ?_
            refine lv_if_ne (tgt := 277) hx hb dX9_plan_271 (by decide) (fun c33 => ?_) (fun c33 => ?_)
            · replace hT := hT.1 c33
              refine lv_iload hx hb dX9_plan_277 (lv_at hl 0 rfl) ?_
              refine lv_istore_n (lv' := [(3, .int r28), (6, .int r28), (0, .ref (ad 0)), (1, .int x1), (2, .int x2), (4, .int x4), (5, .int x5)]) hx hb dX9_plan_279 rfl hl (by decide) rfl (fun ls hl => ?_)
              refine lv_aload_n hx hb dX9_plan_280 rfl (lv_at hl 2 rfl) ?_
              refine mg_plan hx hb hts hown hK hP dX9_plan_281 ?_
              refine lv_aload_n hx hb dX9_plan_284 rfl (lv_at hl 2 rfl) ?_
              refine mg_planned (v := S29.1 6) hx hb hts hown hK hP rfl dX9_plan_285 ?_
              refine lv_bipush (v := 10) hx hb dX9_plan_288 (by decide) ?_
              refine lv_iload hx hb dX9_plan_290 (lv_at hl 5 rfl) ?_
              refine lv_imul hx hb dX9_plan_292 ?_
              refine lv_iload hx hb dX9_plan_293 (lv_at hl 6 rfl) ?_
              refine lv_iadd hx hb dX9_plan_295 ?_
              obtain ⟨hi34, hT⟩ := hT
              refine va_iast (f := S29.2.1 7) hx hb hK hP hD hS 7 0 mat_7 rfl hi34 dX9_plan_296 (fun H locs hP hD hS => ?_)
              replace hP := msetP_7 hP
              replace hD := msetD_7 hD
              refine lv_aload_n hx hb dX9_plan_297 rfl (lv_at hl 2 rfl) ?_
              refine lv_dup hx hb dX9_plan_298 rfl ?_
              refine mg_planned (v := S29.1 6) hx hb hts hown hK hP rfl dX9_plan_299 ?_
              refine lv_iconst (v := 1) hx hb dX9_plan_302 (by decide) ?_
              refine lv_iadd hx hb dX9_plan_303 ?_
              refine mp_planned hx hb hts hown hK hP hD hS dX9_plan_304 (fun H locs hP hD hS => ?_)
              rw [hB307] at hT
              exact hT _ _ _ hP hD hS (lv_sub hl [2, 3, 4, 0, 5, 6] rfl)
            · replace hT := hT.2 c33
              refine lv_goto (tgt := 307) hx hb dX9_plan_274 (by decide) ?_
              rw [hB307] at hT
              exact hT _ _ _ hP hD hS (lv_sub hl [1, 2, 3, 4, 5, 6] rfl)
    · clear hP hD hS hl H locs ls
      intro S x1 x2 x3 x4 x5 hT
      unfold mT_plan_307 at hT
      rw [hB307]
      intro H locs ls hP hD hS hl
      refine lv_iinc (v := x5 + 1) (lv' := [(5, .int (x5 + 1)), (0, .ref (ad 0)), (1, .int x1), (2, .int x2), (3, .int x3), (4, .int x4)]) hx hb dX9_plan_307 hl (k := 5) rfl rfl (by decide) rfl (fun ls hl => ?_)
      refine lv_goto (tgt := 226) hx hb dX9_plan_310 (by decide) ?_
      rw [hB226] at hT
      exact hT _ _ _ hP hD hS (lv_sub hl [1, 2, 3, 4, 5, 0] rfl)
    · clear hP hD hS hl H locs ls
      intro S x1 x2 x3 x4 hT
      unfold mT_plan_313 at hT
      rw [hB313]
      intro H locs ls hP hD hS hl
      refine lv_iinc (v := x4 + 1) (lv' := [(4, .int (x4 + 1)), (0, .ref (ad 0)), (1, .int x1), (2, .int x2), (3, .int x3)]) hx hb dX9_plan_313 hl (k := 4) rfl rfl (by decide) rfl (fun ls hl => ?_)
      refine lv_goto (tgt := 209) hx hb dX9_plan_316 (by decide) ?_
      rw [hB209] at hT
      exact hT _ _ _ hP hD hS (lv_sub hl [1, 2, 3, 4, 0] rfl)
    · clear hP hD hS hl H locs ls
      intro S x1 x3 hT
      unfold mT_plan_319 at hT
      rw [hB319]
      intro H locs ls hP hD hS hl
      refine lv_iload_n hx hb dX9_plan_319 rfl (lv_at hl 2 rfl) ?_
      refine lv_istore_n (lv' := [(2, .int x3), (0, .ref (ad 0)), (1, .int x1), (3, .int x3)]) hx hb dX9_plan_320 rfl hl (by decide) rfl (fun ls hl => ?_)
      refine lv_goto (tgt := 190) hx hb dX9_plan_321 (by decide) ?_
      rw [hB190] at hT
      exact hT _ _ _ hP hD hS (lv_sub hl [1, 2, 0] rfl)
  unfold mT_plan_e at hT
  refine lv_aload_n hx hb dX9_plan_0 rfl (lv_at hl 0 rfl) ?_
  refine lv_iconst (v := 0) hx hb dX9_plan_1 (by decide) ?_
  refine mp_thrown hx hb hts hown hK hP hD hS dX9_plan_2 (fun H locs hP hD hS => ?_)
  refine lv_aload_n hx hb dX9_plan_5 rfl (lv_at hl 0 rfl) ?_
  refine mcallZ (n := 0) (rest := []) hT hx hb hml hown hts hK hA hP hD hS hl gg_215 hd_X9_fits ⟨Nat.le_of_ble_eq_true rfl, Nat.le_of_ble_eq_true rfl⟩ rfl rfl (Nat.le_of_ble_eq_true rfl) dX9_plan_6 (Nat.zero_le _) (Nat.zero_le _) (fun b36 S35 H locs hP hD hS hT => ?_)
  refine lv_if_ne (tgt := 18) hx hb dX9_plan_9 (by decide) (fun c37 => ?_) (fun c37 => ?_)
  · replace hT := hT.1 c37
    refine lv_aload_n hx hb dX9_plan_18 rfl (lv_at hl 0 rfl) ?_
    refine lv_iconst (v := 0) hx hb dX9_plan_19 (by decide) ?_
    refine mp_trouble hx hb hts hown hK hP hD hS dX9_plan_20 (fun H locs hP hD hS => ?_)
    refine lv_aload_n hx hb dX9_plan_23 rfl (lv_at hl 0 rfl) ?_
    refine mcallV (n := 0) (rest := []) hT hx hb hml hown hts hK hA hP hD hS hl gg_219 hd_X9_measure ⟨Nat.le_of_ble_eq_true rfl, Nat.le_of_ble_eq_true rfl⟩ rfl rfl (Nat.le_of_ble_eq_true rfl) dX9_plan_24 (Nat.zero_le _) (Nat.zero_le _) (fun S38 H locs hP hD hS hT => ?_)
    refine lv_aload_n hx hb dX9_plan_27 rfl (lv_at hl 0 rfl) ?_
    refine lv_aload_n hx hb dX9_plan_28 rfl (lv_at hl 0 rfl) ?_
    refine mg_goal hx hb hts hown hK hP dX9_plan_29 ?_
    refine mcallI (n := 1) (rest := []) hT hx hb hml hown hts hK hA hP hD hS hl gg_184 hd_X9_pack ⟨Nat.le_of_ble_eq_true rfl, Nat.le_of_ble_eq_true rfl⟩ rfl rfl (Nat.le_of_ble_eq_true rfl) dX9_plan_32 (Nat.zero_le _) (Nat.zero_le _) (fun r40 S39 H locs hP hD hS hT => ?_)
    refine lv_istore_n (lv' := [(1, .int r40), (0, .ref (ad 0))]) hx hb dX9_plan_35 rfl hl (by decide) rfl (fun ls hl => ?_)
    refine lv_aload_n hx hb dX9_plan_36 rfl (lv_at hl 1 rfl) ?_
    refine mg_far hx hb hts hown hK hP dX9_plan_37 ?_
    refine lv_iload_n hx hb dX9_plan_40 rfl (lv_at hl 0 rfl) ?_
    obtain ⟨hi41, hT⟩ := hT
    refine va_iald (f := S39.2.1 10) hx hb hK hP 10 0 mat_10 rfl hi41 dX9_plan_41 ?_
    refine lv_ldc (v := 2147483647) hx hb hown (hts _ k_1101) dX9_plan_42 ?_
    refine lv_icmp_ne (tgt := 50) hx hb dX9_plan_44 (by decide) (fun c42 => ?_) (fun c42 => ?_)
    · replace hT := hT.1 c42
      refine lv_aload_n hx hb dX9_plan_50 rfl (lv_at hl 1 rfl) ?_
      refine mg_metMany (v := S39.1 7) hx hb hts hown hK hP rfl dX9_plan_51 ?_
      refine lv_iconst (v := 1) hx hb dX9_plan_54 (by decide) ?_
      refine lv_isub hx hb dX9_plan_55 ?_
      refine lv_topi (fun v2_43 ev2_43 => ?_)
      replace hT := hT v2_43 ev2_43
      refine lv_istore_n (lv' := [(2, .int v2_43), (1, .int r40), (0, .ref (ad 0))]) hx hb dX9_plan_56 rfl hl (by decide) rfl (fun ls hl => ?_)
      rw [hB57] at hT
      exact hT _ _ _ hP hD hS (lv_sub hl [2, 1, 0] rfl)
    · replace hT := hT.2 c42
      refine lv_bipush (v := (-2)) hx hb dX9_plan_47 (by decide) ?_
      exact hret _ _ _ _ _ _ hP hD hS hT dX9_plan_49
  · replace hT := hT.2 c37
    refine lv_aload_n hx hb dX9_plan_12 rfl (lv_at hl 0 rfl) ?_
    refine lv_iconst (v := 2) hx hb dX9_plan_13 (by decide) ?_
    refine mcallI (n := 1) (rest := []) hT hx hb hml hown hts hK hA hP hD hS hl gg_192 hd_X9_no ⟨Nat.le_of_ble_eq_true rfl, Nat.le_of_ble_eq_true rfl⟩ rfl rfl (Nat.le_of_ble_eq_true rfl) dX9_plan_14 (Nat.zero_le _) (Nat.zero_le _) (fun r45 S44 H locs hP hD hS hT => ?_)
    exact hret _ _ _ _ _ _ hP hD hS hT dX9_plan_17
end
section
abbrev mX_planned (l : Launch) (S : MS) (a1 : Int32) (post : Int32 → MS → Prop) : Prop := mCtI l yX9_planned cX9_planned 2 1 23 (fun ad => [.int a1]) S post
def mT_planned_e (l : Launch) (a1 : Int32) (post : Int32 → MS → Prop) (S0 : MS) : Prop := mX_in l (mf S0 3 0) a1 0 ((S0.1 6) - 1) (fun b2 S1 => (bI b2 = 0 → post (-1) S1) ∧ (¬ bI b2 = 0 → vp_in a1 20000 ∧ post (S1.2.1 7 a1.toNatClampNeg) S1))
set_option maxHeartbeats 4000000 in
set_option maxRecDepth 100000 in
theorem m_planned (l : Launch) (S0 : MS) (a1 : Int32) (post : Int32 → MS → Prop) (h : mT_planned_e l a1 post S0) : mX_planned l S0 a1 post := by
  refine msetI rfl (fun _ => Nat.le_of_ble_eq_true rfl) ?_
  intro p e s m args below meth c D ad cI cZ cL A Q hx hb hml hown hts hK hA hret H locs ls hP hD hS hl
  replace hl : lv_has ls 2 [(0, .ref (ad 0)), (1, .int a1)] := hl
  have hT := h
  unfold mT_planned_e at hT
  refine lv_aload_n hx hb dX9_planned_0 rfl (lv_at hl 0 rfl) ?_
  refine lv_iconst (v := 0) hx hb dX9_planned_1 (by decide) ?_
  refine mp_thrown hx hb hts hown hK hP hD hS dX9_planned_2 (fun H locs hP hD hS => ?_)
  refine lv_aload_n hx hb dX9_planned_5 rfl (lv_at hl 0 rfl) ?_
  refine lv_iload_n hx hb dX9_planned_6 rfl (lv_at hl 1 rfl) ?_
  refine lv_iconst (v := 0) hx hb dX9_planned_7 (by decide) ?_
  refine lv_aload_n hx hb dX9_planned_8 rfl (lv_at hl 0 rfl) ?_
  refine mg_planned (v := S0.1 6) hx hb hts hown hK hP rfl dX9_planned_9 ?_
  refine lv_iconst (v := 1) hx hb dX9_planned_12 (by decide) ?_
  refine lv_isub hx hb dX9_planned_13 ?_
  refine mcallZ (n := 3) (rest := []) hT hx hb hml hown hts hK hA hP hD hS hl gg_139 hd_X9_in ⟨Nat.le_of_ble_eq_true rfl, Nat.le_of_ble_eq_true rfl⟩ rfl rfl (Nat.le_of_ble_eq_true rfl) dX9_planned_14 (Nat.zero_le _) (Nat.zero_le _) (fun b2 S1 H locs hP hD hS hT => ?_)
  refine lv_if_eq (tgt := 29) hx hb dX9_planned_17 (by decide) (fun c3 => ?_) (fun c3 => ?_)
  · replace hT := hT.1 c3
    refine lv_iconst (v := (-1)) hx hb dX9_planned_29 (by decide) ?_
    exact hret _ _ _ _ _ _ hP hD hS hT dX9_planned_30
  · replace hT := hT.2 c3
    refine lv_aload_n hx hb dX9_planned_20 rfl (lv_at hl 0 rfl) ?_
    refine mg_plan hx hb hts hown hK hP dX9_planned_21 ?_
    refine lv_iload_n hx hb dX9_planned_24 rfl (lv_at hl 1 rfl) ?_
    obtain ⟨hi4, hT⟩ := hT
    refine va_iald (f := S1.2.1 7) hx hb hK hP 7 0 mat_7 rfl hi4 dX9_planned_25 ?_
    refine lv_goto (tgt := 30) hx hb dX9_planned_26 (by decide) ?_
    exact hret _ _ _ _ _ _ hP hD hS hT dX9_planned_30
abbrev mX_ways (l : Launch) (S : MS) (post : Int64 → MS → Prop) : Prop := mCtJ l yX9_ways cX9_ways 7 4 100 (fun ad => []) S post
def mT_ways_52 (l : Launch) (post : Int64 → MS → Prop) (B52 : MS → Int32 → Int32 → Prop) (B88 : MS → Int32 → Int32 → Prop) (B115 : MS → Int32 → Int32 → Int32 → Int32 → Prop) (B127 : MS → Int32 → Int32 → Int32 → Int32 → Int32 → Prop) (B176 : MS → Int32 → Int32 → Int32 → Int32 → Int32 → Prop) (S : MS) (x1 : Int32) (x2 : Int32) : Prop := (S.1 7 ≤ x2 → B88 S x1 0) ∧ (¬ S.1 7 ≤ x2 → vp_in x2 20000 ∧ (¬ x2 = 0 → vp_in (S.2.1 14 x2.toNatClampNeg) 20000 ∧ B52 (ml S 15 (vp_updL (S.2.2 15) (S.2.1 14 x2.toNatClampNeg).toNatClampNeg 0)) x1 (x2 + 1)) ∧ (x2 = 0 → vp_in (S.2.1 14 x2.toNatClampNeg) 20000 ∧ B52 (ml S 15 (vp_updL (S.2.2 15) (S.2.1 14 x2.toNatClampNeg).toNatClampNeg 1)) x1 (x2 + 1)))
def mT_ways_88 (l : Launch) (post : Int64 → MS → Prop) (B52 : MS → Int32 → Int32 → Prop) (B88 : MS → Int32 → Int32 → Prop) (B115 : MS → Int32 → Int32 → Int32 → Int32 → Prop) (B127 : MS → Int32 → Int32 → Int32 → Int32 → Int32 → Prop) (B176 : MS → Int32 → Int32 → Int32 → Int32 → Int32 → Prop) (S : MS) (x1 : Int32) (x2 : Int32) : Prop := (S.1 7 ≤ x2 → vp_in x1 20000 ∧ post (S.2.2 15 x1.toNatClampNeg) S) ∧ (¬ S.1 7 ≤ x2 → vp_in x2 20000 ∧ ∀ v3_9 : Int32, v3_9 = S.2.1 14 x2.toNatClampNeg → mX_unpack l S v3_9 8 (fun S10 => B115 S10 x1 x2 v3_9 0))
def mT_ways_115 (l : Launch) (post : Int64 → MS → Prop) (B52 : MS → Int32 → Int32 → Prop) (B88 : MS → Int32 → Int32 → Prop) (B115 : MS → Int32 → Int32 → Int32 → Int32 → Prop) (B127 : MS → Int32 → Int32 → Int32 → Int32 → Int32 → Prop) (B176 : MS → Int32 → Int32 → Int32 → Int32 → Int32 → Prop) (S : MS) (x1 : Int32) (x2 : Int32) (x3 : Int32) (x4 : Int32) : Prop := (S.1 0 ≤ x4 → B88 S x1 (x2 + 1)) ∧ (¬ S.1 0 ≤ x4 → B127 S x1 x2 x3 x4 0)
def mT_ways_127 (l : Launch) (post : Int64 → MS → Prop) (B52 : MS → Int32 → Int32 → Prop) (B88 : MS → Int32 → Int32 → Prop) (B115 : MS → Int32 → Int32 → Int32 → Int32 → Prop) (B127 : MS → Int32 → Int32 → Int32 → Int32 → Int32 → Prop) (B176 : MS → Int32 → Int32 → Int32 → Int32 → Int32 → Prop) (S : MS) (x1 : Int32) (x2 : Int32) (x3 : Int32) (x4 : Int32) (x5 : Int32) : Prop := (S.1 0 ≤ x5 → B115 S x1 x2 x3 (x4 + 1)) ∧ (¬ S.1 0 ≤ x5 → mX_leads l S x4 x5 (fun r14 S13 => mX_isNear l S13 x3 r14 x4 x5 (fun b16 S15 => (bI b16 = 0 → B176 S15 x1 x2 x3 x4 x5) ∧ (¬ bI b16 = 0 → vp_in r14 20000 ∧ vp_in x3 20000 ∧ vp_in r14 20000 ∧ B176 (ml S15 15 (vp_updL (S15.2.2 15) r14.toNatClampNeg ((S15.2.2 15 r14.toNatClampNeg) + (S15.2.2 15 x3.toNatClampNeg)))) x1 x2 x3 x4 x5))))
def mT_ways_176 (l : Launch) (post : Int64 → MS → Prop) (B52 : MS → Int32 → Int32 → Prop) (B88 : MS → Int32 → Int32 → Prop) (B115 : MS → Int32 → Int32 → Int32 → Int32 → Prop) (B127 : MS → Int32 → Int32 → Int32 → Int32 → Int32 → Prop) (B176 : MS → Int32 → Int32 → Int32 → Int32 → Int32 → Prop) (S : MS) (x1 : Int32) (x2 : Int32) (x3 : Int32) (x4 : Int32) (x5 : Int32) : Prop := B127 S x1 x2 x3 x4 (x5 + 1)
def mT_ways_e (l : Launch) (post : Int64 → MS → Prop) (B52 : MS → Int32 → Int32 → Prop) (B88 : MS → Int32 → Int32 → Prop) (B115 : MS → Int32 → Int32 → Int32 → Int32 → Prop) (B127 : MS → Int32 → Int32 → Int32 → Int32 → Int32 → Prop) (B176 : MS → Int32 → Int32 → Int32 → Int32 → Int32 → Prop) (S0 : MS) : Prop := mX_fits l (mf S0 3 0) (fun b22 S21 => (¬ bI b22 = 0 → mX_measure l (mf S21 2 0) (fun S24 => mX_pack l S24 3 (fun r26 S25 => vp_in r26 20000 ∧ (¬ S25.2.1 10 r26.toNatClampNeg = 2147483647 → B52 S25 r26 0) ∧ (S25.2.1 10 r26.toNatClampNeg = 2147483647 → post 0 S25)))) ∧ (bI b22 = 0 → mX_no l S21 2 (fun r30 S29 => post r30.toInt64 S29)))
set_option maxHeartbeats 4000000 in
set_option maxRecDepth 100000 in
theorem m_ways (l : Launch) (S0 : MS) (post : Int64 → MS → Prop) (h : ∀ (B52 : MS → Int32 → Int32 → Prop) (B88 : MS → Int32 → Int32 → Prop) (B115 : MS → Int32 → Int32 → Int32 → Int32 → Prop) (B127 : MS → Int32 → Int32 → Int32 → Int32 → Int32 → Prop) (B176 : MS → Int32 → Int32 → Int32 → Int32 → Int32 → Prop), (∀ (S : MS) (x1 : Int32) (x2 : Int32), mT_ways_52 l post B52 B88 B115 B127 B176 S x1 x2 → B52 S x1 x2) → (∀ (S : MS) (x1 : Int32) (x2 : Int32), mT_ways_88 l post B52 B88 B115 B127 B176 S x1 x2 → B88 S x1 x2) → (∀ (S : MS) (x1 : Int32) (x2 : Int32) (x3 : Int32) (x4 : Int32), mT_ways_115 l post B52 B88 B115 B127 B176 S x1 x2 x3 x4 → B115 S x1 x2 x3 x4) → (∀ (S : MS) (x1 : Int32) (x2 : Int32) (x3 : Int32) (x4 : Int32) (x5 : Int32), mT_ways_127 l post B52 B88 B115 B127 B176 S x1 x2 x3 x4 x5 → B127 S x1 x2 x3 x4 x5) → (∀ (S : MS) (x1 : Int32) (x2 : Int32) (x3 : Int32) (x4 : Int32) (x5 : Int32), mT_ways_176 l post B52 B88 B115 B127 B176 S x1 x2 x3 x4 x5 → B176 S x1 x2 x3 x4 x5) → mT_ways_e l post B52 B88 B115 B127 B176 S0) : mX_ways l S0 post := by
  refine msetJ rfl (fun _ => Nat.le_of_ble_eq_true rfl) ?_
  intro p e s m args below meth c D ad cI cZ cL A Q hx hb hml hown hts hK hA hret H locs ls hP hD hS hl
  replace hl : lv_has ls 7 [(0, .ref (ad 0))] := hl
  obtain ⟨B52, hB52⟩ : ∃ B : MS → Int32 → Int32 → Prop, B = (fun S x1 x2 => ∀ (H : Heap) (locs : List Loc) (ls : Array Slot), va_P D vwCl (mW ad cI cZ cL S) H → va_D A (mW ad cI cZ cL S) → va_S A s.heap H locs → lv_has ls 7 [(0, .ref (ad 0)), (1, .int x1), (2, .int x2)] → W p l e (mrm 4 100) s m args below meth c H locs 0 0 Q (F0 m 52 ls [])) := ⟨_, rfl⟩
  obtain ⟨B88, hB88⟩ : ∃ B : MS → Int32 → Int32 → Prop, B = (fun S x1 x2 => ∀ (H : Heap) (locs : List Loc) (ls : Array Slot), va_P D vwCl (mW ad cI cZ cL S) H → va_D A (mW ad cI cZ cL S) → va_S A s.heap H locs → lv_has ls 7 [(0, .ref (ad 0)), (1, .int x1), (2, .int x2)] → W p l e (mrm 4 100) s m args below meth c H locs 0 0 Q (F0 m 88 ls [])) := ⟨_, rfl⟩
  obtain ⟨B115, hB115⟩ : ∃ B : MS → Int32 → Int32 → Int32 → Int32 → Prop, B = (fun S x1 x2 x3 x4 => ∀ (H : Heap) (locs : List Loc) (ls : Array Slot), va_P D vwCl (mW ad cI cZ cL S) H → va_D A (mW ad cI cZ cL S) → va_S A s.heap H locs → lv_has ls 7 [(0, .ref (ad 0)), (1, .int x1), (2, .int x2), (3, .int x3), (4, .int x4)] → W p l e (mrm 4 100) s m args below meth c H locs 0 0 Q (F0 m 115 ls [])) := ⟨_, rfl⟩
  obtain ⟨B127, hB127⟩ : ∃ B : MS → Int32 → Int32 → Int32 → Int32 → Int32 → Prop, B = (fun S x1 x2 x3 x4 x5 => ∀ (H : Heap) (locs : List Loc) (ls : Array Slot), va_P D vwCl (mW ad cI cZ cL S) H → va_D A (mW ad cI cZ cL S) → va_S A s.heap H locs → lv_has ls 7 [(0, .ref (ad 0)), (1, .int x1), (2, .int x2), (3, .int x3), (4, .int x4), (5, .int x5)] → W p l e (mrm 4 100) s m args below meth c H locs 0 0 Q (F0 m 127 ls [])) := ⟨_, rfl⟩
  obtain ⟨B176, hB176⟩ : ∃ B : MS → Int32 → Int32 → Int32 → Int32 → Int32 → Prop, B = (fun S x1 x2 x3 x4 x5 => ∀ (H : Heap) (locs : List Loc) (ls : Array Slot), va_P D vwCl (mW ad cI cZ cL S) H → va_D A (mW ad cI cZ cL S) → va_S A s.heap H locs → lv_has ls 7 [(0, .ref (ad 0)), (1, .int x1), (2, .int x2), (3, .int x3), (4, .int x4), (5, .int x5)] → W p l e (mrm 4 100) s m args below meth c H locs 0 0 Q (F0 m 176 ls [])) := ⟨_, rfl⟩
  have hT : mT_ways_e l post B52 B88 B115 B127 B176 S0 := by
    refine h B52 B88 B115 B127 B176 ?_ ?_ ?_ ?_ ?_
    · clear hP hD hS hl H locs ls
      intro S x1 x2 hT
      unfold mT_ways_52 at hT
      rw [hB52]
      intro H locs ls hP hD hS hl
      refine lv_iload_n hx hb dX9_ways_52 rfl (lv_at hl 2 rfl) ?_
      refine lv_aload_n hx hb dX9_ways_53 rfl (lv_at hl 0 rfl) ?_
      refine mg_metMany (v := S.1 7) hx hb hts hown hK hP rfl dX9_ways_54 ?_
      refine lv_icmp_ge (tgt := 86) hx hb dX9_ways_57 (by decide) (fun c1 => ?_) (fun c1 => ?_)
      · replace hT := hT.1 c1
        refine lv_iconst (v := 0) hx hb dX9_ways_86 (by decide) ?_
        refine lv_istore_n (lv' := [(2, .int 0), (0, .ref (ad 0)), (1, .int x1)]) hx hb dX9_ways_87 rfl hl (by decide) rfl (fun ls hl => ?_)
        rw [hB88] at hT
        exact hT _ _ _ hP hD hS (lv_sub hl [1, 2, 0] rfl)
      · replace hT := hT.2 c1
        refine lv_aload_n hx hb dX9_ways_60 rfl (lv_at hl 0 rfl) ?_
        refine mg_many hx hb hts hown hK hP dX9_ways_61 ?_
        refine lv_aload_n hx hb dX9_ways_64 rfl (lv_at hl 0 rfl) ?_
        refine mg_met hx hb hts hown hK hP dX9_ways_65 ?_
        refine lv_iload_n hx hb dX9_ways_68 rfl (lv_at hl 2 rfl) ?_
        obtain ⟨hi2, hT⟩ := hT
        refine va_iald (f := S.2.1 14) hx hb hK hP 14 0 mat_14 rfl hi2 dX9_ways_69 ?_
        refine lv_iload_n hx hb dX9_ways_70 rfl (lv_at hl 2 rfl) ?_
        refine lv_if_ne (tgt := 78) hx hb dX9_ways_71 (by decide) (fun c3 => ?_) (fun c3 => ?_)
        · replace hT := hT.1 c3
          refine lv_lconst (v := 0) hx hb dX9_ways_78 (by decide) ?_
          obtain ⟨hi4, hT⟩ := hT
          refine va_last (f := S.2.2 15) hx hb hK hP hD hS 15 2 mat_15 rfl hi4 dX9_ways_79 (fun H locs hP hD hS => ?_)
          replace hP := msetP_15 hP
          replace hD := msetD_15 hD
          refine lv_iinc (v := x2 + 1) (lv' := [(2, .int (x2 + 1)), (0, .ref (ad 0)), (1, .int x1)]) hx hb dX9_ways_80 hl (k := 2) rfl rfl (by decide) rfl (fun ls hl => ?_)
          refine lv_goto (tgt := 52) hx hb dX9_ways_83 (by decide) ?_
          rw [hB52] at hT
          exact hT _ _ _ hP hD hS (lv_sub hl [1, 2, 0] rfl)
        · replace hT := hT.2 c3
          refine lv_lconst (v := 1) hx hb dX9_ways_74 (by decide) ?_
          refine lv_goto (tgt := 79) hx hb dX9_ways_75 (by decide) ?_
          obtain ⟨hi5, hT⟩ := hT
          refine va_last (f := S.2.2 15) hx hb hK hP hD hS 15 2 mat_15 rfl hi5 dX9_ways_79 (fun H locs hP hD hS => ?_)
          replace hP := msetP_15 hP
          replace hD := msetD_15 hD
          refine lv_iinc (v := x2 + 1) (lv' := [(2, .int (x2 + 1)), (0, .ref (ad 0)), (1, .int x1)]) hx hb dX9_ways_80 hl (k := 2) rfl rfl (by decide) rfl (fun ls hl => ?_)
          refine lv_goto (tgt := 52) hx hb dX9_ways_83 (by decide) ?_
          rw [hB52] at hT
          exact hT _ _ _ hP hD hS (lv_sub hl [1, 2, 0] rfl)
    · clear hP hD hS hl H locs ls
      intro S x1 x2 hT
      unfold mT_ways_88 at hT
      rw [hB88]
      intro H locs ls hP hD hS hl
      refine lv_iload_n hx hb dX9_ways_88 rfl (lv_at hl 2 rfl) ?_
      refine lv_aload_n hx hb dX9_ways_89 rfl (lv_at hl 0 rfl) ?_
      refine mg_metMany (v := S.1 7) hx hb hts hown hK hP rfl dX9_ways_90 ?_
      refine lv_icmp_ge (tgt := 194) hx hb dX9_ways_93 (by decide) (fun c6 => ?_) (fun c6 => ?_)
      · replace hT := hT.1 c6
        refine lv_aload_n hx hb dX9_ways_194 rfl (lv_at hl 0 rfl) ?_
        refine mg_many hx hb hts hown hK hP dX9_ways_195 ?_
        refine lv_iload_n hx hb dX9_ways_198 rfl (lv_at hl 1 rfl) ?_
        obtain ⟨hi7, hT⟩ := hT
        refine va_lald (f := S.2.2 15) hx hb hK hP 15 2 mat_15 rfl hi7 dX9_ways_199 ?_
        exact hret _ _ _ _ _ _ hP hD hS hT dX9_ways_200
      · replace hT := hT.2 c6
        refine lv_aload_n hx hb dX9_ways_96 rfl (lv_at hl 0 rfl) ?_
        refine mg_met hx hb hts hown hK hP dX9_ways_97 ?_
        refine lv_iload_n hx hb dX9_ways_100 rfl (lv_at hl 2 rfl) ?_
        obtain ⟨hi8, hT⟩ := hT
        refine va_iald (f := S.2.1 14) hx hb hK hP 14 0 mat_14 rfl hi8 dX9_ways_101 ?_
        refine lv_topi (fun v3_9 ev3_9 => ?_)
        replace hT := hT v3_9 ev3_9
        refine lv_istore_n (lv' := [(3, .int v3_9), (0, .ref (ad 0)), (1, .int x1), (2, .int x2)]) hx hb dX9_ways_102 rfl hl (by decide) rfl (fun ls hl => ?_)
        refine lv_aload_n hx hb dX9_ways_103 rfl (lv_at hl 1 rfl) ?_
        refine lv_iload_n hx hb dX9_ways_104 rfl (lv_at hl 0 rfl) ?_
        refine lv_aload_n hx hb dX9_ways_105 rfl (lv_at hl 1 rfl) ?_
        refine mg_at hx hb hts hown hK hP dX9_ways_106 ?_
        refine mcallV (n := 2) (rest := []) hT hx hb hml hown hts hK hA hP hD hS hl gg_180 hd_X9_unpack ⟨Nat.le_of_ble_eq_true rfl, Nat.le_of_ble_eq_true rfl⟩ rfl rfl (Nat.le_of_ble_eq_true rfl) dX9_ways_109 (Nat.zero_le _) (Nat.zero_le _) (fun S10 H locs hP hD hS hT => ?_)
        refine lv_iconst (v := 0) hx hb dX9_ways_112 (by decide) ?_
        refine lv_istore (lv' := [(4, .int 0), (3, .int v3_9), (0, .ref (ad 0)), (1, .int x1), (2, .int x2)]) hx hb dX9_ways_113 hl (by decide) rfl (fun ls hl => ?_)
        rw [hB115] at hT
        exact hT _ _ _ hP hD hS (lv_sub hl [2, 3, 4, 1, 0] rfl)
    · clear hP hD hS hl H locs ls
      intro S x1 x2 x3 x4 hT
      unfold mT_ways_115 at hT
      rw [hB115]
      intro H locs ls hP hD hS hl
      refine lv_iload hx hb dX9_ways_115 (lv_at hl 4 rfl) ?_
      refine lv_aload_n hx hb dX9_ways_117 rfl (lv_at hl 0 rfl) ?_
      refine mg_pegs (v := S.1 0) hx hb hts hown hK hP rfl dX9_ways_118 ?_
      refine lv_icmp_ge (tgt := 188) hx hb dX9_ways_121 (by decide) (fun c11 => ?_) (fun c11 => ?_)
      · replace hT := hT.1 c11
        refine lv_iinc (v := x2 + 1) (lv' := [(2, .int (x2 + 1)), (0, .ref (ad 0)), (1, .int x1), (3, .int x3), (4, .int x4)]) hx hb dX9_ways_188 hl (k := 2) rfl rfl (by decide) rfl (fun ls hl => ?_)
        refine lv_goto (tgt := 88) hx hb dX9_ways_191 (by decide) ?_
        rw [hB88] at hT
        exact hT _ _ _ hP hD hS (lv_sub hl [1, 2, 0] rfl)
      · replace hT := hT.2 c11
        refine lv_iconst (v := 0) hx hb dX9_ways_124 (by decide) ?_
        refine lv_istore (lv' := [(5, .int 0), (0, .ref (ad 0)), (1, .int x1), (2, .int x2), (3, .int x3), (4, .int x4)]) hx hb dX9_ways_125 hl (by decide) rfl (fun ls hl => ?_)
        rw [hB127] at hT
        exact hT _ _ _ hP hD hS (lv_sub hl [1, 2, 3, 4, 5, 0] rfl)
    · clear hP hD hS hl H locs ls
      intro S x1 x2 x3 x4 x5 hT
      unfold mT_ways_127 at hT
      rw [hB127]
      intro H locs ls hP hD hS hl
      refine lv_iload hx hb dX9_ways_127 (lv_at hl 5 rfl) ?_
      refine lv_aload_n hx hb dX9_ways_129 rfl (lv_at hl 0 rfl) ?_
      refine mg_pegs (v := S.1 0) hx hb hts hown hK hP rfl dX9_ways_130 ?_
      refine lv_icmp_ge (tgt := 182) hx hb dX9_ways_133 (by decide) (fun c12 => ?_) (fun c12 => ?_)
      · replace hT := hT.1 c12
        refine lv_iinc (v := x4 + 1) (lv' := [(4, .int (x4 + 1)), (0, .ref (ad 0)), (1, .int x1), (2, .int x2), (3, .int x3), (5, .int x5)]) hx hb dX9_ways_182 hl (k := 4) rfl rfl (by decide) rfl (fun ls hl => ?_)
        refine lv_goto (tgt := 115) hx hb dX9_ways_185 (by decide) ?_
        rw [hB115] at hT
        exact hT _ _ _ hP hD hS (lv_sub hl [1, 2, 3, 4, 0] rfl)
      · replace hT := hT.2 c12
        refine lv_aload_n hx hb dX9_ways_136 rfl (lv_at hl 0 rfl) ?_
        refine lv_iload hx hb dX9_ways_137 (lv_at hl 4 rfl) ?_
        refine lv_iload hx hb dX9_ways_139 (lv_at hl 5 rfl) ?_
        refine mcallI (n := 2) (rest := []) hT hx hb hml hown hts hK hA hP hD hS hl gg_211 hd_X9_leads ⟨Nat.le_of_ble_eq_true rfl, Nat.le_of_ble_eq_true rfl⟩ rfl rfl (Nat.le_of_ble_eq_true rfl) dX9_ways_141 (Nat.zero_le _) (Nat.zero_le _) (fun r14 S13 H locs hP hD hS hT => ?_)
        refine lv_istore (lv' := [(6, .int r14), (0, .ref (ad 0)), (1, .int x1), (2, .int x2), (3, .int x3), (4, .int x4), (5, .int x5)]) hx hb dX9_ways_144 hl (by decide) rfl (fun ls hl => ?_)
        refine lv_aload_n hx hb dX9_ways_146 rfl (lv_at hl 1 rfl) ?_
        refine lv_iload_n hx hb dX9_ways_147 rfl (lv_at hl 4 rfl) ?_
        refine lv_iload hx hb dX9_ways_148 (lv_at hl 0 rfl) ?_
        refine lv_iload hx hb dX9_ways_150 (lv_at hl 5 rfl) ?_
        refine lv_iload hx hb dX9_ways_152 (lv_at hl 6 rfl) ?_
        refine mcallZ (n := 4) (rest := []) hT hx hb hml hown hts hK hA hP hD hS hl gg_222 hd_X9_isNear ⟨Nat.le_of_ble_eq_true rfl, Nat.le_of_ble_eq_true rfl⟩ rfl rfl (Nat.le_of_ble_eq_true rfl) dX9_ways_154 (Nat.zero_le _) (Nat.zero_le _) (fun b16 S15 H locs hP hD hS hT => ?_)
        refine lv_if_eq (tgt := 176) hx hb dX9_ways_157 (by decide) (fun c17 => ?_) (fun c17 => ?_)
        · replace hT := hT.1 c17
          rw [hB176] at hT
          exact hT _ _ _ hP hD hS (lv_sub hl [1, 2, 3, 4, 5, 6] rfl)
        · replace hT := hT.2 c17
          refine lv_aload_n hx hb dX9_ways_160 rfl (lv_at hl 1 rfl) ?_
          refine mg_many hx hb hts hown hK hP dX9_ways_161 ?_
          refine lv_iload hx hb dX9_ways_164 (lv_at hl 0 rfl) ?_
          refine lv_dup2_11 hx hb dX9_ways_166 rfl rfl ?_
          obtain ⟨hi18, hT⟩ := hT
          refine va_lald (f := S15.2.2 15) hx hb hK hP 15 2 mat_15 rfl hi18 dX9_ways_167 ?_
          refine lv_aload_n hx hb dX9_ways_168 rfl (lv_at hl 1 rfl) ?_
          refine mg_many hx hb hts hown hK hP dX9_ways_169 ?_
          refine lv_iload_n hx hb dX9_ways_172 rfl (lv_at hl 4 rfl) ?_
          obtain ⟨hi19, hT⟩ := hT
          refine va_lald (f := S15.2.2 15) hx hb hK hP 15 2 mat_15 rfl hi19 dX9_ways_173 ?_
          refine lv_ladd hx hb dX9_ways_174 ?_
          obtain ⟨hi20, hT⟩ := hT
          refine va_last (f := S15.2.2 15) hx hb hK hP hD hS 15 2 mat_15 rfl hi20 dX9_ways_175 (fun H locs hP hD hS => ?_)
          replace hP := msetP_15 hP
          replace hD := msetD_15 hD
          rw [hB176] at hT
          exact hT _ _ _ hP hD hS (lv_sub hl [1, 2, 3, 4, 5, 6] rfl)
    · clear hP hD hS hl H locs ls
      intro S x1 x2 x3 x4 x5 hT
      unfold mT_ways_176 at hT
      rw [hB176]
      intro H locs ls hP hD hS hl
      refine lv_iinc (v := x5 + 1) (lv' := [(5, .int (x5 + 1)), (0, .ref (ad 0)), (1, .int x1), (2, .int x2), (3, .int x3), (4, .int x4)]) hx hb dX9_ways_176 hl (k := 5) rfl rfl (by decide) rfl (fun ls hl => ?_)
      refine lv_goto (tgt := 127) hx hb dX9_ways_179 (by decide) ?_
      rw [hB127] at hT
      exact hT _ _ _ hP hD hS (lv_sub hl [1, 2, 3, 4, 5, 0] rfl)
  unfold mT_ways_e at hT
  refine lv_aload_n hx hb dX9_ways_0 rfl (lv_at hl 0 rfl) ?_
  refine lv_iconst (v := 0) hx hb dX9_ways_1 (by decide) ?_
  refine mp_thrown hx hb hts hown hK hP hD hS dX9_ways_2 (fun H locs hP hD hS => ?_)
  refine lv_aload_n hx hb dX9_ways_5 rfl (lv_at hl 0 rfl) ?_
  refine mcallZ (n := 0) (rest := []) hT hx hb hml hown hts hK hA hP hD hS hl gg_215 hd_X9_fits ⟨Nat.le_of_ble_eq_true rfl, Nat.le_of_ble_eq_true rfl⟩ rfl rfl (Nat.le_of_ble_eq_true rfl) dX9_ways_6 (Nat.zero_le _) (Nat.zero_le _) (fun b22 S21 H locs hP hD hS hT => ?_)
  refine lv_if_ne (tgt := 19) hx hb dX9_ways_9 (by decide) (fun c23 => ?_) (fun c23 => ?_)
  · replace hT := hT.1 c23
    refine lv_aload_n hx hb dX9_ways_19 rfl (lv_at hl 0 rfl) ?_
    refine lv_iconst (v := 0) hx hb dX9_ways_20 (by decide) ?_
    refine mp_trouble hx hb hts hown hK hP hD hS dX9_ways_21 (fun H locs hP hD hS => ?_)
    refine lv_aload_n hx hb dX9_ways_24 rfl (lv_at hl 0 rfl) ?_
    refine mcallV (n := 0) (rest := []) hT hx hb hml hown hts hK hA hP hD hS hl gg_219 hd_X9_measure ⟨Nat.le_of_ble_eq_true rfl, Nat.le_of_ble_eq_true rfl⟩ rfl rfl (Nat.le_of_ble_eq_true rfl) dX9_ways_25 (Nat.zero_le _) (Nat.zero_le _) (fun S24 H locs hP hD hS hT => ?_)
    refine lv_aload_n hx hb dX9_ways_28 rfl (lv_at hl 0 rfl) ?_
    refine lv_aload_n hx hb dX9_ways_29 rfl (lv_at hl 0 rfl) ?_
    refine mg_goal hx hb hts hown hK hP dX9_ways_30 ?_
    refine mcallI (n := 1) (rest := []) hT hx hb hml hown hts hK hA hP hD hS hl gg_184 hd_X9_pack ⟨Nat.le_of_ble_eq_true rfl, Nat.le_of_ble_eq_true rfl⟩ rfl rfl (Nat.le_of_ble_eq_true rfl) dX9_ways_33 (Nat.zero_le _) (Nat.zero_le _) (fun r26 S25 H locs hP hD hS hT => ?_)
    refine lv_istore_n (lv' := [(1, .int r26), (0, .ref (ad 0))]) hx hb dX9_ways_36 rfl hl (by decide) rfl (fun ls hl => ?_)
    refine lv_aload_n hx hb dX9_ways_37 rfl (lv_at hl 1 rfl) ?_
    refine mg_far hx hb hts hown hK hP dX9_ways_38 ?_
    refine lv_iload_n hx hb dX9_ways_41 rfl (lv_at hl 0 rfl) ?_
    obtain ⟨hi27, hT⟩ := hT
    refine va_iald (f := S25.2.1 10) hx hb hK hP 10 0 mat_10 rfl hi27 dX9_ways_42 ?_
    refine lv_ldc (v := 2147483647) hx hb hown (hts _ k_1101) dX9_ways_43 ?_
    refine lv_icmp_ne (tgt := 50) hx hb dX9_ways_45 (by decide) (fun c28 => ?_) (fun c28 => ?_)
    · replace hT := hT.1 c28
      refine lv_iconst (v := 0) hx hb dX9_ways_50 (by decide) ?_
      refine lv_istore_n (lv' := [(2, .int 0), (1, .int r26), (0, .ref (ad 0))]) hx hb dX9_ways_51 rfl hl (by decide) rfl (fun ls hl => ?_)
      rw [hB52] at hT
      exact hT _ _ _ hP hD hS (lv_sub hl [2, 1, 0] rfl)
    · replace hT := hT.2 c28
      refine lv_lconst (v := 0) hx hb dX9_ways_48 (by decide) ?_
      exact hret _ _ _ _ _ _ hP hD hS hT dX9_ways_49
  · replace hT := hT.2 c23
    refine lv_aload_n hx hb dX9_ways_12 rfl (lv_at hl 0 rfl) ?_
    refine lv_iconst (v := 2) hx hb dX9_ways_13 (by decide) ?_
    refine mcallI (n := 1) (rest := []) hT hx hb hml hown hts hK hA hP hD hS hl gg_192 hd_X9_no ⟨Nat.le_of_ble_eq_true rfl, Nat.le_of_ble_eq_true rfl⟩ rfl rfl (Nat.le_of_ble_eq_true rfl) dX9_ways_14 (Nat.zero_le _) (Nat.zero_le _) (fun r30 S29 H locs hP hD hS hT => ?_)
    refine lv_i2l hx hb dX9_ways_17 rfl ?_
    exact hret _ _ _ _ _ _ hP hD hS hT dX9_ways_18
abbrev mX_reach (l : Launch) (S : MS) (post : Int32 → MS → Prop) : Prop := mCtI l yX9_reach cX9_reach 1 4 100 (fun ad => []) S post
def mT_reach_e (l : Launch) (post : Int32 → MS → Prop) (S0 : MS) : Prop := mX_fits l (mf S0 3 0) (fun b2 S1 => (¬ bI b2 = 0 → mX_measure l (mf S1 2 0) (fun S4 => post (S4.1 7) S4)) ∧ (bI b2 = 0 → mX_no l S1 2 (fun r6 S5 => post r6 S5)))
set_option maxHeartbeats 4000000 in
set_option maxRecDepth 100000 in
theorem m_reach (l : Launch) (S0 : MS) (post : Int32 → MS → Prop) (h : mT_reach_e l post S0) : mX_reach l S0 post := by
  refine msetI rfl (fun _ => Nat.le_of_ble_eq_true rfl) ?_
  intro p e s m args below meth c D ad cI cZ cL A Q hx hb hml hown hts hK hA hret H locs ls hP hD hS hl
  replace hl : lv_has ls 1 [(0, .ref (ad 0))] := hl
  have hT := h
  unfold mT_reach_e at hT
  refine lv_aload_n hx hb dX9_reach_0 rfl (lv_at hl 0 rfl) ?_
  refine lv_iconst (v := 0) hx hb dX9_reach_1 (by decide) ?_
  refine mp_thrown hx hb hts hown hK hP hD hS dX9_reach_2 (fun H locs hP hD hS => ?_)
  refine lv_aload_n hx hb dX9_reach_5 rfl (lv_at hl 0 rfl) ?_
  refine mcallZ (n := 0) (rest := []) hT hx hb hml hown hts hK hA hP hD hS hl gg_215 hd_X9_fits ⟨Nat.le_of_ble_eq_true rfl, Nat.le_of_ble_eq_true rfl⟩ rfl rfl (Nat.le_of_ble_eq_true rfl) dX9_reach_6 (Nat.zero_le _) (Nat.zero_le _) (fun b2 S1 H locs hP hD hS hT => ?_)
  refine lv_if_ne (tgt := 18) hx hb dX9_reach_9 (by decide) (fun c3 => ?_) (fun c3 => ?_)
  · replace hT := hT.1 c3
    refine lv_aload_n hx hb dX9_reach_18 rfl (lv_at hl 0 rfl) ?_
    refine lv_iconst (v := 0) hx hb dX9_reach_19 (by decide) ?_
    refine mp_trouble hx hb hts hown hK hP hD hS dX9_reach_20 (fun H locs hP hD hS => ?_)
    refine lv_aload_n hx hb dX9_reach_23 rfl (lv_at hl 0 rfl) ?_
    refine mcallV (n := 0) (rest := []) hT hx hb hml hown hts hK hA hP hD hS hl gg_219 hd_X9_measure ⟨Nat.le_of_ble_eq_true rfl, Nat.le_of_ble_eq_true rfl⟩ rfl rfl (Nat.le_of_ble_eq_true rfl) dX9_reach_24 (Nat.zero_le _) (Nat.zero_le _) (fun S4 H locs hP hD hS hT => ?_)
    refine lv_aload_n hx hb dX9_reach_27 rfl (lv_at hl 0 rfl) ?_
    refine mg_metMany (v := S4.1 7) hx hb hts hown hK hP rfl dX9_reach_28 ?_
    exact hret _ _ _ _ _ _ hP hD hS hT dX9_reach_31
  · replace hT := hT.2 c3
    refine lv_aload_n hx hb dX9_reach_12 rfl (lv_at hl 0 rfl) ?_
    refine lv_iconst (v := 2) hx hb dX9_reach_13 (by decide) ?_
    refine mcallI (n := 1) (rest := []) hT hx hb hml hown hts hK hA hP hD hS hl gg_192 hd_X9_no ⟨Nat.le_of_ble_eq_true rfl, Nat.le_of_ble_eq_true rfl⟩ rfl rfl (Nat.le_of_ble_eq_true rfl) dX9_reach_14 (Nat.zero_le _) (Nat.zero_le _) (fun r6 S5 H locs hP hD hS hT => ?_)
    exact hret _ _ _ _ _ _ hP hD hS hT dX9_reach_17
abbrev mX_far (l : Launch) (S : MS) (post : Int32 → MS → Prop) : Prop := mCtI l yX9_far cX9_far 1 4 100 (fun ad => []) S post
def mT_far_e (l : Launch) (post : Int32 → MS → Prop) (S0 : MS) : Prop := mX_fits l (mf S0 3 0) (fun b2 S1 => (¬ bI b2 = 0 → mX_measure l (mf S1 2 0) (fun S4 => vp_in ((S4.1 7) - 1) 20000 ∧ vp_in (S4.2.1 14 ((S4.1 7) - 1).toNatClampNeg) 20000 ∧ post (S4.2.1 10 (S4.2.1 14 ((S4.1 7) - 1).toNatClampNeg).toNatClampNeg) S4)) ∧ (bI b2 = 0 → mX_no l S1 2 (fun r8 S7 => post r8 S7)))
set_option maxHeartbeats 4000000 in
set_option maxRecDepth 100000 in
theorem m_far (l : Launch) (S0 : MS) (post : Int32 → MS → Prop) (h : mT_far_e l post S0) : mX_far l S0 post := by
  refine msetI rfl (fun _ => Nat.le_of_ble_eq_true rfl) ?_
  intro p e s m args below meth c D ad cI cZ cL A Q hx hb hml hown hts hK hA hret H locs ls hP hD hS hl
  replace hl : lv_has ls 1 [(0, .ref (ad 0))] := hl
  have hT := h
  unfold mT_far_e at hT
  refine lv_aload_n hx hb dX9_far_0 rfl (lv_at hl 0 rfl) ?_
  refine lv_iconst (v := 0) hx hb dX9_far_1 (by decide) ?_
  refine mp_thrown hx hb hts hown hK hP hD hS dX9_far_2 (fun H locs hP hD hS => ?_)
  refine lv_aload_n hx hb dX9_far_5 rfl (lv_at hl 0 rfl) ?_
  refine mcallZ (n := 0) (rest := []) hT hx hb hml hown hts hK hA hP hD hS hl gg_215 hd_X9_fits ⟨Nat.le_of_ble_eq_true rfl, Nat.le_of_ble_eq_true rfl⟩ rfl rfl (Nat.le_of_ble_eq_true rfl) dX9_far_6 (Nat.zero_le _) (Nat.zero_le _) (fun b2 S1 H locs hP hD hS hT => ?_)
  refine lv_if_ne (tgt := 18) hx hb dX9_far_9 (by decide) (fun c3 => ?_) (fun c3 => ?_)
  · replace hT := hT.1 c3
    refine lv_aload_n hx hb dX9_far_18 rfl (lv_at hl 0 rfl) ?_
    refine lv_iconst (v := 0) hx hb dX9_far_19 (by decide) ?_
    refine mp_trouble hx hb hts hown hK hP hD hS dX9_far_20 (fun H locs hP hD hS => ?_)
    refine lv_aload_n hx hb dX9_far_23 rfl (lv_at hl 0 rfl) ?_
    refine mcallV (n := 0) (rest := []) hT hx hb hml hown hts hK hA hP hD hS hl gg_219 hd_X9_measure ⟨Nat.le_of_ble_eq_true rfl, Nat.le_of_ble_eq_true rfl⟩ rfl rfl (Nat.le_of_ble_eq_true rfl) dX9_far_24 (Nat.zero_le _) (Nat.zero_le _) (fun S4 H locs hP hD hS hT => ?_)
    refine lv_aload_n hx hb dX9_far_27 rfl (lv_at hl 0 rfl) ?_
    refine mg_far hx hb hts hown hK hP dX9_far_28 ?_
    refine lv_aload_n hx hb dX9_far_31 rfl (lv_at hl 0 rfl) ?_
    refine mg_met hx hb hts hown hK hP dX9_far_32 ?_
    refine lv_aload_n hx hb dX9_far_35 rfl (lv_at hl 0 rfl) ?_
    refine mg_metMany (v := S4.1 7) hx hb hts hown hK hP rfl dX9_far_36 ?_
    refine lv_iconst (v := 1) hx hb dX9_far_39 (by decide) ?_
    refine lv_isub hx hb dX9_far_40 ?_
    obtain ⟨hi5, hT⟩ := hT
    refine va_iald (f := S4.2.1 14) hx hb hK hP 14 0 mat_14 rfl hi5 dX9_far_41 ?_
    obtain ⟨hi6, hT⟩ := hT
    refine va_iald (f := S4.2.1 10) hx hb hK hP 10 0 mat_10 rfl hi6 dX9_far_42 ?_
    exact hret _ _ _ _ _ _ hP hD hS hT dX9_far_43
  · replace hT := hT.2 c3
    refine lv_aload_n hx hb dX9_far_12 rfl (lv_at hl 0 rfl) ?_
    refine lv_iconst (v := 2) hx hb dX9_far_13 (by decide) ?_
    refine mcallI (n := 1) (rest := []) hT hx hb hml hown hts hK hA hP hD hS hl gg_192 hd_X9_no ⟨Nat.le_of_ble_eq_true rfl, Nat.le_of_ble_eq_true rfl⟩ rfl rfl (Nat.le_of_ble_eq_true rfl) dX9_far_14 (Nat.zero_le _) (Nat.zero_le _) (fun r8 S7 H locs hP hD hS hT => ?_)
    exact hret _ _ _ _ _ _ hP hD hS hT dX9_far_17
abbrev mX_farthest (l : Launch) (S : MS) (post : Int32 → MS → Prop) : Prop := mCtI l yX9_farthest cX9_farthest 3 4 100 (fun ad => []) S post
def mT_farthest_41 (l : Launch) (post : Int32 → MS → Prop) (B41 : MS → Int32 → Int32 → Prop) (B86 : MS → Int32 → Int32 → Prop) (S : MS) (x1 : Int32) (x2 : Int32) : Prop := (S.1 7 ≤ x2 → post x1 S) ∧ (¬ S.1 7 ≤ x2 → vp_in x2 20000 ∧ vp_in (S.2.1 14 x2.toNatClampNeg) 20000 ∧ vp_in x1 20000 ∧ (¬ S.2.1 10 (S.2.1 14 x2.toNatClampNeg).toNatClampNeg = S.2.1 10 x1.toNatClampNeg → B86 S x1 x2) ∧ (S.2.1 10 (S.2.1 14 x2.toNatClampNeg).toNatClampNeg = S.2.1 10 x1.toNatClampNeg → vp_in x2 20000 ∧ (x1 ≤ S.2.1 14 x2.toNatClampNeg → B86 S x1 x2) ∧ (¬ x1 ≤ S.2.1 14 x2.toNatClampNeg → vp_in x2 20000 ∧ ∀ v1_9 : Int32, v1_9 = S.2.1 14 x2.toNatClampNeg → B86 S v1_9 x2)))
def mT_farthest_86 (l : Launch) (post : Int32 → MS → Prop) (B41 : MS → Int32 → Int32 → Prop) (B86 : MS → Int32 → Int32 → Prop) (S : MS) (x1 : Int32) (x2 : Int32) : Prop := B41 S x1 (x2 + 1)
def mT_farthest_e (l : Launch) (post : Int32 → MS → Prop) (B41 : MS → Int32 → Int32 → Prop) (B86 : MS → Int32 → Int32 → Prop) (S0 : MS) : Prop := mX_fits l (mf S0 3 0) (fun b11 S10 => (¬ bI b11 = 0 → mX_measure l (mf S10 2 0) (fun S13 => vp_in ((S13.1 7) - 1) 20000 ∧ ∀ v1_15 : Int32, v1_15 = S13.2.1 14 ((S13.1 7) - 1).toNatClampNeg → B41 S13 v1_15 0)) ∧ (bI b11 = 0 → mX_no l S10 2 (fun r17 S16 => post r17 S16)))
set_option maxHeartbeats 4000000 in
set_option maxRecDepth 100000 in
theorem m_farthest (l : Launch) (S0 : MS) (post : Int32 → MS → Prop) (h : ∀ (B41 : MS → Int32 → Int32 → Prop) (B86 : MS → Int32 → Int32 → Prop), (∀ (S : MS) (x1 : Int32) (x2 : Int32), mT_farthest_41 l post B41 B86 S x1 x2 → B41 S x1 x2) → (∀ (S : MS) (x1 : Int32) (x2 : Int32), mT_farthest_86 l post B41 B86 S x1 x2 → B86 S x1 x2) → mT_farthest_e l post B41 B86 S0) : mX_farthest l S0 post := by
  refine msetI rfl (fun _ => Nat.le_of_ble_eq_true rfl) ?_
  intro p e s m args below meth c D ad cI cZ cL A Q hx hb hml hown hts hK hA hret H locs ls hP hD hS hl
  replace hl : lv_has ls 3 [(0, .ref (ad 0))] := hl
  obtain ⟨B41, hB41⟩ : ∃ B : MS → Int32 → Int32 → Prop, B = (fun S x1 x2 => ∀ (H : Heap) (locs : List Loc) (ls : Array Slot), va_P D vwCl (mW ad cI cZ cL S) H → va_D A (mW ad cI cZ cL S) → va_S A s.heap H locs → lv_has ls 3 [(0, .ref (ad 0)), (1, .int x1), (2, .int x2)] → W p l e (mrm 4 100) s m args below meth c H locs 0 0 Q (F0 m 41 ls [])) := ⟨_, rfl⟩
  obtain ⟨B86, hB86⟩ : ∃ B : MS → Int32 → Int32 → Prop, B = (fun S x1 x2 => ∀ (H : Heap) (locs : List Loc) (ls : Array Slot), va_P D vwCl (mW ad cI cZ cL S) H → va_D A (mW ad cI cZ cL S) → va_S A s.heap H locs → lv_has ls 3 [(0, .ref (ad 0)), (1, .int x1), (2, .int x2)] → W p l e (mrm 4 100) s m args below meth c H locs 0 0 Q (F0 m 86 ls [])) := ⟨_, rfl⟩
  have hT : mT_farthest_e l post B41 B86 S0 := by
    refine h B41 B86 ?_ ?_
    · clear hP hD hS hl H locs ls
      intro S x1 x2 hT
      unfold mT_farthest_41 at hT
      rw [hB41]
      intro H locs ls hP hD hS hl
      refine lv_iload_n hx hb dX9_farthest_41 rfl (lv_at hl 2 rfl) ?_
      refine lv_aload_n hx hb dX9_farthest_42 rfl (lv_at hl 0 rfl) ?_
      refine mg_metMany (v := S.1 7) hx hb hts hown hK hP rfl dX9_farthest_43 ?_
      refine lv_icmp_ge (tgt := 92) hx hb dX9_farthest_46 (by decide) (fun c1 => ?_) (fun c1 => ?_)
      · replace hT := hT.1 c1
        refine lv_iload_n hx hb dX9_farthest_92 rfl (lv_at hl 1 rfl) ?_
        exact hret _ _ _ _ _ _ hP hD hS hT dX9_farthest_93
      · replace hT := hT.2 c1
        refine lv_aload_n hx hb dX9_farthest_49 rfl (lv_at hl 0 rfl) ?_
        refine mg_far hx hb hts hown hK hP dX9_farthest_50 ?_
        refine lv_aload_n hx hb dX9_farthest_53 rfl (lv_at hl 0 rfl) ?_
        refine mg_met hx hb hts hown hK hP dX9_farthest_54 ?_
        refine lv_iload_n hx hb dX9_farthest_57 rfl (lv_at hl 2 rfl) ?_
        obtain ⟨hi2, hT⟩ := hT
        refine va_iald (f := S.2.1 14) hx hb hK hP 14 0 mat_14 rfl hi2 dX9_farthest_58 ?_
        obtain ⟨hi3, hT⟩ := hT
        refine va_iald (f := S.2.1 10) hx hb hK hP 10 0 mat_10 rfl hi3 dX9_farthest_59 ?_
        refine lv_aload_n hx hb dX9_farthest_60 rfl (lv_at hl 0 rfl) ?_
        refine mg_far hx hb hts hown hK hP dX9_farthest_61 ?_
        refine lv_iload_n hx hb dX9_farthest_64 rfl (lv_at hl 1 rfl) ?_
        obtain ⟨hi4, hT⟩ := hT
        refine va_iald (f := S.2.1 10) hx hb hK hP 10 0 mat_10 rfl hi4 dX9_farthest_65 ?_
        refine lv_icmp_ne (tgt := 86) hx hb dX9_farthest_66 (by decide) (fun c5 => ?_) (fun c5 => ?_)
        · replace hT := hT.1 c5
          rw [hB86] at hT
          exact hT _ _ _ hP hD hS (lv_sub hl [0, 1, 2] rfl)
        · replace hT := hT.2 c5
          refine lv_aload_n hx hb dX9_farthest_69 rfl (lv_at hl 0 rfl) ?_
          refine mg_met hx hb hts hown hK hP dX9_farthest_70 ?_
          refine lv_iload_n hx hb dX9_farthest_73 rfl (lv_at hl 2 rfl) ?_
          obtain ⟨hi6, hT⟩ := hT
          refine va_iald (f := S.2.1 14) hx hb hK hP 14 0 mat_14 rfl hi6 dX9_farthest_74 ?_
          refine lv_iload_n hx hb dX9_farthest_75 rfl (lv_at hl 1 rfl) ?_
          refine lv_icmp_ge (tgt := 86) hx hb dX9_farthest_76 (by decide) (fun c7 => ?_) (fun c7 => ?_)
          · replace hT := hT.1 c7
            rw [hB86] at hT
            exact hT _ _ _ hP hD hS (lv_sub hl [0, 1, 2] rfl)
          · replace hT := hT.2 c7
            refine lv_aload_n hx hb dX9_farthest_79 rfl (lv_at hl 0 rfl) ?_
            refine mg_met hx hb hts hown hK hP dX9_farthest_80 ?_
            refine lv_iload_n hx hb dX9_farthest_83 rfl (lv_at hl 2 rfl) ?_
            obtain ⟨hi8, hT⟩ := hT
            refine va_iald (f := S.2.1 14) hx hb hK hP 14 0 mat_14 rfl hi8 dX9_farthest_84 ?_
            refine lv_topi (fun v1_9 ev1_9 => ?_)
            replace hT := hT v1_9 ev1_9
            refine lv_istore_n (lv' := [(1, .int v1_9), (0, .ref (ad 0)), (2, .int x2)]) hx hb dX9_farthest_85 rfl hl (by decide) rfl (fun ls hl => ?_)
            rw [hB86] at hT
            exact hT _ _ _ hP hD hS (lv_sub hl [1, 0, 2] rfl)
    · clear hP hD hS hl H locs ls
      intro S x1 x2 hT
      unfold mT_farthest_86 at hT
      rw [hB86]
      intro H locs ls hP hD hS hl
      refine lv_iinc (v := x2 + 1) (lv' := [(2, .int (x2 + 1)), (0, .ref (ad 0)), (1, .int x1)]) hx hb dX9_farthest_86 hl (k := 2) rfl rfl (by decide) rfl (fun ls hl => ?_)
      refine lv_goto (tgt := 41) hx hb dX9_farthest_89 (by decide) ?_
      rw [hB41] at hT
      exact hT _ _ _ hP hD hS (lv_sub hl [1, 2, 0] rfl)
  unfold mT_farthest_e at hT
  refine lv_aload_n hx hb dX9_farthest_0 rfl (lv_at hl 0 rfl) ?_
  refine lv_iconst (v := 0) hx hb dX9_farthest_1 (by decide) ?_
  refine mp_thrown hx hb hts hown hK hP hD hS dX9_farthest_2 (fun H locs hP hD hS => ?_)
  refine lv_aload_n hx hb dX9_farthest_5 rfl (lv_at hl 0 rfl) ?_
  refine mcallZ (n := 0) (rest := []) hT hx hb hml hown hts hK hA hP hD hS hl gg_215 hd_X9_fits ⟨Nat.le_of_ble_eq_true rfl, Nat.le_of_ble_eq_true rfl⟩ rfl rfl (Nat.le_of_ble_eq_true rfl) dX9_farthest_6 (Nat.zero_le _) (Nat.zero_le _) (fun b11 S10 H locs hP hD hS hT => ?_)
  refine lv_if_ne (tgt := 18) hx hb dX9_farthest_9 (by decide) (fun c12 => ?_) (fun c12 => ?_)
  · replace hT := hT.1 c12
    refine lv_aload_n hx hb dX9_farthest_18 rfl (lv_at hl 0 rfl) ?_
    refine lv_iconst (v := 0) hx hb dX9_farthest_19 (by decide) ?_
    refine mp_trouble hx hb hts hown hK hP hD hS dX9_farthest_20 (fun H locs hP hD hS => ?_)
    refine lv_aload_n hx hb dX9_farthest_23 rfl (lv_at hl 0 rfl) ?_
    refine mcallV (n := 0) (rest := []) hT hx hb hml hown hts hK hA hP hD hS hl gg_219 hd_X9_measure ⟨Nat.le_of_ble_eq_true rfl, Nat.le_of_ble_eq_true rfl⟩ rfl rfl (Nat.le_of_ble_eq_true rfl) dX9_farthest_24 (Nat.zero_le _) (Nat.zero_le _) (fun S13 H locs hP hD hS hT => ?_)
    refine lv_aload_n hx hb dX9_farthest_27 rfl (lv_at hl 0 rfl) ?_
    refine mg_met hx hb hts hown hK hP dX9_farthest_28 ?_
    refine lv_aload_n hx hb dX9_farthest_31 rfl (lv_at hl 0 rfl) ?_
    refine mg_metMany (v := S13.1 7) hx hb hts hown hK hP rfl dX9_farthest_32 ?_
    refine lv_iconst (v := 1) hx hb dX9_farthest_35 (by decide) ?_
    refine lv_isub hx hb dX9_farthest_36 ?_
    obtain ⟨hi14, hT⟩ := hT
    refine va_iald (f := S13.2.1 14) hx hb hK hP 14 0 mat_14 rfl hi14 dX9_farthest_37 ?_
    refine lv_topi (fun v1_15 ev1_15 => ?_)
    replace hT := hT v1_15 ev1_15
    refine lv_istore_n (lv' := [(1, .int v1_15), (0, .ref (ad 0))]) hx hb dX9_farthest_38 rfl hl (by decide) rfl (fun ls hl => ?_)
    refine lv_iconst (v := 0) hx hb dX9_farthest_39 (by decide) ?_
    refine lv_istore_n (lv' := [(2, .int 0), (1, .int v1_15), (0, .ref (ad 0))]) hx hb dX9_farthest_40 rfl hl (by decide) rfl (fun ls hl => ?_)
    rw [hB41] at hT
    exact hT _ _ _ hP hD hS (lv_sub hl [2, 1, 0] rfl)
  · replace hT := hT.2 c12
    refine lv_aload_n hx hb dX9_farthest_12 rfl (lv_at hl 0 rfl) ?_
    refine lv_iconst (v := 2) hx hb dX9_farthest_13 (by decide) ?_
    refine mcallI (n := 1) (rest := []) hT hx hb hml hown hts hK hA hP hD hS hl gg_192 hd_X9_no ⟨Nat.le_of_ble_eq_true rfl, Nat.le_of_ble_eq_true rfl⟩ rfl rfl (Nat.le_of_ble_eq_true rfl) dX9_farthest_14 (Nat.zero_le _) (Nat.zero_le _) (fun r17 S16 H locs hP hD hS hT => ?_)
    exact hret _ _ _ _ _ _ hP hD hS hT dX9_farthest_17
abbrev mX_joinAll (l : Launch) (S : MS) (post : MS → Prop) : Prop := mCtV l yX9_joinAll cX9_joinAll 9 3 72 (fun ad => []) S post
def mT_joinAll_7 (l : Launch) (post : MS → Prop) (B7 : MS → Int32 → Int32 → Prop) (B41 : MS → Int32 → Int32 → Int32 → Prop) (B129 : MS → Int32 → Int32 → Int32 → Int32 → Int32 → Prop) (B398 : MS → Int32 → Int32 → Int32 → Int32 → Int32 → Int32 → Prop) (B431 : MS → Int32 → Int32 → Int32 → Int32 → Int32 → Int32 → Int32 → Prop) (B502 : MS → Int32 → Int32 → Int32 → Prop) (S : MS) (x1 : Int32) (x2 : Int32) : Prop := (x1 ≤ x2 → B41 (mf S 8 0) x1 0 0) ∧ (¬ x1 ≤ x2 → vp_in x2 20000 ∧ vp_in x2 20000 ∧ B7 (ma (ma S 18 (upd (S.2.1 18) x2.toNatClampNeg (-1))) 20 (upd (S.2.1 20) x2.toNatClampNeg (-1))) x1 (x2 + 1))
def mT_joinAll_41 (l : Launch) (post : MS → Prop) (B7 : MS → Int32 → Int32 → Prop) (B41 : MS → Int32 → Int32 → Int32 → Prop) (B129 : MS → Int32 → Int32 → Int32 → Int32 → Int32 → Prop) (B398 : MS → Int32 → Int32 → Int32 → Int32 → Int32 → Int32 → Prop) (B431 : MS → Int32 → Int32 → Int32 → Int32 → Int32 → Int32 → Int32 → Prop) (B502 : MS → Int32 → Int32 → Int32 → Prop) (S : MS) (x1 : Int32) (x2 : Int32) (x3 : Int32) : Prop := (x1 ≤ x3 → post S) ∧ (¬ x1 ≤ x3 → mX_unpack l S x3 8 (fun S5 => vp_in x3 20000 ∧ (¬ S5.2.1 18 x3.toNatClampNeg = (-1) → B502 S5 x1 x2 x3) ∧ (S5.2.1 18 x3.toNatClampNeg = (-1) → mX_isRight l S5 8 (fun b9 S8 => (¬ bI b9 = 0 → vp_in 0 20000 ∧ vp_in x3 20000 ∧ vp_in x3 20000 ∧ vp_in x3 20000 ∧ vp_in 0 20000 ∧ B129 (ma (ma (ma (ma (ma S8 21 (upd (S8.2.1 21) (0 : Int32).toNatClampNeg x3)) 23 (upd (S8.2.1 23) x3.toNatClampNeg 0)) 18 (upd (S8.2.1 18) x3.toNatClampNeg x2)) 19 (upd (S8.2.1 19) x3.toNatClampNeg x2)) 22 (upd (S8.2.1 22) (0 : Int32).toNatClampNeg x3)) x1 (x2 + 1) x3 1 1) ∧ (bI b9 = 0 → B502 S8 x1 x2 x3)))))
def mT_joinAll_129 (l : Launch) (post : MS → Prop) (B7 : MS → Int32 → Int32 → Prop) (B41 : MS → Int32 → Int32 → Int32 → Prop) (B129 : MS → Int32 → Int32 → Int32 → Int32 → Int32 → Prop) (B398 : MS → Int32 → Int32 → Int32 → Int32 → Int32 → Int32 → Prop) (B431 : MS → Int32 → Int32 → Int32 → Int32 → Int32 → Int32 → Int32 → Prop) (B502 : MS → Int32 → Int32 → Int32 → Prop) (S : MS) (x1 : Int32) (x2 : Int32) (x3 : Int32) (x4 : Int32) (x5 : Int32) : Prop := (x4 ≤ 0 → B502 S x1 x2 x3) ∧ (¬ x4 ≤ 0 → vp_in (x4 - 1) 20000 ∧ ∀ v6_18 : Int32, v6_18 = S.2.1 21 (x4 - 1).toNatClampNeg → vp_in v6_18 20000 ∧ (25 ≤ S.2.1 23 v6_18.toNatClampNeg → (x4 + (-1) ≤ 0 → B398 S x1 x2 x3 (x4 + (-1)) x5 v6_18) ∧ (¬ x4 + (-1) ≤ 0 → vp_in v6_18 20000 ∧ vp_in ((x4 + (-1)) - 1) 20000 ∧ vp_in (S.2.1 21 ((x4 + (-1)) - 1).toNatClampNeg) 20000 ∧ (S.2.1 19 (S.2.1 21 ((x4 + (-1)) - 1).toNatClampNeg).toNatClampNeg ≤ S.2.1 19 v6_18.toNatClampNeg → B398 S x1 x2 x3 (x4 + (-1)) x5 v6_18) ∧ (¬ S.2.1 19 (S.2.1 21 ((x4 + (-1)) - 1).toNatClampNeg).toNatClampNeg ≤ S.2.1 19 v6_18.toNatClampNeg → vp_in ((x4 + (-1)) - 1) 20000 ∧ vp_in v6_18 20000 ∧ vp_in (S.2.1 21 ((x4 + (-1)) - 1).toNatClampNeg) 20000 ∧ B398 (ma S 19 (upd (S.2.1 19) (S.2.1 21 ((x4 + (-1)) - 1).toNatClampNeg).toNatClampNeg (S.2.1 19 v6_18.toNatClampNeg))) x1 x2 x3 (x4 + (-1)) x5 v6_18))) ∧ (¬ 25 ≤ S.2.1 23 v6_18.toNatClampNeg → vp_in v6_18 20000 ∧ ∀ v7_30 : Int32, v7_30 = S.2.1 23 v6_18.toNatClampNeg → vp_in v6_18 20000 ∧ vp_in v6_18 20000 ∧ (S.1 0 ≤ v7_30 / 5 → B129 (ma S 23 (upd (S.2.1 23) v6_18.toNatClampNeg ((S.2.1 23 v6_18.toNatClampNeg) + 1))) x1 x2 x3 x4 x5) ∧ (¬ S.1 0 ≤ v7_30 / 5 → (v7_30 - v7_30 / 5 * 5 < S.1 0 → mX_unpack l (ma S 23 (upd (S.2.1 23) v6_18.toNatClampNeg ((S.2.1 23 v6_18.toNatClampNeg) + 1))) v6_18 8 (fun S35 => mX_leads l S35 (v7_30 / 5) (v7_30 - v7_30 / 5 * 5) (fun r37 S36 => (¬ r37 = (-1) → vp_in r37 20000 ∧ (¬ S36.2.1 18 r37.toNatClampNeg = (-1) → vp_in r37 20000 ∧ (¬ S36.2.1 20 r37.toNatClampNeg = (-1) → B129 S36 x1 x2 x3 x4 x5) ∧ (S36.2.1 20 r37.toNatClampNeg = (-1) → vp_in r37 20000 ∧ vp_in v6_18 20000 ∧ (S36.2.1 19 v6_18.toNatClampNeg ≤ S36.2.1 18 r37.toNatClampNeg → B129 S36 x1 x2 x3 x4 x5) ∧ (¬ S36.2.1 19 v6_18.toNatClampNeg ≤ S36.2.1 18 r37.toNatClampNeg → vp_in r37 20000 ∧ vp_in v6_18 20000 ∧ B129 (ma S36 19 (upd (S36.2.1 19) v6_18.toNatClampNeg (S36.2.1 18 r37.toNatClampNeg))) x1 x2 x3 x4 x5))) ∧ (S36.2.1 18 r37.toNatClampNeg = (-1) → vp_in r37 20000 ∧ vp_in r37 20000 ∧ vp_in r37 20000 ∧ vp_in x5 20000 ∧ vp_in x4 20000 ∧ B129 (ma (ma (ma (ma (ma S36 18 (upd (S36.2.1 18) r37.toNatClampNeg x2)) 19 (upd (S36.2.1 19) r37.toNatClampNeg x2)) 23 (upd (S36.2.1 23) r37.toNatClampNeg 0)) 22 (upd (S36.2.1 22) x5.toNatClampNeg r37)) 21 (upd (S36.2.1 21) x4.toNatClampNeg r37)) x1 (x2 + 1) x3 (x4 + 1) (x5 + 1))) ∧ (r37 = (-1) → B129 S36 x1 x2 x3 x4 x5)))) ∧ (¬ v7_30 - v7_30 / 5 * 5 < S.1 0 → B129 (ma S 23 (upd (S.2.1 23) v6_18.toNatClampNeg ((S.2.1 23 v6_18.toNatClampNeg) + 1))) x1 x2 x3 x4 x5))))
def mT_joinAll_398 (l : Launch) (post : MS → Prop) (B7 : MS → Int32 → Int32 → Prop) (B41 : MS → Int32 → Int32 → Int32 → Prop) (B129 : MS → Int32 → Int32 → Int32 → Int32 → Int32 → Prop) (B398 : MS → Int32 → Int32 → Int32 → Int32 → Int32 → Int32 → Prop) (B431 : MS → Int32 → Int32 → Int32 → Int32 → Int32 → Int32 → Int32 → Prop) (B502 : MS → Int32 → Int32 → Int32 → Prop) (S : MS) (x1 : Int32) (x2 : Int32) (x3 : Int32) (x4 : Int32) (x5 : Int32) (x6 : Int32) : Prop := vp_in x6 20000 ∧ vp_in x6 20000 ∧ (S.2.1 19 x6.toNatClampNeg = S.2.1 18 x6.toNatClampNeg → vp_in (S.1 8) 20000 ∧ B431 (ma S 24 (upd (S.2.1 24) (S.1 8).toNatClampNeg 0)) x1 x2 x3 x4 x5 x6 1) ∧ (¬ S.2.1 19 x6.toNatClampNeg = S.2.1 18 x6.toNatClampNeg → B129 S x1 x2 x3 x4 x5)
def mT_joinAll_431 (l : Launch) (post : MS → Prop) (B7 : MS → Int32 → Int32 → Prop) (B41 : MS → Int32 → Int32 → Int32 → Prop) (B129 : MS → Int32 → Int32 → Int32 → Int32 → Int32 → Prop) (B398 : MS → Int32 → Int32 → Int32 → Int32 → Int32 → Int32 → Prop) (B431 : MS → Int32 → Int32 → Int32 → Int32 → Int32 → Int32 → Int32 → Prop) (B502 : MS → Int32 → Int32 → Int32 → Prop) (S : MS) (x1 : Int32) (x2 : Int32) (x3 : Int32) (x4 : Int32) (x5 : Int32) (x6 : Int32) (x7 : Int32) : Prop := (x7 = 0 → B129 (mf S 8 ((S.1 8) + 1)) x1 x2 x3 x4 x5) ∧ (¬ x7 = 0 → vp_in (x5 + (-1)) 20000 ∧ ∀ v8_59 : Int32, v8_59 = S.2.1 22 (x5 + (-1)).toNatClampNeg → vp_in v8_59 20000 ∧ vp_in (S.1 8) 20000 ∧ vp_in (S.1 8) 20000 ∧ (v8_59 = x6 → B431 (ma (ma S 20 (upd (S.2.1 20) v8_59.toNatClampNeg (S.1 8))) 24 (upd (S.2.1 24) (S.1 8).toNatClampNeg ((S.2.1 24 (S.1 8).toNatClampNeg) + 1))) x1 x2 x3 x4 (x5 + (-1)) x6 0) ∧ (¬ v8_59 = x6 → B431 (ma (ma S 20 (upd (S.2.1 20) v8_59.toNatClampNeg (S.1 8))) 24 (upd (S.2.1 24) (S.1 8).toNatClampNeg ((S.2.1 24 (S.1 8).toNatClampNeg) + 1))) x1 x2 x3 x4 (x5 + (-1)) x6 1))
def mT_joinAll_502 (l : Launch) (post : MS → Prop) (B7 : MS → Int32 → Int32 → Prop) (B41 : MS → Int32 → Int32 → Int32 → Prop) (B129 : MS → Int32 → Int32 → Int32 → Int32 → Int32 → Prop) (B398 : MS → Int32 → Int32 → Int32 → Int32 → Int32 → Int32 → Prop) (B431 : MS → Int32 → Int32 → Int32 → Int32 → Int32 → Int32 → Int32 → Prop) (B502 : MS → Int32 → Int32 → Int32 → Prop) (S : MS) (x1 : Int32) (x2 : Int32) (x3 : Int32) : Prop := B41 S x1 x2 (x3 + 1)
def mT_joinAll_e (l : Launch) (post : MS → Prop) (B7 : MS → Int32 → Int32 → Prop) (B41 : MS → Int32 → Int32 → Int32 → Prop) (B129 : MS → Int32 → Int32 → Int32 → Int32 → Int32 → Prop) (B398 : MS → Int32 → Int32 → Int32 → Int32 → Int32 → Int32 → Prop) (B431 : MS → Int32 → Int32 → Int32 → Int32 → Int32 → Int32 → Int32 → Prop) (B502 : MS → Int32 → Int32 → Int32 → Prop) (S0 : MS) : Prop := mX_stands l S0 (fun r65 S64 => B7 S64 r65 0)
set_option maxHeartbeats 4000000 in
set_option maxRecDepth 100000 in
theorem m_joinAll (l : Launch) (S0 : MS) (post : MS → Prop) (h : ∀ (B7 : MS → Int32 → Int32 → Prop) (B41 : MS → Int32 → Int32 → Int32 → Prop) (B129 : MS → Int32 → Int32 → Int32 → Int32 → Int32 → Prop) (B398 : MS → Int32 → Int32 → Int32 → Int32 → Int32 → Int32 → Prop) (B431 : MS → Int32 → Int32 → Int32 → Int32 → Int32 → Int32 → Int32 → Prop) (B502 : MS → Int32 → Int32 → Int32 → Prop), (∀ (S : MS) (x1 : Int32) (x2 : Int32), mT_joinAll_7 l post B7 B41 B129 B398 B431 B502 S x1 x2 → B7 S x1 x2) → (∀ (S : MS) (x1 : Int32) (x2 : Int32) (x3 : Int32), mT_joinAll_41 l post B7 B41 B129 B398 B431 B502 S x1 x2 x3 → B41 S x1 x2 x3) → (∀ (S : MS) (x1 : Int32) (x2 : Int32) (x3 : Int32) (x4 : Int32) (x5 : Int32), mT_joinAll_129 l post B7 B41 B129 B398 B431 B502 S x1 x2 x3 x4 x5 → B129 S x1 x2 x3 x4 x5) → (∀ (S : MS) (x1 : Int32) (x2 : Int32) (x3 : Int32) (x4 : Int32) (x5 : Int32) (x6 : Int32), mT_joinAll_398 l post B7 B41 B129 B398 B431 B502 S x1 x2 x3 x4 x5 x6 → B398 S x1 x2 x3 x4 x5 x6) → (∀ (S : MS) (x1 : Int32) (x2 : Int32) (x3 : Int32) (x4 : Int32) (x5 : Int32) (x6 : Int32) (x7 : Int32), mT_joinAll_431 l post B7 B41 B129 B398 B431 B502 S x1 x2 x3 x4 x5 x6 x7 → B431 S x1 x2 x3 x4 x5 x6 x7) → (∀ (S : MS) (x1 : Int32) (x2 : Int32) (x3 : Int32), mT_joinAll_502 l post B7 B41 B129 B398 B431 B502 S x1 x2 x3 → B502 S x1 x2 x3) → mT_joinAll_e l post B7 B41 B129 B398 B431 B502 S0) : mX_joinAll l S0 post := by
  refine msetV rfl (fun _ => Nat.le_of_ble_eq_true rfl) ?_
  intro p e s m args below meth c D ad cI cZ cL A Q hx hb hml hown hts hK hA hret H locs ls hP hD hS hl
  replace hl : lv_has ls 9 [(0, .ref (ad 0))] := hl
  obtain ⟨B7, hB7⟩ : ∃ B : MS → Int32 → Int32 → Prop, B = (fun S x1 x2 => ∀ (H : Heap) (locs : List Loc) (ls : Array Slot), va_P D vwCl (mW ad cI cZ cL S) H → va_D A (mW ad cI cZ cL S) → va_S A s.heap H locs → lv_has ls 9 [(0, .ref (ad 0)), (1, .int x1), (2, .int x2)] → W p l e (mrm 3 72) s m args below meth c H locs 0 0 Q (F0 m 7 ls [])) := ⟨_, rfl⟩
  obtain ⟨B41, hB41⟩ : ∃ B : MS → Int32 → Int32 → Int32 → Prop, B = (fun S x1 x2 x3 => ∀ (H : Heap) (locs : List Loc) (ls : Array Slot), va_P D vwCl (mW ad cI cZ cL S) H → va_D A (mW ad cI cZ cL S) → va_S A s.heap H locs → lv_has ls 9 [(0, .ref (ad 0)), (1, .int x1), (2, .int x2), (3, .int x3)] → W p l e (mrm 3 72) s m args below meth c H locs 0 0 Q (F0 m 41 ls [])) := ⟨_, rfl⟩
  obtain ⟨B129, hB129⟩ : ∃ B : MS → Int32 → Int32 → Int32 → Int32 → Int32 → Prop, B = (fun S x1 x2 x3 x4 x5 => ∀ (H : Heap) (locs : List Loc) (ls : Array Slot), va_P D vwCl (mW ad cI cZ cL S) H → va_D A (mW ad cI cZ cL S) → va_S A s.heap H locs → lv_has ls 9 [(0, .ref (ad 0)), (1, .int x1), (2, .int x2), (3, .int x3), (4, .int x4), (5, .int x5)] → W p l e (mrm 3 72) s m args below meth c H locs 0 0 Q (F0 m 129 ls [])) := ⟨_, rfl⟩
  obtain ⟨B398, hB398⟩ : ∃ B : MS → Int32 → Int32 → Int32 → Int32 → Int32 → Int32 → Prop, B = (fun S x1 x2 x3 x4 x5 x6 => ∀ (H : Heap) (locs : List Loc) (ls : Array Slot), va_P D vwCl (mW ad cI cZ cL S) H → va_D A (mW ad cI cZ cL S) → va_S A s.heap H locs → lv_has ls 9 [(0, .ref (ad 0)), (1, .int x1), (2, .int x2), (3, .int x3), (4, .int x4), (5, .int x5), (6, .int x6)] → W p l e (mrm 3 72) s m args below meth c H locs 0 0 Q (F0 m 398 ls [])) := ⟨_, rfl⟩
  obtain ⟨B431, hB431⟩ : ∃ B : MS → Int32 → Int32 → Int32 → Int32 → Int32 → Int32 → Int32 → Prop, B = (fun S x1 x2 x3 x4 x5 x6 x7 => ∀ (H : Heap) (locs : List Loc) (ls : Array Slot), va_P D vwCl (mW ad cI cZ cL S) H → va_D A (mW ad cI cZ cL S) → va_S A s.heap H locs → lv_has ls 9 [(0, .ref (ad 0)), (1, .int x1), (2, .int x2), (3, .int x3), (4, .int x4), (5, .int x5), (6, .int x6), (7, .int x7)] → W p l e (mrm 3 72) s m args below meth c H locs 0 0 Q (F0 m 431 ls [])) := ⟨_, rfl⟩
  obtain ⟨B502, hB502⟩ : ∃ B : MS → Int32 → Int32 → Int32 → Prop, B = (fun S x1 x2 x3 => ∀ (H : Heap) (locs : List Loc) (ls : Array Slot), va_P D vwCl (mW ad cI cZ cL S) H → va_D A (mW ad cI cZ cL S) → va_S A s.heap H locs → lv_has ls 9 [(0, .ref (ad 0)), (1, .int x1), (2, .int x2), (3, .int x3)] → W p l e (mrm 3 72) s m args below meth c H locs 0 0 Q (F0 m 502 ls [])) := ⟨_, rfl⟩
  have hT : mT_joinAll_e l post B7 B41 B129 B398 B431 B502 S0 := by
    refine h B7 B41 B129 B398 B431 B502 ?_ ?_ ?_ ?_ ?_ ?_
    · clear hP hD hS hl H locs ls
      intro S x1 x2 hT
      unfold mT_joinAll_7 at hT
      rw [hB7]
      intro H locs ls hP hD hS hl
      refine lv_iload_n hx hb dX9_joinAll_7 rfl (lv_at hl 2 rfl) ?_
      refine lv_iload_n hx hb dX9_joinAll_8 rfl (lv_at hl 1 rfl) ?_
      refine lv_icmp_ge (tgt := 32) hx hb dX9_joinAll_9 (by decide) (fun c1 => ?_) (fun c1 => ?_)
      · replace hT := hT.1 c1
        refine lv_aload_n hx hb dX9_joinAll_32 rfl (lv_at hl 0 rfl) ?_
        refine lv_iconst (v := 0) hx hb dX9_joinAll_33 (by decide) ?_
        refine mp_sets hx hb hts hown hK hP hD hS dX9_joinAll_34 (fun H locs hP hD hS => ?_)
        refine lv_iconst (v := 0) hx hb dX9_joinAll_37 (by decide) ?_
        refine lv_istore_n (lv' := [(2, .int 0), (0, .ref (ad 0)), (1, .int x1)]) hx hb dX9_joinAll_38 rfl hl (by decide) rfl (fun ls hl => ?_)
        refine lv_iconst (v := 0) hx hb dX9_joinAll_39 (by decide) ?_
        refine lv_istore_n (lv' := [(3, .int 0), (2, .int 0), (0, .ref (ad 0)), (1, .int x1)]) hx hb dX9_joinAll_40 rfl hl (by decide) rfl (fun ls hl => ?_)
        rw [hB41] at hT
        exact hT _ _ _ hP hD hS (lv_sub hl [2, 3, 1, 0] rfl)
      · replace hT := hT.2 c1
        refine lv_aload_n hx hb dX9_joinAll_12 rfl (lv_at hl 0 rfl) ?_
        refine mg_order hx hb hts hown hK hP dX9_joinAll_13 ?_
        refine lv_iload_n hx hb dX9_joinAll_16 rfl (lv_at hl 2 rfl) ?_
        refine lv_iconst (v := (-1)) hx hb dX9_joinAll_17 (by decide) ?_
        obtain ⟨hi2, hT⟩ := hT
        refine va_iast (f := S.2.1 18) hx hb hK hP hD hS 18 0 mat_18 rfl hi2 dX9_joinAll_18 (fun H locs hP hD hS => ?_)
        replace hP := msetP_18 hP
        replace hD := msetD_18 hD
        refine lv_aload_n hx hb dX9_joinAll_19 rfl (lv_at hl 0 rfl) ?_
        refine mg_set hx hb hts hown hK hP dX9_joinAll_20 ?_
        refine lv_iload_n hx hb dX9_joinAll_23 rfl (lv_at hl 2 rfl) ?_
        refine lv_iconst (v := (-1)) hx hb dX9_joinAll_24 (by decide) ?_
        obtain ⟨hi3, hT⟩ := hT
        refine va_iast (f := S.2.1 20) hx hb hK hP hD hS 20 0 mat_20 rfl hi3 dX9_joinAll_25 (fun H locs hP hD hS => ?_)
        replace hP := msetP_20 hP
        replace hD := msetD_20 hD
        refine lv_iinc (v := x2 + 1) (lv' := [(2, .int (x2 + 1)), (0, .ref (ad 0)), (1, .int x1)]) hx hb dX9_joinAll_26 hl (k := 2) rfl rfl (by decide) rfl (fun ls hl => ?_)
        refine lv_goto (tgt := 7) hx hb dX9_joinAll_29 (by decide) ?_
        rw [hB7] at hT
        exact hT _ _ _ hP hD hS (lv_sub hl [1, 2, 0] rfl)
    · clear hP hD hS hl H locs ls
      intro S x1 x2 x3 hT
      unfold mT_joinAll_41 at hT
      rw [hB41]
      intro H locs ls hP hD hS hl
      refine lv_iload_n hx hb dX9_joinAll_41 rfl (lv_at hl 3 rfl) ?_
      refine lv_iload_n hx hb dX9_joinAll_42 rfl (lv_at hl 1 rfl) ?_
      refine lv_icmp_ge (tgt := 508) hx hb dX9_joinAll_43 (by decide) (fun c4 => ?_) (fun c4 => ?_)
      · replace hT := hT.1 c4
        exact hret _ _ _ _ _ hP hD hS hT dX9_joinAll_508
      · replace hT := hT.2 c4
        refine lv_aload_n hx hb dX9_joinAll_46 rfl (lv_at hl 0 rfl) ?_
        refine lv_iload_n hx hb dX9_joinAll_47 rfl (lv_at hl 3 rfl) ?_
        refine lv_aload_n hx hb dX9_joinAll_48 rfl (lv_at hl 0 rfl) ?_
        refine mg_at hx hb hts hown hK hP dX9_joinAll_49 ?_
        refine mcallV (n := 2) (rest := []) hT hx hb hml hown hts hK hA hP hD hS hl gg_180 hd_X9_unpack ⟨Nat.le_of_ble_eq_true rfl, Nat.le_of_ble_eq_true rfl⟩ rfl rfl (Nat.le_of_ble_eq_true rfl) dX9_joinAll_52 (Nat.zero_le _) (Nat.zero_le _) (fun S5 H locs hP hD hS hT => ?_)
        refine lv_aload_n hx hb dX9_joinAll_55 rfl (lv_at hl 0 rfl) ?_
        refine mg_order hx hb hts hown hK hP dX9_joinAll_56 ?_
        refine lv_iload_n hx hb dX9_joinAll_59 rfl (lv_at hl 3 rfl) ?_
        obtain ⟨hi6, hT⟩ := hT
        refine va_iald (f := S5.2.1 18) hx hb hK hP 18 0 mat_18 rfl hi6 dX9_joinAll_60 ?_
        refine lv_iconst (v := (-1)) hx hb dX9_joinAll_61 (by decide) ?_
        refine lv_icmp_ne (tgt := 502) hx hb dX9_joinAll_62 (by decide) (fun c7 => ?_) (fun c7 => ?_)
        · replace hT := hT.1 c7
          rw [hB502] at hT
          exact hT _ _ _ hP hD hS (lv_sub hl [0, 1, 2, 3] rfl)
        · replace hT := hT.2 c7
          refine lv_aload_n hx hb dX9_joinAll_65 rfl (lv_at hl 0 rfl) ?_
          refine lv_aload_n hx hb dX9_joinAll_66 rfl (lv_at hl 0 rfl) ?_
          refine mg_at hx hb hts hown hK hP dX9_joinAll_67 ?_
          refine mcallZ (n := 1) (rest := []) hT hx hb hml hown hts hK hA hP hD hS hl gg_166 hd_X9_isRight ⟨Nat.le_of_ble_eq_true rfl, Nat.le_of_ble_eq_true rfl⟩ rfl rfl (Nat.le_of_ble_eq_true rfl) dX9_joinAll_70 (Nat.zero_le _) (Nat.zero_le _) (fun b9 S8 H locs hP hD hS hT => ?_)
          refine lv_if_ne (tgt := 79) hx hb dX9_joinAll_73 (by decide) (fun c10 => ?_) (fun c10 => ?_)
          · replace hT := hT.1 c10
            refine lv_iconst (v := 0) hx hb dX9_joinAll_79 (by decide) ?_
            refine lv_istore (lv' := [(4, .int 0), (0, .ref (ad 0)), (1, .int x1), (2, .int x2), (3, .int x3)]) hx hb dX9_joinAll_80 hl (by decide) rfl (fun ls hl => ?_)
            refine lv_iconst (v := 0) hx hb dX9_joinAll_82 (by decide) ?_
            refine lv_istore (lv' := [(5, .int 0), (4, .int 0), (0, .ref (ad 0)), (1, .int x1), (2, .int x2), (3, .int x3)]) hx hb dX9_joinAll_83 hl (by decide) rfl (fun ls hl => ?_)
            refine lv_aload_n hx hb dX9_joinAll_85 rfl (lv_at hl 2 rfl) ?_
            refine mg_walk hx hb hts hown hK hP dX9_joinAll_86 ?_
            refine lv_iconst (v := 0) hx hb dX9_joinAll_89 (by decide) ?_
            refine lv_iload_n hx hb dX9_joinAll_90 rfl (lv_at hl 5 rfl) ?_
            obtain ⟨hi11, hT⟩ := hT
            refine va_iast (f := S8.2.1 21) hx hb hK hP hD hS 21 0 mat_21 rfl hi11 dX9_joinAll_91 (fun H locs hP hD hS => ?_)
            replace hP := msetP_21 hP
            replace hD := msetD_21 hD
            refine lv_aload_n hx hb dX9_joinAll_92 rfl (lv_at hl 2 rfl) ?_
            refine mg_move hx hb hts hown hK hP dX9_joinAll_93 ?_
            refine lv_iload_n hx hb dX9_joinAll_96 rfl (lv_at hl 5 rfl) ?_
            refine lv_iconst (v := 0) hx hb dX9_joinAll_97 (by decide) ?_
            obtain ⟨hi12, hT⟩ := hT
            refine va_iast (f := S8.2.1 23) hx hb hK hP hD hS 23 0 mat_23 rfl hi12 dX9_joinAll_98 (fun H locs hP hD hS => ?_)
            replace hP := msetP_23 hP
            replace hD := msetD_23 hD
            refine lv_aload_n hx hb dX9_joinAll_99 rfl (lv_at hl 2 rfl) ?_
            refine mg_order hx hb hts hown hK hP dX9_joinAll_100 ?_
            refine lv_iload_n hx hb dX9_joinAll_103 rfl (lv_at hl 5 rfl) ?_
            refine lv_iload_n hx hb dX9_joinAll_104 rfl (lv_at hl 4 rfl) ?_
            obtain ⟨hi13, hT⟩ := hT
            refine va_iast (f := S8.2.1 18) hx hb hK hP hD hS 18 0 mat_18 rfl hi13 dX9_joinAll_105 (fun H locs hP hD hS => ?_)
            replace hP := msetP_18 hP
            replace hD := msetD_18 hD
            refine lv_aload_n hx hb dX9_joinAll_106 rfl (lv_at hl 2 rfl) ?_
            refine mg_lowest hx hb hts hown hK hP dX9_joinAll_107 ?_
            refine lv_iload_n hx hb dX9_joinAll_110 rfl (lv_at hl 5 rfl) ?_
            refine lv_iload_n hx hb dX9_joinAll_111 rfl (lv_at hl 4 rfl) ?_
            obtain ⟨hi14, hT⟩ := hT
            refine va_iast (f := S8.2.1 19) hx hb hK hP hD hS 19 0 mat_19 rfl hi14 dX9_joinAll_112 (fun H locs hP hD hS => ?_)
            replace hP := msetP_19 hP
            replace hD := msetD_19 hD
            refine lv_iinc (v := x2 + 1) (lv' := [(2, .int (x2 + 1)), (5, .int 0), (4, .int 0), (0, .ref (ad 0)), (1, .int x1), (3, .int x3)]) hx hb dX9_joinAll_113 hl (k := 4) rfl rfl (by decide) rfl (fun ls hl => ?_)
            refine lv_aload_n hx hb dX9_joinAll_116 rfl (lv_at hl 3 rfl) ?_
            refine mg_pile hx hb hts hown hK hP dX9_joinAll_117 ?_
            refine lv_iconst (v := 0) hx hb dX9_joinAll_120 (by decide) ?_
            refine lv_iload_n hx hb dX9_joinAll_121 rfl (lv_at hl 5 rfl) ?_
            obtain ⟨hi15, hT⟩ := hT
            refine va_iast (f := S8.2.1 22) hx hb hK hP hD hS 22 0 mat_22 rfl hi15 dX9_joinAll_122 (fun H locs hP hD hS => ?_)
            replace hP := msetP_22 hP
            replace hD := msetD_22 hD
            refine lv_iconst (v := 1) hx hb dX9_joinAll_123 (by decide) ?_
            refine lv_istore (lv' := [(5, .int 1), (2, .int (x2 + 1)), (4, .int 0), (0, .ref (ad 0)), (1, .int x1), (3, .int x3)]) hx hb dX9_joinAll_124 hl (by decide) rfl (fun ls hl => ?_)
            refine lv_iconst (v := 1) hx hb dX9_joinAll_126 (by decide) ?_
            refine lv_istore (lv' := [(4, .int 1), (5, .int 1), (2, .int (x2 + 1)), (0, .ref (ad 0)), (1, .int x1), (3, .int x3)]) hx hb dX9_joinAll_127 hl (by decide) rfl (fun ls hl => ?_)
            rw [hB129] at hT
            exact hT _ _ _ hP hD hS (lv_sub hl [3, 4, 2, 5, 0, 1] rfl)
          · replace hT := hT.2 c10
            refine lv_goto (tgt := 502) hx hb dX9_joinAll_76 (by decide) ?_
            rw [hB502] at hT
            exact hT _ _ _ hP hD hS (lv_sub hl [0, 1, 2, 3] rfl)
    · clear hP hD hS hl H locs ls
      intro S x1 x2 x3 x4 x5 hT
      unfold mT_joinAll_129 at hT
      rw [hB129]
      intro H locs ls hP hD hS hl
      refine lv_iload hx hb dX9_joinAll_129 (lv_at hl 4 rfl) ?_
      refine lv_if_le (tgt := 502) hx hb dX9_joinAll_131 (by decide) (fun c16 => ?_) (fun c16 => ?_)
      · replace hT := hT.1 c16
        rw [hB502] at hT
        exact hT _ _ _ hP hD hS (lv_sub hl [0, 1, 2, 3] rfl)
      · replace hT := hT.2 c16
        refine lv_aload_n hx hb dX9_joinAll_134 rfl (lv_at hl 0 rfl) ?_
        refine mg_walk hx hb hts hown hK hP dX9_joinAll_135 ?_
        refine lv_iload hx hb dX9_joinAll_138 (lv_at hl 4 rfl) ?_
        refine lv_iconst (v := 1) hx hb dX9_joinAll_140 (by decide) ?_
        refine lv_isub hx hb dX9_joinAll_141 ?_
        obtain ⟨hi17, hT⟩ := hT
        refine va_iald (f := S.2.1 21) hx hb hK hP 21 0 mat_21 rfl hi17 dX9_joinAll_142 ?_
        refine lv_topi (fun v6_18 ev6_18 => ?_)
        replace hT := hT v6_18 ev6_18
        refine lv_istore (lv' := [(6, .int v6_18), (0, .ref (ad 0)), (1, .int x1), (2, .int x2), (3, .int x3), (4, .int x4), (5, .int x5)]) hx hb dX9_joinAll_143 hl (by decide) rfl (fun ls hl => ?_)
        refine lv_aload_n hx hb dX9_joinAll_145 rfl (lv_at hl 1 rfl) ?_
        refine mg_move hx hb hts hown hK hP dX9_joinAll_146 ?_
        refine lv_iload hx hb dX9_joinAll_149 (lv_at hl 0 rfl) ?_
        obtain ⟨hi19, hT⟩ := hT
        refine va_iald (f := S.2.1 23) hx hb hK hP 23 0 mat_23 rfl hi19 dX9_joinAll_151 ?_
        refine lv_bipush (v := 25) hx hb dX9_joinAll_152 (by decide) ?_
        refine lv_icmp_ge (tgt := 345) hx hb dX9_joinAll_154 (by decide) (fun c20 => ?_) (fun c20 => ?_)
        · replace hT := hT.1 c20
          refine lv_iinc (v := x4 + (-1)) (lv' := [(4, .int (x4 + (-1))), (6, .int v6_18), (0, .ref (ad 0)), (1, .int x1), (2, .int x2), (3, .int x3), (5, .int x5)]) hx hb dX9_joinAll_345 hl (k := 5) rfl rfl (by decide) rfl (fun ls hl => ?_)
          refine lv_iload hx hb dX9_joinAll_348 (lv_at hl 0 rfl) ?_
          refine lv_if_le (tgt := 398) hx hb dX9_joinAll_350 (by decide) (fun c21 => ?_) (fun c21 => ?_)
          · replace hT := hT.1 c21
            rw [hB398] at hT
            exact hT _ _ _ hP hD hS (lv_sub hl [2, 3, 4, 5, 0, 6, 1] rfl)
          · replace hT := hT.2 c21
            refine lv_aload_n hx hb dX9_joinAll_353 rfl (lv_at hl 2 rfl) ?_
            refine mg_lowest hx hb hts hown hK hP dX9_joinAll_354 ?_
            refine lv_iload hx hb dX9_joinAll_357 (lv_at hl 1 rfl) ?_
            obtain ⟨hi22, hT⟩ := hT
            refine va_iald (f := S.2.1 19) hx hb hK hP 19 0 mat_19 rfl hi22 dX9_joinAll_359 ?_
            refine lv_aload_n hx hb dX9_joinAll_360 rfl (lv_at hl 2 rfl) ?_
            refine mg_lowest hx hb hts hown hK hP dX9_joinAll_361 ?_
            refine lv_aload_n hx hb dX9_joinAll_364 rfl (lv_at hl 2 rfl) ?_
            refine mg_walk hx hb hts hown hK hP dX9_joinAll_365 ?_
            refine lv_iload hx hb dX9_joinAll_368 (lv_at hl 0 rfl) ?_
            refine lv_iconst (v := 1) hx hb dX9_joinAll_370 (by decide) ?_
            refine lv_isub hx hb dX9_joinAll_371 ?_
            obtain ⟨hi23, hT⟩ := hT
            refine va_iald (f := S.2.1 21) hx hb hK hP 21 0 mat_21 rfl hi23 dX9_joinAll_372 ?_
            obtain ⟨hi24, hT⟩ := hT
            refine va_iald (f := S.2.1 19) hx hb hK hP 19 0 mat_19 rfl hi24 dX9_joinAll_373 ?_
            refine lv_icmp_ge (tgt := 398) hx hb dX9_joinAll_374 (by decide) (fun c25 => ?_) (fun c25 => ?_)
            · replace hT := hT.1 c25
              rw [hB398] at hT
              exact hT _ _ _ hP hD hS (lv_sub hl [2, 3, 4, 5, 0, 6, 1] rfl)
            · replace hT := hT.2 c25
              refine lv_aload_n hx hb dX9_joinAll_377 rfl (lv_at hl 2 rfl) ?_
              refine mg_lowest hx hb hts hown hK hP dX9_joinAll_378 ?_
              refine lv_aload_n hx hb dX9_joinAll_381 rfl (lv_at hl 2 rfl) ?_
              refine mg_walk hx hb hts hown hK hP dX9_joinAll_382 ?_
              refine lv_iload hx hb dX9_joinAll_385 (lv_at hl 0 rfl) ?_
              refine lv_iconst (v := 1) hx hb dX9_joinAll_387 (by decide) ?_
              refine lv_isub hx hb dX9_joinAll_388 ?_
              obtain ⟨hi26, hT⟩ := hT
              refine va_iald (f := S.2.1 21) hx hb hK hP 21 0 mat_21 rfl hi26 dX9_joinAll_389 ?_
              refine lv_aload_n hx hb dX9_joinAll_390 rfl (lv_at hl 2 rfl) ?_
              refine mg_lowest hx hb hts hown hK hP dX9_joinAll_391 ?_
              refine lv_iload hx hb dX9_joinAll_394 (lv_at hl 1 rfl) ?_
              obtain ⟨hi27, hT⟩ := hT
              refine va_iald (f := S.2.1 19) hx hb hK hP 19 0 mat_19 rfl hi27 dX9_joinAll_396 ?_
              obtain ⟨hi28, hT⟩ := hT
              refine va_iast (f := S.2.1 19) hx hb hK hP hD hS 19 0 mat_19 rfl hi28 dX9_joinAll_397 (fun H locs hP hD hS => ?_)
              replace hP := msetP_19 hP
              replace hD := msetD_19 hD
              rw [hB398] at hT
              exact hT _ _ _ hP hD hS (lv_sub hl [2, 3, 4, 5, 0, 6, 1] rfl)
        · replace hT := hT.2 c20
          refine lv_aload_n hx hb dX9_joinAll_157 rfl (lv_at hl 1 rfl) ?_
          refine mg_move hx hb hts hown hK hP dX9_joinAll_158 ?_
          refine lv_iload hx hb dX9_joinAll_161 (lv_at hl 0 rfl) ?_
          obtain ⟨hi29, hT⟩ := hT
          refine va_iald (f := S.2.1 23) hx hb hK hP 23 0 mat_23 rfl hi29 dX9_joinAll_163 ?_
          refine lv_topi (fun v7_30 ev7_30 => ?_)
          replace hT := hT v7_30 ev7_30
          refine lv_istore (lv' := [(7, .int v7_30), (6, .int v6_18), (0, .ref (ad 0)), (1, .int x1), (2, .int x2), (3, .int x3), (4, .int x4), (5, .int x5)]) hx hb dX9_joinAll_164 hl (by decide) rfl (fun ls hl => ?_)
          refine lv_aload_n hx hb dX9_joinAll_166 rfl (lv_at hl 2 rfl) ?_
          refine mg_move hx hb hts hown hK hP dX9_joinAll_167 ?_
          refine lv_iload hx hb dX9_joinAll_170 (lv_at hl 1 rfl) ?_
          refine lv_dup2_11 hx hb dX9_joinAll_172 rfl rfl ?_
          obtain ⟨hi31, hT⟩ := hT
          refine va_iald (f := S.2.1 23) hx hb hK hP 23 0 mat_23 rfl hi31 dX9_joinAll_173 ?_
          refine lv_iconst (v := 1) hx hb dX9_joinAll_174 (by decide) ?_
          refine lv_iadd hx hb dX9_joinAll_175 ?_
          obtain ⟨hi32, hT⟩ := hT
          refine va_iast (f := S.2.1 23) hx hb hK hP hD hS 23 0 mat_23 rfl hi32 dX9_joinAll_176 (fun H locs hP hD hS => ?_)
          replace hP := msetP_23 hP
          replace hD := msetD_23 hD
          refine lv_iload hx hb dX9_joinAll_177 (lv_at hl 0 rfl) ?_
          refine lv_iconst (v := 5) hx hb dX9_joinAll_179 (by decide) ?_
          refine lv_idiv hx hb dX9_joinAll_180 (by decide) ?_
          refine lv_aload_n hx hb dX9_joinAll_181 rfl (lv_at hl 2 rfl) ?_
          refine mg_pegs (v := S.1 0) hx hb hts hown hK hP rfl dX9_joinAll_182 ?_
          refine lv_icmp_ge (tgt := 129) hx hb dX9_joinAll_185 (by decide) (fun c33 => ?_) (fun c33 => ?_)
          · replace hT := hT.1 c33
            rw [hB129] at hT
            exact hT _ _ _ hP hD hS (lv_sub hl [2, 3, 4, 5, 6, 7] rfl)
          · replace hT := hT.2 c33
            refine lv_iload hx hb dX9_joinAll_188 (lv_at hl 0 rfl) ?_
            refine lv_iconst (v := 5) hx hb dX9_joinAll_190 (by decide) ?_
            refine lv_irem hx hb dX9_joinAll_191 (by decide) ?_
            refine lv_aload_n hx hb dX9_joinAll_192 rfl (lv_at hl 2 rfl) ?_
            refine mg_pegs (v := S.1 0) hx hb hts hown hK hP rfl dX9_joinAll_193 ?_
            refine lv_icmp_lt (tgt := 202) hx hb dX9_joinAll_196 (by decide) (fun c34 => ?_) (fun c34 => ?_)
            · replace hT := hT.1 c34
              refine lv_aload_n hx hb dX9_joinAll_202 rfl (lv_at hl 2 rfl) ?_
              refine lv_iload hx hb dX9_joinAll_203 (lv_at hl 1 rfl) ?_
              refine lv_aload_n hx hb dX9_joinAll_205 rfl (lv_at hl 2 rfl) ?_
              refine mg_at hx hb hts hown hK hP dX9_joinAll_206 ?_
              refine mcallV (n := 2) (rest := []) hT hx hb hml hown hts hK hA hP hD hS hl gg_180 hd_X9_unpack ⟨Nat.le_of_ble_eq_true rfl, Nat.le_of_ble_eq_true rfl⟩ rfl rfl (Nat.le_of_ble_eq_true rfl) dX9_joinAll_209 (Nat.zero_le _) (Nat.zero_le _) (fun S35 H locs hP hD hS hT => ?_)
              refine lv_aload_n hx hb dX9_joinAll_212 rfl (lv_at hl 2 rfl) ?_
              refine lv_iload hx hb dX9_joinAll_213 (lv_at hl 0 rfl) ?_
              refine lv_iconst (v := 5) hx hb dX9_joinAll_215 (by decide) ?_
              refine lv_idiv hx hb dX9_joinAll_216 (by decide) ?_
              refine lv_iload hx hb dX9_joinAll_217 (lv_at hl 0 rfl) ?_
              refine lv_iconst (v := 5) hx hb dX9_joinAll_219 (by decide) ?_
              refine lv_irem hx hb dX9_joinAll_220 (by decide) ?_
              refine mcallI (n := 2) (rest := []) hT hx hb hml hown hts hK hA hP hD hS hl gg_211 hd_X9_leads ⟨Nat.le_of_ble_eq_true rfl, Nat.le_of_ble_eq_true rfl⟩ rfl rfl (Nat.le_of_ble_eq_true rfl) dX9_joinAll_221 (Nat.zero_le _) (Nat.zero_le _) (fun r37 S36 H locs hP hD hS hT => ?_)
              refine lv_istore (lv' := [(8, .int r37), (7, .int v7_30), (6, .int v6_18), (0, .ref (ad 0)), (1, .int x1), (2, .int x2), (3, .int x3), (4, .int x4), (5, .int x5)]) hx hb dX9_joinAll_224 hl (by decide) rfl (fun ls hl => ?_)
              refine lv_iload hx hb dX9_joinAll_226 (lv_at hl 0 rfl) ?_
              refine lv_iconst (v := (-1)) hx hb dX9_joinAll_228 (by decide) ?_
              refine lv_icmp_ne (tgt := 235) hx hb dX9_joinAll_229 (by decide) (fun c38 => ?_) (fun c38 => ?_)
              · replace hT := hT.1 c38
                refine lv_aload_n hx hb dX9_joinAll_235 rfl (lv_at hl 3 rfl) ?_
                refine mg_order hx hb hts hown hK hP dX9_joinAll_236 ?_
                refine lv_iload hx hb dX9_joinAll_239 (lv_at hl 0 rfl) ?_
                obtain ⟨hi39, hT⟩ := hT
                refine va_iald (f := S36.2.1 18) hx hb hK hP 18 0 mat_18 rfl hi39 dX9_joinAll_241 ?_
                refine lv_iconst (v := (-1)) hx hb dX9_joinAll_242 (by decide) ?_
                refine lv_icmp_ne (tgt := 300) hx hb dX9_joinAll_243 (by decide) (fun c40 => ?_) (fun c40 => ?_)
                · replace hT := hT.1 c40
                  refine lv_aload_n hx hb dX9_joinAll_300 rfl (lv_at hl 3 rfl) ?_
                  refine mg_set hx hb hts hown hK hP dX9_joinAll_301 ?_
                  refine lv_iload hx hb dX9_joinAll_304 (lv_at hl 0 rfl) ?_
                  obtain ⟨hi41, hT⟩ := hT
                  refine va_iald (f := S36.2.1 20) hx hb hK hP 20 0 mat_20 rfl hi41 dX9_joinAll_306 ?_
                  refine lv_iconst (v := (-1)) hx hb dX9_joinAll_307 (by decide) ?_
                  refine lv_icmp_ne (tgt := 129) hx hb dX9_joinAll_308 (by decide) (fun c42 => ?_) (fun c42 => ?_)
                  · replace hT := hT.1 c42
                    rw [hB129] at hT
                    exact hT _ _ _ hP hD hS (lv_sub hl [3, 4, 5, 6, 7, 8] rfl)
                  · replace hT := hT.2 c42
                    refine lv_aload_n hx hb dX9_joinAll_311 rfl (lv_at hl 3 rfl) ?_
                    refine mg_order hx hb hts hown hK hP dX9_joinAll_312 ?_
                    refine lv_iload hx hb dX9_joinAll_315 (lv_at hl 0 rfl) ?_
                    obtain ⟨hi43, hT⟩ := hT
                    refine va_iald (f := S36.2.1 18) hx hb hK hP 18 0 mat_18 rfl hi43 dX9_joinAll_317 ?_
                    refine lv_aload_n hx hb dX9_joinAll_318 rfl (lv_at hl 3 rfl) ?_
                    refine mg_lowest hx hb hts hown hK hP dX9_joinAll_319 ?_
                    refine lv_iload hx hb dX9_joinAll_322 (lv_at hl 2 rfl) ?_
                    obtain ⟨hi44, hT⟩ := hT
                    refine va_iald (f := S36.2.1 19) hx hb hK hP 19 0 mat_19 rfl hi44 dX9_joinAll_324 ?_
                    refine lv_icmp_ge (tgt := 129) hx hb dX9_joinAll_325 (by decide) (fun c45 => ?_) (fun c45 => ?_)
                    · replace hT := hT.1 c45
                      rw [hB129] at hT
                      exact hT _ _ _ hP hD hS (lv_sub hl [3, 4, 5, 6, 7, 8] rfl)
                    · replace hT := hT.2 c45
                      refine lv_aload_n hx hb dX9_joinAll_328 rfl (lv_at hl 3 rfl) ?_
                      refine mg_lowest hx hb hts hown hK hP dX9_joinAll_329 ?_
                      refine lv_iload hx hb dX9_joinAll_332 (lv_at hl 2 rfl) ?_
                      refine lv_aload_n hx hb dX9_joinAll_334 rfl (lv_at hl 3 rfl) ?_
                      refine mg_order hx hb hts hown hK hP dX9_joinAll_335 ?_
                      refine lv_iload hx hb dX9_joinAll_338 (lv_at hl 0 rfl) ?_
                      obtain ⟨hi46, hT⟩ := hT
                      refine va_iald (f := S36.2.1 18) hx hb hK hP 18 0 mat_18 rfl hi46 dX9_joinAll_340 ?_
                      obtain ⟨hi47, hT⟩ := hT
                      refine va_iast (f := S36.2.1 19) hx hb hK hP hD hS 19 0 mat_19 rfl hi47 dX9_joinAll_341 (fun H locs hP hD hS => ?_)
                      replace hP := msetP_19 hP
                      replace hD := msetD_19 hD
                      refine lv_goto (tgt := 129) hx hb dX9_joinAll_342 (by decide) ?_
                      rw [hB129] at hT
                      exact hT _ _ _ hP hD hS (lv_sub hl [3, 4, 5, 6, 7, 8] rfl)
                · replace hT := hT.2 c40
                  refine lv_aload_n hx hb dX9_joinAll_246 rfl (lv_at hl 3 rfl) ?_
                  refine mg_order hx hb hts hown hK hP dX9_joinAll_247 ?_
                  refine lv_iload hx hb dX9_joinAll_250 (lv_at hl 0 rfl) ?_
                  refine lv_iload_n hx hb dX9_joinAll_252 rfl (lv_at hl 5 rfl) ?_
                  obtain ⟨hi48, hT⟩ := hT
                  refine va_iast (f := S36.2.1 18) hx hb hK hP hD hS 18 0 mat_18 rfl hi48 dX9_joinAll_253 (fun H locs hP hD hS => ?_)
                  replace hP := msetP_18 hP
                  replace hD := msetD_18 hD
                  refine lv_aload_n hx hb dX9_joinAll_254 rfl (lv_at hl 3 rfl) ?_
                  refine mg_lowest hx hb hts hown hK hP dX9_joinAll_255 ?_
                  refine lv_iload hx hb dX9_joinAll_258 (lv_at hl 0 rfl) ?_
                  refine lv_iload_n hx hb dX9_joinAll_260 rfl (lv_at hl 5 rfl) ?_
                  obtain ⟨hi49, hT⟩ := hT
                  refine va_iast (f := S36.2.1 19) hx hb hK hP hD hS 19 0 mat_19 rfl hi49 dX9_joinAll_261 (fun H locs hP hD hS => ?_)
                  replace hP := msetP_19 hP
                  replace hD := msetD_19 hD
                  refine lv_iinc (v := x2 + 1) (lv' := [(2, .int (x2 + 1)), (8, .int r37), (7, .int v7_30), (6, .int v6_18), (0, .ref (ad 0)), (1, .int x1), (3, .int x3), (4, .int x4), (5, .int x5)]) hx hb dX9_joinAll_262 hl (k := 5) rfl rfl (by decide) rfl (fun ls hl => ?_)
                  refine lv_aload_n hx hb dX9_joinAll_265 rfl (lv_at hl 4 rfl) ?_
                  refine mg_move hx hb hts hown hK hP dX9_joinAll_266 ?_
                  refine lv_iload hx hb dX9_joinAll_269 (lv_at hl 1 rfl) ?_
                  refine lv_iconst (v := 0) hx hb dX9_joinAll_271 (by decide) ?_
                  obtain ⟨hi50, hT⟩ := hT
                  refine va_iast (f := S36.2.1 23) hx hb hK hP hD hS 23 0 mat_23 rfl hi50 dX9_joinAll_272 (fun H locs hP hD hS => ?_)
                  replace hP := msetP_23 hP
                  replace hD := msetD_23 hD
                  refine lv_aload_n hx hb dX9_joinAll_273 rfl (lv_at hl 4 rfl) ?_
                  refine mg_pile hx hb hts hown hK hP dX9_joinAll_274 ?_
                  refine lv_iload hx hb dX9_joinAll_277 (lv_at hl 8 rfl) ?_
                  refine lv_iload hx hb dX9_joinAll_279 (lv_at hl 1 rfl) ?_
                  obtain ⟨hi51, hT⟩ := hT
                  refine va_iast (f := S36.2.1 22) hx hb hK hP hD hS 22 0 mat_22 rfl hi51 dX9_joinAll_281 (fun H locs hP hD hS => ?_)
                  replace hP := msetP_22 hP
                  replace hD := msetD_22 hD
                  refine lv_iinc (v := x5 + 1) (lv' := [(5, .int (x5 + 1)), (2, .int (x2 + 1)), (8, .int r37), (7, .int v7_30), (6, .int v6_18), (0, .ref (ad 0)), (1, .int x1), (3, .int x3), (4, .int x4)]) hx hb dX9_joinAll_282 hl (k := 8) rfl rfl (by decide) rfl (fun ls hl => ?_)
                  refine lv_aload_n hx hb dX9_joinAll_285 rfl (lv_at hl 5 rfl) ?_
                  refine mg_walk hx hb hts hown hK hP dX9_joinAll_286 ?_
                  refine lv_iload hx hb dX9_joinAll_289 (lv_at hl 8 rfl) ?_
                  refine lv_iload hx hb dX9_joinAll_291 (lv_at hl 2 rfl) ?_
                  obtain ⟨hi52, hT⟩ := hT
                  refine va_iast (f := S36.2.1 21) hx hb hK hP hD hS 21 0 mat_21 rfl hi52 dX9_joinAll_293 (fun H locs hP hD hS => ?_)
                  replace hP := msetP_21 hP
                  replace hD := msetD_21 hD
                  refine lv_iinc (v := x4 + 1) (lv' := [(4, .int (x4 + 1)), (5, .int (x5 + 1)), (2, .int (x2 + 1)), (8, .int r37), (7, .int v7_30), (6, .int v6_18), (0, .ref (ad 0)), (1, .int x1), (3, .int x3)]) hx hb dX9_joinAll_294 hl (k := 8) rfl rfl (by decide) rfl (fun ls hl => ?_)
                  refine lv_goto (tgt := 129) hx hb dX9_joinAll_297 (by decide) ?_
                  rw [hB129] at hT
                  exact hT _ _ _ hP hD hS (lv_sub hl [6, 7, 2, 8, 0, 1] rfl)
              · replace hT := hT.2 c38
                refine lv_goto (tgt := 129) hx hb dX9_joinAll_232 (by decide) ?_
                rw [hB129] at hT
                exact hT _ _ _ hP hD hS (lv_sub hl [3, 4, 5, 6, 7, 8] rfl)
            · replace hT := hT.2 c34
              refine lv_goto (tgt := 129) hx hb dX9_joinAll_199 (by decide) ?_
              rw [hB129] at hT
              exact hT _ _ _ hP hD hS (lv_sub hl [2, 3, 4, 5, 6, 7] rfl)
    · clear hP hD hS hl H locs ls
      intro S x1 x2 x3 x4 x5 x6 hT
      unfold mT_joinAll_398 at hT
      rw [hB398]
      intro H locs ls hP hD hS hl
      refine lv_aload_n hx hb dX9_joinAll_398 rfl (lv_at hl 0 rfl) ?_
      refine mg_lowest hx hb hts hown hK hP dX9_joinAll_399 ?_
      refine lv_iload hx hb dX9_joinAll_402 (lv_at hl 6 rfl) ?_
      obtain ⟨hi53, hT⟩ := hT
      refine va_iald (f := S.2.1 19) hx hb hK hP 19 0 mat_19 rfl hi53 dX9_joinAll_404 ?_
      refine lv_aload_n hx hb dX9_joinAll_405 rfl (lv_at hl 0 rfl) ?_
      refine mg_order hx hb hts hown hK hP dX9_joinAll_406 ?_
      refine lv_iload hx hb dX9_joinAll_409 (lv_at hl 6 rfl) ?_
      obtain ⟨hi54, hT⟩ := hT
      refine va_iald (f := S.2.1 18) hx hb hK hP 18 0 mat_18 rfl hi54 dX9_joinAll_411 ?_
      refine lv_icmp_eq (tgt := 418) hx hb dX9_joinAll_412 (by decide) (fun c55 => ?_) (fun c55 => ?_)
      · replace hT := hT.1 c55
        refine lv_aload_n hx hb dX9_joinAll_418 rfl (lv_at hl 0 rfl) ?_
        refine mg_setSize hx hb hts hown hK hP dX9_joinAll_419 ?_
        refine lv_aload_n hx hb dX9_joinAll_422 rfl (lv_at hl 0 rfl) ?_
        refine mg_sets (v := S.1 8) hx hb hts hown hK hP rfl dX9_joinAll_423 ?_
        refine lv_iconst (v := 0) hx hb dX9_joinAll_426 (by decide) ?_
        obtain ⟨hi56, hT⟩ := hT
        refine va_iast (f := S.2.1 24) hx hb hK hP hD hS 24 0 mat_24 rfl hi56 dX9_joinAll_427 (fun H locs hP hD hS => ?_)
        replace hP := msetP_24 hP
        replace hD := msetD_24 hD
        refine lv_iconst (v := 1) hx hb dX9_joinAll_428 (by decide) ?_
        refine lv_istore (lv' := [(7, .int 1), (0, .ref (ad 0)), (1, .int x1), (2, .int x2), (3, .int x3), (4, .int x4), (5, .int x5), (6, .int x6)]) hx hb dX9_joinAll_429 hl (by decide) rfl (fun ls hl => ?_)
        rw [hB431] at hT
        exact hT _ _ _ hP hD hS (lv_sub hl [1, 2, 3, 4, 5, 6, 7, 0] rfl)
      · replace hT := hT.2 c55
        refine lv_goto (tgt := 129) hx hb dX9_joinAll_415 (by decide) ?_
        rw [hB129] at hT
        exact hT _ _ _ hP hD hS (lv_sub hl [0, 1, 2, 3, 4, 5] rfl)
    · clear hP hD hS hl H locs ls
      intro S x1 x2 x3 x4 x5 x6 x7 hT
      unfold mT_joinAll_431 at hT
      rw [hB431]
      intro H locs ls hP hD hS hl
      refine lv_iload hx hb dX9_joinAll_431 (lv_at hl 7 rfl) ?_
      refine lv_if_eq (tgt := 489) hx hb dX9_joinAll_433 (by decide) (fun c57 => ?_) (fun c57 => ?_)
      · replace hT := hT.1 c57
        refine lv_aload_n hx hb dX9_joinAll_489 rfl (lv_at hl 0 rfl) ?_
        refine lv_dup hx hb dX9_joinAll_490 rfl ?_
        refine mg_sets (v := S.1 8) hx hb hts hown hK hP rfl dX9_joinAll_491 ?_
        refine lv_iconst (v := 1) hx hb dX9_joinAll_494 (by decide) ?_
        refine lv_iadd hx hb dX9_joinAll_495 ?_
        refine mp_sets hx hb hts hown hK hP hD hS dX9_joinAll_496 (fun H locs hP hD hS => ?_)
        refine lv_goto (tgt := 129) hx hb dX9_joinAll_499 (by decide) ?_
        rw [hB129] at hT
        exact hT _ _ _ hP hD hS (lv_sub hl [0, 1, 2, 3, 4, 5] rfl)
      · replace hT := hT.2 c57
        refine lv_iinc (v := x5 + (-1)) (lv' := [(5, .int (x5 + (-1))), (0, .ref (ad 0)), (1, .int x1), (2, .int x2), (3, .int x3), (4, .int x4), (6, .int x6), (7, .int x7)]) hx hb dX9_joinAll_436 hl (k := 5) rfl rfl (by decide) rfl (fun ls hl => ?_)
        refine lv_aload_n hx hb dX9_joinAll_439 rfl (lv_at hl 1 rfl) ?_
        refine mg_pile hx hb hts hown hK hP dX9_joinAll_440 ?_
        refine lv_iload hx hb dX9_joinAll_443 (lv_at hl 0 rfl) ?_
        obtain ⟨hi58, hT⟩ := hT
        refine va_iald (f := S.2.1 22) hx hb hK hP 22 0 mat_22 rfl hi58 dX9_joinAll_445 ?_
        refine lv_topi (fun v8_59 ev8_59 => ?_)
        replace hT := hT v8_59 ev8_59
        refine lv_istore (lv' := [(8, .int v8_59), (5, .int (x5 + (-1))), (0, .ref (ad 0)), (1, .int x1), (2, .int x2), (3, .int x3), (4, .int x4), (6, .int x6), (7, .int x7)]) hx hb dX9_joinAll_446 hl (by decide) rfl (fun ls hl => ?_)
        refine lv_aload_n hx hb dX9_joinAll_448 rfl (lv_at hl 2 rfl) ?_
        refine mg_set hx hb hts hown hK hP dX9_joinAll_449 ?_
        refine lv_iload hx hb dX9_joinAll_452 (lv_at hl 0 rfl) ?_
        refine lv_aload_n hx hb dX9_joinAll_454 rfl (lv_at hl 2 rfl) ?_
        refine mg_sets (v := S.1 8) hx hb hts hown hK hP rfl dX9_joinAll_455 ?_
        obtain ⟨hi60, hT⟩ := hT
        refine va_iast (f := S.2.1 20) hx hb hK hP hD hS 20 0 mat_20 rfl hi60 dX9_joinAll_458 (fun H locs hP hD hS => ?_)
        replace hP := msetP_20 hP
        replace hD := msetD_20 hD
        refine lv_aload_n hx hb dX9_joinAll_459 rfl (lv_at hl 2 rfl) ?_
        refine mg_setSize hx hb hts hown hK hP dX9_joinAll_460 ?_
        refine lv_aload_n hx hb dX9_joinAll_463 rfl (lv_at hl 2 rfl) ?_
        refine mg_sets (v := S.1 8) hx hb hts hown hK hP rfl dX9_joinAll_464 ?_
        refine lv_dup2_11 hx hb dX9_joinAll_467 rfl rfl ?_
        obtain ⟨hi61, hT⟩ := hT
        refine va_iald (f := S.2.1 24) hx hb hK hP 24 0 mat_24 rfl hi61 dX9_joinAll_468 ?_
        refine lv_iconst (v := 1) hx hb dX9_joinAll_469 (by decide) ?_
        refine lv_iadd hx hb dX9_joinAll_470 ?_
        obtain ⟨hi62, hT⟩ := hT
        refine va_iast (f := S.2.1 24) hx hb hK hP hD hS 24 0 mat_24 rfl hi62 dX9_joinAll_471 (fun H locs hP hD hS => ?_)
        replace hP := msetP_24 hP
        replace hD := msetD_24 hD
        refine lv_iload hx hb dX9_joinAll_472 (lv_at hl 0 rfl) ?_
        refine lv_iload hx hb dX9_joinAll_474 (lv_at hl 7 rfl) ?_
        refine lv_icmp_eq (tgt := 483) hx hb dX9_joinAll_476 (by decide) (fun c63 => ?_) (fun c63 => ?_)
        · replace hT := hT.1 c63
          refine lv_iconst (v := 0) hx hb dX9_joinAll_483 (by decide) ?_
          refine lv_istore (lv' := [(7, .int 0), (8, .int v8_59), (5, .int (x5 + (-1))), (0, .ref (ad 0)), (1, .int x1), (2, .int x2), (3, .int x3), (4, .int x4), (6, .int x6)]) hx hb dX9_joinAll_484 hl (by decide) rfl (fun ls hl => ?_)
          refine lv_goto (tgt := 431) hx hb dX9_joinAll_486 (by decide) ?_
          rw [hB431] at hT
          exact hT _ _ _ hP hD hS (lv_sub hl [3, 4, 5, 6, 7, 2, 8, 0] rfl)
        · replace hT := hT.2 c63
          refine lv_iconst (v := 1) hx hb dX9_joinAll_479 (by decide) ?_
          refine lv_goto (tgt := 484) hx hb dX9_joinAll_480 (by decide) ?_
          refine lv_istore (lv' := [(7, .int 1), (8, .int v8_59), (5, .int (x5 + (-1))), (0, .ref (ad 0)), (1, .int x1), (2, .int x2), (3, .int x3), (4, .int x4), (6, .int x6)]) hx hb dX9_joinAll_484 hl (by decide) rfl (fun ls hl => ?_)
          refine lv_goto (tgt := 431) hx hb dX9_joinAll_486 (by decide) ?_
          rw [hB431] at hT
          exact hT _ _ _ hP hD hS (lv_sub hl [3, 4, 5, 6, 7, 2, 8, 0] rfl)
    · clear hP hD hS hl H locs ls
      intro S x1 x2 x3 hT
      unfold mT_joinAll_502 at hT
      rw [hB502]
      intro H locs ls hP hD hS hl
      refine lv_iinc (v := x3 + 1) (lv' := [(3, .int (x3 + 1)), (0, .ref (ad 0)), (1, .int x1), (2, .int x2)]) hx hb dX9_joinAll_502 hl (k := 3) rfl rfl (by decide) rfl (fun ls hl => ?_)
      refine lv_goto (tgt := 41) hx hb dX9_joinAll_505 (by decide) ?_
      rw [hB41] at hT
      exact hT _ _ _ hP hD hS (lv_sub hl [1, 2, 3, 0] rfl)
  unfold mT_joinAll_e at hT
  refine lv_aload_n hx hb dX9_joinAll_0 rfl (lv_at hl 0 rfl) ?_
  refine mcallI (n := 0) (rest := []) hT hx hb hml hown hts hK hA hP hD hS hl gg_177 hd_X9_stands ⟨Nat.le_of_ble_eq_true rfl, Nat.le_of_ble_eq_true rfl⟩ rfl rfl (Nat.le_of_ble_eq_true rfl) dX9_joinAll_1 (Nat.zero_le _) (Nat.zero_le _) (fun r65 S64 H locs hP hD hS hT => ?_)
  refine lv_istore_n (lv' := [(1, .int r65), (0, .ref (ad 0))]) hx hb dX9_joinAll_4 rfl hl (by decide) rfl (fun ls hl => ?_)
  refine lv_iconst (v := 0) hx hb dX9_joinAll_5 (by decide) ?_
  refine lv_istore_n (lv' := [(2, .int 0), (1, .int r65), (0, .ref (ad 0))]) hx hb dX9_joinAll_6 rfl hl (by decide) rfl (fun ls hl => ?_)
  rw [hB7] at hT
  exact hT _ _ _ hP hD hS (lv_sub hl [2, 1, 0] rfl)
end
section
abbrev mX_joined (l : Launch) (S : MS) (a1 : Int32) (post : Int32 → MS → Prop) : Prop := mCtI l yX9_joined cX9_joined 8 4 100 (fun ad => [.int a1]) S post
def mT_joined_80 (l : Launch) (a1 : Int32) (post : Int32 → MS → Prop) (B80 : MS → Int32 → Int32 → Prop) (B137 : MS → Int32 → Int32 → Prop) (B170 : MS → Int32 → Int32 → Int32 → Prop) (B182 : MS → Int32 → Int32 → Int32 → Int32 → Prop) (B237 : MS → Int32 → Int32 → Int32 → Int32 → Prop) (B249 : MS → Int32 → Int32 → Prop) (B261 : MS → Int32 → Int32 → Prop) (S : MS) (x2 : Int32) (x3 : Int32) : Prop := (S.1 8 ≤ x3 → (¬ a1 = 3 → mX_stands l S (fun r4 S3 => B137 S3 r4 0)) ∧ (a1 = 3 → post x2 S)) ∧ (¬ S.1 8 ≤ x3 → vp_in x3 20000 ∧ (S.2.1 24 x3.toNatClampNeg ≤ x2 → vp_in x3 20000 ∧ B80 (ma S 25 (upd (S.2.1 25) x3.toNatClampNeg (vp_nar .boolean 0))) x2 (x3 + 1)) ∧ (¬ S.2.1 24 x3.toNatClampNeg ≤ x2 → vp_in x3 20000 ∧ ∀ v2_9 : Int32, v2_9 = S.2.1 24 x3.toNatClampNeg → vp_in x3 20000 ∧ B80 (ma S 25 (upd (S.2.1 25) x3.toNatClampNeg (vp_nar .boolean 0))) v2_9 (x3 + 1)))
def mT_joined_137 (l : Launch) (a1 : Int32) (post : Int32 → MS → Prop) (B80 : MS → Int32 → Int32 → Prop) (B137 : MS → Int32 → Int32 → Prop) (B170 : MS → Int32 → Int32 → Int32 → Prop) (B182 : MS → Int32 → Int32 → Int32 → Int32 → Prop) (B237 : MS → Int32 → Int32 → Int32 → Int32 → Prop) (B249 : MS → Int32 → Int32 → Prop) (B261 : MS → Int32 → Int32 → Prop) (S : MS) (x3 : Int32) (x4 : Int32) : Prop := (x3 ≤ x4 → B261 S 0 0) ∧ (¬ x3 ≤ x4 → vp_in x4 20000 ∧ (¬ S.2.1 20 x4.toNatClampNeg = (-1) → mX_unpack l S x4 8 (fun S14 => B170 S14 x3 x4 0)) ∧ (S.2.1 20 x4.toNatClampNeg = (-1) → B249 S x3 x4))
def mT_joined_170 (l : Launch) (a1 : Int32) (post : Int32 → MS → Prop) (B80 : MS → Int32 → Int32 → Prop) (B137 : MS → Int32 → Int32 → Prop) (B170 : MS → Int32 → Int32 → Int32 → Prop) (B182 : MS → Int32 → Int32 → Int32 → Int32 → Prop) (B237 : MS → Int32 → Int32 → Int32 → Int32 → Prop) (B249 : MS → Int32 → Int32 → Prop) (B261 : MS → Int32 → Int32 → Prop) (S : MS) (x3 : Int32) (x4 : Int32) (x5 : Int32) : Prop := (S.1 0 ≤ x5 → B249 S x3 x4) ∧ (¬ S.1 0 ≤ x5 → B182 S x3 x4 x5 0)
def mT_joined_182 (l : Launch) (a1 : Int32) (post : Int32 → MS → Prop) (B80 : MS → Int32 → Int32 → Prop) (B137 : MS → Int32 → Int32 → Prop) (B170 : MS → Int32 → Int32 → Int32 → Prop) (B182 : MS → Int32 → Int32 → Int32 → Int32 → Prop) (B237 : MS → Int32 → Int32 → Int32 → Int32 → Prop) (B249 : MS → Int32 → Int32 → Prop) (B261 : MS → Int32 → Int32 → Prop) (S : MS) (x3 : Int32) (x4 : Int32) (x5 : Int32) (x6 : Int32) : Prop := (S.1 0 ≤ x6 → B170 S x3 x4 (x5 + 1)) ∧ (¬ S.1 0 ≤ x6 → mX_leads l S x5 x6 (fun r18 S17 => (r18 = (-1) → B237 S17 x3 x4 x5 x6) ∧ (¬ r18 = (-1) → vp_in r18 20000 ∧ vp_in x4 20000 ∧ (S17.2.1 20 r18.toNatClampNeg = S17.2.1 20 x4.toNatClampNeg → B237 S17 x3 x4 x5 x6) ∧ (¬ S17.2.1 20 r18.toNatClampNeg = S17.2.1 20 x4.toNatClampNeg → vp_in x4 20000 ∧ vp_in (S17.2.1 20 x4.toNatClampNeg) 20000 ∧ B237 (ma S17 25 (upd (S17.2.1 25) (S17.2.1 20 x4.toNatClampNeg).toNatClampNeg (vp_nar .boolean 1))) x3 x4 x5 x6))))
def mT_joined_237 (l : Launch) (a1 : Int32) (post : Int32 → MS → Prop) (B80 : MS → Int32 → Int32 → Prop) (B137 : MS → Int32 → Int32 → Prop) (B170 : MS → Int32 → Int32 → Int32 → Prop) (B182 : MS → Int32 → Int32 → Int32 → Int32 → Prop) (B237 : MS → Int32 → Int32 → Int32 → Int32 → Prop) (B249 : MS → Int32 → Int32 → Prop) (B261 : MS → Int32 → Int32 → Prop) (S : MS) (x3 : Int32) (x4 : Int32) (x5 : Int32) (x6 : Int32) : Prop := B182 S x3 x4 x5 (x6 + 1)
def mT_joined_249 (l : Launch) (a1 : Int32) (post : Int32 → MS → Prop) (B80 : MS → Int32 → Int32 → Prop) (B137 : MS → Int32 → Int32 → Prop) (B170 : MS → Int32 → Int32 → Int32 → Prop) (B182 : MS → Int32 → Int32 → Int32 → Int32 → Prop) (B237 : MS → Int32 → Int32 → Int32 → Int32 → Prop) (B249 : MS → Int32 → Int32 → Prop) (B261 : MS → Int32 → Int32 → Prop) (S : MS) (x3 : Int32) (x4 : Int32) : Prop := B137 S x3 (x4 + 1)
def mT_joined_261 (l : Launch) (a1 : Int32) (post : Int32 → MS → Prop) (B80 : MS → Int32 → Int32 → Prop) (B137 : MS → Int32 → Int32 → Prop) (B170 : MS → Int32 → Int32 → Int32 → Prop) (B182 : MS → Int32 → Int32 → Int32 → Int32 → Prop) (B237 : MS → Int32 → Int32 → Int32 → Int32 → Prop) (B249 : MS → Int32 → Int32 → Prop) (B261 : MS → Int32 → Int32 → Prop) (S : MS) (x4 : Int32) (x5 : Int32) : Prop := (S.1 8 ≤ x5 → post x4 S) ∧ (¬ S.1 8 ≤ x5 → vp_in x5 20000 ∧ (S.2.1 25 x5.toNatClampNeg = 0 → ∀ v4_28 : Int32, v4_28 = x4 + 1 → B261 S v4_28 (x5 + 1)) ∧ (¬ S.2.1 25 x5.toNatClampNeg = 0 → ∀ v4_29 : Int32, v4_29 = x4 + 0 → B261 S v4_29 (x5 + 1)))
def mT_joined_e (l : Launch) (a1 : Int32) (post : Int32 → MS → Prop) (B80 : MS → Int32 → Int32 → Prop) (B137 : MS → Int32 → Int32 → Prop) (B170 : MS → Int32 → Int32 → Int32 → Prop) (B182 : MS → Int32 → Int32 → Int32 → Int32 → Prop) (B237 : MS → Int32 → Int32 → Int32 → Int32 → Prop) (B249 : MS → Int32 → Int32 → Prop) (B261 : MS → Int32 → Int32 → Prop) (S0 : MS) : Prop := mX_fits l (mf S0 3 0) (fun b31 S30 => (¬ bI b31 = 0 → mX_in l S30 a1 0 3 (fun b34 S33 => (¬ bI b34 = 0 → mX_joinAll l (mf S33 2 0) (fun S36 => (¬ a1 = 0 → (¬ a1 = 1 → B80 S36 0 0) ∧ (a1 = 1 → mX_pack l S36 2 (fun r40 S39 => vp_in r40 20000 ∧ vp_in (S39.2.1 20 r40.toNatClampNeg) 20000 ∧ post (S39.2.1 24 (S39.2.1 20 r40.toNatClampNeg).toNatClampNeg) S39))) ∧ (a1 = 0 → post (S36.1 8) S36))) ∧ (bI b34 = 0 → mX_no l S33 1 (fun r44 S43 => post r44 S43)))) ∧ (bI b31 = 0 → mX_no l S30 2 (fun r46 S45 => post r46 S45)))
set_option maxHeartbeats 4000000 in
set_option maxRecDepth 100000 in
theorem m_joined (l : Launch) (S0 : MS) (a1 : Int32) (post : Int32 → MS → Prop) (h : ∀ (B80 : MS → Int32 → Int32 → Prop) (B137 : MS → Int32 → Int32 → Prop) (B170 : MS → Int32 → Int32 → Int32 → Prop) (B182 : MS → Int32 → Int32 → Int32 → Int32 → Prop) (B237 : MS → Int32 → Int32 → Int32 → Int32 → Prop) (B249 : MS → Int32 → Int32 → Prop) (B261 : MS → Int32 → Int32 → Prop), (∀ (S : MS) (x2 : Int32) (x3 : Int32), mT_joined_80 l a1 post B80 B137 B170 B182 B237 B249 B261 S x2 x3 → B80 S x2 x3) → (∀ (S : MS) (x3 : Int32) (x4 : Int32), mT_joined_137 l a1 post B80 B137 B170 B182 B237 B249 B261 S x3 x4 → B137 S x3 x4) → (∀ (S : MS) (x3 : Int32) (x4 : Int32) (x5 : Int32), mT_joined_170 l a1 post B80 B137 B170 B182 B237 B249 B261 S x3 x4 x5 → B170 S x3 x4 x5) → (∀ (S : MS) (x3 : Int32) (x4 : Int32) (x5 : Int32) (x6 : Int32), mT_joined_182 l a1 post B80 B137 B170 B182 B237 B249 B261 S x3 x4 x5 x6 → B182 S x3 x4 x5 x6) → (∀ (S : MS) (x3 : Int32) (x4 : Int32) (x5 : Int32) (x6 : Int32), mT_joined_237 l a1 post B80 B137 B170 B182 B237 B249 B261 S x3 x4 x5 x6 → B237 S x3 x4 x5 x6) → (∀ (S : MS) (x3 : Int32) (x4 : Int32), mT_joined_249 l a1 post B80 B137 B170 B182 B237 B249 B261 S x3 x4 → B249 S x3 x4) → (∀ (S : MS) (x4 : Int32) (x5 : Int32), mT_joined_261 l a1 post B80 B137 B170 B182 B237 B249 B261 S x4 x5 → B261 S x4 x5) → mT_joined_e l a1 post B80 B137 B170 B182 B237 B249 B261 S0) : mX_joined l S0 a1 post := by
  refine msetI rfl (fun _ => Nat.le_of_ble_eq_true rfl) ?_
  intro p e s m args below meth c D ad cI cZ cL A Q hx hb hml hown hts hK hA hret H locs ls hP hD hS hl
  replace hl : lv_has ls 8 [(0, .ref (ad 0)), (1, .int a1)] := hl
  obtain ⟨B80, hB80⟩ : ∃ B : MS → Int32 → Int32 → Prop, B = (fun S x2 x3 => ∀ (H : Heap) (locs : List Loc) (ls : Array Slot), va_P D vwCl (mW ad cI cZ cL S) H → va_D A (mW ad cI cZ cL S) → va_S A s.heap H locs → lv_has ls 8 [(0, .ref (ad 0)), (1, .int a1), (2, .int x2), (3, .int x3)] → W p l e (mrm 4 100) s m args below meth c H locs 0 0 Q (F0 m 80 ls [])) := ⟨_, rfl⟩
  obtain ⟨B137, hB137⟩ : ∃ B : MS → Int32 → Int32 → Prop, B = (fun S x3 x4 => ∀ (H : Heap) (locs : List Loc) (ls : Array Slot), va_P D vwCl (mW ad cI cZ cL S) H → va_D A (mW ad cI cZ cL S) → va_S A s.heap H locs → lv_has ls 8 [(0, .ref (ad 0)), (3, .int x3), (4, .int x4)] → W p l e (mrm 4 100) s m args below meth c H locs 0 0 Q (F0 m 137 ls [])) := ⟨_, rfl⟩
  obtain ⟨B170, hB170⟩ : ∃ B : MS → Int32 → Int32 → Int32 → Prop, B = (fun S x3 x4 x5 => ∀ (H : Heap) (locs : List Loc) (ls : Array Slot), va_P D vwCl (mW ad cI cZ cL S) H → va_D A (mW ad cI cZ cL S) → va_S A s.heap H locs → lv_has ls 8 [(0, .ref (ad 0)), (3, .int x3), (4, .int x4), (5, .int x5)] → W p l e (mrm 4 100) s m args below meth c H locs 0 0 Q (F0 m 170 ls [])) := ⟨_, rfl⟩
  obtain ⟨B182, hB182⟩ : ∃ B : MS → Int32 → Int32 → Int32 → Int32 → Prop, B = (fun S x3 x4 x5 x6 => ∀ (H : Heap) (locs : List Loc) (ls : Array Slot), va_P D vwCl (mW ad cI cZ cL S) H → va_D A (mW ad cI cZ cL S) → va_S A s.heap H locs → lv_has ls 8 [(0, .ref (ad 0)), (3, .int x3), (4, .int x4), (5, .int x5), (6, .int x6)] → W p l e (mrm 4 100) s m args below meth c H locs 0 0 Q (F0 m 182 ls [])) := ⟨_, rfl⟩
  obtain ⟨B237, hB237⟩ : ∃ B : MS → Int32 → Int32 → Int32 → Int32 → Prop, B = (fun S x3 x4 x5 x6 => ∀ (H : Heap) (locs : List Loc) (ls : Array Slot), va_P D vwCl (mW ad cI cZ cL S) H → va_D A (mW ad cI cZ cL S) → va_S A s.heap H locs → lv_has ls 8 [(0, .ref (ad 0)), (3, .int x3), (4, .int x4), (5, .int x5), (6, .int x6)] → W p l e (mrm 4 100) s m args below meth c H locs 0 0 Q (F0 m 237 ls [])) := ⟨_, rfl⟩
  obtain ⟨B249, hB249⟩ : ∃ B : MS → Int32 → Int32 → Prop, B = (fun S x3 x4 => ∀ (H : Heap) (locs : List Loc) (ls : Array Slot), va_P D vwCl (mW ad cI cZ cL S) H → va_D A (mW ad cI cZ cL S) → va_S A s.heap H locs → lv_has ls 8 [(0, .ref (ad 0)), (3, .int x3), (4, .int x4)] → W p l e (mrm 4 100) s m args below meth c H locs 0 0 Q (F0 m 249 ls [])) := ⟨_, rfl⟩
  obtain ⟨B261, hB261⟩ : ∃ B : MS → Int32 → Int32 → Prop, B = (fun S x4 x5 => ∀ (H : Heap) (locs : List Loc) (ls : Array Slot), va_P D vwCl (mW ad cI cZ cL S) H → va_D A (mW ad cI cZ cL S) → va_S A s.heap H locs → lv_has ls 8 [(0, .ref (ad 0)), (4, .int x4), (5, .int x5)] → W p l e (mrm 4 100) s m args below meth c H locs 0 0 Q (F0 m 261 ls [])) := ⟨_, rfl⟩
  have hT : mT_joined_e l a1 post B80 B137 B170 B182 B237 B249 B261 S0 := by
    refine h B80 B137 B170 B182 B237 B249 B261 ?_ ?_ ?_ ?_ ?_ ?_ ?_
    · clear hP hD hS hl H locs ls
      intro S x2 x3 hT
      unfold mT_joined_80 at hT
      rw [hB80]
      intro H locs ls hP hD hS hl
      refine lv_iload_n hx hb dX9_joined_80 rfl (lv_at hl 3 rfl) ?_
      refine lv_aload_n hx hb dX9_joined_81 rfl (lv_at hl 0 rfl) ?_
      refine mg_sets (v := S.1 8) hx hb hts hown hK hP rfl dX9_joined_82 ?_
      refine lv_icmp_ge (tgt := 122) hx hb dX9_joined_85 (by decide) (fun c1 => ?_) (fun c1 => ?_)
      · replace hT := hT.1 c1
        refine lv_iload_n hx hb dX9_joined_122 rfl (lv_at hl 1 rfl) ?_
        refine lv_iconst (v := 3) hx hb dX9_joined_123 (by decide) ?_
        refine lv_icmp_ne (tgt := 129) hx hb dX9_joined_124 (by decide) (fun c2 => ?_) (fun c2 => ?_)
        · replace hT := hT.1 c2
          refine lv_aload_n hx hb dX9_joined_129 rfl (lv_at hl 0 rfl) ?_
          refine mcallI (n := 0) (rest := []) hT hx hb hml hown hts hK hA hP hD hS hl gg_177 hd_X9_stands ⟨Nat.le_of_ble_eq_true rfl, Nat.le_of_ble_eq_true rfl⟩ rfl rfl (Nat.le_of_ble_eq_true rfl) dX9_joined_130 (Nat.zero_le _) (Nat.zero_le _) (fun r4 S3 H locs hP hD hS hT => ?_)
          refine lv_istore_n (lv' := [(3, .int r4), (0, .ref (ad 0)), (1, .int a1), (2, .int x2)]) hx hb dX9_joined_133 rfl hl (by decide) rfl (fun ls hl => ?_)
          refine lv_iconst (v := 0) hx hb dX9_joined_134 (by decide) ?_
          refine lv_istore (lv' := [(4, .int 0), (3, .int r4), (0, .ref (ad 0)), (1, .int a1), (2, .int x2)]) hx hb dX9_joined_135 hl (by decide) rfl (fun ls hl => ?_)
          rw [hB137] at hT
          exact hT _ _ _ hP hD hS (lv_sub hl [2, 1, 0] rfl)
        · replace hT := hT.2 c2
          refine lv_iload_n hx hb dX9_joined_127 rfl (lv_at hl 2 rfl) ?_
          exact hret _ _ _ _ _ _ hP hD hS hT dX9_joined_128
      · replace hT := hT.2 c1
        refine lv_aload_n hx hb dX9_joined_88 rfl (lv_at hl 0 rfl) ?_
        refine mg_setSize hx hb hts hown hK hP dX9_joined_89 ?_
        refine lv_iload_n hx hb dX9_joined_92 rfl (lv_at hl 3 rfl) ?_
        obtain ⟨hi5, hT⟩ := hT
        refine va_iald (f := S.2.1 24) hx hb hK hP 24 0 mat_24 rfl hi5 dX9_joined_93 ?_
        refine lv_iload_n hx hb dX9_joined_94 rfl (lv_at hl 2 rfl) ?_
        refine lv_icmp_le (tgt := 107) hx hb dX9_joined_95 (by decide) (fun c6 => ?_) (fun c6 => ?_)
        · replace hT := hT.1 c6
          refine lv_iload_n hx hb dX9_joined_107 rfl (lv_at hl 2 rfl) ?_
          refine lv_istore_n (lv' := [(2, .int x2), (0, .ref (ad 0)), (1, .int a1), (3, .int x3)]) hx hb dX9_joined_108 rfl hl (by decide) rfl (fun ls hl => ?_)
          refine lv_aload_n hx hb dX9_joined_109 rfl (lv_at hl 1 rfl) ?_
          refine mg_leaves hx hb hts hown hK hP dX9_joined_110 ?_
          refine lv_iload_n hx hb dX9_joined_113 rfl (lv_at hl 3 rfl) ?_
          refine lv_iconst (v := 0) hx hb dX9_joined_114 (by decide) ?_
          obtain ⟨hi7, hT⟩ := hT
          refine va_zast (f := S.2.1 25) hx hb hK hP hD hS 25 1 mat_25 rfl hi7 dX9_joined_115 (fun H locs hP hD hS => ?_)
          replace hP := msetP_25 hP
          replace hD := msetD_25 hD
          refine lv_iinc (v := x3 + 1) (lv' := [(3, .int (x3 + 1)), (2, .int x2), (0, .ref (ad 0)), (1, .int a1)]) hx hb dX9_joined_116 hl (k := 3) rfl rfl (by decide) rfl (fun ls hl => ?_)
          refine lv_goto (tgt := 80) hx hb dX9_joined_119 (by decide) ?_
          rw [hB80] at hT
          exact hT _ _ _ hP hD hS (lv_sub hl [2, 3, 1, 0] rfl)
        · replace hT := hT.2 c6
          refine lv_aload_n hx hb dX9_joined_98 rfl (lv_at hl 0 rfl) ?_
          refine mg_setSize hx hb hts hown hK hP dX9_joined_99 ?_
          refine lv_iload_n hx hb dX9_joined_102 rfl (lv_at hl 3 rfl) ?_
          obtain ⟨hi8, hT⟩ := hT
          refine va_iald (f := S.2.1 24) hx hb hK hP 24 0 mat_24 rfl hi8 dX9_joined_103 ?_
          refine lv_goto (tgt := 108) hx hb dX9_joined_104 (by decide) ?_
          refine lv_topi (fun v2_9 ev2_9 => ?_)
          replace hT := hT v2_9 ev2_9
          refine lv_istore_n (lv' := [(2, .int v2_9), (0, .ref (ad 0)), (1, .int a1), (3, .int x3)]) hx hb dX9_joined_108 rfl hl (by decide) rfl (fun ls hl => ?_)
          refine lv_aload_n hx hb dX9_joined_109 rfl (lv_at hl 1 rfl) ?_
          refine mg_leaves hx hb hts hown hK hP dX9_joined_110 ?_
          refine lv_iload_n hx hb dX9_joined_113 rfl (lv_at hl 3 rfl) ?_
          refine lv_iconst (v := 0) hx hb dX9_joined_114 (by decide) ?_
          obtain ⟨hi10, hT⟩ := hT
          refine va_zast (f := S.2.1 25) hx hb hK hP hD hS 25 1 mat_25 rfl hi10 dX9_joined_115 (fun H locs hP hD hS => ?_)
          replace hP := msetP_25 hP
          replace hD := msetD_25 hD
          refine lv_iinc (v := x3 + 1) (lv' := [(3, .int (x3 + 1)), (2, .int v2_9), (0, .ref (ad 0)), (1, .int a1)]) hx hb dX9_joined_116 hl (k := 3) rfl rfl (by decide) rfl (fun ls hl => ?_)
          refine lv_goto (tgt := 80) hx hb dX9_joined_119 (by decide) ?_
          rw [hB80] at hT
          exact hT _ _ _ hP hD hS (lv_sub hl [2, 3, 1, 0] rfl)
    · clear hP hD hS hl H locs ls
      intro S x3 x4 hT
      unfold mT_joined_137 at hT
      rw [hB137]
      intro H locs ls hP hD hS hl
      refine lv_iload hx hb dX9_joined_137 (lv_at hl 2 rfl) ?_
      refine lv_iload_n hx hb dX9_joined_139 rfl (lv_at hl 1 rfl) ?_
      refine lv_icmp_ge (tgt := 255) hx hb dX9_joined_140 (by decide) (fun c11 => ?_) (fun c11 => ?_)
      · replace hT := hT.1 c11
        refine lv_iconst (v := 0) hx hb dX9_joined_255 (by decide) ?_
        refine lv_istore (lv' := [(4, .int 0), (0, .ref (ad 0)), (3, .int x3)]) hx hb dX9_joined_256 hl (by decide) rfl (fun ls hl => ?_)
        refine lv_iconst (v := 0) hx hb dX9_joined_258 (by decide) ?_
        refine lv_istore (lv' := [(5, .int 0), (4, .int 0), (0, .ref (ad 0)), (3, .int x3)]) hx hb dX9_joined_259 hl (by decide) rfl (fun ls hl => ?_)
        rw [hB261] at hT
        exact hT _ _ _ hP hD hS (lv_sub hl [2, 1, 0] rfl)
      · replace hT := hT.2 c11
        refine lv_aload_n hx hb dX9_joined_143 rfl (lv_at hl 0 rfl) ?_
        refine mg_set hx hb hts hown hK hP dX9_joined_144 ?_
        refine lv_iload hx hb dX9_joined_147 (lv_at hl 2 rfl) ?_
        obtain ⟨hi12, hT⟩ := hT
        refine va_iald (f := S.2.1 20) hx hb hK hP 20 0 mat_20 rfl hi12 dX9_joined_149 ?_
        refine lv_iconst (v := (-1)) hx hb dX9_joined_150 (by decide) ?_
        refine lv_icmp_ne (tgt := 157) hx hb dX9_joined_151 (by decide) (fun c13 => ?_) (fun c13 => ?_)
        · replace hT := hT.1 c13
          refine lv_aload_n hx hb dX9_joined_157 rfl (lv_at hl 0 rfl) ?_
          refine lv_iload hx hb dX9_joined_158 (lv_at hl 2 rfl) ?_
          refine lv_aload_n hx hb dX9_joined_160 rfl (lv_at hl 0 rfl) ?_
          refine mg_at hx hb hts hown hK hP dX9_joined_161 ?_
          refine mcallV (n := 2) (rest := []) hT hx hb hml hown hts hK hA hP hD hS hl gg_180 hd_X9_unpack ⟨Nat.le_of_ble_eq_true rfl, Nat.le_of_ble_eq_true rfl⟩ rfl rfl (Nat.le_of_ble_eq_true rfl) dX9_joined_164 (Nat.zero_le _) (Nat.zero_le _) (fun S14 H locs hP hD hS hT => ?_)
          refine lv_iconst (v := 0) hx hb dX9_joined_167 (by decide) ?_
          refine lv_istore (lv' := [(5, .int 0), (0, .ref (ad 0)), (3, .int x3), (4, .int x4)]) hx hb dX9_joined_168 hl (by decide) rfl (fun ls hl => ?_)
          rw [hB170] at hT
          exact hT _ _ _ hP hD hS (lv_sub hl [1, 2, 3, 0] rfl)
        · replace hT := hT.2 c13
          refine lv_goto (tgt := 249) hx hb dX9_joined_154 (by decide) ?_
          rw [hB249] at hT
          exact hT _ _ _ hP hD hS (lv_sub hl [0, 1, 2] rfl)
    · clear hP hD hS hl H locs ls
      intro S x3 x4 x5 hT
      unfold mT_joined_170 at hT
      rw [hB170]
      intro H locs ls hP hD hS hl
      refine lv_iload hx hb dX9_joined_170 (lv_at hl 3 rfl) ?_
      refine lv_aload_n hx hb dX9_joined_172 rfl (lv_at hl 0 rfl) ?_
      refine mg_pegs (v := S.1 0) hx hb hts hown hK hP rfl dX9_joined_173 ?_
      refine lv_icmp_ge (tgt := 249) hx hb dX9_joined_176 (by decide) (fun c15 => ?_) (fun c15 => ?_)
      · replace hT := hT.1 c15
        rw [hB249] at hT
        exact hT _ _ _ hP hD hS (lv_sub hl [0, 1, 2] rfl)
      · replace hT := hT.2 c15
        refine lv_iconst (v := 0) hx hb dX9_joined_179 (by decide) ?_
        refine lv_istore (lv' := [(6, .int 0), (0, .ref (ad 0)), (3, .int x3), (4, .int x4), (5, .int x5)]) hx hb dX9_joined_180 hl (by decide) rfl (fun ls hl => ?_)
        rw [hB182] at hT
        exact hT _ _ _ hP hD hS (lv_sub hl [1, 2, 3, 4, 0] rfl)
    · clear hP hD hS hl H locs ls
      intro S x3 x4 x5 x6 hT
      unfold mT_joined_182 at hT
      rw [hB182]
      intro H locs ls hP hD hS hl
      refine lv_iload hx hb dX9_joined_182 (lv_at hl 4 rfl) ?_
      refine lv_aload_n hx hb dX9_joined_184 rfl (lv_at hl 0 rfl) ?_
      refine mg_pegs (v := S.1 0) hx hb hts hown hK hP rfl dX9_joined_185 ?_
      refine lv_icmp_ge (tgt := 243) hx hb dX9_joined_188 (by decide) (fun c16 => ?_) (fun c16 => ?_)
      · replace hT := hT.1 c16
        refine lv_iinc (v := x5 + 1) (lv' := [(5, .int (x5 + 1)), (0, .ref (ad 0)), (3, .int x3), (4, .int x4), (6, .int x6)]) hx hb dX9_joined_243 hl (k := 3) rfl rfl (by decide) rfl (fun ls hl => ?_)
        refine lv_goto (tgt := 170) hx hb dX9_joined_246 (by decide) ?_
        rw [hB170] at hT
        exact hT _ _ _ hP hD hS (lv_sub hl [1, 2, 3, 0] rfl)
      · replace hT := hT.2 c16
        refine lv_aload_n hx hb dX9_joined_191 rfl (lv_at hl 0 rfl) ?_
        refine lv_iload hx hb dX9_joined_192 (lv_at hl 3 rfl) ?_
        refine lv_iload hx hb dX9_joined_194 (lv_at hl 4 rfl) ?_
        refine mcallI (n := 2) (rest := []) hT hx hb hml hown hts hK hA hP hD hS hl gg_211 hd_X9_leads ⟨Nat.le_of_ble_eq_true rfl, Nat.le_of_ble_eq_true rfl⟩ rfl rfl (Nat.le_of_ble_eq_true rfl) dX9_joined_196 (Nat.zero_le _) (Nat.zero_le _) (fun r18 S17 H locs hP hD hS hT => ?_)
        refine lv_istore (lv' := [(7, .int r18), (0, .ref (ad 0)), (3, .int x3), (4, .int x4), (5, .int x5), (6, .int x6)]) hx hb dX9_joined_199 hl (by decide) rfl (fun ls hl => ?_)
        refine lv_iload hx hb dX9_joined_201 (lv_at hl 0 rfl) ?_
        refine lv_iconst (v := (-1)) hx hb dX9_joined_203 (by decide) ?_
        refine lv_icmp_eq (tgt := 237) hx hb dX9_joined_204 (by decide) (fun c19 => ?_) (fun c19 => ?_)
        · replace hT := hT.1 c19
          rw [hB237] at hT
          exact hT _ _ _ hP hD hS (lv_sub hl [1, 2, 3, 4, 5] rfl)
        · replace hT := hT.2 c19
          refine lv_aload_n hx hb dX9_joined_207 rfl (lv_at hl 1 rfl) ?_
          refine mg_set hx hb hts hown hK hP dX9_joined_208 ?_
          refine lv_iload hx hb dX9_joined_211 (lv_at hl 0 rfl) ?_
          obtain ⟨hi20, hT⟩ := hT
          refine va_iald (f := S17.2.1 20) hx hb hK hP 20 0 mat_20 rfl hi20 dX9_joined_213 ?_
          refine lv_aload_n hx hb dX9_joined_214 rfl (lv_at hl 1 rfl) ?_
          refine mg_set hx hb hts hown hK hP dX9_joined_215 ?_
          refine lv_iload hx hb dX9_joined_218 (lv_at hl 3 rfl) ?_
          obtain ⟨hi21, hT⟩ := hT
          refine va_iald (f := S17.2.1 20) hx hb hK hP 20 0 mat_20 rfl hi21 dX9_joined_220 ?_
          refine lv_icmp_eq (tgt := 237) hx hb dX9_joined_221 (by decide) (fun c22 => ?_) (fun c22 => ?_)
          · replace hT := hT.1 c22
            rw [hB237] at hT
            exact hT _ _ _ hP hD hS (lv_sub hl [1, 2, 3, 4, 5] rfl)
          · replace hT := hT.2 c22
            refine lv_aload_n hx hb dX9_joined_224 rfl (lv_at hl 1 rfl) ?_
            refine mg_leaves hx hb hts hown hK hP dX9_joined_225 ?_
            refine lv_aload_n hx hb dX9_joined_228 rfl (lv_at hl 1 rfl) ?_
            refine mg_set hx hb hts hown hK hP dX9_joined_229 ?_
            refine lv_iload hx hb dX9_joined_232 (lv_at hl 3 rfl) ?_
            obtain ⟨hi23, hT⟩ := hT
            refine va_iald (f := S17.2.1 20) hx hb hK hP 20 0 mat_20 rfl hi23 dX9_joined_234 ?_
            refine lv_iconst (v := 1) hx hb dX9_joined_235 (by decide) ?_
            obtain ⟨hi24, hT⟩ := hT
            refine va_zast (f := S17.2.1 25) hx hb hK hP hD hS 25 1 mat_25 rfl hi24 dX9_joined_236 (fun H locs hP hD hS => ?_)
            replace hP := msetP_25 hP
            replace hD := msetD_25 hD
            rw [hB237] at hT
            exact hT _ _ _ hP hD hS (lv_sub hl [1, 2, 3, 4, 5] rfl)
    · clear hP hD hS hl H locs ls
      intro S x3 x4 x5 x6 hT
      unfold mT_joined_237 at hT
      rw [hB237]
      intro H locs ls hP hD hS hl
      refine lv_iinc (v := x6 + 1) (lv' := [(6, .int (x6 + 1)), (0, .ref (ad 0)), (3, .int x3), (4, .int x4), (5, .int x5)]) hx hb dX9_joined_237 hl (k := 4) rfl rfl (by decide) rfl (fun ls hl => ?_)
      refine lv_goto (tgt := 182) hx hb dX9_joined_240 (by decide) ?_
      rw [hB182] at hT
      exact hT _ _ _ hP hD hS (lv_sub hl [1, 2, 3, 4, 0] rfl)
    · clear hP hD hS hl H locs ls
      intro S x3 x4 hT
      unfold mT_joined_249 at hT
      rw [hB249]
      intro H locs ls hP hD hS hl
      refine lv_iinc (v := x4 + 1) (lv' := [(4, .int (x4 + 1)), (0, .ref (ad 0)), (3, .int x3)]) hx hb dX9_joined_249 hl (k := 2) rfl rfl (by decide) rfl (fun ls hl => ?_)
      refine lv_goto (tgt := 137) hx hb dX9_joined_252 (by decide) ?_
      rw [hB137] at hT
      exact hT _ _ _ hP hD hS (lv_sub hl [1, 2, 0] rfl)
    · clear hP hD hS hl H locs ls
      intro S x4 x5 hT
      unfold mT_joined_261 at hT
      rw [hB261]
      intro H locs ls hP hD hS hl
      refine lv_iload hx hb dX9_joined_261 (lv_at hl 2 rfl) ?_
      refine lv_aload_n hx hb dX9_joined_263 rfl (lv_at hl 0 rfl) ?_
      refine mg_sets (v := S.1 8) hx hb hts hown hK hP rfl dX9_joined_264 ?_
      refine lv_icmp_ge (tgt := 296) hx hb dX9_joined_267 (by decide) (fun c25 => ?_) (fun c25 => ?_)
      · replace hT := hT.1 c25
        refine lv_iload hx hb dX9_joined_296 (lv_at hl 1 rfl) ?_
        exact hret _ _ _ _ _ _ hP hD hS hT dX9_joined_298
      · replace hT := hT.2 c25
        refine lv_iload hx hb dX9_joined_270 (lv_at hl 1 rfl) ?_
        refine lv_aload_n hx hb dX9_joined_272 rfl (lv_at hl 0 rfl) ?_
        refine mg_leaves hx hb hts hown hK hP dX9_joined_273 ?_
        refine lv_iload hx hb dX9_joined_276 (lv_at hl 2 rfl) ?_
        obtain ⟨hi26, hT⟩ := hT
        refine va_zald (f := S.2.1 25) hx hb hK hP 25 1 mat_25 rfl hi26 dX9_joined_278 ?_
        refine lv_if_eq (tgt := 286) hx hb dX9_joined_279 (by decide) (fun c27 => ?_) (fun c27 => ?_)
        · replace hT := hT.1 c27
          refine lv_iconst (v := 1) hx hb dX9_joined_286 (by decide) ?_
          refine lv_iadd hx hb dX9_joined_287 ?_
          refine lv_topi (fun v4_28 ev4_28 => ?_)
          replace hT := hT v4_28 ev4_28
          refine lv_istore (lv' := [(4, .int v4_28), (0, .ref (ad 0)), (5, .int x5)]) hx hb dX9_joined_288 hl (by decide) rfl (fun ls hl => ?_)
          refine lv_iinc (v := x5 + 1) (lv' := [(5, .int (x5 + 1)), (4, .int v4_28), (0, .ref (ad 0))]) hx hb dX9_joined_290 hl (k := 2) rfl rfl (by decide) rfl (fun ls hl => ?_)
          refine lv_goto (tgt := 261) hx hb dX9_joined_293 (by decide) ?_
          rw [hB261] at hT
          exact hT _ _ _ hP hD hS (lv_sub hl [2, 1, 0] rfl)
        · replace hT := hT.2 c27
          refine lv_iconst (v := 0) hx hb dX9_joined_282 (by decide) ?_
          refine lv_goto (tgt := 287) hx hb dX9_joined_283 (by decide) ?_
          refine lv_iadd hx hb dX9_joined_287 ?_
          refine lv_topi (fun v4_29 ev4_29 => ?_)
          replace hT := hT v4_29 ev4_29
          refine lv_istore (lv' := [(4, .int v4_29), (0, .ref (ad 0)), (5, .int x5)]) hx hb dX9_joined_288 hl (by decide) rfl (fun ls hl => ?_)
          refine lv_iinc (v := x5 + 1) (lv' := [(5, .int (x5 + 1)), (4, .int v4_29), (0, .ref (ad 0))]) hx hb dX9_joined_290 hl (k := 2) rfl rfl (by decide) rfl (fun ls hl => ?_)
          refine lv_goto (tgt := 261) hx hb dX9_joined_293 (by decide) ?_
          rw [hB261] at hT
          exact hT _ _ _ hP hD hS (lv_sub hl [2, 1, 0] rfl)
  unfold mT_joined_e at hT
  refine lv_aload_n hx hb dX9_joined_0 rfl (lv_at hl 0 rfl) ?_
  refine lv_iconst (v := 0) hx hb dX9_joined_1 (by decide) ?_
  refine mp_thrown hx hb hts hown hK hP hD hS dX9_joined_2 (fun H locs hP hD hS => ?_)
  refine lv_aload_n hx hb dX9_joined_5 rfl (lv_at hl 0 rfl) ?_
  refine mcallZ (n := 0) (rest := []) hT hx hb hml hown hts hK hA hP hD hS hl gg_215 hd_X9_fits ⟨Nat.le_of_ble_eq_true rfl, Nat.le_of_ble_eq_true rfl⟩ rfl rfl (Nat.le_of_ble_eq_true rfl) dX9_joined_6 (Nat.zero_le _) (Nat.zero_le _) (fun b31 S30 H locs hP hD hS hT => ?_)
  refine lv_if_ne (tgt := 18) hx hb dX9_joined_9 (by decide) (fun c32 => ?_) (fun c32 => ?_)
  · replace hT := hT.1 c32
    refine lv_aload_n hx hb dX9_joined_18 rfl (lv_at hl 0 rfl) ?_
    refine lv_iload_n hx hb dX9_joined_19 rfl (lv_at hl 1 rfl) ?_
    refine lv_iconst (v := 0) hx hb dX9_joined_20 (by decide) ?_
    refine lv_iconst (v := 3) hx hb dX9_joined_21 (by decide) ?_
    refine mcallZ (n := 3) (rest := []) hT hx hb hml hown hts hK hA hP hD hS hl gg_139 hd_X9_in ⟨Nat.le_of_ble_eq_true rfl, Nat.le_of_ble_eq_true rfl⟩ rfl rfl (Nat.le_of_ble_eq_true rfl) dX9_joined_22 (Nat.zero_le _) (Nat.zero_le _) (fun b34 S33 H locs hP hD hS hT => ?_)
    refine lv_if_ne (tgt := 34) hx hb dX9_joined_25 (by decide) (fun c35 => ?_) (fun c35 => ?_)
    · replace hT := hT.1 c35
      refine lv_aload_n hx hb dX9_joined_34 rfl (lv_at hl 0 rfl) ?_
      refine lv_iconst (v := 0) hx hb dX9_joined_35 (by decide) ?_
      refine mp_trouble hx hb hts hown hK hP hD hS dX9_joined_36 (fun H locs hP hD hS => ?_)
      refine lv_aload_n hx hb dX9_joined_39 rfl (lv_at hl 0 rfl) ?_
      refine mcallV (n := 0) (rest := []) hT hx hb hml hown hts hK hA hP hD hS hl gg_232 hd_X9_joinAll ⟨Nat.le_of_ble_eq_true rfl, Nat.le_of_ble_eq_true rfl⟩ rfl rfl (Nat.le_of_ble_eq_true rfl) dX9_joined_40 (Nat.zero_le _) (Nat.zero_le _) (fun S36 H locs hP hD hS hT => ?_)
      refine lv_iload_n hx hb dX9_joined_43 rfl (lv_at hl 1 rfl) ?_
      refine lv_if_ne (tgt := 52) hx hb dX9_joined_44 (by decide) (fun c37 => ?_) (fun c37 => ?_)
      · replace hT := hT.1 c37
        refine lv_iload_n hx hb dX9_joined_52 rfl (lv_at hl 1 rfl) ?_
        refine lv_iconst (v := 1) hx hb dX9_joined_53 (by decide) ?_
        refine lv_icmp_ne (tgt := 76) hx hb dX9_joined_54 (by decide) (fun c38 => ?_) (fun c38 => ?_)
        · replace hT := hT.1 c38
          refine lv_iconst (v := 0) hx hb dX9_joined_76 (by decide) ?_
          refine lv_istore_n (lv' := [(2, .int 0), (0, .ref (ad 0)), (1, .int a1)]) hx hb dX9_joined_77 rfl hl (by decide) rfl (fun ls hl => ?_)
          refine lv_iconst (v := 0) hx hb dX9_joined_78 (by decide) ?_
          refine lv_istore_n (lv' := [(3, .int 0), (2, .int 0), (0, .ref (ad 0)), (1, .int a1)]) hx hb dX9_joined_79 rfl hl (by decide) rfl (fun ls hl => ?_)
          rw [hB80] at hT
          exact hT _ _ _ hP hD hS (lv_sub hl [2, 3, 1, 0] rfl)
        · replace hT := hT.2 c38
          refine lv_aload_n hx hb dX9_joined_57 rfl (lv_at hl 0 rfl) ?_
          refine mg_setSize hx hb hts hown hK hP dX9_joined_58 ?_
          refine lv_aload_n hx hb dX9_joined_61 rfl (lv_at hl 0 rfl) ?_
          refine mg_set hx hb hts hown hK hP dX9_joined_62 ?_
          refine lv_aload_n hx hb dX9_joined_65 rfl (lv_at hl 0 rfl) ?_
          refine lv_aload_n hx hb dX9_joined_66 rfl (lv_at hl 0 rfl) ?_
          refine mg_stand hx hb hts hown hK hP dX9_joined_67 ?_
          refine mcallI (n := 1) (rest := [.ref (ad 20), .ref (ad 24)]) hT hx hb hml hown hts hK hA hP hD hS hl gg_184 hd_X9_pack ⟨Nat.le_of_ble_eq_true rfl, Nat.le_of_ble_eq_true rfl⟩ rfl rfl (Nat.le_of_ble_eq_true rfl) dX9_joined_70 (Nat.zero_le _) (Nat.zero_le _) (fun r40 S39 H locs hP hD hS hT => ?_)
          obtain ⟨hi41, hT⟩ := hT
          refine va_iald (f := S39.2.1 20) hx hb hK hP 20 0 mat_20 rfl hi41 dX9_joined_73 ?_
          obtain ⟨hi42, hT⟩ := hT
          refine va_iald (f := S39.2.1 24) hx hb hK hP 24 0 mat_24 rfl hi42 dX9_joined_74 ?_
          exact hret _ _ _ _ _ _ hP hD hS hT dX9_joined_75
      · replace hT := hT.2 c37
        refine lv_aload_n hx hb dX9_joined_47 rfl (lv_at hl 0 rfl) ?_
        refine mg_sets (v := S36.1 8) hx hb hts hown hK hP rfl dX9_joined_48 ?_
        exact hret _ _ _ _ _ _ hP hD hS hT dX9_joined_51
    · replace hT := hT.2 c35
      refine lv_aload_n hx hb dX9_joined_28 rfl (lv_at hl 0 rfl) ?_
      refine lv_iconst (v := 1) hx hb dX9_joined_29 (by decide) ?_
      refine mcallI (n := 1) (rest := []) hT hx hb hml hown hts hK hA hP hD hS hl gg_192 hd_X9_no ⟨Nat.le_of_ble_eq_true rfl, Nat.le_of_ble_eq_true rfl⟩ rfl rfl (Nat.le_of_ble_eq_true rfl) dX9_joined_30 (Nat.zero_le _) (Nat.zero_le _) (fun r44 S43 H locs hP hD hS hT => ?_)
      exact hret _ _ _ _ _ _ hP hD hS hT dX9_joined_33
  · replace hT := hT.2 c32
    refine lv_aload_n hx hb dX9_joined_12 rfl (lv_at hl 0 rfl) ?_
    refine lv_iconst (v := 2) hx hb dX9_joined_13 (by decide) ?_
    refine mcallI (n := 1) (rest := []) hT hx hb hml hown hts hK hA hP hD hS hl gg_192 hd_X9_no ⟨Nat.le_of_ble_eq_true rfl, Nat.le_of_ble_eq_true rfl⟩ rfl rfl (Nat.le_of_ble_eq_true rfl) dX9_joined_14 (Nat.zero_le _) (Nat.zero_le _) (fun r46 S45 H locs hP hD hS hT => ?_)
    exact hret _ _ _ _ _ _ hP hD hS hT dX9_joined_17
abbrev mX_areNames (l : Launch) (S : MS) (a1 : Int32) (a2 : Int32) (a3 : Int32) (a4 : Int32) (a5 : Int32) (post : Bool → MS → Prop) : Prop := mCtZ l yX9_areNames cX9_areNames 8 2 44 (fun ad => [.int a1, .int a2, .int a3, .int a4, .int a5]) S post
def mT_areNames_40 (l : Launch) (a1 : Int32) (a2 : Int32) (a3 : Int32) (a4 : Int32) (a5 : Int32) (post : Bool → MS → Prop) (B40 : MS → Int32 → Prop) (B68 : MS → Int32 → Int32 → Prop) (S : MS) (x6 : Int32) : Prop := (S.1 0 ≤ x6 → post true S) ∧ (¬ S.1 0 ≤ x6 → vp_in x6 5 ∧ mX_isPeg l S (S.2.1 26 x6.toNatClampNeg) (fun b4 S3 => (¬ bI b4 = 0 → B68 S3 x6 0) ∧ (bI b4 = 0 → post false S3)))
def mT_areNames_68 (l : Launch) (a1 : Int32) (a2 : Int32) (a3 : Int32) (a4 : Int32) (a5 : Int32) (post : Bool → MS → Prop) (B40 : MS → Int32 → Prop) (B68 : MS → Int32 → Int32 → Prop) (S : MS) (x6 : Int32) (x7 : Int32) : Prop := (x6 ≤ x7 → B40 S (x6 + 1)) ∧ (¬ x6 ≤ x7 → vp_in x7 5 ∧ vp_in x6 5 ∧ (¬ S.2.1 26 x7.toNatClampNeg = S.2.1 26 x6.toNatClampNeg → B68 S x6 (x7 + 1)) ∧ (S.2.1 26 x7.toNatClampNeg = S.2.1 26 x6.toNatClampNeg → post false S))
def mT_areNames_e (l : Launch) (a1 : Int32) (a2 : Int32) (a3 : Int32) (a4 : Int32) (a5 : Int32) (post : Bool → MS → Prop) (B40 : MS → Int32 → Prop) (B68 : MS → Int32 → Int32 → Prop) (S0 : MS) : Prop := vp_in 0 5 ∧ vp_in 1 5 ∧ vp_in 2 5 ∧ vp_in 3 5 ∧ vp_in 4 5 ∧ B40 (ma (ma (ma (ma (ma S0 26 (upd (S0.2.1 26) (0 : Int32).toNatClampNeg a1)) 26 (upd (upd (S0.2.1 26) (0 : Int32).toNatClampNeg a1) (1 : Int32).toNatClampNeg a2)) 26 (upd (upd (upd (S0.2.1 26) (0 : Int32).toNatClampNeg a1) (1 : Int32).toNatClampNeg a2) (2 : Int32).toNatClampNeg a3)) 26 (upd (upd (upd (upd (S0.2.1 26) (0 : Int32).toNatClampNeg a1) (1 : Int32).toNatClampNeg a2) (2 : Int32).toNatClampNeg a3) (3 : Int32).toNatClampNeg a4)) 26 (upd (upd (upd (upd (upd (S0.2.1 26) (0 : Int32).toNatClampNeg a1) (1 : Int32).toNatClampNeg a2) (2 : Int32).toNatClampNeg a3) (3 : Int32).toNatClampNeg a4) (4 : Int32).toNatClampNeg a5)) 0
set_option maxHeartbeats 4000000 in
set_option maxRecDepth 100000 in
theorem m_areNames (l : Launch) (S0 : MS) (a1 : Int32) (a2 : Int32) (a3 : Int32) (a4 : Int32) (a5 : Int32) (post : Bool → MS → Prop) (h : ∀ (B40 : MS → Int32 → Prop) (B68 : MS → Int32 → Int32 → Prop), (∀ (S : MS) (x6 : Int32), mT_areNames_40 l a1 a2 a3 a4 a5 post B40 B68 S x6 → B40 S x6) → (∀ (S : MS) (x6 : Int32) (x7 : Int32), mT_areNames_68 l a1 a2 a3 a4 a5 post B40 B68 S x6 x7 → B68 S x6 x7) → mT_areNames_e l a1 a2 a3 a4 a5 post B40 B68 S0) : mX_areNames l S0 a1 a2 a3 a4 a5 post := by
  refine msetZ rfl (fun _ => Nat.le_of_ble_eq_true rfl) ?_
  intro p e s m args below meth c D ad cI cZ cL A Q hx hb hml hown hts hK hA hret H locs ls hP hD hS hl
  replace hl : lv_has ls 8 [(0, .ref (ad 0)), (1, .int a1), (2, .int a2), (3, .int a3), (4, .int a4), (5, .int a5)] := hl
  obtain ⟨B40, hB40⟩ : ∃ B : MS → Int32 → Prop, B = (fun S x6 => ∀ (H : Heap) (locs : List Loc) (ls : Array Slot), va_P D vwCl (mW ad cI cZ cL S) H → va_D A (mW ad cI cZ cL S) → va_S A s.heap H locs → lv_has ls 8 [(0, .ref (ad 0)), (6, .int x6)] → W p l e (mrm 2 44) s m args below meth c H locs 0 0 Q (F0 m 40 ls [])) := ⟨_, rfl⟩
  obtain ⟨B68, hB68⟩ : ∃ B : MS → Int32 → Int32 → Prop, B = (fun S x6 x7 => ∀ (H : Heap) (locs : List Loc) (ls : Array Slot), va_P D vwCl (mW ad cI cZ cL S) H → va_D A (mW ad cI cZ cL S) → va_S A s.heap H locs → lv_has ls 8 [(0, .ref (ad 0)), (6, .int x6), (7, .int x7)] → W p l e (mrm 2 44) s m args below meth c H locs 0 0 Q (F0 m 68 ls [])) := ⟨_, rfl⟩
  have hT : mT_areNames_e l a1 a2 a3 a4 a5 post B40 B68 S0 := by
    refine h B40 B68 ?_ ?_
    · clear hP hD hS hl H locs ls
      intro S x6 hT
      unfold mT_areNames_40 at hT
      rw [hB40]
      intro H locs ls hP hD hS hl
      refine lv_iload hx hb dX9_areNames_40 (lv_at hl 1 rfl) ?_
      refine lv_aload_n hx hb dX9_areNames_42 rfl (lv_at hl 0 rfl) ?_
      refine mg_pegs (v := S.1 0) hx hb hts hown hK hP rfl dX9_areNames_43 ?_
      refine lv_icmp_ge (tgt := 106) hx hb dX9_areNames_46 (by decide) (fun c1 => ?_) (fun c1 => ?_)
      · replace hT := hT.1 c1
        refine lv_iconst (v := 1) hx hb dX9_areNames_106 (by decide) ?_
        exact hret true _ _ _ _ _ hP hD hS hT dX9_areNames_107
      · replace hT := hT.2 c1
        refine lv_aload_n hx hb dX9_areNames_49 rfl (lv_at hl 0 rfl) ?_
        refine lv_aload_n hx hb dX9_areNames_50 rfl (lv_at hl 0 rfl) ?_
        refine mg_names hx hb hts hown hK hP dX9_areNames_51 ?_
        refine lv_iload hx hb dX9_areNames_54 (lv_at hl 1 rfl) ?_
        obtain ⟨hi2, hT⟩ := hT
        refine va_iald (f := S.2.1 26) hx hb hK hP 26 0 mat_26 rfl hi2 dX9_areNames_56 ?_
        refine mcallZ (n := 1) (rest := []) hT hx hb hml hown hts hK hA hP hD hS hl gg_170 hd_X9_isPeg ⟨Nat.le_of_ble_eq_true rfl, Nat.le_of_ble_eq_true rfl⟩ rfl rfl (Nat.le_of_ble_eq_true rfl) dX9_areNames_57 (Nat.zero_le _) (Nat.zero_le _) (fun b4 S3 H locs hP hD hS hT => ?_)
        refine lv_if_ne (tgt := 65) hx hb dX9_areNames_60 (by decide) (fun c5 => ?_) (fun c5 => ?_)
        · replace hT := hT.1 c5
          refine lv_iconst (v := 0) hx hb dX9_areNames_65 (by decide) ?_
          refine lv_istore (lv' := [(7, .int 0), (0, .ref (ad 0)), (6, .int x6)]) hx hb dX9_areNames_66 hl (by decide) rfl (fun ls hl => ?_)
          rw [hB68] at hT
          exact hT _ _ _ hP hD hS (lv_sub hl [1, 2, 0] rfl)
        · replace hT := hT.2 c5
          refine lv_iconst (v := 0) hx hb dX9_areNames_63 (by decide) ?_
          exact hret false _ _ _ _ _ hP hD hS hT dX9_areNames_64
    · clear hP hD hS hl H locs ls
      intro S x6 x7 hT
      unfold mT_areNames_68 at hT
      rw [hB68]
      intro H locs ls hP hD hS hl
      refine lv_iload hx hb dX9_areNames_68 (lv_at hl 2 rfl) ?_
      refine lv_iload hx hb dX9_areNames_70 (lv_at hl 1 rfl) ?_
      refine lv_icmp_ge (tgt := 100) hx hb dX9_areNames_72 (by decide) (fun c6 => ?_) (fun c6 => ?_)
      · replace hT := hT.1 c6
        refine lv_iinc (v := x6 + 1) (lv' := [(6, .int (x6 + 1)), (0, .ref (ad 0)), (7, .int x7)]) hx hb dX9_areNames_100 hl (k := 1) rfl rfl (by decide) rfl (fun ls hl => ?_)
        refine lv_goto (tgt := 40) hx hb dX9_areNames_103 (by decide) ?_
        rw [hB40] at hT
        exact hT _ _ _ hP hD hS (lv_sub hl [1, 0] rfl)
      · replace hT := hT.2 c6
        refine lv_aload_n hx hb dX9_areNames_75 rfl (lv_at hl 0 rfl) ?_
        refine mg_names hx hb hts hown hK hP dX9_areNames_76 ?_
        refine lv_iload hx hb dX9_areNames_79 (lv_at hl 2 rfl) ?_
        obtain ⟨hi7, hT⟩ := hT
        refine va_iald (f := S.2.1 26) hx hb hK hP 26 0 mat_26 rfl hi7 dX9_areNames_81 ?_
        refine lv_aload_n hx hb dX9_areNames_82 rfl (lv_at hl 0 rfl) ?_
        refine mg_names hx hb hts hown hK hP dX9_areNames_83 ?_
        refine lv_iload hx hb dX9_areNames_86 (lv_at hl 1 rfl) ?_
        obtain ⟨hi8, hT⟩ := hT
        refine va_iald (f := S.2.1 26) hx hb hK hP 26 0 mat_26 rfl hi8 dX9_areNames_88 ?_
        refine lv_icmp_ne (tgt := 94) hx hb dX9_areNames_89 (by decide) (fun c9 => ?_) (fun c9 => ?_)
        · replace hT := hT.1 c9
          refine lv_iinc (v := x7 + 1) (lv' := [(7, .int (x7 + 1)), (0, .ref (ad 0)), (6, .int x6)]) hx hb dX9_areNames_94 hl (k := 2) rfl rfl (by decide) rfl (fun ls hl => ?_)
          refine lv_goto (tgt := 68) hx hb dX9_areNames_97 (by decide) ?_
          rw [hB68] at hT
          exact hT _ _ _ hP hD hS (lv_sub hl [1, 2, 0] rfl)
        · replace hT := hT.2 c9
          refine lv_iconst (v := 0) hx hb dX9_areNames_92 (by decide) ?_
          exact hret false _ _ _ _ _ hP hD hS hT dX9_areNames_93
  unfold mT_areNames_e at hT
  refine lv_aload_n hx hb dX9_areNames_0 rfl (lv_at hl 0 rfl) ?_
  refine mg_names hx hb hts hown hK hP dX9_areNames_1 ?_
  refine lv_iconst (v := 0) hx hb dX9_areNames_4 (by decide) ?_
  refine lv_iload_n hx hb dX9_areNames_5 rfl (lv_at hl 1 rfl) ?_
  obtain ⟨hi10, hT⟩ := hT
  refine va_iast (f := S0.2.1 26) hx hb hK hP hD hS 26 0 mat_26 rfl hi10 dX9_areNames_6 (fun H locs hP hD hS => ?_)
  replace hP := msetP_26 hP
  replace hD := msetD_26 hD
  refine lv_aload_n hx hb dX9_areNames_7 rfl (lv_at hl 0 rfl) ?_
  refine mg_names hx hb hts hown hK hP dX9_areNames_8 ?_
  refine lv_iconst (v := 1) hx hb dX9_areNames_11 (by decide) ?_
  refine lv_iload_n hx hb dX9_areNames_12 rfl (lv_at hl 2 rfl) ?_
  obtain ⟨hi11, hT⟩ := hT
  refine va_iast (f := upd (S0.2.1 26) (0 : Int32).toNatClampNeg a1) hx hb hK hP hD hS 26 0 mat_26 rfl hi11 dX9_areNames_13 (fun H locs hP hD hS => ?_)
  replace hP := msetP_26 hP
  replace hD := msetD_26 hD
  refine lv_aload_n hx hb dX9_areNames_14 rfl (lv_at hl 0 rfl) ?_
  refine mg_names hx hb hts hown hK hP dX9_areNames_15 ?_
  refine lv_iconst (v := 2) hx hb dX9_areNames_18 (by decide) ?_
  refine lv_iload_n hx hb dX9_areNames_19 rfl (lv_at hl 3 rfl) ?_
  obtain ⟨hi12, hT⟩ := hT
  refine va_iast (f := upd (upd (S0.2.1 26) (0 : Int32).toNatClampNeg a1) (1 : Int32).toNatClampNeg a2) hx hb hK hP hD hS 26 0 mat_26 rfl hi12 dX9_areNames_20 (fun H locs hP hD hS => ?_)
  replace hP := msetP_26 hP
  replace hD := msetD_26 hD
  refine lv_aload_n hx hb dX9_areNames_21 rfl (lv_at hl 0 rfl) ?_
  refine mg_names hx hb hts hown hK hP dX9_areNames_22 ?_
  refine lv_iconst (v := 3) hx hb dX9_areNames_25 (by decide) ?_
  refine lv_iload hx hb dX9_areNames_26 (lv_at hl 4 rfl) ?_
  obtain ⟨hi13, hT⟩ := hT
  refine va_iast (f := upd (upd (upd (S0.2.1 26) (0 : Int32).toNatClampNeg a1) (1 : Int32).toNatClampNeg a2) (2 : Int32).toNatClampNeg a3) hx hb hK hP hD hS 26 0 mat_26 rfl hi13 dX9_areNames_28 (fun H locs hP hD hS => ?_)
  replace hP := msetP_26 hP
  replace hD := msetD_26 hD
  refine lv_aload_n hx hb dX9_areNames_29 rfl (lv_at hl 0 rfl) ?_
  refine mg_names hx hb hts hown hK hP dX9_areNames_30 ?_
  refine lv_iconst (v := 4) hx hb dX9_areNames_33 (by decide) ?_
  refine lv_iload hx hb dX9_areNames_34 (lv_at hl 5 rfl) ?_
  obtain ⟨hi14, hT⟩ := hT
  refine va_iast (f := upd (upd (upd (upd (S0.2.1 26) (0 : Int32).toNatClampNeg a1) (1 : Int32).toNatClampNeg a2) (2 : Int32).toNatClampNeg a3) (3 : Int32).toNatClampNeg a4) hx hb hK hP hD hS 26 0 mat_26 rfl hi14 dX9_areNames_36 (fun H locs hP hD hS => ?_)
  replace hP := msetP_26 hP
  replace hD := msetD_26 hD
  refine lv_iconst (v := 0) hx hb dX9_areNames_37 (by decide) ?_
  refine lv_istore (lv' := [(6, .int 0), (0, .ref (ad 0)), (1, .int a1), (2, .int a2), (3, .int a3), (4, .int a4), (5, .int a5)]) hx hb dX9_areNames_38 hl (by decide) rfl (fun ls hl => ?_)
  rw [hB40] at hT
  exact hT _ _ _ hP hD hS (lv_sub hl [1, 0] rfl)
abbrev mX_rename (l : Launch) (S : MS) (a1 : Int32) (a2 : Int32) (a3 : Int32) (a4 : Int32) (a5 : Int32) (post : Bool → MS → Prop) : Prop := mCtZ l yX9_rename cX9_rename 8 3 71 (fun ad => [.int a1, .int a2, .int a3, .int a4, .int a5]) S post
def mT_rename_28 (l : Launch) (a1 : Int32) (a2 : Int32) (a3 : Int32) (a4 : Int32) (a5 : Int32) (post : Bool → MS → Prop) (B28 : MS → Int32 → Prop) (B72 : MS → Int32 → Prop) (B84 : MS → Int32 → Int32 → Prop) (B176 : MS → Int32 → Prop) (S : MS) (x6 : Int32) : Prop := (25 ≤ x6 → B72 S 0) ∧ (¬ 25 ≤ x6 → vp_in x6 25 ∧ vp_in x6 25 ∧ vp_in x6 25 ∧ vp_in x6 25 ∧ B28 (ma (ma S 27 (upd (S.2.1 27) x6.toNatClampNeg (S.2.1 4 x6.toNatClampNeg))) 28 (upd (S.2.1 28) x6.toNatClampNeg (vp_nar .boolean (S.2.1 5 x6.toNatClampNeg)))) (x6 + 1))
def mT_rename_72 (l : Launch) (a1 : Int32) (a2 : Int32) (a3 : Int32) (a4 : Int32) (a5 : Int32) (post : Bool → MS → Prop) (B28 : MS → Int32 → Prop) (B72 : MS → Int32 → Prop) (B84 : MS → Int32 → Int32 → Prop) (B176 : MS → Int32 → Prop) (S : MS) (x6 : Int32) : Prop := (S.1 0 ≤ x6 → B176 S 0) ∧ (¬ S.1 0 ≤ x6 → B84 S x6 0)
def mT_rename_84 (l : Launch) (a1 : Int32) (a2 : Int32) (a3 : Int32) (a4 : Int32) (a5 : Int32) (post : Bool → MS → Prop) (B28 : MS → Int32 → Prop) (B72 : MS → Int32 → Prop) (B84 : MS → Int32 → Int32 → Prop) (B176 : MS → Int32 → Prop) (S : MS) (x6 : Int32) (x7 : Int32) : Prop := (S.1 0 ≤ x7 → B72 S (x6 + 1)) ∧ (¬ S.1 0 ≤ x7 → vp_in x6 5 ∧ vp_in x7 5 ∧ vp_in ((5 * x6) + x7) 25 ∧ vp_in ((5 * (S.2.1 26 x6.toNatClampNeg)) + (S.2.1 26 x7.toNatClampNeg)) 25 ∧ vp_in x6 5 ∧ vp_in x7 5 ∧ vp_in ((5 * x6) + x7) 25 ∧ vp_in ((5 * (S.2.1 26 x6.toNatClampNeg)) + (S.2.1 26 x7.toNatClampNeg)) 25 ∧ B84 (ma (ma S 4 (upd (S.2.1 4) ((5 * (S.2.1 26 x6.toNatClampNeg)) + (S.2.1 26 x7.toNatClampNeg)).toNatClampNeg (S.2.1 27 ((5 * x6) + x7).toNatClampNeg))) 5 (upd (S.2.1 5) ((5 * (S.2.1 26 x6.toNatClampNeg)) + (S.2.1 26 x7.toNatClampNeg)).toNatClampNeg (vp_nar .boolean (S.2.1 28 ((5 * x6) + x7).toNatClampNeg)))) x6 (x7 + 1))
def mT_rename_176 (l : Launch) (a1 : Int32) (a2 : Int32) (a3 : Int32) (a4 : Int32) (a5 : Int32) (post : Bool → MS → Prop) (B28 : MS → Int32 → Prop) (B72 : MS → Int32 → Prop) (B84 : MS → Int32 → Int32 → Prop) (B176 : MS → Int32 → Prop) (S : MS) (x6 : Int32) : Prop := (S.1 1 ≤ x6 → mX_nothingUndone l S (fun S17 => post true S17)) ∧ (¬ S.1 1 ≤ x6 → vp_in x6 7 ∧ vp_in (S.2.1 2 x6.toNatClampNeg) 5 ∧ vp_in x6 7 ∧ vp_in x6 7 ∧ vp_in (S.2.1 3 x6.toNatClampNeg) 5 ∧ vp_in x6 7 ∧ B176 (ma (ma S 2 (upd (S.2.1 2) x6.toNatClampNeg (S.2.1 26 (S.2.1 2 x6.toNatClampNeg).toNatClampNeg))) 3 (upd (S.2.1 3) x6.toNatClampNeg (S.2.1 26 (S.2.1 3 x6.toNatClampNeg).toNatClampNeg))) (x6 + 1))
def mT_rename_e (l : Launch) (a1 : Int32) (a2 : Int32) (a3 : Int32) (a4 : Int32) (a5 : Int32) (post : Bool → MS → Prop) (B28 : MS → Int32 → Prop) (B72 : MS → Int32 → Prop) (B84 : MS → Int32 → Int32 → Prop) (B176 : MS → Int32 → Prop) (S0 : MS) : Prop := mX_areNames l (mf S0 3 0) a1 a2 a3 a4 a5 (fun b25 S24 => (¬ bI b25 = 0 → B28 S24 0) ∧ (bI b25 = 0 → mX_not l S24 1 (fun b28 S27 => post b28 S27)))
set_option maxHeartbeats 4000000 in
set_option maxRecDepth 100000 in
theorem m_rename (l : Launch) (S0 : MS) (a1 : Int32) (a2 : Int32) (a3 : Int32) (a4 : Int32) (a5 : Int32) (post : Bool → MS → Prop) (h : ∀ (B28 : MS → Int32 → Prop) (B72 : MS → Int32 → Prop) (B84 : MS → Int32 → Int32 → Prop) (B176 : MS → Int32 → Prop), (∀ (S : MS) (x6 : Int32), mT_rename_28 l a1 a2 a3 a4 a5 post B28 B72 B84 B176 S x6 → B28 S x6) → (∀ (S : MS) (x6 : Int32), mT_rename_72 l a1 a2 a3 a4 a5 post B28 B72 B84 B176 S x6 → B72 S x6) → (∀ (S : MS) (x6 : Int32) (x7 : Int32), mT_rename_84 l a1 a2 a3 a4 a5 post B28 B72 B84 B176 S x6 x7 → B84 S x6 x7) → (∀ (S : MS) (x6 : Int32), mT_rename_176 l a1 a2 a3 a4 a5 post B28 B72 B84 B176 S x6 → B176 S x6) → mT_rename_e l a1 a2 a3 a4 a5 post B28 B72 B84 B176 S0) : mX_rename l S0 a1 a2 a3 a4 a5 post := by
  refine msetZ rfl (fun _ => Nat.le_of_ble_eq_true rfl) ?_
  intro p e s m args below meth c D ad cI cZ cL A Q hx hb hml hown hts hK hA hret H locs ls hP hD hS hl
  replace hl : lv_has ls 8 [(0, .ref (ad 0)), (1, .int a1), (2, .int a2), (3, .int a3), (4, .int a4), (5, .int a5)] := hl
  obtain ⟨B28, hB28⟩ : ∃ B : MS → Int32 → Prop, B = (fun S x6 => ∀ (H : Heap) (locs : List Loc) (ls : Array Slot), va_P D vwCl (mW ad cI cZ cL S) H → va_D A (mW ad cI cZ cL S) → va_S A s.heap H locs → lv_has ls 8 [(0, .ref (ad 0)), (6, .int x6)] → W p l e (mrm 3 71) s m args below meth c H locs 0 0 Q (F0 m 28 ls [])) := ⟨_, rfl⟩
  obtain ⟨B72, hB72⟩ : ∃ B : MS → Int32 → Prop, B = (fun S x6 => ∀ (H : Heap) (locs : List Loc) (ls : Array Slot), va_P D vwCl (mW ad cI cZ cL S) H → va_D A (mW ad cI cZ cL S) → va_S A s.heap H locs → lv_has ls 8 [(0, .ref (ad 0)), (6, .int x6)] → W p l e (mrm 3 71) s m args below meth c H locs 0 0 Q (F0 m 72 ls [])) := ⟨_, rfl⟩
  obtain ⟨B84, hB84⟩ : ∃ B : MS → Int32 → Int32 → Prop, B = (fun S x6 x7 => ∀ (H : Heap) (locs : List Loc) (ls : Array Slot), va_P D vwCl (mW ad cI cZ cL S) H → va_D A (mW ad cI cZ cL S) → va_S A s.heap H locs → lv_has ls 8 [(0, .ref (ad 0)), (6, .int x6), (7, .int x7)] → W p l e (mrm 3 71) s m args below meth c H locs 0 0 Q (F0 m 84 ls [])) := ⟨_, rfl⟩
  obtain ⟨B176, hB176⟩ : ∃ B : MS → Int32 → Prop, B = (fun S x6 => ∀ (H : Heap) (locs : List Loc) (ls : Array Slot), va_P D vwCl (mW ad cI cZ cL S) H → va_D A (mW ad cI cZ cL S) → va_S A s.heap H locs → lv_has ls 8 [(0, .ref (ad 0)), (6, .int x6)] → W p l e (mrm 3 71) s m args below meth c H locs 0 0 Q (F0 m 176 ls [])) := ⟨_, rfl⟩
  have hT : mT_rename_e l a1 a2 a3 a4 a5 post B28 B72 B84 B176 S0 := by
    refine h B28 B72 B84 B176 ?_ ?_ ?_ ?_
    · clear hP hD hS hl H locs ls
      intro S x6 hT
      unfold mT_rename_28 at hT
      rw [hB28]
      intro H locs ls hP hD hS hl
      refine lv_iload hx hb dX9_rename_28 (lv_at hl 1 rfl) ?_
      refine lv_bipush (v := 25) hx hb dX9_rename_30 (by decide) ?_
      refine lv_icmp_ge (tgt := 69) hx hb dX9_rename_32 (by decide) (fun c1 => ?_) (fun c1 => ?_)
      · replace hT := hT.1 c1
        refine lv_iconst (v := 0) hx hb dX9_rename_69 (by decide) ?_
        refine lv_istore (lv' := [(6, .int 0), (0, .ref (ad 0))]) hx hb dX9_rename_70 hl (by decide) rfl (fun ls hl => ?_)
        rw [hB72] at hT
        exact hT _ _ _ hP hD hS (lv_sub hl [1, 0] rfl)
      · replace hT := hT.2 c1
        refine lv_aload_n hx hb dX9_rename_35 rfl (lv_at hl 0 rfl) ?_
        refine mg_spareCosts hx hb hts hown hK hP dX9_rename_36 ?_
        refine lv_iload hx hb dX9_rename_39 (lv_at hl 1 rfl) ?_
        refine lv_aload_n hx hb dX9_rename_41 rfl (lv_at hl 0 rfl) ?_
        refine mg_costs hx hb hts hown hK hP dX9_rename_42 ?_
        refine lv_iload hx hb dX9_rename_45 (lv_at hl 1 rfl) ?_
        obtain ⟨hi2, hT⟩ := hT
        refine va_iald (f := S.2.1 4) hx hb hK hP 4 0 mat_4 rfl hi2 dX9_rename_47 ?_
        obtain ⟨hi3, hT⟩ := hT
        refine va_iast (f := S.2.1 27) hx hb hK hP hD hS 27 0 mat_27 rfl hi3 dX9_rename_48 (fun H locs hP hD hS => ?_)
        replace hP := msetP_27 hP
        replace hD := msetD_27 hD
        refine lv_aload_n hx hb dX9_rename_49 rfl (lv_at hl 0 rfl) ?_
        refine mg_spareStrong hx hb hts hown hK hP dX9_rename_50 ?_
        refine lv_iload hx hb dX9_rename_53 (lv_at hl 1 rfl) ?_
        refine lv_aload_n hx hb dX9_rename_55 rfl (lv_at hl 0 rfl) ?_
        refine mg_isStrong hx hb hts hown hK hP dX9_rename_56 ?_
        refine lv_iload hx hb dX9_rename_59 (lv_at hl 1 rfl) ?_
        obtain ⟨hi4, hT⟩ := hT
        refine va_zald (f := S.2.1 5) hx hb hK hP 5 1 mat_5 rfl hi4 dX9_rename_61 ?_
        obtain ⟨hi5, hT⟩ := hT
        refine va_zast (f := S.2.1 28) hx hb hK hP hD hS 28 1 mat_28 rfl hi5 dX9_rename_62 (fun H locs hP hD hS => ?_)
        replace hP := msetP_28 hP
        replace hD := msetD_28 hD
        refine lv_iinc (v := x6 + 1) (lv' := [(6, .int (x6 + 1)), (0, .ref (ad 0))]) hx hb dX9_rename_63 hl (k := 1) rfl rfl (by decide) rfl (fun ls hl => ?_)
        refine lv_goto (tgt := 28) hx hb dX9_rename_66 (by decide) ?_
        rw [hB28] at hT
        exact hT _ _ _ hP hD hS (lv_sub hl [1, 0] rfl)
    · clear hP hD hS hl H locs ls
      intro S x6 hT
      unfold mT_rename_72 at hT
      rw [hB72]
      intro H locs ls hP hD hS hl
      refine lv_iload hx hb dX9_rename_72 (lv_at hl 1 rfl) ?_
      refine lv_aload_n hx hb dX9_rename_74 rfl (lv_at hl 0 rfl) ?_
      refine mg_pegs (v := S.1 0) hx hb hts hown hK hP rfl dX9_rename_75 ?_
      refine lv_icmp_ge (tgt := 173) hx hb dX9_rename_78 (by decide) (fun c6 => ?_) (fun c6 => ?_)
      · replace hT := hT.1 c6
        refine lv_iconst (v := 0) hx hb dX9_rename_173 (by decide) ?_
        refine lv_istore (lv' := [(6, .int 0), (0, .ref (ad 0))]) hx hb dX9_rename_174 hl (by decide) rfl (fun ls hl => ?_)
        rw [hB176] at hT
        exact hT _ _ _ hP hD hS (lv_sub hl [1, 0] rfl)
      · replace hT := hT.2 c6
        refine lv_iconst (v := 0) hx hb dX9_rename_81 (by decide) ?_
        refine lv_istore (lv' := [(7, .int 0), (0, .ref (ad 0)), (6, .int x6)]) hx hb dX9_rename_82 hl (by decide) rfl (fun ls hl => ?_)
        rw [hB84] at hT
        exact hT _ _ _ hP hD hS (lv_sub hl [1, 2, 0] rfl)
    · clear hP hD hS hl H locs ls
      intro S x6 x7 hT
      unfold mT_rename_84 at hT
      rw [hB84]
      intro H locs ls hP hD hS hl
      refine lv_iload hx hb dX9_rename_84 (lv_at hl 2 rfl) ?_
      refine lv_aload_n hx hb dX9_rename_86 rfl (lv_at hl 0 rfl) ?_
      refine mg_pegs (v := S.1 0) hx hb hts hown hK hP rfl dX9_rename_87 ?_
      refine lv_icmp_ge (tgt := 167) hx hb dX9_rename_90 (by decide) (fun c7 => ?_) (fun c7 => ?_)
      · replace hT := hT.1 c7
        refine lv_iinc (v := x6 + 1) (lv' := [(6, .int (x6 + 1)), (0, .ref (ad 0)), (7, .int x7)]) hx hb dX9_rename_167 hl (k := 1) rfl rfl (by decide) rfl (fun ls hl => ?_)
        refine lv_goto (tgt := 72) hx hb dX9_rename_170 (by decide) ?_
        rw [hB72] at hT
        exact hT _ _ _ hP hD hS (lv_sub hl [1, 0] rfl)
      · replace hT := hT.2 c7
        refine lv_aload_n hx hb dX9_rename_93 rfl (lv_at hl 0 rfl) ?_
        refine mg_costs hx hb hts hown hK hP dX9_rename_94 ?_
        refine lv_iconst (v := 5) hx hb dX9_rename_97 (by decide) ?_
        refine lv_aload_n hx hb dX9_rename_98 rfl (lv_at hl 0 rfl) ?_
        refine mg_names hx hb hts hown hK hP dX9_rename_99 ?_
        refine lv_iload hx hb dX9_rename_102 (lv_at hl 1 rfl) ?_
        obtain ⟨hi8, hT⟩ := hT
        refine va_iald (f := S.2.1 26) hx hb hK hP 26 0 mat_26 rfl hi8 dX9_rename_104 ?_
        refine lv_imul hx hb dX9_rename_105 ?_
        refine lv_aload_n hx hb dX9_rename_106 rfl (lv_at hl 0 rfl) ?_
        refine mg_names hx hb hts hown hK hP dX9_rename_107 ?_
        refine lv_iload hx hb dX9_rename_110 (lv_at hl 2 rfl) ?_
        obtain ⟨hi9, hT⟩ := hT
        refine va_iald (f := S.2.1 26) hx hb hK hP 26 0 mat_26 rfl hi9 dX9_rename_112 ?_
        refine lv_iadd hx hb dX9_rename_113 ?_
        refine lv_aload_n hx hb dX9_rename_114 rfl (lv_at hl 0 rfl) ?_
        refine mg_spareCosts hx hb hts hown hK hP dX9_rename_115 ?_
        refine lv_iconst (v := 5) hx hb dX9_rename_118 (by decide) ?_
        refine lv_iload hx hb dX9_rename_119 (lv_at hl 1 rfl) ?_
        refine lv_imul hx hb dX9_rename_121 ?_
        refine lv_iload hx hb dX9_rename_122 (lv_at hl 2 rfl) ?_
        refine lv_iadd hx hb dX9_rename_124 ?_
        obtain ⟨hi10, hT⟩ := hT
        refine va_iald (f := S.2.1 27) hx hb hK hP 27 0 mat_27 rfl hi10 dX9_rename_125 ?_
        obtain ⟨hi11, hT⟩ := hT
        refine va_iast (f := S.2.1 4) hx hb hK hP hD hS 4 0 mat_4 rfl hi11 dX9_rename_126 (fun H locs hP hD hS => ?_)
        replace hP := msetP_4 hP
        replace hD := msetD_4 hD
        refine lv_aload_n hx hb dX9_rename_127 rfl (lv_at hl 0 rfl) ?_
        refine mg_isStrong hx hb hts hown hK hP dX9_rename_128 ?_
        refine lv_iconst (v := 5) hx hb dX9_rename_131 (by decide) ?_
        refine lv_aload_n hx hb dX9_rename_132 rfl (lv_at hl 0 rfl) ?_
        refine mg_names hx hb hts hown hK hP dX9_rename_133 ?_
        refine lv_iload hx hb dX9_rename_136 (lv_at hl 1 rfl) ?_
        obtain ⟨hi12, hT⟩ := hT
        refine va_iald (f := S.2.1 26) hx hb hK hP 26 0 mat_26 rfl hi12 dX9_rename_138 ?_
        refine lv_imul hx hb dX9_rename_139 ?_
        refine lv_aload_n hx hb dX9_rename_140 rfl (lv_at hl 0 rfl) ?_
        refine mg_names hx hb hts hown hK hP dX9_rename_141 ?_
        refine lv_iload hx hb dX9_rename_144 (lv_at hl 2 rfl) ?_
        obtain ⟨hi13, hT⟩ := hT
        refine va_iald (f := S.2.1 26) hx hb hK hP 26 0 mat_26 rfl hi13 dX9_rename_146 ?_
        refine lv_iadd hx hb dX9_rename_147 ?_
        refine lv_aload_n hx hb dX9_rename_148 rfl (lv_at hl 0 rfl) ?_
        refine mg_spareStrong hx hb hts hown hK hP dX9_rename_149 ?_
        refine lv_iconst (v := 5) hx hb dX9_rename_152 (by decide) ?_
        refine lv_iload hx hb dX9_rename_153 (lv_at hl 1 rfl) ?_
        refine lv_imul hx hb dX9_rename_155 ?_
        refine lv_iload hx hb dX9_rename_156 (lv_at hl 2 rfl) ?_
        refine lv_iadd hx hb dX9_rename_158 ?_
        obtain ⟨hi14, hT⟩ := hT
        refine va_zald (f := S.2.1 28) hx hb hK hP 28 1 mat_28 rfl hi14 dX9_rename_159 ?_
        obtain ⟨hi15, hT⟩ := hT
        refine va_zast (f := S.2.1 5) hx hb hK hP hD hS 5 1 mat_5 rfl hi15 dX9_rename_160 (fun H locs hP hD hS => ?_)
        replace hP := msetP_5 hP
        replace hD := msetD_5 hD
        refine lv_iinc (v := x7 + 1) (lv' := [(7, .int (x7 + 1)), (0, .ref (ad 0)), (6, .int x6)]) hx hb dX9_rename_161 hl (k := 2) rfl rfl (by decide) rfl (fun ls hl => ?_)
        refine lv_goto (tgt := 84) hx hb dX9_rename_164 (by decide) ?_
        rw [hB84] at hT
        exact hT _ _ _ hP hD hS (lv_sub hl [1, 2, 0] rfl)
    · clear hP hD hS hl H locs ls
      intro S x6 hT
      unfold mT_rename_176 at hT
      rw [hB176]
      intro H locs ls hP hD hS hl
      refine lv_iload hx hb dX9_rename_176 (lv_at hl 1 rfl) ?_
      refine lv_aload_n hx hb dX9_rename_178 rfl (lv_at hl 0 rfl) ?_
      refine mg_discs (v := S.1 1) hx hb hts hown hK hP rfl dX9_rename_179 ?_
      refine lv_icmp_ge (tgt := 229) hx hb dX9_rename_182 (by decide) (fun c16 => ?_) (fun c16 => ?_)
      · replace hT := hT.1 c16
        refine lv_aload_n hx hb dX9_rename_229 rfl (lv_at hl 0 rfl) ?_
        refine mcallV (n := 0) (rest := []) hT hx hb hml hown hts hK hA hP hD hS hl gg_163 hd_X9_nothingUndone ⟨Nat.le_of_ble_eq_true rfl, Nat.le_of_ble_eq_true rfl⟩ rfl rfl (Nat.le_of_ble_eq_true rfl) dX9_rename_230 (Nat.zero_le _) (Nat.zero_le _) (fun S17 H locs hP hD hS hT => ?_)
        refine lv_iconst (v := 1) hx hb dX9_rename_233 (by decide) ?_
        exact hret true _ _ _ _ _ hP hD hS hT dX9_rename_234
      · replace hT := hT.2 c16
        refine lv_aload_n hx hb dX9_rename_185 rfl (lv_at hl 0 rfl) ?_
        refine mg_stand hx hb hts hown hK hP dX9_rename_186 ?_
        refine lv_iload hx hb dX9_rename_189 (lv_at hl 1 rfl) ?_
        refine lv_aload_n hx hb dX9_rename_191 rfl (lv_at hl 0 rfl) ?_
        refine mg_names hx hb hts hown hK hP dX9_rename_192 ?_
        refine lv_aload_n hx hb dX9_rename_195 rfl (lv_at hl 0 rfl) ?_
        refine mg_stand hx hb hts hown hK hP dX9_rename_196 ?_
        refine lv_iload hx hb dX9_rename_199 (lv_at hl 1 rfl) ?_
        obtain ⟨hi18, hT⟩ := hT
        refine va_iald (f := S.2.1 2) hx hb hK hP 2 0 mat_2 rfl hi18 dX9_rename_201 ?_
        obtain ⟨hi19, hT⟩ := hT
        refine va_iald (f := S.2.1 26) hx hb hK hP 26 0 mat_26 rfl hi19 dX9_rename_202 ?_
        obtain ⟨hi20, hT⟩ := hT
        refine va_iast (f := S.2.1 2) hx hb hK hP hD hS 2 0 mat_2 rfl hi20 dX9_rename_203 (fun H locs hP hD hS => ?_)
        replace hP := msetP_2 hP
        replace hD := msetD_2 hD
        refine lv_aload_n hx hb dX9_rename_204 rfl (lv_at hl 0 rfl) ?_
        refine mg_goal hx hb hts hown hK hP dX9_rename_205 ?_
        refine lv_iload hx hb dX9_rename_208 (lv_at hl 1 rfl) ?_
        refine lv_aload_n hx hb dX9_rename_210 rfl (lv_at hl 0 rfl) ?_
        refine mg_names hx hb hts hown hK hP dX9_rename_211 ?_
        refine lv_aload_n hx hb dX9_rename_214 rfl (lv_at hl 0 rfl) ?_
        refine mg_goal hx hb hts hown hK hP dX9_rename_215 ?_
        refine lv_iload hx hb dX9_rename_218 (lv_at hl 1 rfl) ?_
        obtain ⟨hi21, hT⟩ := hT
        refine va_iald (f := S.2.1 3) hx hb hK hP 3 0 mat_3 rfl hi21 dX9_rename_220 ?_
        obtain ⟨hi22, hT⟩ := hT
        refine va_iald (f := S.2.1 26) hx hb hK hP 26 0 mat_26 rfl hi22 dX9_rename_221 ?_
        obtain ⟨hi23, hT⟩ := hT
        refine va_iast (f := S.2.1 3) hx hb hK hP hD hS 3 0 mat_3 rfl hi23 dX9_rename_222 (fun H locs hP hD hS => ?_)
        replace hP := msetP_3 hP
        replace hD := msetD_3 hD
        refine lv_iinc (v := x6 + 1) (lv' := [(6, .int (x6 + 1)), (0, .ref (ad 0))]) hx hb dX9_rename_223 hl (k := 1) rfl rfl (by decide) rfl (fun ls hl => ?_)
        refine lv_goto (tgt := 176) hx hb dX9_rename_226 (by decide) ?_
        rw [hB176] at hT
        exact hT _ _ _ hP hD hS (lv_sub hl [1, 0] rfl)
  unfold mT_rename_e at hT
  refine lv_aload_n hx hb dX9_rename_0 rfl (lv_at hl 0 rfl) ?_
  refine lv_iconst (v := 0) hx hb dX9_rename_1 (by decide) ?_
  refine mp_thrown hx hb hts hown hK hP hD hS dX9_rename_2 (fun H locs hP hD hS => ?_)
  refine lv_aload_n hx hb dX9_rename_5 rfl (lv_at hl 0 rfl) ?_
  refine lv_iload_n hx hb dX9_rename_6 rfl (lv_at hl 1 rfl) ?_
  refine lv_iload_n hx hb dX9_rename_7 rfl (lv_at hl 2 rfl) ?_
  refine lv_iload_n hx hb dX9_rename_8 rfl (lv_at hl 3 rfl) ?_
  refine lv_iload hx hb dX9_rename_9 (lv_at hl 4 rfl) ?_
  refine lv_iload hx hb dX9_rename_11 (lv_at hl 5 rfl) ?_
  refine mcallZ (n := 5) (rest := []) hT hx hb hml hown hts hK hA hP hD hS hl gg_235 hd_X9_areNames ⟨Nat.le_of_ble_eq_true rfl, Nat.le_of_ble_eq_true rfl⟩ rfl rfl (Nat.le_of_ble_eq_true rfl) dX9_rename_13 (Nat.zero_le _) (Nat.zero_le _) (fun b25 S24 H locs hP hD hS hT => ?_)
  refine lv_if_ne (tgt := 25) hx hb dX9_rename_16 (by decide) (fun c26 => ?_) (fun c26 => ?_)
  · replace hT := hT.1 c26
    refine lv_iconst (v := 0) hx hb dX9_rename_25 (by decide) ?_
    refine lv_istore (lv' := [(6, .int 0), (0, .ref (ad 0)), (1, .int a1), (2, .int a2), (3, .int a3), (4, .int a4), (5, .int a5)]) hx hb dX9_rename_26 hl (by decide) rfl (fun ls hl => ?_)
    rw [hB28] at hT
    exact hT _ _ _ hP hD hS (lv_sub hl [1, 0] rfl)
  · replace hT := hT.2 c26
    refine lv_aload_n hx hb dX9_rename_19 rfl (lv_at hl 0 rfl) ?_
    refine lv_iconst (v := 1) hx hb dX9_rename_20 (by decide) ?_
    refine mcallZ (n := 1) (rest := []) hT hx hb hml hown hts hK hA hP hD hS hl gg_159 hd_X9_not ⟨Nat.le_of_ble_eq_true rfl, Nat.le_of_ble_eq_true rfl⟩ rfl rfl (Nat.le_of_ble_eq_true rfl) dX9_rename_21 (Nat.zero_le _) (Nat.zero_le _) (fun b28 S27 H locs hP hD hS hT => ?_)
    exact hret b28 _ _ _ _ _ hP hD hS hT dX9_rename_24
end
section
abbrev mX_about (l : Launch) (S : MS) (post : Int32 → MS → Prop) : Prop := mCtI l yX9_about cX9_about 5 1 22 (fun ad => []) S post
def mT_about_7 (l : Launch) (post : Int32 → MS → Prop) (B7 : MS → Int32 → Prop) (B16 : MS → Int32 → Int32 → Prop) (B121 : MS → Int32 → Prop) (S : MS) (x1 : Int32) : Prop := (5 ≤ x1 → B121 S 0) ∧ (¬ 5 ≤ x1 → ∀ v2_2 : Int32, v2_2 = x1 + 1 → B16 S x1 v2_2)
def mT_about_16 (l : Launch) (post : Int32 → MS → Prop) (B7 : MS → Int32 → Prop) (B16 : MS → Int32 → Int32 → Prop) (B121 : MS → Int32 → Prop) (S : MS) (x1 : Int32) (x2 : Int32) : Prop := (5 ≤ x2 → B7 S (x1 + 1)) ∧ (¬ 5 ≤ x2 → vp_in ((5 * x1) + x2) 25 ∧ ∀ v3_5 : Int32, v3_5 = S.2.1 4 ((5 * x1) + x2).toNatClampNeg → vp_in ((5 * x1) + x2) 25 ∧ ∀ v4_7 : Int32, v4_7 = S.2.1 5 ((5 * x1) + x2).toNatClampNeg → vp_in ((5 * x2) + x1) 25 ∧ vp_in ((5 * x1) + x2) 25 ∧ vp_in ((5 * x2) + x1) 25 ∧ vp_in ((5 * x1) + x2) 25 ∧ vp_in ((5 * x2) + x1) 25 ∧ vp_in ((5 * x2) + x1) 25 ∧ B16 (ma (ma (ma (ma S 4 (upd (S.2.1 4) ((5 * x1) + x2).toNatClampNeg (S.2.1 4 ((5 * x2) + x1).toNatClampNeg))) 5 (upd (S.2.1 5) ((5 * x1) + x2).toNatClampNeg (vp_nar .boolean (S.2.1 5 ((5 * x2) + x1).toNatClampNeg)))) 4 (upd (upd (S.2.1 4) ((5 * x1) + x2).toNatClampNeg (S.2.1 4 ((5 * x2) + x1).toNatClampNeg)) ((5 * x2) + x1).toNatClampNeg v3_5)) 5 (upd (upd (S.2.1 5) ((5 * x1) + x2).toNatClampNeg (vp_nar .boolean (S.2.1 5 ((5 * x2) + x1).toNatClampNeg))) ((5 * x2) + x1).toNatClampNeg (vp_nar .boolean v4_7))) x1 (x2 + 1))
def mT_about_121 (l : Launch) (post : Int32 → MS → Prop) (B7 : MS → Int32 → Prop) (B16 : MS → Int32 → Int32 → Prop) (B121 : MS → Int32 → Prop) (S : MS) (x1 : Int32) : Prop := (S.1 1 ≤ x1 → mX_lanesThere l (mf (mf S 4 0) 5 0) (fun r16 S15 => post r16 S15)) ∧ (¬ S.1 1 ≤ x1 → vp_in x1 7 ∧ ∀ v2_18 : Int32, v2_18 = S.2.1 2 x1.toNatClampNeg → vp_in x1 7 ∧ vp_in x1 7 ∧ vp_in x1 7 ∧ B121 (ma (ma S 2 (upd (S.2.1 2) x1.toNatClampNeg (S.2.1 3 x1.toNatClampNeg))) 3 (upd (S.2.1 3) x1.toNatClampNeg v2_18)) (x1 + 1))
def mT_about_e (l : Launch) (post : Int32 → MS → Prop) (B7 : MS → Int32 → Prop) (B16 : MS → Int32 → Int32 → Prop) (B121 : MS → Int32 → Prop) (S0 : MS) : Prop := B7 (mf S0 3 0) 0
set_option maxHeartbeats 4000000 in
set_option maxRecDepth 100000 in
theorem m_about (l : Launch) (S0 : MS) (post : Int32 → MS → Prop) (h : ∀ (B7 : MS → Int32 → Prop) (B16 : MS → Int32 → Int32 → Prop) (B121 : MS → Int32 → Prop), (∀ (S : MS) (x1 : Int32), mT_about_7 l post B7 B16 B121 S x1 → B7 S x1) → (∀ (S : MS) (x1 : Int32) (x2 : Int32), mT_about_16 l post B7 B16 B121 S x1 x2 → B16 S x1 x2) → (∀ (S : MS) (x1 : Int32), mT_about_121 l post B7 B16 B121 S x1 → B121 S x1) → mT_about_e l post B7 B16 B121 S0) : mX_about l S0 post := by
  refine msetI rfl (fun _ => Nat.le_of_ble_eq_true rfl) ?_
  intro p e s m args below meth c D ad cI cZ cL A Q hx hb hml hown hts hK hA hret H locs ls hP hD hS hl
  replace hl : lv_has ls 5 [(0, .ref (ad 0))] := hl
  obtain ⟨B7, hB7⟩ : ∃ B : MS → Int32 → Prop, B = (fun S x1 => ∀ (H : Heap) (locs : List Loc) (ls : Array Slot), va_P D vwCl (mW ad cI cZ cL S) H → va_D A (mW ad cI cZ cL S) → va_S A s.heap H locs → lv_has ls 5 [(0, .ref (ad 0)), (1, .int x1)] → W p l e (mrm 1 22) s m args below meth c H locs 0 0 Q (F0 m 7 ls [])) := ⟨_, rfl⟩
  obtain ⟨B16, hB16⟩ : ∃ B : MS → Int32 → Int32 → Prop, B = (fun S x1 x2 => ∀ (H : Heap) (locs : List Loc) (ls : Array Slot), va_P D vwCl (mW ad cI cZ cL S) H → va_D A (mW ad cI cZ cL S) → va_S A s.heap H locs → lv_has ls 5 [(0, .ref (ad 0)), (1, .int x1), (2, .int x2)] → W p l e (mrm 1 22) s m args below meth c H locs 0 0 Q (F0 m 16 ls [])) := ⟨_, rfl⟩
  obtain ⟨B121, hB121⟩ : ∃ B : MS → Int32 → Prop, B = (fun S x1 => ∀ (H : Heap) (locs : List Loc) (ls : Array Slot), va_P D vwCl (mW ad cI cZ cL S) H → va_D A (mW ad cI cZ cL S) → va_S A s.heap H locs → lv_has ls 5 [(0, .ref (ad 0)), (1, .int x1)] → W p l e (mrm 1 22) s m args below meth c H locs 0 0 Q (F0 m 121 ls [])) := ⟨_, rfl⟩
  have hT : mT_about_e l post B7 B16 B121 S0 := by
    refine h B7 B16 B121 ?_ ?_ ?_
    · clear hP hD hS hl H locs ls
      intro S x1 hT
      unfold mT_about_7 at hT
      rw [hB7]
      intro H locs ls hP hD hS hl
      refine lv_iload_n hx hb dX9_about_7 rfl (lv_at hl 1 rfl) ?_
      refine lv_iconst (v := 5) hx hb dX9_about_8 (by decide) ?_
      refine lv_icmp_ge (tgt := 119) hx hb dX9_about_9 (by decide) (fun c1 => ?_) (fun c1 => ?_)
      · replace hT := hT.1 c1
        refine lv_iconst (v := 0) hx hb dX9_about_119 (by decide) ?_
        refine lv_istore_n (lv' := [(1, .int 0), (0, .ref (ad 0))]) hx hb dX9_about_120 rfl hl (by decide) rfl (fun ls hl => ?_)
        rw [hB121] at hT
        exact hT _ _ _ hP hD hS (lv_sub hl [1, 0] rfl)
      · replace hT := hT.2 c1
        refine lv_iload_n hx hb dX9_about_12 rfl (lv_at hl 1 rfl) ?_
        refine lv_iconst (v := 1) hx hb dX9_about_13 (by decide) ?_
        refine lv_iadd hx hb dX9_about_14 ?_
        refine lv_topi (fun v2_2 ev2_2 => ?_)
        replace hT := hT v2_2 ev2_2
        refine lv_istore_n (lv' := [(2, .int v2_2), (0, .ref (ad 0)), (1, .int x1)]) hx hb dX9_about_15 rfl hl (by decide) rfl (fun ls hl => ?_)
        rw [hB16] at hT
        exact hT _ _ _ hP hD hS (lv_sub hl [1, 2, 0] rfl)
    · clear hP hD hS hl H locs ls
      intro S x1 x2 hT
      unfold mT_about_16 at hT
      rw [hB16]
      intro H locs ls hP hD hS hl
      refine lv_iload_n hx hb dX9_about_16 rfl (lv_at hl 2 rfl) ?_
      refine lv_iconst (v := 5) hx hb dX9_about_17 (by decide) ?_
      refine lv_icmp_ge (tgt := 113) hx hb dX9_about_18 (by decide) (fun c3 => ?_) (fun c3 => ?_)
      · replace hT := hT.1 c3
        refine lv_iinc (v := x1 + 1) (lv' := [(1, .int (x1 + 1)), (0, .ref (ad 0)), (2, .int x2)]) hx hb dX9_about_113 hl (k := 1) rfl rfl (by decide) rfl (fun ls hl => ?_)
        refine lv_goto (tgt := 7) hx hb dX9_about_116 (by decide) ?_
        rw [hB7] at hT
        exact hT _ _ _ hP hD hS (lv_sub hl [1, 0] rfl)
      · replace hT := hT.2 c3
        refine lv_aload_n hx hb dX9_about_21 rfl (lv_at hl 0 rfl) ?_
        refine mg_costs hx hb hts hown hK hP dX9_about_22 ?_
        refine lv_iconst (v := 5) hx hb dX9_about_25 (by decide) ?_
        refine lv_iload_n hx hb dX9_about_26 rfl (lv_at hl 1 rfl) ?_
        refine lv_imul hx hb dX9_about_27 ?_
        refine lv_iload_n hx hb dX9_about_28 rfl (lv_at hl 2 rfl) ?_
        refine lv_iadd hx hb dX9_about_29 ?_
        obtain ⟨hi4, hT⟩ := hT
        refine va_iald (f := S.2.1 4) hx hb hK hP 4 0 mat_4 rfl hi4 dX9_about_30 ?_
        refine lv_topi (fun v3_5 ev3_5 => ?_)
        replace hT := hT v3_5 ev3_5
        refine lv_istore_n (lv' := [(3, .int v3_5), (0, .ref (ad 0)), (1, .int x1), (2, .int x2)]) hx hb dX9_about_31 rfl hl (by decide) rfl (fun ls hl => ?_)
        refine lv_aload_n hx hb dX9_about_32 rfl (lv_at hl 1 rfl) ?_
        refine mg_isStrong hx hb hts hown hK hP dX9_about_33 ?_
        refine lv_iconst (v := 5) hx hb dX9_about_36 (by decide) ?_
        refine lv_iload_n hx hb dX9_about_37 rfl (lv_at hl 2 rfl) ?_
        refine lv_imul hx hb dX9_about_38 ?_
        refine lv_iload_n hx hb dX9_about_39 rfl (lv_at hl 3 rfl) ?_
        refine lv_iadd hx hb dX9_about_40 ?_
        obtain ⟨hi6, hT⟩ := hT
        refine va_zald (f := S.2.1 5) hx hb hK hP 5 1 mat_5 rfl hi6 dX9_about_41 ?_
        refine lv_topi (fun v4_7 ev4_7 => ?_)
        replace hT := hT v4_7 ev4_7
        refine lv_istore (lv' := [(4, .int v4_7), (3, .int v3_5), (0, .ref (ad 0)), (1, .int x1), (2, .int x2)]) hx hb dX9_about_42 hl (by decide) rfl (fun ls hl => ?_)
        refine lv_aload_n hx hb dX9_about_44 rfl (lv_at hl 2 rfl) ?_
        refine mg_costs hx hb hts hown hK hP dX9_about_45 ?_
        refine lv_iconst (v := 5) hx hb dX9_about_48 (by decide) ?_
        refine lv_iload_n hx hb dX9_about_49 rfl (lv_at hl 3 rfl) ?_
        refine lv_imul hx hb dX9_about_50 ?_
        refine lv_iload_n hx hb dX9_about_51 rfl (lv_at hl 4 rfl) ?_
        refine lv_iadd hx hb dX9_about_52 ?_
        refine lv_aload_n hx hb dX9_about_53 rfl (lv_at hl 2 rfl) ?_
        refine mg_costs hx hb hts hown hK hP dX9_about_54 ?_
        refine lv_iconst (v := 5) hx hb dX9_about_57 (by decide) ?_
        refine lv_iload_n hx hb dX9_about_58 rfl (lv_at hl 4 rfl) ?_
        refine lv_imul hx hb dX9_about_59 ?_
        refine lv_iload_n hx hb dX9_about_60 rfl (lv_at hl 3 rfl) ?_
        refine lv_iadd hx hb dX9_about_61 ?_
        obtain ⟨hi8, hT⟩ := hT
        refine va_iald (f := S.2.1 4) hx hb hK hP 4 0 mat_4 rfl hi8 dX9_about_62 ?_
        obtain ⟨hi9, hT⟩ := hT
        refine va_iast (f := S.2.1 4) hx hb hK hP hD hS 4 0 mat_4 rfl hi9 dX9_about_63 (fun H locs hP hD hS => ?_)
        replace hP := msetP_4 hP
        replace hD := msetD_4 hD
        refine lv_aload_n hx hb dX9_about_64 rfl (lv_at hl 2 rfl) ?_
        refine mg_isStrong hx hb hts hown hK hP dX9_about_65 ?_
        refine lv_iconst (v := 5) hx hb dX9_about_68 (by decide) ?_
        refine lv_iload_n hx hb dX9_about_69 rfl (lv_at hl 3 rfl) ?_
        refine lv_imul hx hb dX9_about_70 ?_
        refine lv_iload_n hx hb dX9_about_71 rfl (lv_at hl 4 rfl) ?_
        refine lv_iadd hx hb dX9_about_72 ?_
        refine lv_aload_n hx hb dX9_about_73 rfl (lv_at hl 2 rfl) ?_
        refine mg_isStrong hx hb hts hown hK hP dX9_about_74 ?_
        refine lv_iconst (v := 5) hx hb dX9_about_77 (by decide) ?_
        refine lv_iload_n hx hb dX9_about_78 rfl (lv_at hl 4 rfl) ?_
        refine lv_imul hx hb dX9_about_79 ?_
        refine lv_iload_n hx hb dX9_about_80 rfl (lv_at hl 3 rfl) ?_
        refine lv_iadd hx hb dX9_about_81 ?_
        obtain ⟨hi10, hT⟩ := hT
        refine va_zald (f := S.2.1 5) hx hb hK hP 5 1 mat_5 rfl hi10 dX9_about_82 ?_
        obtain ⟨hi11, hT⟩ := hT
        refine va_zast (f := S.2.1 5) hx hb hK hP hD hS 5 1 mat_5 rfl hi11 dX9_about_83 (fun H locs hP hD hS => ?_)
        replace hP := msetP_5 hP
        replace hD := msetD_5 hD
        refine lv_aload_n hx hb dX9_about_84 rfl (lv_at hl 2 rfl) ?_
        refine mg_costs hx hb hts hown hK hP dX9_about_85 ?_
        refine lv_iconst (v := 5) hx hb dX9_about_88 (by decide) ?_
        refine lv_iload_n hx hb dX9_about_89 rfl (lv_at hl 4 rfl) ?_
        refine lv_imul hx hb dX9_about_90 ?_
        refine lv_iload_n hx hb dX9_about_91 rfl (lv_at hl 3 rfl) ?_
        refine lv_iadd hx hb dX9_about_92 ?_
        refine lv_iload_n hx hb dX9_about_93 rfl (lv_at hl 1 rfl) ?_
        obtain ⟨hi12, hT⟩ := hT
        refine va_iast (f := upd (S.2.1 4) ((5 * x1) + x2).toNatClampNeg (S.2.1 4 ((5 * x2) + x1).toNatClampNeg)) hx hb hK hP hD hS 4 0 mat_4 rfl hi12 dX9_about_94 (fun H locs hP hD hS => ?_)
        replace hP := msetP_4 hP
        replace hD := msetD_4 hD
        refine lv_aload_n hx hb dX9_about_95 rfl (lv_at hl 2 rfl) ?_
        refine mg_isStrong hx hb hts hown hK hP dX9_about_96 ?_
        refine lv_iconst (v := 5) hx hb dX9_about_99 (by decide) ?_
        refine lv_iload_n hx hb dX9_about_100 rfl (lv_at hl 4 rfl) ?_
        refine lv_imul hx hb dX9_about_101 ?_
        refine lv_iload_n hx hb dX9_about_102 rfl (lv_at hl 3 rfl) ?_
        refine lv_iadd hx hb dX9_about_103 ?_
        refine lv_iload hx hb dX9_about_104 (lv_at hl 0 rfl) ?_
        obtain ⟨hi13, hT⟩ := hT
        refine va_zast (f := upd (S.2.1 5) ((5 * x1) + x2).toNatClampNeg (vp_nar .boolean (S.2.1 5 ((5 * x2) + x1).toNatClampNeg))) hx hb hK hP hD hS 5 1 mat_5 rfl hi13 dX9_about_106 (fun H locs hP hD hS => ?_)
        replace hP := msetP_5 hP
        replace hD := msetD_5 hD
        refine lv_iinc (v := x2 + 1) (lv' := [(2, .int (x2 + 1)), (4, .int v4_7), (3, .int v3_5), (0, .ref (ad 0)), (1, .int x1)]) hx hb dX9_about_107 hl (k := 4) rfl rfl (by decide) rfl (fun ls hl => ?_)
        refine lv_goto (tgt := 16) hx hb dX9_about_110 (by decide) ?_
        rw [hB16] at hT
        exact hT _ _ _ hP hD hS (lv_sub hl [3, 4, 0] rfl)
    · clear hP hD hS hl H locs ls
      intro S x1 hT
      unfold mT_about_121 at hT
      rw [hB121]
      intro H locs ls hP hD hS hl
      refine lv_iload_n hx hb dX9_about_121 rfl (lv_at hl 1 rfl) ?_
      refine lv_aload_n hx hb dX9_about_122 rfl (lv_at hl 0 rfl) ?_
      refine mg_discs (v := S.1 1) hx hb hts hown hK hP rfl dX9_about_123 ?_
      refine lv_icmp_ge (tgt := 161) hx hb dX9_about_126 (by decide) (fun c14 => ?_) (fun c14 => ?_)
      · replace hT := hT.1 c14
        refine lv_aload_n hx hb dX9_about_161 rfl (lv_at hl 0 rfl) ?_
        refine lv_iconst (v := 0) hx hb dX9_about_162 (by decide) ?_
        refine mp_undos hx hb hts hown hK hP hD hS dX9_about_163 (fun H locs hP hD hS => ?_)
        refine lv_aload_n hx hb dX9_about_166 rfl (lv_at hl 0 rfl) ?_
        refine lv_iconst (v := 0) hx hb dX9_about_167 (by decide) ?_
        refine mp_redos hx hb hts hown hK hP hD hS dX9_about_168 (fun H locs hP hD hS => ?_)
        refine lv_aload_n hx hb dX9_about_171 rfl (lv_at hl 0 rfl) ?_
        refine mcallI (n := 0) (rest := []) hT hx hb hml hown hts hK hA hP hD hS hl gg_173 hd_X9_lanesThere ⟨Nat.le_of_ble_eq_true rfl, Nat.le_of_ble_eq_true rfl⟩ rfl rfl (Nat.le_of_ble_eq_true rfl) dX9_about_172 (Nat.zero_le _) (Nat.zero_le _) (fun r16 S15 H locs hP hD hS hT => ?_)
        exact hret _ _ _ _ _ _ hP hD hS hT dX9_about_175
      · replace hT := hT.2 c14
        refine lv_aload_n hx hb dX9_about_129 rfl (lv_at hl 0 rfl) ?_
        refine mg_stand hx hb hts hown hK hP dX9_about_130 ?_
        refine lv_iload_n hx hb dX9_about_133 rfl (lv_at hl 1 rfl) ?_
        obtain ⟨hi17, hT⟩ := hT
        refine va_iald (f := S.2.1 2) hx hb hK hP 2 0 mat_2 rfl hi17 dX9_about_134 ?_
        refine lv_topi (fun v2_18 ev2_18 => ?_)
        replace hT := hT v2_18 ev2_18
        refine lv_istore_n (lv' := [(2, .int v2_18), (0, .ref (ad 0)), (1, .int x1)]) hx hb dX9_about_135 rfl hl (by decide) rfl (fun ls hl => ?_)
        refine lv_aload_n hx hb dX9_about_136 rfl (lv_at hl 1 rfl) ?_
        refine mg_stand hx hb hts hown hK hP dX9_about_137 ?_
        refine lv_iload_n hx hb dX9_about_140 rfl (lv_at hl 2 rfl) ?_
        refine lv_aload_n hx hb dX9_about_141 rfl (lv_at hl 1 rfl) ?_
        refine mg_goal hx hb hts hown hK hP dX9_about_142 ?_
        refine lv_iload_n hx hb dX9_about_145 rfl (lv_at hl 2 rfl) ?_
        obtain ⟨hi19, hT⟩ := hT
        refine va_iald (f := S.2.1 3) hx hb hK hP 3 0 mat_3 rfl hi19 dX9_about_146 ?_
        obtain ⟨hi20, hT⟩ := hT
        refine va_iast (f := S.2.1 2) hx hb hK hP hD hS 2 0 mat_2 rfl hi20 dX9_about_147 (fun H locs hP hD hS => ?_)
        replace hP := msetP_2 hP
        replace hD := msetD_2 hD
        refine lv_aload_n hx hb dX9_about_148 rfl (lv_at hl 1 rfl) ?_
        refine mg_goal hx hb hts hown hK hP dX9_about_149 ?_
        refine lv_iload_n hx hb dX9_about_152 rfl (lv_at hl 2 rfl) ?_
        refine lv_iload_n hx hb dX9_about_153 rfl (lv_at hl 0 rfl) ?_
        obtain ⟨hi21, hT⟩ := hT
        refine va_iast (f := S.2.1 3) hx hb hK hP hD hS 3 0 mat_3 rfl hi21 dX9_about_154 (fun H locs hP hD hS => ?_)
        replace hP := msetP_3 hP
        replace hD := msetD_3 hD
        refine lv_iinc (v := x1 + 1) (lv' := [(1, .int (x1 + 1)), (2, .int v2_18), (0, .ref (ad 0))]) hx hb dX9_about_155 hl (k := 2) rfl rfl (by decide) rfl (fun ls hl => ?_)
        refine lv_goto (tgt := 121) hx hb dX9_about_158 (by decide) ?_
        rw [hB121] at hT
        exact hT _ _ _ hP hD hS (lv_sub hl [2, 0] rfl)
  unfold mT_about_e at hT
  refine lv_aload_n hx hb dX9_about_0 rfl (lv_at hl 0 rfl) ?_
  refine lv_iconst (v := 0) hx hb dX9_about_1 (by decide) ?_
  refine mp_thrown hx hb hts hown hK hP hD hS dX9_about_2 (fun H locs hP hD hS => ?_)
  refine lv_iconst (v := 0) hx hb dX9_about_5 (by decide) ?_
  refine lv_istore_n (lv' := [(1, .int 0), (0, .ref (ad 0))]) hx hb dX9_about_6 rfl hl (by decide) rfl (fun ls hl => ?_)
  rw [hB7] at hT
  exact hT _ _ _ hP hD hS (lv_sub hl [1, 0] rfl)
abbrev mX_scheme (l : Launch) (S : MS) (post : Int32 → MS → Prop) : Prop := mCtI l yX9_scheme cX9_scheme 1 1 21 (fun ad => []) S post
def mT_scheme_e (l : Launch) (post : Int32 → MS → Prop) (S0 : MS) : Prop := (¬ S0.1 9 = 8 → vp_in (S0.1 9) 8 ∧ post (((S0.1 9) + 1) - 1) (mf (mf (ma (mf S0 3 0) 29 (upd (S0.2.1 29) (S0.1 9).toNatClampNeg 0)) 9 ((S0.1 9) + 1)) 2 0)) ∧ (S0.1 9 = 8 → mX_no l (mf S0 3 0) 5 (fun r4 S3 => post r4 S3))
set_option maxHeartbeats 4000000 in
set_option maxRecDepth 100000 in
theorem m_scheme (l : Launch) (S0 : MS) (post : Int32 → MS → Prop) (h : mT_scheme_e l post S0) : mX_scheme l S0 post := by
  refine msetI rfl (fun _ => Nat.le_of_ble_eq_true rfl) ?_
  intro p e s m args below meth c D ad cI cZ cL A Q hx hb hml hown hts hK hA hret H locs ls hP hD hS hl
  replace hl : lv_has ls 1 [(0, .ref (ad 0))] := hl
  have hT := h
  unfold mT_scheme_e at hT
  refine lv_aload_n hx hb dX9_scheme_0 rfl (lv_at hl 0 rfl) ?_
  refine lv_iconst (v := 0) hx hb dX9_scheme_1 (by decide) ?_
  refine mp_thrown hx hb hts hown hK hP hD hS dX9_scheme_2 (fun H locs hP hD hS => ?_)
  refine lv_aload_n hx hb dX9_scheme_5 rfl (lv_at hl 0 rfl) ?_
  refine mg_schemes (v := S0.1 9) hx hb hts hown hK hP rfl dX9_scheme_6 ?_
  refine lv_bipush (v := 8) hx hb dX9_scheme_9 (by decide) ?_
  refine lv_icmp_ne (tgt := 20) hx hb dX9_scheme_11 (by decide) (fun c1 => ?_) (fun c1 => ?_)
  · replace hT := hT.1 c1
    refine lv_aload_n hx hb dX9_scheme_20 rfl (lv_at hl 0 rfl) ?_
    refine mg_stepMany hx hb hts hown hK hP dX9_scheme_21 ?_
    refine lv_aload_n hx hb dX9_scheme_24 rfl (lv_at hl 0 rfl) ?_
    refine mg_schemes (v := S0.1 9) hx hb hts hown hK hP rfl dX9_scheme_25 ?_
    refine lv_iconst (v := 0) hx hb dX9_scheme_28 (by decide) ?_
    obtain ⟨hi2, hT⟩ := hT
    refine va_iast (f := S0.2.1 29) hx hb hK hP hD hS 29 0 mat_29 rfl hi2 dX9_scheme_29 (fun H locs hP hD hS => ?_)
    replace hP := msetP_29 hP
    replace hD := msetD_29 hD
    refine lv_aload_n hx hb dX9_scheme_30 rfl (lv_at hl 0 rfl) ?_
    refine lv_dup hx hb dX9_scheme_31 rfl ?_
    refine mg_schemes (v := S0.1 9) hx hb hts hown hK hP rfl dX9_scheme_32 ?_
    refine lv_iconst (v := 1) hx hb dX9_scheme_35 (by decide) ?_
    refine lv_iadd hx hb dX9_scheme_36 ?_
    refine mp_schemes hx hb hts hown hK hP hD hS dX9_scheme_37 (fun H locs hP hD hS => ?_)
    refine lv_aload_n hx hb dX9_scheme_40 rfl (lv_at hl 0 rfl) ?_
    refine lv_iconst (v := 0) hx hb dX9_scheme_41 (by decide) ?_
    refine mp_trouble hx hb hts hown hK hP hD hS dX9_scheme_42 (fun H locs hP hD hS => ?_)
    refine lv_aload_n hx hb dX9_scheme_45 rfl (lv_at hl 0 rfl) ?_
    refine mg_schemes (v := (S0.1 9) + 1) hx hb hts hown hK hP rfl dX9_scheme_46 ?_
    refine lv_iconst (v := 1) hx hb dX9_scheme_49 (by decide) ?_
    refine lv_isub hx hb dX9_scheme_50 ?_
    exact hret _ _ _ _ _ _ hP hD hS hT dX9_scheme_51
  · replace hT := hT.2 c1
    refine lv_aload_n hx hb dX9_scheme_14 rfl (lv_at hl 0 rfl) ?_
    refine lv_iconst (v := 5) hx hb dX9_scheme_15 (by decide) ?_
    refine mcallI (n := 1) (rest := []) hT hx hb hml hown hts hK hA hP hD hS hl gg_192 hd_X9_no ⟨Nat.le_of_ble_eq_true rfl, Nat.le_of_ble_eq_true rfl⟩ rfl rfl (Nat.le_of_ble_eq_true rfl) dX9_scheme_16 (Nat.zero_le _) (Nat.zero_le _) (fun r4 S3 H locs hP hD hS hT => ?_)
    exact hret _ _ _ _ _ _ hP hD hS hT dX9_scheme_19
abbrev mX_isScheme (l : Launch) (S : MS) (a1 : Int32) (post : Bool → MS → Prop) : Prop := mCtZ l yX9_isScheme cX9_isScheme 2 1 23 (fun ad => [.int a1]) S post
def mT_isScheme_e (l : Launch) (a1 : Int32) (post : Bool → MS → Prop) (S0 : MS) : Prop := mX_in l S0 a1 0 ((S0.1 9) - 1) (fun b2 S1 => post b2 S1)
set_option maxHeartbeats 4000000 in
set_option maxRecDepth 100000 in
theorem m_isScheme (l : Launch) (S0 : MS) (a1 : Int32) (post : Bool → MS → Prop) (h : mT_isScheme_e l a1 post S0) : mX_isScheme l S0 a1 post := by
  refine msetZ rfl (fun _ => Nat.le_of_ble_eq_true rfl) ?_
  intro p e s m args below meth c D ad cI cZ cL A Q hx hb hml hown hts hK hA hret H locs ls hP hD hS hl
  replace hl : lv_has ls 2 [(0, .ref (ad 0)), (1, .int a1)] := hl
  have hT := h
  unfold mT_isScheme_e at hT
  refine lv_aload_n hx hb dX9_isScheme_0 rfl (lv_at hl 0 rfl) ?_
  refine lv_iload_n hx hb dX9_isScheme_1 rfl (lv_at hl 1 rfl) ?_
  refine lv_iconst (v := 0) hx hb dX9_isScheme_2 (by decide) ?_
  refine lv_aload_n hx hb dX9_isScheme_3 rfl (lv_at hl 0 rfl) ?_
  refine mg_schemes (v := S0.1 9) hx hb hts hown hK hP rfl dX9_isScheme_4 ?_
  refine lv_iconst (v := 1) hx hb dX9_isScheme_7 (by decide) ?_
  refine lv_isub hx hb dX9_isScheme_8 ?_
  refine mcallZ (n := 3) (rest := []) hT hx hb hml hown hts hK hA hP hD hS hl gg_139 hd_X9_in ⟨Nat.le_of_ble_eq_true rfl, Nat.le_of_ble_eq_true rfl⟩ rfl rfl (Nat.le_of_ble_eq_true rfl) dX9_isScheme_9 (Nat.zero_le _) (Nat.zero_le _) (fun b2 S1 H locs hP hD hS hT => ?_)
  exact hret b2 _ _ _ _ _ hP hD hS hT dX9_isScheme_12
abbrev mX_single (l : Launch) (S : MS) (a1 : Int32) (a2 : Int32) (a3 : Int32) (post : Int32 → MS → Prop) : Prop := mCtI l yX9_single cX9_single 6 2 44 (fun ad => [.int a1, .int a2, .int a3]) S post
def mT_single_38 (l : Launch) (a1 : Int32) (a2 : Int32) (a3 : Int32) (post : Int32 → MS → Prop) (B38 : MS → Prop) (S : MS) : Prop := mX_no l S 1 (fun r2 S1 => post r2 S1)
def mT_single_e (l : Launch) (a1 : Int32) (a2 : Int32) (a3 : Int32) (post : Int32 → MS → Prop) (B38 : MS → Prop) (S0 : MS) : Prop := mX_isScheme l (mf S0 3 0) a1 (fun b4 S3 => (bI b4 = 0 → B38 S3) ∧ (¬ bI b4 = 0 → mX_in l S3 a2 0 4 (fun b7 S6 => (bI b7 = 0 → B38 S6) ∧ (¬ bI b7 = 0 → mX_in l S6 a3 0 4 (fun b10 S9 => (bI b10 = 0 → B38 S9) ∧ (¬ bI b10 = 0 → (¬ a2 = a3 → vp_in a1 8 ∧ ∀ v4_14 : Int32, v4_14 = S9.2.1 29 a1.toNatClampNeg → (¬ v4_14 = 8 → ∀ v5_16 : Int32, v5_16 = (8 * a1) + v4_14 → vp_in v5_16 64 ∧ vp_in (5 * v5_16) 320 ∧ vp_in ((5 * v5_16) + 1) 320 ∧ vp_in a1 8 ∧ vp_in a1 8 ∧ post (v4_14 + 1) (mf (ma (ma (ma (ma S9 30 (upd (S9.2.1 30) v5_16.toNatClampNeg (-1))) 32 (upd (S9.2.1 32) (5 * v5_16).toNatClampNeg a2)) 32 (upd (upd (S9.2.1 32) (5 * v5_16).toNatClampNeg a2) ((5 * v5_16) + 1).toNatClampNeg a3)) 29 (upd (S9.2.1 29) a1.toNatClampNeg ((S9.2.1 29 a1.toNatClampNeg) + 1))) 2 0)) ∧ (v4_14 = 8 → mX_no l S9 5 (fun r23 S22 => post r23 S22))) ∧ (a2 = a3 → B38 S9)))))))
set_option maxHeartbeats 4000000 in
set_option maxRecDepth 100000 in
theorem m_single (l : Launch) (S0 : MS) (a1 : Int32) (a2 : Int32) (a3 : Int32) (post : Int32 → MS → Prop) (h : ∀ (B38 : MS → Prop), (∀ (S : MS) , mT_single_38 l a1 a2 a3 post B38 S → B38 S ) → mT_single_e l a1 a2 a3 post B38 S0) : mX_single l S0 a1 a2 a3 post := by
  refine msetI rfl (fun _ => Nat.le_of_ble_eq_true rfl) ?_
  intro p e s m args below meth c D ad cI cZ cL A Q hx hb hml hown hts hK hA hret H locs ls hP hD hS hl
  replace hl : lv_has ls 6 [(0, .ref (ad 0)), (1, .int a1), (2, .int a2), (3, .int a3)] := hl
  obtain ⟨B38, hB38⟩ : ∃ B : MS → Prop, B = (fun S => ∀ (H : Heap) (locs : List Loc) (ls : Array Slot), va_P D vwCl (mW ad cI cZ cL S) H → va_D A (mW ad cI cZ cL S) → va_S A s.heap H locs → lv_has ls 6 [(0, .ref (ad 0))] → W p l e (mrm 2 44) s m args below meth c H locs 0 0 Q (F0 m 38 ls [])) := ⟨_, rfl⟩
  have hT : mT_single_e l a1 a2 a3 post B38 S0 := by
    refine h B38 ?_
    · clear hP hD hS hl H locs ls
      intro S hT
      unfold mT_single_38 at hT
      rw [hB38]
      intro H locs ls hP hD hS hl
      refine lv_aload_n hx hb dX9_single_38 rfl (lv_at hl 0 rfl) ?_
      refine lv_iconst (v := 1) hx hb dX9_single_39 (by decide) ?_
      refine mcallI (n := 1) (rest := []) hT hx hb hml hown hts hK hA hP hD hS hl gg_192 hd_X9_no ⟨Nat.le_of_ble_eq_true rfl, Nat.le_of_ble_eq_true rfl⟩ rfl rfl (Nat.le_of_ble_eq_true rfl) dX9_single_40 (Nat.zero_le _) (Nat.zero_le _) (fun r2 S1 H locs hP hD hS hT => ?_)
      exact hret _ _ _ _ _ _ hP hD hS hT dX9_single_43
  unfold mT_single_e at hT
  refine lv_aload_n hx hb dX9_single_0 rfl (lv_at hl 0 rfl) ?_
  refine lv_iconst (v := 0) hx hb dX9_single_1 (by decide) ?_
  refine mp_thrown hx hb hts hown hK hP hD hS dX9_single_2 (fun H locs hP hD hS => ?_)
  refine lv_aload_n hx hb dX9_single_5 rfl (lv_at hl 0 rfl) ?_
  refine lv_iload_n hx hb dX9_single_6 rfl (lv_at hl 1 rfl) ?_
  refine mcallZ (n := 1) (rest := []) hT hx hb hml hown hts hK hA hP hD hS hl gg_242 hd_X9_isScheme ⟨Nat.le_of_ble_eq_true rfl, Nat.le_of_ble_eq_true rfl⟩ rfl rfl (Nat.le_of_ble_eq_true rfl) dX9_single_7 (Nat.zero_le _) (Nat.zero_le _) (fun b4 S3 H locs hP hD hS hT => ?_)
  refine lv_if_eq (tgt := 38) hx hb dX9_single_10 (by decide) (fun c5 => ?_) (fun c5 => ?_)
  · replace hT := hT.1 c5
    rw [hB38] at hT
    exact hT _ _ _ hP hD hS (lv_sub hl [0] rfl)
  · replace hT := hT.2 c5
    refine lv_aload_n hx hb dX9_single_13 rfl (lv_at hl 0 rfl) ?_
    refine lv_iload_n hx hb dX9_single_14 rfl (lv_at hl 2 rfl) ?_
    refine lv_iconst (v := 0) hx hb dX9_single_15 (by decide) ?_
    refine lv_iconst (v := 4) hx hb dX9_single_16 (by decide) ?_
    refine mcallZ (n := 3) (rest := []) hT hx hb hml hown hts hK hA hP hD hS hl gg_139 hd_X9_in ⟨Nat.le_of_ble_eq_true rfl, Nat.le_of_ble_eq_true rfl⟩ rfl rfl (Nat.le_of_ble_eq_true rfl) dX9_single_17 (Nat.zero_le _) (Nat.zero_le _) (fun b7 S6 H locs hP hD hS hT => ?_)
    refine lv_if_eq (tgt := 38) hx hb dX9_single_20 (by decide) (fun c8 => ?_) (fun c8 => ?_)
    · replace hT := hT.1 c8
      rw [hB38] at hT
      exact hT _ _ _ hP hD hS (lv_sub hl [0] rfl)
    · replace hT := hT.2 c8
      refine lv_aload_n hx hb dX9_single_23 rfl (lv_at hl 0 rfl) ?_
      refine lv_iload_n hx hb dX9_single_24 rfl (lv_at hl 3 rfl) ?_
      refine lv_iconst (v := 0) hx hb dX9_single_25 (by decide) ?_
      refine lv_iconst (v := 4) hx hb dX9_single_26 (by decide) ?_
      refine mcallZ (n := 3) (rest := []) hT hx hb hml hown hts hK hA hP hD hS hl gg_139 hd_X9_in ⟨Nat.le_of_ble_eq_true rfl, Nat.le_of_ble_eq_true rfl⟩ rfl rfl (Nat.le_of_ble_eq_true rfl) dX9_single_27 (Nat.zero_le _) (Nat.zero_le _) (fun b10 S9 H locs hP hD hS hT => ?_)
      refine lv_if_eq (tgt := 38) hx hb dX9_single_30 (by decide) (fun c11 => ?_) (fun c11 => ?_)
      · replace hT := hT.1 c11
        rw [hB38] at hT
        exact hT _ _ _ hP hD hS (lv_sub hl [0] rfl)
      · replace hT := hT.2 c11
        refine lv_iload_n hx hb dX9_single_33 rfl (lv_at hl 2 rfl) ?_
        refine lv_iload_n hx hb dX9_single_34 rfl (lv_at hl 3 rfl) ?_
        refine lv_icmp_ne (tgt := 44) hx hb dX9_single_35 (by decide) (fun c12 => ?_) (fun c12 => ?_)
        · replace hT := hT.1 c12
          refine lv_aload_n hx hb dX9_single_44 rfl (lv_at hl 0 rfl) ?_
          refine mg_stepMany hx hb hts hown hK hP dX9_single_45 ?_
          refine lv_iload_n hx hb dX9_single_48 rfl (lv_at hl 1 rfl) ?_
          obtain ⟨hi13, hT⟩ := hT
          refine va_iald (f := S9.2.1 29) hx hb hK hP 29 0 mat_29 rfl hi13 dX9_single_49 ?_
          refine lv_topi (fun v4_14 ev4_14 => ?_)
          replace hT := hT v4_14 ev4_14
          refine lv_istore (lv' := [(4, .int v4_14), (0, .ref (ad 0)), (1, .int a1), (2, .int a2), (3, .int a3)]) hx hb dX9_single_50 hl (by decide) rfl (fun ls hl => ?_)
          refine lv_iload hx hb dX9_single_52 (lv_at hl 0 rfl) ?_
          refine lv_bipush (v := 8) hx hb dX9_single_54 (by decide) ?_
          refine lv_icmp_ne (tgt := 65) hx hb dX9_single_56 (by decide) (fun c15 => ?_) (fun c15 => ?_)
          · replace hT := hT.1 c15
            refine lv_bipush (v := 8) hx hb dX9_single_65 (by decide) ?_
            refine lv_iload_n hx hb dX9_single_67 rfl (lv_at hl 2 rfl) ?_
            refine lv_imul hx hb dX9_single_68 ?_
            refine lv_iload hx hb dX9_single_69 (lv_at hl 0 rfl) ?_
            refine lv_iadd hx hb dX9_single_71 ?_
            refine lv_topi (fun v5_16 ev5_16 => ?_)
            replace hT := hT v5_16 ev5_16
            refine lv_istore (lv' := [(5, .int v5_16), (4, .int v4_14), (0, .ref (ad 0)), (1, .int a1), (2, .int a2), (3, .int a3)]) hx hb dX9_single_72 hl (by decide) rfl (fun ls hl => ?_)
            refine lv_aload_n hx hb dX9_single_74 rfl (lv_at hl 2 rfl) ?_
            refine mg_stepOf hx hb hts hown hK hP dX9_single_75 ?_
            refine lv_iload hx hb dX9_single_78 (lv_at hl 0 rfl) ?_
            refine lv_iconst (v := (-1)) hx hb dX9_single_80 (by decide) ?_
            obtain ⟨hi17, hT⟩ := hT
            refine va_iast (f := S9.2.1 30) hx hb hK hP hD hS 30 0 mat_30 rfl hi17 dX9_single_81 (fun H locs hP hD hS => ?_)
            replace hP := msetP_30 hP
            replace hD := msetD_30 hD
            refine lv_aload_n hx hb dX9_single_82 rfl (lv_at hl 2 rfl) ?_
            refine mg_stepRoles hx hb hts hown hK hP dX9_single_83 ?_
            refine lv_iconst (v := 5) hx hb dX9_single_86 (by decide) ?_
            refine lv_iload hx hb dX9_single_87 (lv_at hl 0 rfl) ?_
            refine lv_imul hx hb dX9_single_89 ?_
            refine lv_iload_n hx hb dX9_single_90 rfl (lv_at hl 4 rfl) ?_
            obtain ⟨hi18, hT⟩ := hT
            refine va_iast (f := S9.2.1 32) hx hb hK hP hD hS 32 0 mat_32 rfl hi18 dX9_single_91 (fun H locs hP hD hS => ?_)
            replace hP := msetP_32 hP
            replace hD := msetD_32 hD
            refine lv_aload_n hx hb dX9_single_92 rfl (lv_at hl 2 rfl) ?_
            refine mg_stepRoles hx hb hts hown hK hP dX9_single_93 ?_
            refine lv_iconst (v := 5) hx hb dX9_single_96 (by decide) ?_
            refine lv_iload hx hb dX9_single_97 (lv_at hl 0 rfl) ?_
            refine lv_imul hx hb dX9_single_99 ?_
            refine lv_iconst (v := 1) hx hb dX9_single_100 (by decide) ?_
            refine lv_iadd hx hb dX9_single_101 ?_
            refine lv_iload_n hx hb dX9_single_102 rfl (lv_at hl 5 rfl) ?_
            obtain ⟨hi19, hT⟩ := hT
            refine va_iast (f := upd (S9.2.1 32) (5 * v5_16).toNatClampNeg a2) hx hb hK hP hD hS 32 0 mat_32 rfl hi19 dX9_single_103 (fun H locs hP hD hS => ?_)
            replace hP := msetP_32 hP
            replace hD := msetD_32 hD
            refine lv_aload_n hx hb dX9_single_104 rfl (lv_at hl 2 rfl) ?_
            refine mg_stepMany hx hb hts hown hK hP dX9_single_105 ?_
            refine lv_iload_n hx hb dX9_single_108 rfl (lv_at hl 3 rfl) ?_
            refine lv_dup2_11 hx hb dX9_single_109 rfl rfl ?_
            obtain ⟨hi20, hT⟩ := hT
            refine va_iald (f := S9.2.1 29) hx hb hK hP 29 0 mat_29 rfl hi20 dX9_single_110 ?_
            refine lv_iconst (v := 1) hx hb dX9_single_111 (by decide) ?_
            refine lv_iadd hx hb dX9_single_112 ?_
            obtain ⟨hi21, hT⟩ := hT
            refine va_iast (f := S9.2.1 29) hx hb hK hP hD hS 29 0 mat_29 rfl hi21 dX9_single_113 (fun H locs hP hD hS => ?_)
            replace hP := msetP_29 hP
            replace hD := msetD_29 hD
            refine lv_aload_n hx hb dX9_single_114 rfl (lv_at hl 2 rfl) ?_
            refine lv_iconst (v := 0) hx hb dX9_single_115 (by decide) ?_
            refine mp_trouble hx hb hts hown hK hP hD hS dX9_single_116 (fun H locs hP hD hS => ?_)
            refine lv_iload hx hb dX9_single_119 (lv_at hl 1 rfl) ?_
            refine lv_iconst (v := 1) hx hb dX9_single_121 (by decide) ?_
            refine lv_iadd hx hb dX9_single_122 ?_
            exact hret _ _ _ _ _ _ hP hD hS hT dX9_single_123
          · replace hT := hT.2 c15
            refine lv_aload_n hx hb dX9_single_59 rfl (lv_at hl 1 rfl) ?_
            refine lv_iconst (v := 5) hx hb dX9_single_60 (by decide) ?_
            refine mcallI (n := 1) (rest := []) hT hx hb hml hown hts hK hA hP hD hS hl gg_192 hd_X9_no ⟨Nat.le_of_ble_eq_true rfl, Nat.le_of_ble_eq_true rfl⟩ rfl rfl (Nat.le_of_ble_eq_true rfl) dX9_single_61 (Nat.zero_le _) (Nat.zero_le _) (fun r23 S22 H locs hP hD hS hT => ?_)
            exact hret _ _ _ _ _ _ hP hD hS hT dX9_single_64
        · replace hT := hT.2 c12
          rw [hB38] at hT
          exact hT _ _ _ hP hD hS (lv_sub hl [0] rfl)
abbrev mX_call (l : Launch) (S : MS) (a1 : Int32) (a2 : Int32) (a3 : Int32) (a4 : Int32) (a5 : Int32) (a6 : Int32) (a7 : Int32) (a8 : Int32) (post : Int32 → MS → Prop) : Prop := mCtI l yX9_call cX9_call 12 2 44 (fun ad => [.int a1, .int a2, .int a3, .int a4, .int a5, .int a6, .int a7, .int a8]) S post
def mT_call_31 (l : Launch) (a1 : Int32) (a2 : Int32) (a3 : Int32) (a4 : Int32) (a5 : Int32) (a6 : Int32) (a7 : Int32) (a8 : Int32) (post : Int32 → MS → Prop) (B31 : MS → Prop) (B43 : MS → Int32 → Int32 → Prop) (B118 : MS → Prop) (S : MS) : Prop := mX_no l S 1 (fun r2 S1 => post r2 S1)
def mT_call_43 (l : Launch) (a1 : Int32) (a2 : Int32) (a3 : Int32) (a4 : Int32) (a5 : Int32) (a6 : Int32) (a7 : Int32) (a8 : Int32) (post : Int32 → MS → Prop) (B31 : MS → Prop) (B43 : MS → Int32 → Int32 → Prop) (B118 : MS → Prop) (S : MS) (x9 : Int32) (x10 : Int32) : Prop := (5 ≤ x10 → vp_in a1 8 ∧ ∀ v10_5 : Int32, v10_5 = S.2.1 29 a1.toNatClampNeg → (¬ v10_5 = 8 → ∀ v11_7 : Int32, v11_7 = (8 * a1) + v10_5 → vp_in v11_7 64 ∧ vp_in v11_7 64 ∧ vp_in (5 * v11_7) 320 ∧ vp_in ((5 * v11_7) + 1) 320 ∧ vp_in ((5 * v11_7) + 2) 320 ∧ vp_in ((5 * v11_7) + 3) 320 ∧ vp_in ((5 * v11_7) + 4) 320 ∧ vp_in a1 8 ∧ vp_in a1 8 ∧ post (v10_5 + 1) (mf (ma (ma (ma (ma (ma (ma (ma (ma S 30 (upd (S.2.1 30) v11_7.toNatClampNeg a2)) 31 (upd (S.2.1 31) v11_7.toNatClampNeg a3)) 32 (upd (S.2.1 32) (5 * v11_7).toNatClampNeg a4)) 32 (upd (upd (S.2.1 32) (5 * v11_7).toNatClampNeg a4) ((5 * v11_7) + 1).toNatClampNeg a5)) 32 (upd (upd (upd (S.2.1 32) (5 * v11_7).toNatClampNeg a4) ((5 * v11_7) + 1).toNatClampNeg a5) ((5 * v11_7) + 2).toNatClampNeg a6)) 32 (upd (upd (upd (upd (S.2.1 32) (5 * v11_7).toNatClampNeg a4) ((5 * v11_7) + 1).toNatClampNeg a5) ((5 * v11_7) + 2).toNatClampNeg a6) ((5 * v11_7) + 3).toNatClampNeg a7)) 32 (upd (upd (upd (upd (upd (S.2.1 32) (5 * v11_7).toNatClampNeg a4) ((5 * v11_7) + 1).toNatClampNeg a5) ((5 * v11_7) + 2).toNatClampNeg a6) ((5 * v11_7) + 3).toNatClampNeg a7) ((5 * v11_7) + 4).toNatClampNeg a8)) 29 (upd (S.2.1 29) a1.toNatClampNeg ((S.2.1 29 a1.toNatClampNeg) + 1))) 2 0)) ∧ (v10_5 = 8 → mX_no l S 5 (fun r18 S17 => post r18 S17))) ∧ (¬ 5 ≤ x10 → (¬ x10 = 0 → (¬ x10 = 1 → (¬ x10 = 2 → (¬ x10 = 3 → mX_in l S a8 0 4 (fun b24 S23 => (bI b24 = 0 → B118 S23) ∧ (¬ bI b24 = 0 → (¬ (x9 >>> (a8 &&& 31)) &&& 1 = 1 → ∀ v9_27 : Int32, v9_27 = x9 ||| (1 <<< (a8 &&& 31)) → B43 S23 v9_27 (x10 + 1)) ∧ ((x9 >>> (a8 &&& 31)) &&& 1 = 1 → B118 S23)))) ∧ (x10 = 3 → mX_in l S a7 0 4 (fun b29 S28 => (bI b29 = 0 → B118 S28) ∧ (¬ bI b29 = 0 → (¬ (x9 >>> (a7 &&& 31)) &&& 1 = 1 → ∀ v9_32 : Int32, v9_32 = x9 ||| (1 <<< (a7 &&& 31)) → B43 S28 v9_32 (x10 + 1)) ∧ ((x9 >>> (a7 &&& 31)) &&& 1 = 1 → B118 S28))))) ∧ (x10 = 2 → mX_in l S a6 0 4 (fun b34 S33 => (bI b34 = 0 → B118 S33) ∧ (¬ bI b34 = 0 → (¬ (x9 >>> (a6 &&& 31)) &&& 1 = 1 → ∀ v9_37 : Int32, v9_37 = x9 ||| (1 <<< (a6 &&& 31)) → B43 S33 v9_37 (x10 + 1)) ∧ ((x9 >>> (a6 &&& 31)) &&& 1 = 1 → B118 S33))))) ∧ (x10 = 1 → mX_in l S a5 0 4 (fun b39 S38 => (bI b39 = 0 → B118 S38) ∧ (¬ bI b39 = 0 → (¬ (x9 >>> (a5 &&& 31)) &&& 1 = 1 → ∀ v9_42 : Int32, v9_42 = x9 ||| (1 <<< (a5 &&& 31)) → B43 S38 v9_42 (x10 + 1)) ∧ ((x9 >>> (a5 &&& 31)) &&& 1 = 1 → B118 S38))))) ∧ (x10 = 0 → mX_in l S a4 0 4 (fun b44 S43 => (bI b44 = 0 → B118 S43) ∧ (¬ bI b44 = 0 → (¬ (x9 >>> (a4 &&& 31)) &&& 1 = 1 → ∀ v9_47 : Int32, v9_47 = x9 ||| (1 <<< (a4 &&& 31)) → B43 S43 v9_47 (x10 + 1)) ∧ ((x9 >>> (a4 &&& 31)) &&& 1 = 1 → B118 S43)))))
def mT_call_118 (l : Launch) (a1 : Int32) (a2 : Int32) (a3 : Int32) (a4 : Int32) (a5 : Int32) (a6 : Int32) (a7 : Int32) (a8 : Int32) (post : Int32 → MS → Prop) (B31 : MS → Prop) (B43 : MS → Int32 → Int32 → Prop) (B118 : MS → Prop) (S : MS) : Prop := mX_no l S 1 (fun r49 S48 => post r49 S48)
def mT_call_e (l : Launch) (a1 : Int32) (a2 : Int32) (a3 : Int32) (a4 : Int32) (a5 : Int32) (a6 : Int32) (a7 : Int32) (a8 : Int32) (post : Int32 → MS → Prop) (B31 : MS → Prop) (B43 : MS → Int32 → Int32 → Prop) (B118 : MS → Prop) (S0 : MS) : Prop := mX_isScheme l (mf S0 3 0) a1 (fun b51 S50 => (bI b51 = 0 → B31 S50) ∧ (¬ bI b51 = 0 → mX_isScheme l S50 a2 (fun b54 S53 => (bI b54 = 0 → B31 S53) ∧ (¬ bI b54 = 0 → mX_in l S53 a3 1 4 (fun b57 S56 => (¬ bI b57 = 0 → B43 S56 0 0) ∧ (bI b57 = 0 → B31 S56))))))
set_option maxHeartbeats 4000000 in
set_option maxRecDepth 100000 in
theorem m_call (l : Launch) (S0 : MS) (a1 : Int32) (a2 : Int32) (a3 : Int32) (a4 : Int32) (a5 : Int32) (a6 : Int32) (a7 : Int32) (a8 : Int32) (post : Int32 → MS → Prop) (h : ∀ (B31 : MS → Prop) (B43 : MS → Int32 → Int32 → Prop) (B118 : MS → Prop), (∀ (S : MS) , mT_call_31 l a1 a2 a3 a4 a5 a6 a7 a8 post B31 B43 B118 S → B31 S ) → (∀ (S : MS) (x9 : Int32) (x10 : Int32), mT_call_43 l a1 a2 a3 a4 a5 a6 a7 a8 post B31 B43 B118 S x9 x10 → B43 S x9 x10) → (∀ (S : MS) , mT_call_118 l a1 a2 a3 a4 a5 a6 a7 a8 post B31 B43 B118 S → B118 S ) → mT_call_e l a1 a2 a3 a4 a5 a6 a7 a8 post B31 B43 B118 S0) : mX_call l S0 a1 a2 a3 a4 a5 a6 a7 a8 post := by
  refine msetI rfl (fun _ => Nat.le_of_ble_eq_true rfl) ?_
  intro p e s m args below meth c D ad cI cZ cL A Q hx hb hml hown hts hK hA hret H locs ls hP hD hS hl
  replace hl : lv_has ls 12 [(0, .ref (ad 0)), (1, .int a1), (2, .int a2), (3, .int a3), (4, .int a4), (5, .int a5), (6, .int a6), (7, .int a7), (8, .int a8)] := hl
  obtain ⟨B31, hB31⟩ : ∃ B : MS → Prop, B = (fun S => ∀ (H : Heap) (locs : List Loc) (ls : Array Slot), va_P D vwCl (mW ad cI cZ cL S) H → va_D A (mW ad cI cZ cL S) → va_S A s.heap H locs → lv_has ls 12 [(0, .ref (ad 0))] → W p l e (mrm 2 44) s m args below meth c H locs 0 0 Q (F0 m 31 ls [])) := ⟨_, rfl⟩
  obtain ⟨B43, hB43⟩ : ∃ B : MS → Int32 → Int32 → Prop, B = (fun S x9 x10 => ∀ (H : Heap) (locs : List Loc) (ls : Array Slot), va_P D vwCl (mW ad cI cZ cL S) H → va_D A (mW ad cI cZ cL S) → va_S A s.heap H locs → lv_has ls 12 [(0, .ref (ad 0)), (1, .int a1), (2, .int a2), (3, .int a3), (4, .int a4), (5, .int a5), (6, .int a6), (7, .int a7), (8, .int a8), (9, .int x9), (10, .int x10)] → W p l e (mrm 2 44) s m args below meth c H locs 0 0 Q (F0 m 43 ls [])) := ⟨_, rfl⟩
  obtain ⟨B118, hB118⟩ : ∃ B : MS → Prop, B = (fun S => ∀ (H : Heap) (locs : List Loc) (ls : Array Slot), va_P D vwCl (mW ad cI cZ cL S) H → va_D A (mW ad cI cZ cL S) → va_S A s.heap H locs → lv_has ls 12 [(0, .ref (ad 0))] → W p l e (mrm 2 44) s m args below meth c H locs 0 0 Q (F0 m 118 ls [])) := ⟨_, rfl⟩
  have hT : mT_call_e l a1 a2 a3 a4 a5 a6 a7 a8 post B31 B43 B118 S0 := by
    refine h B31 B43 B118 ?_ ?_ ?_
    · clear hP hD hS hl H locs ls
      intro S hT
      unfold mT_call_31 at hT
      rw [hB31]
      intro H locs ls hP hD hS hl
      refine lv_aload_n hx hb dX9_call_31 rfl (lv_at hl 0 rfl) ?_
      refine lv_iconst (v := 1) hx hb dX9_call_32 (by decide) ?_
      refine mcallI (n := 1) (rest := []) hT hx hb hml hown hts hK hA hP hD hS hl gg_192 hd_X9_no ⟨Nat.le_of_ble_eq_true rfl, Nat.le_of_ble_eq_true rfl⟩ rfl rfl (Nat.le_of_ble_eq_true rfl) dX9_call_33 (Nat.zero_le _) (Nat.zero_le _) (fun r2 S1 H locs hP hD hS hT => ?_)
      exact hret _ _ _ _ _ _ hP hD hS hT dX9_call_36
    · clear hP hD hS hl H locs ls
      intro S x9 x10 hT
      unfold mT_call_43 at hT
      rw [hB43]
      intro H locs ls hP hD hS hl
      refine lv_iload hx hb dX9_call_43 (lv_at hl 10 rfl) ?_
      refine lv_iconst (v := 5) hx hb dX9_call_45 (by decide) ?_
      refine lv_icmp_ge (tgt := 139) hx hb dX9_call_46 (by decide) (fun c3 => ?_) (fun c3 => ?_)
      · replace hT := hT.1 c3
        refine lv_aload_n hx hb dX9_call_139 rfl (lv_at hl 0 rfl) ?_
        refine mg_stepMany hx hb hts hown hK hP dX9_call_140 ?_
        refine lv_iload_n hx hb dX9_call_143 rfl (lv_at hl 1 rfl) ?_
        obtain ⟨hi4, hT⟩ := hT
        refine va_iald (f := S.2.1 29) hx hb hK hP 29 0 mat_29 rfl hi4 dX9_call_144 ?_
        refine lv_topi (fun v10_5 ev10_5 => ?_)
        replace hT := hT v10_5 ev10_5
        refine lv_istore (lv' := [(10, .int v10_5), (0, .ref (ad 0)), (1, .int a1), (2, .int a2), (3, .int a3), (4, .int a4), (5, .int a5), (6, .int a6), (7, .int a7), (8, .int a8), (9, .int x9)]) hx hb dX9_call_145 hl (by decide) rfl (fun ls hl => ?_)
        refine lv_iload hx hb dX9_call_147 (lv_at hl 0 rfl) ?_
        refine lv_bipush (v := 8) hx hb dX9_call_149 (by decide) ?_
        refine lv_icmp_ne (tgt := 160) hx hb dX9_call_151 (by decide) (fun c6 => ?_) (fun c6 => ?_)
        · replace hT := hT.1 c6
          refine lv_bipush (v := 8) hx hb dX9_call_160 (by decide) ?_
          refine lv_iload_n hx hb dX9_call_162 rfl (lv_at hl 2 rfl) ?_
          refine lv_imul hx hb dX9_call_163 ?_
          refine lv_iload hx hb dX9_call_164 (lv_at hl 0 rfl) ?_
          refine lv_iadd hx hb dX9_call_166 ?_
          refine lv_topi (fun v11_7 ev11_7 => ?_)
          replace hT := hT v11_7 ev11_7
          refine lv_istore (lv' := [(11, .int v11_7), (10, .int v10_5), (0, .ref (ad 0)), (1, .int a1), (2, .int a2), (3, .int a3), (4, .int a4), (5, .int a5), (6, .int a6), (7, .int a7), (8, .int a8), (9, .int x9)]) hx hb dX9_call_167 hl (by decide) rfl (fun ls hl => ?_)
          refine lv_aload_n hx hb dX9_call_169 rfl (lv_at hl 2 rfl) ?_
          refine mg_stepOf hx hb hts hown hK hP dX9_call_170 ?_
          refine lv_iload hx hb dX9_call_173 (lv_at hl 0 rfl) ?_
          refine lv_iload_n hx hb dX9_call_175 rfl (lv_at hl 4 rfl) ?_
          obtain ⟨hi8, hT⟩ := hT
          refine va_iast (f := S.2.1 30) hx hb hK hP hD hS 30 0 mat_30 rfl hi8 dX9_call_176 (fun H locs hP hD hS => ?_)
          replace hP := msetP_30 hP
          replace hD := msetD_30 hD
          refine lv_aload_n hx hb dX9_call_177 rfl (lv_at hl 2 rfl) ?_
          refine mg_stepLess hx hb hts hown hK hP dX9_call_178 ?_
          refine lv_iload hx hb dX9_call_181 (lv_at hl 0 rfl) ?_
          refine lv_iload_n hx hb dX9_call_183 rfl (lv_at hl 5 rfl) ?_
          obtain ⟨hi9, hT⟩ := hT
          refine va_iast (f := S.2.1 31) hx hb hK hP hD hS 31 0 mat_31 rfl hi9 dX9_call_184 (fun H locs hP hD hS => ?_)
          replace hP := msetP_31 hP
          replace hD := msetD_31 hD
          refine lv_aload_n hx hb dX9_call_185 rfl (lv_at hl 2 rfl) ?_
          refine mg_stepRoles hx hb hts hown hK hP dX9_call_186 ?_
          refine lv_iconst (v := 5) hx hb dX9_call_189 (by decide) ?_
          refine lv_iload hx hb dX9_call_190 (lv_at hl 0 rfl) ?_
          refine lv_imul hx hb dX9_call_192 ?_
          refine lv_iload hx hb dX9_call_193 (lv_at hl 6 rfl) ?_
          obtain ⟨hi10, hT⟩ := hT
          refine va_iast (f := S.2.1 32) hx hb hK hP hD hS 32 0 mat_32 rfl hi10 dX9_call_195 (fun H locs hP hD hS => ?_)
          replace hP := msetP_32 hP
          replace hD := msetD_32 hD
          refine lv_aload_n hx hb dX9_call_196 rfl (lv_at hl 2 rfl) ?_
          refine mg_stepRoles hx hb hts hown hK hP dX9_call_197 ?_
          refine lv_iconst (v := 5) hx hb dX9_call_200 (by decide) ?_
          refine lv_iload hx hb dX9_call_201 (lv_at hl 0 rfl) ?_
          refine lv_imul hx hb dX9_call_203 ?_
          refine lv_iconst (v := 1) hx hb dX9_call_204 (by decide) ?_
          refine lv_iadd hx hb dX9_call_205 ?_
          refine lv_iload hx hb dX9_call_206 (lv_at hl 7 rfl) ?_
          obtain ⟨hi11, hT⟩ := hT
          refine va_iast (f := upd (S.2.1 32) (5 * v11_7).toNatClampNeg a4) hx hb hK hP hD hS 32 0 mat_32 rfl hi11 dX9_call_208 (fun H locs hP hD hS => ?_)
          replace hP := msetP_32 hP
          replace hD := msetD_32 hD
          refine lv_aload_n hx hb dX9_call_209 rfl (lv_at hl 2 rfl) ?_
          refine mg_stepRoles hx hb hts hown hK hP dX9_call_210 ?_
          refine lv_iconst (v := 5) hx hb dX9_call_213 (by decide) ?_
          refine lv_iload hx hb dX9_call_214 (lv_at hl 0 rfl) ?_
          refine lv_imul hx hb dX9_call_216 ?_
          refine lv_iconst (v := 2) hx hb dX9_call_217 (by decide) ?_
          refine lv_iadd hx hb dX9_call_218 ?_
          refine lv_iload hx hb dX9_call_219 (lv_at hl 8 rfl) ?_
          obtain ⟨hi12, hT⟩ := hT
          refine va_iast (f := upd (upd (S.2.1 32) (5 * v11_7).toNatClampNeg a4) ((5 * v11_7) + 1).toNatClampNeg a5) hx hb hK hP hD hS 32 0 mat_32 rfl hi12 dX9_call_221 (fun H locs hP hD hS => ?_)
          replace hP := msetP_32 hP
          replace hD := msetD_32 hD
          refine lv_aload_n hx hb dX9_call_222 rfl (lv_at hl 2 rfl) ?_
          refine mg_stepRoles hx hb hts hown hK hP dX9_call_223 ?_
          refine lv_iconst (v := 5) hx hb dX9_call_226 (by decide) ?_
          refine lv_iload hx hb dX9_call_227 (lv_at hl 0 rfl) ?_
          refine lv_imul hx hb dX9_call_229 ?_
          refine lv_iconst (v := 3) hx hb dX9_call_230 (by decide) ?_
          refine lv_iadd hx hb dX9_call_231 ?_
          refine lv_iload hx hb dX9_call_232 (lv_at hl 9 rfl) ?_
          obtain ⟨hi13, hT⟩ := hT
          refine va_iast (f := upd (upd (upd (S.2.1 32) (5 * v11_7).toNatClampNeg a4) ((5 * v11_7) + 1).toNatClampNeg a5) ((5 * v11_7) + 2).toNatClampNeg a6) hx hb hK hP hD hS 32 0 mat_32 rfl hi13 dX9_call_234 (fun H locs hP hD hS => ?_)
          replace hP := msetP_32 hP
          replace hD := msetD_32 hD
          refine lv_aload_n hx hb dX9_call_235 rfl (lv_at hl 2 rfl) ?_
          refine mg_stepRoles hx hb hts hown hK hP dX9_call_236 ?_
          refine lv_iconst (v := 5) hx hb dX9_call_239 (by decide) ?_
          refine lv_iload hx hb dX9_call_240 (lv_at hl 0 rfl) ?_
          refine lv_imul hx hb dX9_call_242 ?_
          refine lv_iconst (v := 4) hx hb dX9_call_243 (by decide) ?_
          refine lv_iadd hx hb dX9_call_244 ?_
          refine lv_iload hx hb dX9_call_245 (lv_at hl 10 rfl) ?_
          obtain ⟨hi14, hT⟩ := hT
          refine va_iast (f := upd (upd (upd (upd (S.2.1 32) (5 * v11_7).toNatClampNeg a4) ((5 * v11_7) + 1).toNatClampNeg a5) ((5 * v11_7) + 2).toNatClampNeg a6) ((5 * v11_7) + 3).toNatClampNeg a7) hx hb hK hP hD hS 32 0 mat_32 rfl hi14 dX9_call_247 (fun H locs hP hD hS => ?_)
          replace hP := msetP_32 hP
          replace hD := msetD_32 hD
          refine lv_aload_n hx hb dX9_call_248 rfl (lv_at hl 2 rfl) ?_
          refine mg_stepMany hx hb hts hown hK hP dX9_call_249 ?_
          refine lv_iload_n hx hb dX9_call_252 rfl (lv_at hl 3 rfl) ?_
          refine lv_dup2_11 hx hb dX9_call_253 rfl rfl ?_
          obtain ⟨hi15, hT⟩ := hT
          refine va_iald (f := S.2.1 29) hx hb hK hP 29 0 mat_29 rfl hi15 dX9_call_254 ?_
          refine lv_iconst (v := 1) hx hb dX9_call_255 (by decide) ?_
          refine lv_iadd hx hb dX9_call_256 ?_
          obtain ⟨hi16, hT⟩ := hT
          refine va_iast (f := S.2.1 29) hx hb hK hP hD hS 29 0 mat_29 rfl hi16 dX9_call_257 (fun H locs hP hD hS => ?_)
          replace hP := msetP_29 hP
          replace hD := msetD_29 hD
          refine lv_aload_n hx hb dX9_call_258 rfl (lv_at hl 2 rfl) ?_
          refine lv_iconst (v := 0) hx hb dX9_call_259 (by decide) ?_
          refine mp_trouble hx hb hts hown hK hP hD hS dX9_call_260 (fun H locs hP hD hS => ?_)
          refine lv_iload hx hb dX9_call_263 (lv_at hl 1 rfl) ?_
          refine lv_iconst (v := 1) hx hb dX9_call_265 (by decide) ?_
          refine lv_iadd hx hb dX9_call_266 ?_
          exact hret _ _ _ _ _ _ hP hD hS hT dX9_call_267
        · replace hT := hT.2 c6
          refine lv_aload_n hx hb dX9_call_154 rfl (lv_at hl 1 rfl) ?_
          refine lv_iconst (v := 5) hx hb dX9_call_155 (by decide) ?_
          refine mcallI (n := 1) (rest := []) hT hx hb hml hown hts hK hA hP hD hS hl gg_192 hd_X9_no ⟨Nat.le_of_ble_eq_true rfl, Nat.le_of_ble_eq_true rfl⟩ rfl rfl (Nat.le_of_ble_eq_true rfl) dX9_call_156 (Nat.zero_le _) (Nat.zero_le _) (fun r18 S17 H locs hP hD hS hT => ?_)
          exact hret _ _ _ _ _ _ hP hD hS hT dX9_call_159
      · replace hT := hT.2 c3
        refine lv_iload hx hb dX9_call_49 (lv_at hl 10 rfl) ?_
        refine lv_if_ne (tgt := 59) hx hb dX9_call_51 (by decide) (fun c19 => ?_) (fun c19 => ?_)
        · replace hT := hT.1 c19
          refine lv_iload hx hb dX9_call_59 (lv_at hl 10 rfl) ?_
          refine lv_iconst (v := 1) hx hb dX9_call_61 (by decide) ?_
          refine lv_icmp_ne (tgt := 70) hx hb dX9_call_62 (by decide) (fun c20 => ?_) (fun c20 => ?_)
          · replace hT := hT.1 c20
            refine lv_iload hx hb dX9_call_70 (lv_at hl 10 rfl) ?_
            refine lv_iconst (v := 2) hx hb dX9_call_72 (by decide) ?_
            refine lv_icmp_ne (tgt := 81) hx hb dX9_call_73 (by decide) (fun c21 => ?_) (fun c21 => ?_)
            · replace hT := hT.1 c21
              refine lv_iload hx hb dX9_call_81 (lv_at hl 10 rfl) ?_
              refine lv_iconst (v := 3) hx hb dX9_call_83 (by decide) ?_
              refine lv_icmp_ne (tgt := 92) hx hb dX9_call_84 (by decide) (fun c22 => ?_) (fun c22 => ?_)
              · replace hT := hT.1 c22
                refine lv_iload hx hb dX9_call_92 (lv_at hl 8 rfl) ?_
                refine lv_istore (lv' := [(11, .int a8), (0, .ref (ad 0)), (1, .int a1), (2, .int a2), (3, .int a3), (4, .int a4), (5, .int a5), (6, .int a6), (7, .int a7), (8, .int a8), (9, .int x9), (10, .int x10)]) hx hb dX9_call_94 hl (by decide) rfl (fun ls hl => ?_)
                refine lv_aload_n hx hb dX9_call_96 rfl (lv_at hl 1 rfl) ?_
                refine lv_iload hx hb dX9_call_97 (lv_at hl 0 rfl) ?_
                refine lv_iconst (v := 0) hx hb dX9_call_99 (by decide) ?_
                refine lv_iconst (v := 4) hx hb dX9_call_100 (by decide) ?_
                refine mcallZ (n := 3) (rest := []) hT hx hb hml hown hts hK hA hP hD hS hl gg_139 hd_X9_in ⟨Nat.le_of_ble_eq_true rfl, Nat.le_of_ble_eq_true rfl⟩ rfl rfl (Nat.le_of_ble_eq_true rfl) dX9_call_101 (Nat.zero_le _) (Nat.zero_le _) (fun b24 S23 H locs hP hD hS hT => ?_)
                refine lv_if_eq (tgt := 118) hx hb dX9_call_104 (by decide) (fun c25 => ?_) (fun c25 => ?_)
                · replace hT := hT.1 c25
                  rw [hB118] at hT
                  exact hT _ _ _ hP hD hS (lv_sub hl [1] rfl)
                · replace hT := hT.2 c25
                  refine lv_iload hx hb dX9_call_107 (lv_at hl 10 rfl) ?_
                  refine lv_iload hx hb dX9_call_109 (lv_at hl 0 rfl) ?_
                  refine lv_ishr hx hb dX9_call_111 ?_
                  refine lv_iconst (v := 1) hx hb dX9_call_112 (by decide) ?_
                  refine lv_iand hx hb dX9_call_113 ?_
                  refine lv_iconst (v := 1) hx hb dX9_call_114 (by decide) ?_
                  refine lv_icmp_ne (tgt := 124) hx hb dX9_call_115 (by decide) (fun c26 => ?_) (fun c26 => ?_)
                  · replace hT := hT.1 c26
                    refine lv_iload hx hb dX9_call_124 (lv_at hl 10 rfl) ?_
                    refine lv_iconst (v := 1) hx hb dX9_call_126 (by decide) ?_
                    refine lv_iload hx hb dX9_call_127 (lv_at hl 0 rfl) ?_
                    refine lv_ishl hx hb dX9_call_129 ?_
                    refine lv_ior hx hb dX9_call_130 ?_
                    refine lv_topi (fun v9_27 ev9_27 => ?_)
                    replace hT := hT v9_27 ev9_27
                    refine lv_istore (lv' := [(9, .int v9_27), (11, .int a8), (0, .ref (ad 0)), (1, .int a1), (2, .int a2), (3, .int a3), (4, .int a4), (5, .int a5), (6, .int a6), (7, .int a7), (8, .int a8), (10, .int x10)]) hx hb dX9_call_131 hl (by decide) rfl (fun ls hl => ?_)
                    refine lv_iinc (v := x10 + 1) (lv' := [(10, .int (x10 + 1)), (9, .int v9_27), (11, .int a8), (0, .ref (ad 0)), (1, .int a1), (2, .int a2), (3, .int a3), (4, .int a4), (5, .int a5), (6, .int a6), (7, .int a7), (8, .int a8)]) hx hb dX9_call_133 hl (k := 11) rfl rfl (by decide) rfl (fun ls hl => ?_)
                    refine lv_goto (tgt := 43) hx hb dX9_call_136 (by decide) ?_
                    rw [hB43] at hT
                    exact hT _ _ _ hP hD hS (lv_sub hl [3, 4, 5, 6, 7, 8, 9, 10, 11, 1, 0] rfl)
                  · replace hT := hT.2 c26
                    rw [hB118] at hT
                    exact hT _ _ _ hP hD hS (lv_sub hl [1] rfl)
              · replace hT := hT.2 c22
                refine lv_iload hx hb dX9_call_87 (lv_at hl 7 rfl) ?_
                refine lv_goto (tgt := 94) hx hb dX9_call_89 (by decide) ?_
                refine lv_istore (lv' := [(11, .int a7), (0, .ref (ad 0)), (1, .int a1), (2, .int a2), (3, .int a3), (4, .int a4), (5, .int a5), (6, .int a6), (7, .int a7), (8, .int a8), (9, .int x9), (10, .int x10)]) hx hb dX9_call_94 hl (by decide) rfl (fun ls hl => ?_)
                refine lv_aload_n hx hb dX9_call_96 rfl (lv_at hl 1 rfl) ?_
                refine lv_iload hx hb dX9_call_97 (lv_at hl 0 rfl) ?_
                refine lv_iconst (v := 0) hx hb dX9_call_99 (by decide) ?_
                refine lv_iconst (v := 4) hx hb dX9_call_100 (by decide) ?_
                refine mcallZ (n := 3) (rest := []) hT hx hb hml hown hts hK hA hP hD hS hl gg_139 hd_X9_in ⟨Nat.le_of_ble_eq_true rfl, Nat.le_of_ble_eq_true rfl⟩ rfl rfl (Nat.le_of_ble_eq_true rfl) dX9_call_101 (Nat.zero_le _) (Nat.zero_le _) (fun b29 S28 H locs hP hD hS hT => ?_)
                refine lv_if_eq (tgt := 118) hx hb dX9_call_104 (by decide) (fun c30 => ?_) (fun c30 => ?_)
                · replace hT := hT.1 c30
                  rw [hB118] at hT
                  exact hT _ _ _ hP hD hS (lv_sub hl [1] rfl)
                · replace hT := hT.2 c30
                  refine lv_iload hx hb dX9_call_107 (lv_at hl 10 rfl) ?_
                  refine lv_iload hx hb dX9_call_109 (lv_at hl 0 rfl) ?_
                  refine lv_ishr hx hb dX9_call_111 ?_
                  refine lv_iconst (v := 1) hx hb dX9_call_112 (by decide) ?_
                  refine lv_iand hx hb dX9_call_113 ?_
                  refine lv_iconst (v := 1) hx hb dX9_call_114 (by decide) ?_
                  refine lv_icmp_ne (tgt := 124) hx hb dX9_call_115 (by decide) (fun c31 => ?_) (fun c31 => ?_)
                  · replace hT := hT.1 c31
                    refine lv_iload hx hb dX9_call_124 (lv_at hl 10 rfl) ?_
                    refine lv_iconst (v := 1) hx hb dX9_call_126 (by decide) ?_
                    refine lv_iload hx hb dX9_call_127 (lv_at hl 0 rfl) ?_
                    refine lv_ishl hx hb dX9_call_129 ?_
                    refine lv_ior hx hb dX9_call_130 ?_
                    refine lv_topi (fun v9_32 ev9_32 => ?_)
                    replace hT := hT v9_32 ev9_32
                    refine lv_istore (lv' := [(9, .int v9_32), (11, .int a7), (0, .ref (ad 0)), (1, .int a1), (2, .int a2), (3, .int a3), (4, .int a4), (5, .int a5), (6, .int a6), (7, .int a7), (8, .int a8), (10, .int x10)]) hx hb dX9_call_131 hl (by decide) rfl (fun ls hl => ?_)
                    refine lv_iinc (v := x10 + 1) (lv' := [(10, .int (x10 + 1)), (9, .int v9_32), (11, .int a7), (0, .ref (ad 0)), (1, .int a1), (2, .int a2), (3, .int a3), (4, .int a4), (5, .int a5), (6, .int a6), (7, .int a7), (8, .int a8)]) hx hb dX9_call_133 hl (k := 11) rfl rfl (by decide) rfl (fun ls hl => ?_)
                    refine lv_goto (tgt := 43) hx hb dX9_call_136 (by decide) ?_
                    rw [hB43] at hT
                    exact hT _ _ _ hP hD hS (lv_sub hl [3, 4, 5, 6, 7, 8, 9, 10, 11, 1, 0] rfl)
                  · replace hT := hT.2 c31
                    rw [hB118] at hT
                    exact hT _ _ _ hP hD hS (lv_sub hl [1] rfl)
            · replace hT := hT.2 c21
              refine lv_iload hx hb dX9_call_76 (lv_at hl 6 rfl) ?_
              refine lv_goto (tgt := 94) hx hb dX9_call_78 (by decide) ?_
              refine lv_istore (lv' := [(11, .int a6), (0, .ref (ad 0)), (1, .int a1), (2, .int a2), (3, .int a3), (4, .int a4), (5, .int a5), (6, .int a6), (7, .int a7), (8, .int a8), (9, .int x9), (10, .int x10)]) hx hb dX9_call_94 hl (by decide) rfl (fun ls hl => ?_)
              refine lv_aload_n hx hb dX9_call_96 rfl (lv_at hl 1 rfl) ?_
              refine lv_iload hx hb dX9_call_97 (lv_at hl 0 rfl) ?_
              refine lv_iconst (v := 0) hx hb dX9_call_99 (by decide) ?_
              refine lv_iconst (v := 4) hx hb dX9_call_100 (by decide) ?_
              refine mcallZ (n := 3) (rest := []) hT hx hb hml hown hts hK hA hP hD hS hl gg_139 hd_X9_in ⟨Nat.le_of_ble_eq_true rfl, Nat.le_of_ble_eq_true rfl⟩ rfl rfl (Nat.le_of_ble_eq_true rfl) dX9_call_101 (Nat.zero_le _) (Nat.zero_le _) (fun b34 S33 H locs hP hD hS hT => ?_)
              refine lv_if_eq (tgt := 118) hx hb dX9_call_104 (by decide) (fun c35 => ?_) (fun c35 => ?_)
              · replace hT := hT.1 c35
                rw [hB118] at hT
                exact hT _ _ _ hP hD hS (lv_sub hl [1] rfl)
              · replace hT := hT.2 c35
                refine lv_iload hx hb dX9_call_107 (lv_at hl 10 rfl) ?_
                refine lv_iload hx hb dX9_call_109 (lv_at hl 0 rfl) ?_
                refine lv_ishr hx hb dX9_call_111 ?_
                refine lv_iconst (v := 1) hx hb dX9_call_112 (by decide) ?_
                refine lv_iand hx hb dX9_call_113 ?_
                refine lv_iconst (v := 1) hx hb dX9_call_114 (by decide) ?_
                refine lv_icmp_ne (tgt := 124) hx hb dX9_call_115 (by decide) (fun c36 => ?_) (fun c36 => ?_)
                · replace hT := hT.1 c36
                  refine lv_iload hx hb dX9_call_124 (lv_at hl 10 rfl) ?_
                  refine lv_iconst (v := 1) hx hb dX9_call_126 (by decide) ?_
                  refine lv_iload hx hb dX9_call_127 (lv_at hl 0 rfl) ?_
                  refine lv_ishl hx hb dX9_call_129 ?_
                  refine lv_ior hx hb dX9_call_130 ?_
                  refine lv_topi (fun v9_37 ev9_37 => ?_)
                  replace hT := hT v9_37 ev9_37
                  refine lv_istore (lv' := [(9, .int v9_37), (11, .int a6), (0, .ref (ad 0)), (1, .int a1), (2, .int a2), (3, .int a3), (4, .int a4), (5, .int a5), (6, .int a6), (7, .int a7), (8, .int a8), (10, .int x10)]) hx hb dX9_call_131 hl (by decide) rfl (fun ls hl => ?_)
                  refine lv_iinc (v := x10 + 1) (lv' := [(10, .int (x10 + 1)), (9, .int v9_37), (11, .int a6), (0, .ref (ad 0)), (1, .int a1), (2, .int a2), (3, .int a3), (4, .int a4), (5, .int a5), (6, .int a6), (7, .int a7), (8, .int a8)]) hx hb dX9_call_133 hl (k := 11) rfl rfl (by decide) rfl (fun ls hl => ?_)
                  refine lv_goto (tgt := 43) hx hb dX9_call_136 (by decide) ?_
                  rw [hB43] at hT
                  exact hT _ _ _ hP hD hS (lv_sub hl [3, 4, 5, 6, 7, 8, 9, 10, 11, 1, 0] rfl)
                · replace hT := hT.2 c36
                  rw [hB118] at hT
                  exact hT _ _ _ hP hD hS (lv_sub hl [1] rfl)
          · replace hT := hT.2 c20
            refine lv_iload hx hb dX9_call_65 (lv_at hl 5 rfl) ?_
            refine lv_goto (tgt := 94) hx hb dX9_call_67 (by decide) ?_
            refine lv_istore (lv' := [(11, .int a5), (0, .ref (ad 0)), (1, .int a1), (2, .int a2), (3, .int a3), (4, .int a4), (5, .int a5), (6, .int a6), (7, .int a7), (8, .int a8), (9, .int x9), (10, .int x10)]) hx hb dX9_call_94 hl (by decide) rfl (fun ls hl => ?_)
            refine lv_aload_n hx hb dX9_call_96 rfl (lv_at hl 1 rfl) ?_
            refine lv_iload hx hb dX9_call_97 (lv_at hl 0 rfl) ?_
            refine lv_iconst (v := 0) hx hb dX9_call_99 (by decide) ?_
            refine lv_iconst (v := 4) hx hb dX9_call_100 (by decide) ?_
            refine mcallZ (n := 3) (rest := []) hT hx hb hml hown hts hK hA hP hD hS hl gg_139 hd_X9_in ⟨Nat.le_of_ble_eq_true rfl, Nat.le_of_ble_eq_true rfl⟩ rfl rfl (Nat.le_of_ble_eq_true rfl) dX9_call_101 (Nat.zero_le _) (Nat.zero_le _) (fun b39 S38 H locs hP hD hS hT => ?_)
            refine lv_if_eq (tgt := 118) hx hb dX9_call_104 (by decide) (fun c40 => ?_) (fun c40 => ?_)
            · replace hT := hT.1 c40
              rw [hB118] at hT
              exact hT _ _ _ hP hD hS (lv_sub hl [1] rfl)
            · replace hT := hT.2 c40
              refine lv_iload hx hb dX9_call_107 (lv_at hl 10 rfl) ?_
              refine lv_iload hx hb dX9_call_109 (lv_at hl 0 rfl) ?_
              refine lv_ishr hx hb dX9_call_111 ?_
              refine lv_iconst (v := 1) hx hb dX9_call_112 (by decide) ?_
              refine lv_iand hx hb dX9_call_113 ?_
              refine lv_iconst (v := 1) hx hb dX9_call_114 (by decide) ?_
              refine lv_icmp_ne (tgt := 124) hx hb dX9_call_115 (by decide) (fun c41 => ?_) (fun c41 => ?_)
              · replace hT := hT.1 c41
                refine lv_iload hx hb dX9_call_124 (lv_at hl 10 rfl) ?_
                refine lv_iconst (v := 1) hx hb dX9_call_126 (by decide) ?_
                refine lv_iload hx hb dX9_call_127 (lv_at hl 0 rfl) ?_
                refine lv_ishl hx hb dX9_call_129 ?_
                refine lv_ior hx hb dX9_call_130 ?_
                refine lv_topi (fun v9_42 ev9_42 => ?_)
                replace hT := hT v9_42 ev9_42
                refine lv_istore (lv' := [(9, .int v9_42), (11, .int a5), (0, .ref (ad 0)), (1, .int a1), (2, .int a2), (3, .int a3), (4, .int a4), (5, .int a5), (6, .int a6), (7, .int a7), (8, .int a8), (10, .int x10)]) hx hb dX9_call_131 hl (by decide) rfl (fun ls hl => ?_)
                refine lv_iinc (v := x10 + 1) (lv' := [(10, .int (x10 + 1)), (9, .int v9_42), (11, .int a5), (0, .ref (ad 0)), (1, .int a1), (2, .int a2), (3, .int a3), (4, .int a4), (5, .int a5), (6, .int a6), (7, .int a7), (8, .int a8)]) hx hb dX9_call_133 hl (k := 11) rfl rfl (by decide) rfl (fun ls hl => ?_)
                refine lv_goto (tgt := 43) hx hb dX9_call_136 (by decide) ?_
                rw [hB43] at hT
                exact hT _ _ _ hP hD hS (lv_sub hl [3, 4, 5, 6, 7, 8, 9, 10, 11, 1, 0] rfl)
              · replace hT := hT.2 c41
                rw [hB118] at hT
                exact hT _ _ _ hP hD hS (lv_sub hl [1] rfl)
        · replace hT := hT.2 c19
          refine lv_iload hx hb dX9_call_54 (lv_at hl 4 rfl) ?_
          refine lv_goto (tgt := 94) hx hb dX9_call_56 (by decide) ?_
          refine lv_istore (lv' := [(11, .int a4), (0, .ref (ad 0)), (1, .int a1), (2, .int a2), (3, .int a3), (4, .int a4), (5, .int a5), (6, .int a6), (7, .int a7), (8, .int a8), (9, .int x9), (10, .int x10)]) hx hb dX9_call_94 hl (by decide) rfl (fun ls hl => ?_)
          refine lv_aload_n hx hb dX9_call_96 rfl (lv_at hl 1 rfl) ?_
          refine lv_iload hx hb dX9_call_97 (lv_at hl 0 rfl) ?_
          refine lv_iconst (v := 0) hx hb dX9_call_99 (by decide) ?_
          refine lv_iconst (v := 4) hx hb dX9_call_100 (by decide) ?_
          refine mcallZ (n := 3) (rest := []) hT hx hb hml hown hts hK hA hP hD hS hl gg_139 hd_X9_in ⟨Nat.le_of_ble_eq_true rfl, Nat.le_of_ble_eq_true rfl⟩ rfl rfl (Nat.le_of_ble_eq_true rfl) dX9_call_101 (Nat.zero_le _) (Nat.zero_le _) (fun b44 S43 H locs hP hD hS hT => ?_)
          refine lv_if_eq (tgt := 118) hx hb dX9_call_104 (by decide) (fun c45 => ?_) (fun c45 => ?_)
          · replace hT := hT.1 c45
            rw [hB118] at hT
            exact hT _ _ _ hP hD hS (lv_sub hl [1] rfl)
          · replace hT := hT.2 c45
            refine lv_iload hx hb dX9_call_107 (lv_at hl 10 rfl) ?_
            refine lv_iload hx hb dX9_call_109 (lv_at hl 0 rfl) ?_
            refine lv_ishr hx hb dX9_call_111 ?_
            refine lv_iconst (v := 1) hx hb dX9_call_112 (by decide) ?_
            refine lv_iand hx hb dX9_call_113 ?_
            refine lv_iconst (v := 1) hx hb dX9_call_114 (by decide) ?_
            refine lv_icmp_ne (tgt := 124) hx hb dX9_call_115 (by decide) (fun c46 => ?_) (fun c46 => ?_)
            · replace hT := hT.1 c46
              refine lv_iload hx hb dX9_call_124 (lv_at hl 10 rfl) ?_
              refine lv_iconst (v := 1) hx hb dX9_call_126 (by decide) ?_
              refine lv_iload hx hb dX9_call_127 (lv_at hl 0 rfl) ?_
              refine lv_ishl hx hb dX9_call_129 ?_
              refine lv_ior hx hb dX9_call_130 ?_
              refine lv_topi (fun v9_47 ev9_47 => ?_)
              replace hT := hT v9_47 ev9_47
              refine lv_istore (lv' := [(9, .int v9_47), (11, .int a4), (0, .ref (ad 0)), (1, .int a1), (2, .int a2), (3, .int a3), (4, .int a4), (5, .int a5), (6, .int a6), (7, .int a7), (8, .int a8), (10, .int x10)]) hx hb dX9_call_131 hl (by decide) rfl (fun ls hl => ?_)
              refine lv_iinc (v := x10 + 1) (lv' := [(10, .int (x10 + 1)), (9, .int v9_47), (11, .int a4), (0, .ref (ad 0)), (1, .int a1), (2, .int a2), (3, .int a3), (4, .int a4), (5, .int a5), (6, .int a6), (7, .int a7), (8, .int a8)]) hx hb dX9_call_133 hl (k := 11) rfl rfl (by decide) rfl (fun ls hl => ?_)
              refine lv_goto (tgt := 43) hx hb dX9_call_136 (by decide) ?_
              rw [hB43] at hT
              exact hT _ _ _ hP hD hS (lv_sub hl [3, 4, 5, 6, 7, 8, 9, 10, 11, 1, 0] rfl)
            · replace hT := hT.2 c46
              rw [hB118] at hT
              exact hT _ _ _ hP hD hS (lv_sub hl [1] rfl)
    · clear hP hD hS hl H locs ls
      intro S hT
      unfold mT_call_118 at hT
      rw [hB118]
      intro H locs ls hP hD hS hl
      refine lv_aload_n hx hb dX9_call_118 rfl (lv_at hl 0 rfl) ?_
      refine lv_iconst (v := 1) hx hb dX9_call_119 (by decide) ?_
      refine mcallI (n := 1) (rest := []) hT hx hb hml hown hts hK hA hP hD hS hl gg_192 hd_X9_no ⟨Nat.le_of_ble_eq_true rfl, Nat.le_of_ble_eq_true rfl⟩ rfl rfl (Nat.le_of_ble_eq_true rfl) dX9_call_120 (Nat.zero_le _) (Nat.zero_le _) (fun r49 S48 H locs hP hD hS hT => ?_)
      exact hret _ _ _ _ _ _ hP hD hS hT dX9_call_123
  unfold mT_call_e at hT
  refine lv_aload_n hx hb dX9_call_0 rfl (lv_at hl 0 rfl) ?_
  refine lv_iconst (v := 0) hx hb dX9_call_1 (by decide) ?_
  refine mp_thrown hx hb hts hown hK hP hD hS dX9_call_2 (fun H locs hP hD hS => ?_)
  refine lv_aload_n hx hb dX9_call_5 rfl (lv_at hl 0 rfl) ?_
  refine lv_iload_n hx hb dX9_call_6 rfl (lv_at hl 1 rfl) ?_
  refine mcallZ (n := 1) (rest := []) hT hx hb hml hown hts hK hA hP hD hS hl gg_242 hd_X9_isScheme ⟨Nat.le_of_ble_eq_true rfl, Nat.le_of_ble_eq_true rfl⟩ rfl rfl (Nat.le_of_ble_eq_true rfl) dX9_call_7 (Nat.zero_le _) (Nat.zero_le _) (fun b51 S50 H locs hP hD hS hT => ?_)
  refine lv_if_eq (tgt := 31) hx hb dX9_call_10 (by decide) (fun c52 => ?_) (fun c52 => ?_)
  · replace hT := hT.1 c52
    rw [hB31] at hT
    exact hT _ _ _ hP hD hS (lv_sub hl [0] rfl)
  · replace hT := hT.2 c52
    refine lv_aload_n hx hb dX9_call_13 rfl (lv_at hl 0 rfl) ?_
    refine lv_iload_n hx hb dX9_call_14 rfl (lv_at hl 2 rfl) ?_
    refine mcallZ (n := 1) (rest := []) hT hx hb hml hown hts hK hA hP hD hS hl gg_242 hd_X9_isScheme ⟨Nat.le_of_ble_eq_true rfl, Nat.le_of_ble_eq_true rfl⟩ rfl rfl (Nat.le_of_ble_eq_true rfl) dX9_call_15 (Nat.zero_le _) (Nat.zero_le _) (fun b54 S53 H locs hP hD hS hT => ?_)
    refine lv_if_eq (tgt := 31) hx hb dX9_call_18 (by decide) (fun c55 => ?_) (fun c55 => ?_)
    · replace hT := hT.1 c55
      rw [hB31] at hT
      exact hT _ _ _ hP hD hS (lv_sub hl [0] rfl)
    · replace hT := hT.2 c55
      refine lv_aload_n hx hb dX9_call_21 rfl (lv_at hl 0 rfl) ?_
      refine lv_iload_n hx hb dX9_call_22 rfl (lv_at hl 3 rfl) ?_
      refine lv_iconst (v := 1) hx hb dX9_call_23 (by decide) ?_
      refine lv_iconst (v := 4) hx hb dX9_call_24 (by decide) ?_
      refine mcallZ (n := 3) (rest := []) hT hx hb hml hown hts hK hA hP hD hS hl gg_139 hd_X9_in ⟨Nat.le_of_ble_eq_true rfl, Nat.le_of_ble_eq_true rfl⟩ rfl rfl (Nat.le_of_ble_eq_true rfl) dX9_call_25 (Nat.zero_le _) (Nat.zero_le _) (fun b57 S56 H locs hP hD hS hT => ?_)
      refine lv_if_ne (tgt := 37) hx hb dX9_call_28 (by decide) (fun c58 => ?_) (fun c58 => ?_)
      · replace hT := hT.1 c58
        refine lv_iconst (v := 0) hx hb dX9_call_37 (by decide) ?_
        refine lv_istore (lv' := [(9, .int 0), (0, .ref (ad 0)), (1, .int a1), (2, .int a2), (3, .int a3), (4, .int a4), (5, .int a5), (6, .int a6), (7, .int a7), (8, .int a8)]) hx hb dX9_call_38 hl (by decide) rfl (fun ls hl => ?_)
        refine lv_iconst (v := 0) hx hb dX9_call_40 (by decide) ?_
        refine lv_istore (lv' := [(10, .int 0), (9, .int 0), (0, .ref (ad 0)), (1, .int a1), (2, .int a2), (3, .int a3), (4, .int a4), (5, .int a5), (6, .int a6), (7, .int a7), (8, .int a8)]) hx hb dX9_call_41 hl (by decide) rfl (fun ls hl => ?_)
        rw [hB43] at hT
        exact hT _ _ _ hP hD hS (lv_sub hl [2, 3, 4, 5, 6, 7, 8, 9, 10, 1, 0] rfl)
      · replace hT := hT.2 c58
        rw [hB31] at hT
        exact hT _ _ _ hP hD hS (lv_sub hl [0] rfl)
end
section
abbrev mX_count (l : Launch) (S : MS) (a1 : Int32) (a2 : Int32) (post : Int64 → MS → Prop) : Prop := mCtJ l yX9_count cX9_count 11 2 44 (fun ad => [.int a1, .int a2]) S post
def mT_count_24 (l : Launch) (a1 : Int32) (a2 : Int32) (post : Int64 → MS → Prop) (B24 : MS → Prop) (B38 : MS → Int32 → Prop) (B59 : MS → Int32 → Prop) (B67 : MS → Int32 → Int32 → Prop) (B82 : MS → Int32 → Int32 → Int64 → Int32 → Prop) (S : MS) : Prop := mX_no l S 1 (fun r2 S1 => post r2.toInt64 S1)
def mT_count_38 (l : Launch) (a1 : Int32) (a2 : Int32) (post : Int64 → MS → Prop) (B24 : MS → Prop) (B38 : MS → Int32 → Prop) (B59 : MS → Int32 → Prop) (B67 : MS → Int32 → Int32 → Prop) (B82 : MS → Int32 → Int32 → Int64 → Int32 → Prop) (S : MS) (x3 : Int32) : Prop := (8 ≤ x3 → B59 S 1) ∧ (¬ 8 ≤ x3 → vp_in x3 488 ∧ B38 (ml S 33 (vp_updL (S.2.2 33) x3.toNatClampNeg 0)) (x3 + 1))
def mT_count_59 (l : Launch) (a1 : Int32) (a2 : Int32) (post : Int64 → MS → Prop) (B24 : MS → Prop) (B38 : MS → Int32 → Prop) (B59 : MS → Int32 → Prop) (B67 : MS → Int32 → Int32 → Prop) (B82 : MS → Int32 → Int32 → Int64 → Int32 → Prop) (S : MS) (x3 : Int32) : Prop := (a2 < x3 → vp_in ((8 * a2) + a1) 488 ∧ post (S.2.2 33 ((8 * a2) + a1).toNatClampNeg) S) ∧ (¬ a2 < x3 → B67 S x3 0)
def mT_count_67 (l : Launch) (a1 : Int32) (a2 : Int32) (post : Int64 → MS → Prop) (B24 : MS → Prop) (B38 : MS → Int32 → Prop) (B59 : MS → Int32 → Prop) (B67 : MS → Int32 → Int32 → Prop) (B82 : MS → Int32 → Int32 → Int64 → Int32 → Prop) (S : MS) (x3 : Int32) (x4 : Int32) : Prop := (S.1 9 ≤ x4 → B59 S (x3 + 1)) ∧ (¬ S.1 9 ≤ x4 → B82 S x3 x4 0 0)
def mT_count_82 (l : Launch) (a1 : Int32) (a2 : Int32) (post : Int64 → MS → Prop) (B24 : MS → Prop) (B38 : MS → Int32 → Prop) (B59 : MS → Int32 → Prop) (B67 : MS → Int32 → Int32 → Prop) (B82 : MS → Int32 → Int32 → Int64 → Int32 → Prop) (S : MS) (x3 : Int32) (x4 : Int32) (x5 : Int64) (x7 : Int32) : Prop := vp_in x4 8 ∧ (S.2.1 29 x4.toNatClampNeg ≤ x7 → vp_in ((8 * x3) + x4) 488 ∧ B67 (ml S 33 (vp_updL (S.2.2 33) ((8 * x3) + x4).toNatClampNeg x5)) x3 (x4 + 1)) ∧ (¬ S.2.1 29 x4.toNatClampNeg ≤ x7 → ∀ v8_11 : Int32, v8_11 = (8 * x4) + x7 → vp_in v8_11 64 ∧ (¬ S.2.1 30 v8_11.toNatClampNeg = (-1) → vp_in v8_11 64 ∧ (x3 ≤ S.2.1 31 v8_11.toNatClampNeg → (lg_cmp 0 (1000000000000000000 - x5) ≤ 0 → ∀ v5_17 : Int64, v5_17 = x5 + 0 → B82 S x3 x4 v5_17 (x7 + 1)) ∧ (¬ lg_cmp 0 (1000000000000000000 - x5) ≤ 0 → B82 S x3 x4 1000000000000000000 (x7 + 1))) ∧ (¬ x3 ≤ S.2.1 31 v8_11.toNatClampNeg → vp_in v8_11 64 ∧ vp_in v8_11 64 ∧ vp_in ((8 * (x3 - (S.2.1 31 v8_11.toNatClampNeg))) + (S.2.1 30 v8_11.toNatClampNeg)) 488 ∧ ∀ v9_21 : Int64, v9_21 = S.2.2 33 ((8 * (x3 - (S.2.1 31 v8_11.toNatClampNeg))) + (S.2.1 30 v8_11.toNatClampNeg)).toNatClampNeg → (lg_cmp v9_21 (1000000000000000000 - x5) ≤ 0 → ∀ v5_23 : Int64, v5_23 = x5 + v9_21 → B82 S x3 x4 v5_23 (x7 + 1)) ∧ (¬ lg_cmp v9_21 (1000000000000000000 - x5) ≤ 0 → B82 S x3 x4 1000000000000000000 (x7 + 1)))) ∧ (S.2.1 30 v8_11.toNatClampNeg = (-1) → (lg_cmp 1 (1000000000000000000 - x5) ≤ 0 → ∀ v5_25 : Int64, v5_25 = x5 + 1 → B82 S x3 x4 v5_25 (x7 + 1)) ∧ (¬ lg_cmp 1 (1000000000000000000 - x5) ≤ 0 → B82 S x3 x4 1000000000000000000 (x7 + 1))))
def mT_count_e (l : Launch) (a1 : Int32) (a2 : Int32) (post : Int64 → MS → Prop) (B24 : MS → Prop) (B38 : MS → Int32 → Prop) (B59 : MS → Int32 → Prop) (B67 : MS → Int32 → Int32 → Prop) (B82 : MS → Int32 → Int32 → Int64 → Int32 → Prop) (S0 : MS) : Prop := mX_isScheme l (mf S0 3 0) a1 (fun b27 S26 => (bI b27 = 0 → B24 S26) ∧ (¬ bI b27 = 0 → mX_in l S26 a2 0 60 (fun b30 S29 => (¬ bI b30 = 0 → B38 (mf S29 2 0) 0) ∧ (bI b30 = 0 → B24 S29))))
set_option maxHeartbeats 4000000 in
set_option maxRecDepth 100000 in
theorem m_count (l : Launch) (S0 : MS) (a1 : Int32) (a2 : Int32) (post : Int64 → MS → Prop) (h : ∀ (B24 : MS → Prop) (B38 : MS → Int32 → Prop) (B59 : MS → Int32 → Prop) (B67 : MS → Int32 → Int32 → Prop) (B82 : MS → Int32 → Int32 → Int64 → Int32 → Prop), (∀ (S : MS) , mT_count_24 l a1 a2 post B24 B38 B59 B67 B82 S → B24 S ) → (∀ (S : MS) (x3 : Int32), mT_count_38 l a1 a2 post B24 B38 B59 B67 B82 S x3 → B38 S x3) → (∀ (S : MS) (x3 : Int32), mT_count_59 l a1 a2 post B24 B38 B59 B67 B82 S x3 → B59 S x3) → (∀ (S : MS) (x3 : Int32) (x4 : Int32), mT_count_67 l a1 a2 post B24 B38 B59 B67 B82 S x3 x4 → B67 S x3 x4) → (∀ (S : MS) (x3 : Int32) (x4 : Int32) (x5 : Int64) (x7 : Int32), mT_count_82 l a1 a2 post B24 B38 B59 B67 B82 S x3 x4 x5 x7 → B82 S x3 x4 x5 x7) → mT_count_e l a1 a2 post B24 B38 B59 B67 B82 S0) : mX_count l S0 a1 a2 post := by
  refine msetJ rfl (fun _ => Nat.le_of_ble_eq_true rfl) ?_
  intro p e s m args below meth c D ad cI cZ cL A Q hx hb hml hown hts hK hA hret H locs ls hP hD hS hl
  replace hl : lv_has ls 11 [(0, .ref (ad 0)), (1, .int a1), (2, .int a2)] := hl
  obtain ⟨B24, hB24⟩ : ∃ B : MS → Prop, B = (fun S => ∀ (H : Heap) (locs : List Loc) (ls : Array Slot), va_P D vwCl (mW ad cI cZ cL S) H → va_D A (mW ad cI cZ cL S) → va_S A s.heap H locs → lv_has ls 11 [(0, .ref (ad 0))] → W p l e (mrm 2 44) s m args below meth c H locs 0 0 Q (F0 m 24 ls [])) := ⟨_, rfl⟩
  obtain ⟨B38, hB38⟩ : ∃ B : MS → Int32 → Prop, B = (fun S x3 => ∀ (H : Heap) (locs : List Loc) (ls : Array Slot), va_P D vwCl (mW ad cI cZ cL S) H → va_D A (mW ad cI cZ cL S) → va_S A s.heap H locs → lv_has ls 11 [(0, .ref (ad 0)), (1, .int a1), (2, .int a2), (3, .int x3)] → W p l e (mrm 2 44) s m args below meth c H locs 0 0 Q (F0 m 38 ls [])) := ⟨_, rfl⟩
  obtain ⟨B59, hB59⟩ : ∃ B : MS → Int32 → Prop, B = (fun S x3 => ∀ (H : Heap) (locs : List Loc) (ls : Array Slot), va_P D vwCl (mW ad cI cZ cL S) H → va_D A (mW ad cI cZ cL S) → va_S A s.heap H locs → lv_has ls 11 [(0, .ref (ad 0)), (1, .int a1), (2, .int a2), (3, .int x3)] → W p l e (mrm 2 44) s m args below meth c H locs 0 0 Q (F0 m 59 ls [])) := ⟨_, rfl⟩
  obtain ⟨B67, hB67⟩ : ∃ B : MS → Int32 → Int32 → Prop, B = (fun S x3 x4 => ∀ (H : Heap) (locs : List Loc) (ls : Array Slot), va_P D vwCl (mW ad cI cZ cL S) H → va_D A (mW ad cI cZ cL S) → va_S A s.heap H locs → lv_has ls 11 [(0, .ref (ad 0)), (1, .int a1), (2, .int a2), (3, .int x3), (4, .int x4)] → W p l e (mrm 2 44) s m args below meth c H locs 0 0 Q (F0 m 67 ls [])) := ⟨_, rfl⟩
  obtain ⟨B82, hB82⟩ : ∃ B : MS → Int32 → Int32 → Int64 → Int32 → Prop, B = (fun S x3 x4 x5 x7 => ∀ (H : Heap) (locs : List Loc) (ls : Array Slot), va_P D vwCl (mW ad cI cZ cL S) H → va_D A (mW ad cI cZ cL S) → va_S A s.heap H locs → lv_has ls 11 [(0, .ref (ad 0)), (1, .int a1), (2, .int a2), (3, .int x3), (4, .int x4), (5, .long x5), (7, .int x7)] → W p l e (mrm 2 44) s m args below meth c H locs 0 0 Q (F0 m 82 ls [])) := ⟨_, rfl⟩
  have hT : mT_count_e l a1 a2 post B24 B38 B59 B67 B82 S0 := by
    refine h B24 B38 B59 B67 B82 ?_ ?_ ?_ ?_ ?_
    · clear hP hD hS hl H locs ls
      intro S hT
      unfold mT_count_24 at hT
      rw [hB24]
      intro H locs ls hP hD hS hl
      refine lv_aload_n hx hb dX9_count_24 rfl (lv_at hl 0 rfl) ?_
      refine lv_iconst (v := 1) hx hb dX9_count_25 (by decide) ?_
      refine mcallI (n := 1) (rest := []) hT hx hb hml hown hts hK hA hP hD hS hl gg_192 hd_X9_no ⟨Nat.le_of_ble_eq_true rfl, Nat.le_of_ble_eq_true rfl⟩ rfl rfl (Nat.le_of_ble_eq_true rfl) dX9_count_26 (Nat.zero_le _) (Nat.zero_le _) (fun r2 S1 H locs hP hD hS hT => ?_)
      refine lv_i2l hx hb dX9_count_29 rfl ?_
      exact hret _ _ _ _ _ _ hP hD hS hT dX9_count_30
    · clear hP hD hS hl H locs ls
      intro S x3 hT
      unfold mT_count_38 at hT
      rw [hB38]
      intro H locs ls hP hD hS hl
      refine lv_iload_n hx hb dX9_count_38 rfl (lv_at hl 3 rfl) ?_
      refine lv_bipush (v := 8) hx hb dX9_count_39 (by decide) ?_
      refine lv_icmp_ge (tgt := 57) hx hb dX9_count_41 (by decide) (fun c3 => ?_) (fun c3 => ?_)
      · replace hT := hT.1 c3
        refine lv_iconst (v := 1) hx hb dX9_count_57 (by decide) ?_
        refine lv_istore_n (lv' := [(3, .int 1), (0, .ref (ad 0)), (1, .int a1), (2, .int a2)]) hx hb dX9_count_58 rfl hl (by decide) rfl (fun ls hl => ?_)
        rw [hB59] at hT
        exact hT _ _ _ hP hD hS (lv_sub hl [1, 2, 3, 0] rfl)
      · replace hT := hT.2 c3
        refine lv_aload_n hx hb dX9_count_44 rfl (lv_at hl 0 rfl) ?_
        refine mg_counts hx hb hts hown hK hP dX9_count_45 ?_
        refine lv_iload_n hx hb dX9_count_48 rfl (lv_at hl 3 rfl) ?_
        refine lv_lconst (v := 0) hx hb dX9_count_49 (by decide) ?_
        obtain ⟨hi4, hT⟩ := hT
        refine va_last (f := S.2.2 33) hx hb hK hP hD hS 33 2 mat_33 rfl hi4 dX9_count_50 (fun H locs hP hD hS => ?_)
        replace hP := msetP_33 hP
        replace hD := msetD_33 hD
        refine lv_iinc (v := x3 + 1) (lv' := [(3, .int (x3 + 1)), (0, .ref (ad 0)), (1, .int a1), (2, .int a2)]) hx hb dX9_count_51 hl (k := 3) rfl rfl (by decide) rfl (fun ls hl => ?_)
        refine lv_goto (tgt := 38) hx hb dX9_count_54 (by decide) ?_
        rw [hB38] at hT
        exact hT _ _ _ hP hD hS (lv_sub hl [1, 2, 3, 0] rfl)
    · clear hP hD hS hl H locs ls
      intro S x3 hT
      unfold mT_count_59 at hT
      rw [hB59]
      intro H locs ls hP hD hS hl
      refine lv_iload_n hx hb dX9_count_59 rfl (lv_at hl 3 rfl) ?_
      refine lv_iload_n hx hb dX9_count_60 rfl (lv_at hl 2 rfl) ?_
      refine lv_icmp_gt (tgt := 218) hx hb dX9_count_61 (by decide) (fun c5 => ?_) (fun c5 => ?_)
      · replace hT := hT.1 c5
        refine lv_aload_n hx hb dX9_count_218 rfl (lv_at hl 0 rfl) ?_
        refine mg_counts hx hb hts hown hK hP dX9_count_219 ?_
        refine lv_bipush (v := 8) hx hb dX9_count_222 (by decide) ?_
        refine lv_iload_n hx hb dX9_count_224 rfl (lv_at hl 2 rfl) ?_
        refine lv_imul hx hb dX9_count_225 ?_
        refine lv_iload_n hx hb dX9_count_226 rfl (lv_at hl 1 rfl) ?_
        refine lv_iadd hx hb dX9_count_227 ?_
        obtain ⟨hi6, hT⟩ := hT
        refine va_lald (f := S.2.2 33) hx hb hK hP 33 2 mat_33 rfl hi6 dX9_count_228 ?_
        exact hret _ _ _ _ _ _ hP hD hS hT dX9_count_229
      · replace hT := hT.2 c5
        refine lv_iconst (v := 0) hx hb dX9_count_64 (by decide) ?_
        refine lv_istore (lv' := [(4, .int 0), (0, .ref (ad 0)), (1, .int a1), (2, .int a2), (3, .int x3)]) hx hb dX9_count_65 hl (by decide) rfl (fun ls hl => ?_)
        rw [hB67] at hT
        exact hT _ _ _ hP hD hS (lv_sub hl [1, 2, 3, 4, 0] rfl)
    · clear hP hD hS hl H locs ls
      intro S x3 x4 hT
      unfold mT_count_67 at hT
      rw [hB67]
      intro H locs ls hP hD hS hl
      refine lv_iload hx hb dX9_count_67 (lv_at hl 4 rfl) ?_
      refine lv_aload_n hx hb dX9_count_69 rfl (lv_at hl 0 rfl) ?_
      refine mg_schemes (v := S.1 9) hx hb hts hown hK hP rfl dX9_count_70 ?_
      refine lv_icmp_ge (tgt := 212) hx hb dX9_count_73 (by decide) (fun c7 => ?_) (fun c7 => ?_)
      · replace hT := hT.1 c7
        refine lv_iinc (v := x3 + 1) (lv' := [(3, .int (x3 + 1)), (0, .ref (ad 0)), (1, .int a1), (2, .int a2), (4, .int x4)]) hx hb dX9_count_212 hl (k := 3) rfl rfl (by decide) rfl (fun ls hl => ?_)
        refine lv_goto (tgt := 59) hx hb dX9_count_215 (by decide) ?_
        rw [hB59] at hT
        exact hT _ _ _ hP hD hS (lv_sub hl [1, 2, 3, 0] rfl)
      · replace hT := hT.2 c7
        refine lv_lconst (v := 0) hx hb dX9_count_76 (by decide) ?_
        refine lv_lstore (lv' := [(5, .long 0), (0, .ref (ad 0)), (1, .int a1), (2, .int a2), (3, .int x3), (4, .int x4)]) hx hb dX9_count_77 hl (by decide) rfl (fun ls hl => ?_)
        refine lv_iconst (v := 0) hx hb dX9_count_79 (by decide) ?_
        refine lv_istore (lv' := [(7, .int 0), (5, .long 0), (0, .ref (ad 0)), (1, .int a1), (2, .int a2), (3, .int x3), (4, .int x4)]) hx hb dX9_count_80 hl (by decide) rfl (fun ls hl => ?_)
        rw [hB82] at hT
        exact hT _ _ _ hP hD hS (lv_sub hl [2, 3, 4, 5, 6, 1, 0] rfl)
    · clear hP hD hS hl H locs ls
      intro S x3 x4 x5 x7 hT
      unfold mT_count_82 at hT
      rw [hB82]
      intro H locs ls hP hD hS hl
      refine lv_iload hx hb dX9_count_82 (lv_at hl 6 rfl) ?_
      refine lv_aload_n hx hb dX9_count_84 rfl (lv_at hl 0 rfl) ?_
      refine mg_stepMany hx hb hts hown hK hP dX9_count_85 ?_
      refine lv_iload hx hb dX9_count_88 (lv_at hl 4 rfl) ?_
      obtain ⟨hi8, hT⟩ := hT
      refine va_iald (f := S.2.1 29) hx hb hK hP 29 0 mat_29 rfl hi8 dX9_count_90 ?_
      refine lv_icmp_ge (tgt := 192) hx hb dX9_count_91 (by decide) (fun c9 => ?_) (fun c9 => ?_)
      · replace hT := hT.1 c9
        refine lv_aload_n hx hb dX9_count_192 rfl (lv_at hl 0 rfl) ?_
        refine mg_counts hx hb hts hown hK hP dX9_count_193 ?_
        refine lv_bipush (v := 8) hx hb dX9_count_196 (by decide) ?_
        refine lv_iload_n hx hb dX9_count_198 rfl (lv_at hl 3 rfl) ?_
        refine lv_imul hx hb dX9_count_199 ?_
        refine lv_iload hx hb dX9_count_200 (lv_at hl 4 rfl) ?_
        refine lv_iadd hx hb dX9_count_202 ?_
        refine lv_lload hx hb dX9_count_203 (lv_at hl 5 rfl) ?_
        obtain ⟨hi10, hT⟩ := hT
        refine va_last (f := S.2.2 33) hx hb hK hP hD hS 33 2 mat_33 rfl hi10 dX9_count_205 (fun H locs hP hD hS => ?_)
        replace hP := msetP_33 hP
        replace hD := msetD_33 hD
        refine lv_iinc (v := x4 + 1) (lv' := [(4, .int (x4 + 1)), (0, .ref (ad 0)), (1, .int a1), (2, .int a2), (3, .int x3), (5, .long x5), (7, .int x7)]) hx hb dX9_count_206 hl (k := 4) rfl rfl (by decide) rfl (fun ls hl => ?_)
        refine lv_goto (tgt := 67) hx hb dX9_count_209 (by decide) ?_
        rw [hB67] at hT
        exact hT _ _ _ hP hD hS (lv_sub hl [1, 2, 3, 4, 0] rfl)
      · replace hT := hT.2 c9
        refine lv_bipush (v := 8) hx hb dX9_count_94 (by decide) ?_
        refine lv_iload hx hb dX9_count_96 (lv_at hl 4 rfl) ?_
        refine lv_imul hx hb dX9_count_98 ?_
        refine lv_iload hx hb dX9_count_99 (lv_at hl 6 rfl) ?_
        refine lv_iadd hx hb dX9_count_101 ?_
        refine lv_topi (fun v8_11 ev8_11 => ?_)
        replace hT := hT v8_11 ev8_11
        refine lv_istore (lv' := [(8, .int v8_11), (0, .ref (ad 0)), (1, .int a1), (2, .int a2), (3, .int x3), (4, .int x4), (5, .long x5), (7, .int x7)]) hx hb dX9_count_102 hl (by decide) rfl (fun ls hl => ?_)
        refine lv_aload_n hx hb dX9_count_104 rfl (lv_at hl 1 rfl) ?_
        refine mg_stepOf hx hb hts hown hK hP dX9_count_105 ?_
        refine lv_iload hx hb dX9_count_108 (lv_at hl 0 rfl) ?_
        obtain ⟨hi12, hT⟩ := hT
        refine va_iald (f := S.2.1 30) hx hb hK hP 30 0 mat_30 rfl hi12 dX9_count_110 ?_
        refine lv_iconst (v := (-1)) hx hb dX9_count_111 (by decide) ?_
        refine lv_icmp_ne (tgt := 119) hx hb dX9_count_112 (by decide) (fun c13 => ?_) (fun c13 => ?_)
        · replace hT := hT.1 c13
          refine lv_iload_n hx hb dX9_count_119 rfl (lv_at hl 4 rfl) ?_
          refine lv_aload_n hx hb dX9_count_120 rfl (lv_at hl 1 rfl) ?_
          refine mg_stepLess hx hb hts hown hK hP dX9_count_121 ?_
          refine lv_iload hx hb dX9_count_124 (lv_at hl 0 rfl) ?_
          obtain ⟨hi14, hT⟩ := hT
          refine va_iald (f := S.2.1 31) hx hb hK hP 31 0 mat_31 rfl hi14 dX9_count_126 ?_
          refine lv_icmp_le (tgt := 158) hx hb dX9_count_127 (by decide) (fun c15 => ?_) (fun c15 => ?_)
          · replace hT := hT.1 c15
            refine lv_lconst (v := 0) hx hb dX9_count_158 (by decide) ?_
            refine lv_lstore (lv' := [(9, .long 0), (8, .int v8_11), (0, .ref (ad 0)), (1, .int a1), (2, .int a2), (3, .int x3), (4, .int x4), (5, .long x5), (7, .int x7)]) hx hb dX9_count_159 hl (by decide) rfl (fun ls hl => ?_)
            refine lv_lload hx hb dX9_count_161 (lv_at hl 0 rfl) ?_
            refine lv_ldc2 (v := 1000000000000000000) hx hb hown (hts _ k_1182) dX9_count_163 ?_
            refine lv_lload hx hb dX9_count_166 (lv_at hl 7 rfl) ?_
            refine lv_lsub hx hb dX9_count_168 ?_
            refine W.lcmp hx hb dX9_count_169 ?_
            refine lv_if_le (tgt := 179) hx hb dX9_count_170 (by decide) (fun c16 => ?_) (fun c16 => ?_)
            · replace hT := hT.1 c16
              refine lv_lload hx hb dX9_count_179 (lv_at hl 7 rfl) ?_
              refine lv_lload hx hb dX9_count_181 (lv_at hl 0 rfl) ?_
              refine lv_ladd hx hb dX9_count_183 ?_
              refine lv_topl (fun v5_17 ev5_17 => ?_)
              replace hT := hT v5_17 ev5_17
              refine lv_lstore (lv' := [(5, .long v5_17), (9, .long 0), (8, .int v8_11), (0, .ref (ad 0)), (1, .int a1), (2, .int a2), (3, .int x3), (4, .int x4), (7, .int x7)]) hx hb dX9_count_184 hl (by decide) rfl (fun ls hl => ?_)
              refine lv_iinc (v := x7 + 1) (lv' := [(7, .int (x7 + 1)), (5, .long v5_17), (9, .long 0), (8, .int v8_11), (0, .ref (ad 0)), (1, .int a1), (2, .int a2), (3, .int x3), (4, .int x4)]) hx hb dX9_count_186 hl (k := 8) rfl rfl (by decide) rfl (fun ls hl => ?_)
              refine lv_goto (tgt := 82) hx hb dX9_count_189 (by decide) ?_
              rw [hB82] at hT
              exact hT _ _ _ hP hD hS (lv_sub hl [4, 5, 6, 7, 8, 1, 0] rfl)
            · replace hT := hT.2 c16
              refine lv_ldc2 (v := 1000000000000000000) hx hb hown (hts _ k_1182) dX9_count_173 ?_
              refine lv_goto (tgt := 184) hx hb dX9_count_176 (by decide) ?_
              refine lv_lstore (lv' := [(5, .long 1000000000000000000), (9, .long 0), (8, .int v8_11), (0, .ref (ad 0)), (1, .int a1), (2, .int a2), (3, .int x3), (4, .int x4), (7, .int x7)]) hx hb dX9_count_184 hl (by decide) rfl (fun ls hl => ?_)
              refine lv_iinc (v := x7 + 1) (lv' := [(7, .int (x7 + 1)), (5, .long 1000000000000000000), (9, .long 0), (8, .int v8_11), (0, .ref (ad 0)), (1, .int a1), (2, .int a2), (3, .int x3), (4, .int x4)]) hx hb dX9_count_186 hl (k := 8) rfl rfl (by decide) rfl (fun ls hl => ?_)
              refine lv_goto (tgt := 82) hx hb dX9_count_189 (by decide) ?_
              rw [hB82] at hT
              exact hT _ _ _ hP hD hS (lv_sub hl [4, 5, 6, 7, 8, 1, 0] rfl)
          · replace hT := hT.2 c15
            refine lv_aload_n hx hb dX9_count_130 rfl (lv_at hl 1 rfl) ?_
            refine mg_counts hx hb hts hown hK hP dX9_count_131 ?_
            refine lv_bipush (v := 8) hx hb dX9_count_134 (by decide) ?_
            refine lv_iload_n hx hb dX9_count_136 rfl (lv_at hl 4 rfl) ?_
            refine lv_aload_n hx hb dX9_count_137 rfl (lv_at hl 1 rfl) ?_
            refine mg_stepLess hx hb hts hown hK hP dX9_count_138 ?_
            refine lv_iload hx hb dX9_count_141 (lv_at hl 0 rfl) ?_
            obtain ⟨hi18, hT⟩ := hT
            refine va_iald (f := S.2.1 31) hx hb hK hP 31 0 mat_31 rfl hi18 dX9_count_143 ?_
            refine lv_isub hx hb dX9_count_144 ?_
            refine lv_imul hx hb dX9_count_145 ?_
            refine lv_aload_n hx hb dX9_count_146 rfl (lv_at hl 1 rfl) ?_
            refine mg_stepOf hx hb hts hown hK hP dX9_count_147 ?_
            refine lv_iload hx hb dX9_count_150 (lv_at hl 0 rfl) ?_
            obtain ⟨hi19, hT⟩ := hT
            refine va_iald (f := S.2.1 30) hx hb hK hP 30 0 mat_30 rfl hi19 dX9_count_152 ?_
            refine lv_iadd hx hb dX9_count_153 ?_
            obtain ⟨hi20, hT⟩ := hT
            refine va_lald (f := S.2.2 33) hx hb hK hP 33 2 mat_33 rfl hi20 dX9_count_154 ?_
            refine lv_goto (tgt := 159) hx hb dX9_count_155 (by decide) ?_
            refine lv_topl (fun v9_21 ev9_21 => ?_)
            replace hT := hT v9_21 ev9_21
            refine lv_lstore (lv' := [(9, .long v9_21), (8, .int v8_11), (0, .ref (ad 0)), (1, .int a1), (2, .int a2), (3, .int x3), (4, .int x4), (5, .long x5), (7, .int x7)]) hx hb dX9_count_159 hl (by decide) rfl (fun ls hl => ?_)
            refine lv_lload hx hb dX9_count_161 (lv_at hl 0 rfl) ?_
            refine lv_ldc2 (v := 1000000000000000000) hx hb hown (hts _ k_1182) dX9_count_163 ?_
            refine lv_lload hx hb dX9_count_166 (lv_at hl 7 rfl) ?_
            refine lv_lsub hx hb dX9_count_168 ?_
            refine W.lcmp hx hb dX9_count_169 ?_
            refine lv_if_le (tgt := 179) hx hb dX9_count_170 (by decide) (fun c22 => ?_) (fun c22 => ?_)
            · replace hT := hT.1 c22
              refine lv_lload hx hb dX9_count_179 (lv_at hl 7 rfl) ?_
              refine lv_lload hx hb dX9_count_181 (lv_at hl 0 rfl) ?_
              refine lv_ladd hx hb dX9_count_183 ?_
              refine lv_topl (fun v5_23 ev5_23 => ?_)
              replace hT := hT v5_23 ev5_23
              refine lv_lstore (lv' := [(5, .long v5_23), (9, .long v9_21), (8, .int v8_11), (0, .ref (ad 0)), (1, .int a1), (2, .int a2), (3, .int x3), (4, .int x4), (7, .int x7)]) hx hb dX9_count_184 hl (by decide) rfl (fun ls hl => ?_)
              refine lv_iinc (v := x7 + 1) (lv' := [(7, .int (x7 + 1)), (5, .long v5_23), (9, .long v9_21), (8, .int v8_11), (0, .ref (ad 0)), (1, .int a1), (2, .int a2), (3, .int x3), (4, .int x4)]) hx hb dX9_count_186 hl (k := 8) rfl rfl (by decide) rfl (fun ls hl => ?_)
              refine lv_goto (tgt := 82) hx hb dX9_count_189 (by decide) ?_
              rw [hB82] at hT
              exact hT _ _ _ hP hD hS (lv_sub hl [4, 5, 6, 7, 8, 1, 0] rfl)
            · replace hT := hT.2 c22
              refine lv_ldc2 (v := 1000000000000000000) hx hb hown (hts _ k_1182) dX9_count_173 ?_
              refine lv_goto (tgt := 184) hx hb dX9_count_176 (by decide) ?_
              refine lv_lstore (lv' := [(5, .long 1000000000000000000), (9, .long v9_21), (8, .int v8_11), (0, .ref (ad 0)), (1, .int a1), (2, .int a2), (3, .int x3), (4, .int x4), (7, .int x7)]) hx hb dX9_count_184 hl (by decide) rfl (fun ls hl => ?_)
              refine lv_iinc (v := x7 + 1) (lv' := [(7, .int (x7 + 1)), (5, .long 1000000000000000000), (9, .long v9_21), (8, .int v8_11), (0, .ref (ad 0)), (1, .int a1), (2, .int a2), (3, .int x3), (4, .int x4)]) hx hb dX9_count_186 hl (k := 8) rfl rfl (by decide) rfl (fun ls hl => ?_)
              refine lv_goto (tgt := 82) hx hb dX9_count_189 (by decide) ?_
              rw [hB82] at hT
              exact hT _ _ _ hP hD hS (lv_sub hl [4, 5, 6, 7, 8, 1, 0] rfl)
        · replace hT := hT.2 c13
          refine lv_lconst (v := 1) hx hb dX9_count_115 (by decide) ?_
          refine lv_goto (tgt := 159) hx hb dX9_count_116 (by decide) ?_
          refine lv_lstore (lv' := [(9, .long 1), (8, .int v8_11), (0, .ref (ad 0)), (1, .int a1), (2, .int a2), (3, .int x3), (4, .int x4), (5, .long x5), (7, .int x7)]) hx hb dX9_count_159 hl (by decide) rfl (fun ls hl => ?_)
          refine lv_lload hx hb dX9_count_161 (lv_at hl 0 rfl) ?_
          refine lv_ldc2 (v := 1000000000000000000) hx hb hown (hts _ k_1182) dX9_count_163 ?_
          refine lv_lload hx hb dX9_count_166 (lv_at hl 7 rfl) ?_
          refine lv_lsub hx hb dX9_count_168 ?_
          refine W.lcmp hx hb dX9_count_169 ?_
          refine lv_if_le (tgt := 179) hx hb dX9_count_170 (by decide) (fun c24 => ?_) (fun c24 => ?_)
          · replace hT := hT.1 c24
            refine lv_lload hx hb dX9_count_179 (lv_at hl 7 rfl) ?_
            refine lv_lload hx hb dX9_count_181 (lv_at hl 0 rfl) ?_
            refine lv_ladd hx hb dX9_count_183 ?_
            refine lv_topl (fun v5_25 ev5_25 => ?_)
            replace hT := hT v5_25 ev5_25
            refine lv_lstore (lv' := [(5, .long v5_25), (9, .long 1), (8, .int v8_11), (0, .ref (ad 0)), (1, .int a1), (2, .int a2), (3, .int x3), (4, .int x4), (7, .int x7)]) hx hb dX9_count_184 hl (by decide) rfl (fun ls hl => ?_)
            refine lv_iinc (v := x7 + 1) (lv' := [(7, .int (x7 + 1)), (5, .long v5_25), (9, .long 1), (8, .int v8_11), (0, .ref (ad 0)), (1, .int a1), (2, .int a2), (3, .int x3), (4, .int x4)]) hx hb dX9_count_186 hl (k := 8) rfl rfl (by decide) rfl (fun ls hl => ?_)
            refine lv_goto (tgt := 82) hx hb dX9_count_189 (by decide) ?_
            rw [hB82] at hT
            exact hT _ _ _ hP hD hS (lv_sub hl [4, 5, 6, 7, 8, 1, 0] rfl)
          · replace hT := hT.2 c24
            refine lv_ldc2 (v := 1000000000000000000) hx hb hown (hts _ k_1182) dX9_count_173 ?_
            refine lv_goto (tgt := 184) hx hb dX9_count_176 (by decide) ?_
            refine lv_lstore (lv' := [(5, .long 1000000000000000000), (9, .long 1), (8, .int v8_11), (0, .ref (ad 0)), (1, .int a1), (2, .int a2), (3, .int x3), (4, .int x4), (7, .int x7)]) hx hb dX9_count_184 hl (by decide) rfl (fun ls hl => ?_)
            refine lv_iinc (v := x7 + 1) (lv' := [(7, .int (x7 + 1)), (5, .long 1000000000000000000), (9, .long 1), (8, .int v8_11), (0, .ref (ad 0)), (1, .int a1), (2, .int a2), (3, .int x3), (4, .int x4)]) hx hb dX9_count_186 hl (k := 8) rfl rfl (by decide) rfl (fun ls hl => ?_)
            refine lv_goto (tgt := 82) hx hb dX9_count_189 (by decide) ?_
            rw [hB82] at hT
            exact hT _ _ _ hP hD hS (lv_sub hl [4, 5, 6, 7, 8, 1, 0] rfl)
  unfold mT_count_e at hT
  refine lv_aload_n hx hb dX9_count_0 rfl (lv_at hl 0 rfl) ?_
  refine lv_iconst (v := 0) hx hb dX9_count_1 (by decide) ?_
  refine mp_thrown hx hb hts hown hK hP hD hS dX9_count_2 (fun H locs hP hD hS => ?_)
  refine lv_aload_n hx hb dX9_count_5 rfl (lv_at hl 0 rfl) ?_
  refine lv_iload_n hx hb dX9_count_6 rfl (lv_at hl 1 rfl) ?_
  refine mcallZ (n := 1) (rest := []) hT hx hb hml hown hts hK hA hP hD hS hl gg_242 hd_X9_isScheme ⟨Nat.le_of_ble_eq_true rfl, Nat.le_of_ble_eq_true rfl⟩ rfl rfl (Nat.le_of_ble_eq_true rfl) dX9_count_7 (Nat.zero_le _) (Nat.zero_le _) (fun b27 S26 H locs hP hD hS hT => ?_)
  refine lv_if_eq (tgt := 24) hx hb dX9_count_10 (by decide) (fun c28 => ?_) (fun c28 => ?_)
  · replace hT := hT.1 c28
    rw [hB24] at hT
    exact hT _ _ _ hP hD hS (lv_sub hl [0] rfl)
  · replace hT := hT.2 c28
    refine lv_aload_n hx hb dX9_count_13 rfl (lv_at hl 0 rfl) ?_
    refine lv_iload_n hx hb dX9_count_14 rfl (lv_at hl 2 rfl) ?_
    refine lv_iconst (v := 0) hx hb dX9_count_15 (by decide) ?_
    refine lv_bipush (v := 60) hx hb dX9_count_16 (by decide) ?_
    refine mcallZ (n := 3) (rest := []) hT hx hb hml hown hts hK hA hP hD hS hl gg_139 hd_X9_in ⟨Nat.le_of_ble_eq_true rfl, Nat.le_of_ble_eq_true rfl⟩ rfl rfl (Nat.le_of_ble_eq_true rfl) dX9_count_18 (Nat.zero_le _) (Nat.zero_le _) (fun b30 S29 H locs hP hD hS hT => ?_)
    refine lv_if_ne (tgt := 31) hx hb dX9_count_21 (by decide) (fun c31 => ?_) (fun c31 => ?_)
    · replace hT := hT.1 c31
      refine lv_aload_n hx hb dX9_count_31 rfl (lv_at hl 0 rfl) ?_
      refine lv_iconst (v := 0) hx hb dX9_count_32 (by decide) ?_
      refine mp_trouble hx hb hts hown hK hP hD hS dX9_count_33 (fun H locs hP hD hS => ?_)
      refine lv_iconst (v := 0) hx hb dX9_count_36 (by decide) ?_
      refine lv_istore_n (lv' := [(3, .int 0), (0, .ref (ad 0)), (1, .int a1), (2, .int a2)]) hx hb dX9_count_37 rfl hl (by decide) rfl (fun ls hl => ?_)
      rw [hB38] at hT
      exact hT _ _ _ hP hD hS (lv_sub hl [1, 2, 3, 0] rfl)
    · replace hT := hT.2 c31
      rw [hB24] at hT
      exact hT _ _ _ hP hD hS (lv_sub hl [0] rfl)
abbrev mX_tried (l : Launch) (S : MS) (a1 : Int32) (a2 : Int32) (a3 : Int32) (a4 : Int32) (a5 : Int32) (a6 : Int32) (a7 : Int32) (post : Int32 → MS → Prop) : Prop := mCtI l yX9_tried cX9_tried 18 3 71 (fun ad => [.int a1, .int a2, .int a3, .int a4, .int a5, .int a6, .int a7]) S post
def mT_tried_42 (l : Launch) (a1 : Int32) (a2 : Int32) (a3 : Int32) (a4 : Int32) (a5 : Int32) (a6 : Int32) (a7 : Int32) (post : Int32 → MS → Prop) (B42 : MS → Prop) (B61 : MS → Int32 → Prop) (B121 : MS → Int32 → Int32 → Prop) (B169 : MS → Int32 → Int32 → Int32 → Int32 → Prop) (B274 : MS → Int32 → Int32 → Int32 → Int32 → Int32 → Int32 → Int32 → Prop) (B341 : MS → Int32 → Int32 → Int32 → Int32 → Int32 → Int32 → Int32 → Prop) (B504 : MS → Int32 → Int32 → Int32 → Int32 → Int32 → Int32 → Prop) (B541 : MS → Int32 → Int32 → Int32 → Prop) (S : MS) : Prop := mX_no l S 1 (fun r2 S1 => post r2 S1)
def mT_tried_61 (l : Launch) (a1 : Int32) (a2 : Int32) (a3 : Int32) (a4 : Int32) (a5 : Int32) (a6 : Int32) (a7 : Int32) (post : Int32 → MS → Prop) (B42 : MS → Prop) (B61 : MS → Int32 → Prop) (B121 : MS → Int32 → Int32 → Prop) (B169 : MS → Int32 → Int32 → Int32 → Int32 → Prop) (B274 : MS → Int32 → Int32 → Int32 → Int32 → Int32 → Int32 → Int32 → Prop) (B341 : MS → Int32 → Int32 → Int32 → Int32 → Int32 → Int32 → Int32 → Prop) (B504 : MS → Int32 → Int32 → Int32 → Int32 → Int32 → Int32 → Prop) (B541 : MS → Int32 → Int32 → Int32 → Prop) (S : MS) (x8 : Int32) : Prop := (S.1 1 ≤ x8 → vp_in 1 5 ∧ ∀ v8_5 : Int32, v8_5 = S.2.1 26 (1 : Int32).toNatClampNeg → vp_in 0 8 ∧ vp_in 0 8 ∧ vp_in 0 8 ∧ B121 (ma (ma (ma S 34 (upd (S.2.1 34) (0 : Int32).toNatClampNeg a1)) 35 (upd (S.2.1 35) (0 : Int32).toNatClampNeg a2)) 36 (upd (S.2.1 36) (0 : Int32).toNatClampNeg 0)) v8_5 0) ∧ (¬ S.1 1 ≤ x8 → vp_in 0 5 ∧ vp_in x8 7 ∧ B61 (ma S 8 (upd (S.2.1 8) x8.toNatClampNeg (S.2.1 26 (0 : Int32).toNatClampNeg))) (x8 + 1))
def mT_tried_121 (l : Launch) (a1 : Int32) (a2 : Int32) (a3 : Int32) (a4 : Int32) (a5 : Int32) (a6 : Int32) (a7 : Int32) (post : Int32 → MS → Prop) (B42 : MS → Prop) (B61 : MS → Int32 → Prop) (B121 : MS → Int32 → Int32 → Prop) (B169 : MS → Int32 → Int32 → Int32 → Int32 → Prop) (B274 : MS → Int32 → Int32 → Int32 → Int32 → Int32 → Int32 → Int32 → Prop) (B341 : MS → Int32 → Int32 → Int32 → Int32 → Int32 → Int32 → Int32 → Prop) (B504 : MS → Int32 → Int32 → Int32 → Int32 → Int32 → Int32 → Prop) (B541 : MS → Int32 → Int32 → Int32 → Prop) (S : MS) (x8 : Int32) (x9 : Int32) : Prop := (5 ≤ x9 → B169 S x8 1 1 0) ∧ (¬ 5 ≤ x9 → (S.1 0 ≤ x9 → vp_in x9 40 ∧ B121 (ma S 37 (upd (S.2.1 37) x9.toNatClampNeg (-1))) x8 (x9 + 1)) ∧ (¬ S.1 0 ≤ x9 → vp_in x9 5 ∧ vp_in x9 40 ∧ B121 (ma S 37 (upd (S.2.1 37) x9.toNatClampNeg (S.2.1 26 x9.toNatClampNeg))) x8 (x9 + 1)))
def mT_tried_169 (l : Launch) (a1 : Int32) (a2 : Int32) (a3 : Int32) (a4 : Int32) (a5 : Int32) (a6 : Int32) (a7 : Int32) (post : Int32 → MS → Prop) (B42 : MS → Prop) (B61 : MS → Int32 → Prop) (B121 : MS → Int32 → Int32 → Prop) (B169 : MS → Int32 → Int32 → Int32 → Int32 → Prop) (B274 : MS → Int32 → Int32 → Int32 → Int32 → Int32 → Int32 → Int32 → Prop) (B341 : MS → Int32 → Int32 → Int32 → Int32 → Int32 → Int32 → Int32 → Prop) (B504 : MS → Int32 → Int32 → Int32 → Int32 → Int32 → Int32 → Prop) (B541 : MS → Int32 → Int32 → Int32 → Prop) (S : MS) (x8 : Int32) (x9 : Int32) (x10 : Int32) (x11 : Int32) : Prop := (x9 ≤ 0 → B541 S x8 x11 0) ∧ (¬ x9 ≤ 0 → ∀ v12_17 : Int32, v12_17 = x9 - 1 → vp_in v12_17 8 ∧ vp_in v12_17 8 ∧ vp_in (S.2.1 34 v12_17.toNatClampNeg) 8 ∧ (¬ S.2.1 36 v12_17.toNatClampNeg = S.2.1 29 (S.2.1 34 v12_17.toNatClampNeg).toNatClampNeg → vp_in v12_17 8 ∧ vp_in v12_17 8 ∧ ∀ v13_24 : Int32, v13_24 = (8 * (S.2.1 34 v12_17.toNatClampNeg)) + (S.2.1 36 v12_17.toNatClampNeg) → vp_in v12_17 8 ∧ vp_in v12_17 8 ∧ vp_in v12_17 8 ∧ ∀ v14_28 : Int32, v14_28 = S.2.1 35 v12_17.toNatClampNeg → vp_in v13_24 64 ∧ (S.2.1 30 v13_24.toNatClampNeg = (-1) → B274 (ma S 36 (upd (S.2.1 36) v12_17.toNatClampNeg ((S.2.1 36 v12_17.toNatClampNeg) + 1))) x8 x9 x10 x11 v12_17 v13_24 v14_28) ∧ (¬ S.2.1 30 v13_24.toNatClampNeg = (-1) → vp_in v13_24 64 ∧ (S.2.1 31 v13_24.toNatClampNeg < v14_28 → B274 (ma S 36 (upd (S.2.1 36) v12_17.toNatClampNeg ((S.2.1 36 v12_17.toNatClampNeg) + 1))) x8 x9 x10 x11 v12_17 v13_24 v14_28) ∧ (¬ S.2.1 31 v13_24.toNatClampNeg < v14_28 → B169 (ma S 36 (upd (S.2.1 36) v12_17.toNatClampNeg ((S.2.1 36 v12_17.toNatClampNeg) + 1))) x8 x9 x10 x11))) ∧ (S.2.1 36 v12_17.toNatClampNeg = S.2.1 29 (S.2.1 34 v12_17.toNatClampNeg).toNatClampNeg → B169 S x8 (x9 + (-1)) x10 x11))
def mT_tried_274 (l : Launch) (a1 : Int32) (a2 : Int32) (a3 : Int32) (a4 : Int32) (a5 : Int32) (a6 : Int32) (a7 : Int32) (post : Int32 → MS → Prop) (B42 : MS → Prop) (B61 : MS → Int32 → Prop) (B121 : MS → Int32 → Int32 → Prop) (B169 : MS → Int32 → Int32 → Int32 → Int32 → Prop) (B274 : MS → Int32 → Int32 → Int32 → Int32 → Int32 → Int32 → Int32 → Prop) (B341 : MS → Int32 → Int32 → Int32 → Int32 → Int32 → Int32 → Int32 → Prop) (B504 : MS → Int32 → Int32 → Int32 → Int32 → Int32 → Int32 → Prop) (B541 : MS → Int32 → Int32 → Int32 → Prop) (S : MS) (x8 : Int32) (x9 : Int32) (x10 : Int32) (x11 : Int32) (x12 : Int32) (x13 : Int32) (x14 : Int32) : Prop := (¬ x10 = 5000 → vp_in x13 64 ∧ (S.2.1 30 x13.toNatClampNeg = (-1) → vp_in (5 * x13) 320 ∧ vp_in ((5 * x12) + (S.2.1 32 (5 * x13).toNatClampNeg)) 40 ∧ ∀ v15_38 : Int32, v15_38 = S.2.1 37 ((5 * x12) + (S.2.1 32 (5 * x13).toNatClampNeg)).toNatClampNeg → vp_in ((5 * x13) + 1) 320 ∧ vp_in ((5 * x12) + (S.2.1 32 ((5 * x13) + 1).toNatClampNeg)) 40 ∧ ∀ v16_41 : Int32, v16_41 = S.2.1 37 ((5 * x12) + (S.2.1 32 ((5 * x13) + 1).toNatClampNeg)).toNatClampNeg → (v15_38 = (-1) → B504 S x8 x9 (x10 + 1) x11 x14 v16_41) ∧ (¬ v15_38 = (-1) → (v16_41 = (-1) → B504 S x8 x9 (x10 + 1) x11 x14 v16_41) ∧ (¬ v16_41 = (-1) → mX_top l S 8 v15_38 (fun r45 S44 => (¬ r45 = x14 - 1 → B504 S44 x8 x9 (x10 + 1) x11 x14 v16_41) ∧ (r45 = x14 - 1 → mX_packOf l S44 8 (x14 - 1) (fun r48 S47 => (¬ r48 = x14 - 1 → B504 S47 x8 x9 (x10 + 1) x11 x14 v16_41) ∧ (r48 = x14 - 1 → mX_whyOf l S47 8 v15_38 v16_41 (fun r51 S50 => (¬ r51 = 0 → B504 S50 x8 x9 (x10 + 1) x11 x14 v16_41) ∧ (r51 = 0 → (¬ (1 : Int32) = 0 → vp_in (x14 - 1) 7 ∧ B169 (ma S50 8 (upd (S50.2.1 8) (x14 - 1).toNatClampNeg v16_41)) x8 x9 (x10 + 1) (x11 + 1)) ∧ ((1 : Int32) = 0 → post (-2) (mf S50 10 x11))))))))))) ∧ (¬ S.2.1 30 x13.toNatClampNeg = (-1) → vp_in x13 64 ∧ vp_in x9 8 ∧ vp_in x13 64 ∧ vp_in x9 8 ∧ vp_in x9 8 ∧ B341 (ma (ma (ma S 34 (upd (S.2.1 34) x9.toNatClampNeg (S.2.1 30 x13.toNatClampNeg))) 35 (upd (S.2.1 35) x9.toNatClampNeg (x14 - (S.2.1 31 x13.toNatClampNeg)))) 36 (upd (S.2.1 36) x9.toNatClampNeg 0)) x8 x9 (x10 + 1) x11 x12 x13 0)) ∧ (x10 = 5000 → post (-4) S)
def mT_tried_341 (l : Launch) (a1 : Int32) (a2 : Int32) (a3 : Int32) (a4 : Int32) (a5 : Int32) (a6 : Int32) (a7 : Int32) (post : Int32 → MS → Prop) (B42 : MS → Prop) (B61 : MS → Int32 → Prop) (B121 : MS → Int32 → Int32 → Prop) (B169 : MS → Int32 → Int32 → Int32 → Int32 → Prop) (B274 : MS → Int32 → Int32 → Int32 → Int32 → Int32 → Int32 → Int32 → Prop) (B341 : MS → Int32 → Int32 → Int32 → Int32 → Int32 → Int32 → Int32 → Prop) (B504 : MS → Int32 → Int32 → Int32 → Int32 → Int32 → Int32 → Prop) (B541 : MS → Int32 → Int32 → Int32 → Prop) (S : MS) (x8 : Int32) (x9 : Int32) (x10 : Int32) (x11 : Int32) (x12 : Int32) (x13 : Int32) (x15 : Int32) : Prop := (5 ≤ x15 → B169 S x8 (x9 + 1) x10 x11) ∧ (¬ 5 ≤ x15 → vp_in ((5 * x13) + x15) 320 ∧ vp_in ((5 * x12) + (S.2.1 32 ((5 * x13) + x15).toNatClampNeg)) 40 ∧ vp_in ((5 * x9) + x15) 40 ∧ B341 (ma S 37 (upd (S.2.1 37) ((5 * x9) + x15).toNatClampNeg (S.2.1 37 ((5 * x12) + (S.2.1 32 ((5 * x13) + x15).toNatClampNeg)).toNatClampNeg))) x8 x9 x10 x11 x12 x13 (x15 + 1))
def mT_tried_504 (l : Launch) (a1 : Int32) (a2 : Int32) (a3 : Int32) (a4 : Int32) (a5 : Int32) (a6 : Int32) (a7 : Int32) (post : Int32 → MS → Prop) (B42 : MS → Prop) (B61 : MS → Int32 → Prop) (B121 : MS → Int32 → Int32 → Prop) (B169 : MS → Int32 → Int32 → Int32 → Int32 → Prop) (B274 : MS → Int32 → Int32 → Int32 → Int32 → Int32 → Int32 → Int32 → Prop) (B341 : MS → Int32 → Int32 → Int32 → Int32 → Int32 → Int32 → Int32 → Prop) (B504 : MS → Int32 → Int32 → Int32 → Int32 → Int32 → Int32 → Prop) (B541 : MS → Int32 → Int32 → Int32 → Prop) (S : MS) (x8 : Int32) (x9 : Int32) (x10 : Int32) (x11 : Int32) (x14 : Int32) (x16 : Int32) : Prop := (¬ (0 : Int32) = 0 → vp_in (x14 - 1) 7 ∧ B169 (ma S 8 (upd (S.2.1 8) (x14 - 1).toNatClampNeg x16)) x8 x9 x10 (x11 + 1)) ∧ ((0 : Int32) = 0 → post (-2) (mf S 10 x11))
def mT_tried_541 (l : Launch) (a1 : Int32) (a2 : Int32) (a3 : Int32) (a4 : Int32) (a5 : Int32) (a6 : Int32) (a7 : Int32) (post : Int32 → MS → Prop) (B42 : MS → Prop) (B61 : MS → Int32 → Prop) (B121 : MS → Int32 → Int32 → Prop) (B169 : MS → Int32 → Int32 → Int32 → Int32 → Prop) (B274 : MS → Int32 → Int32 → Int32 → Int32 → Int32 → Int32 → Int32 → Prop) (B341 : MS → Int32 → Int32 → Int32 → Int32 → Int32 → Int32 → Int32 → Prop) (B504 : MS → Int32 → Int32 → Int32 → Int32 → Int32 → Int32 → Prop) (B541 : MS → Int32 → Int32 → Int32 → Prop) (S : MS) (x8 : Int32) (x11 : Int32) (x12 : Int32) : Prop := (a2 ≤ x12 → post x11 S) ∧ (¬ a2 ≤ x12 → vp_in x12 7 ∧ (S.2.1 8 x12.toNatClampNeg = x8 → B541 S x8 x11 (x12 + 1)) ∧ (¬ S.2.1 8 x12.toNatClampNeg = x8 → post (-3) S))
def mT_tried_e (l : Launch) (a1 : Int32) (a2 : Int32) (a3 : Int32) (a4 : Int32) (a5 : Int32) (a6 : Int32) (a7 : Int32) (post : Int32 → MS → Prop) (B42 : MS → Prop) (B61 : MS → Int32 → Prop) (B121 : MS → Int32 → Int32 → Prop) (B169 : MS → Int32 → Int32 → Int32 → Int32 → Prop) (B274 : MS → Int32 → Int32 → Int32 → Int32 → Int32 → Int32 → Int32 → Prop) (B341 : MS → Int32 → Int32 → Int32 → Int32 → Int32 → Int32 → Int32 → Prop) (B504 : MS → Int32 → Int32 → Int32 → Int32 → Int32 → Int32 → Prop) (B541 : MS → Int32 → Int32 → Int32 → Prop) (S0 : MS) : Prop := mX_isScheme l (mf S0 3 0) a1 (fun b70 S69 => (bI b70 = 0 → B42 S69) ∧ (¬ bI b70 = 0 → mX_in l S69 a2 1 (S69.1 1) (fun b73 S72 => (bI b73 = 0 → B42 S72) ∧ (¬ bI b73 = 0 → mX_areNames l S72 a3 a4 a5 a6 a7 (fun b76 S75 => (¬ bI b76 = 0 → B61 (mf (mf S75 2 0) 10 (-1)) 0) ∧ (bI b76 = 0 → B42 S75))))))
set_option maxHeartbeats 4000000 in
set_option maxRecDepth 100000 in
theorem m_tried (l : Launch) (S0 : MS) (a1 : Int32) (a2 : Int32) (a3 : Int32) (a4 : Int32) (a5 : Int32) (a6 : Int32) (a7 : Int32) (post : Int32 → MS → Prop) (h : ∀ (B42 : MS → Prop) (B61 : MS → Int32 → Prop) (B121 : MS → Int32 → Int32 → Prop) (B169 : MS → Int32 → Int32 → Int32 → Int32 → Prop) (B274 : MS → Int32 → Int32 → Int32 → Int32 → Int32 → Int32 → Int32 → Prop) (B341 : MS → Int32 → Int32 → Int32 → Int32 → Int32 → Int32 → Int32 → Prop) (B504 : MS → Int32 → Int32 → Int32 → Int32 → Int32 → Int32 → Prop) (B541 : MS → Int32 → Int32 → Int32 → Prop), (∀ (S : MS) , mT_tried_42 l a1 a2 a3 a4 a5 a6 a7 post B42 B61 B121 B169 B274 B341 B504 B541 S → B42 S ) → (∀ (S : MS) (x8 : Int32), mT_tried_61 l a1 a2 a3 a4 a5 a6 a7 post B42 B61 B121 B169 B274 B341 B504 B541 S x8 → B61 S x8) → (∀ (S : MS) (x8 : Int32) (x9 : Int32), mT_tried_121 l a1 a2 a3 a4 a5 a6 a7 post B42 B61 B121 B169 B274 B341 B504 B541 S x8 x9 → B121 S x8 x9) → (∀ (S : MS) (x8 : Int32) (x9 : Int32) (x10 : Int32) (x11 : Int32), mT_tried_169 l a1 a2 a3 a4 a5 a6 a7 post B42 B61 B121 B169 B274 B341 B504 B541 S x8 x9 x10 x11 → B169 S x8 x9 x10 x11) → (∀ (S : MS) (x8 : Int32) (x9 : Int32) (x10 : Int32) (x11 : Int32) (x12 : Int32) (x13 : Int32) (x14 : Int32), mT_tried_274 l a1 a2 a3 a4 a5 a6 a7 post B42 B61 B121 B169 B274 B341 B504 B541 S x8 x9 x10 x11 x12 x13 x14 → B274 S x8 x9 x10 x11 x12 x13 x14) → (∀ (S : MS) (x8 : Int32) (x9 : Int32) (x10 : Int32) (x11 : Int32) (x12 : Int32) (x13 : Int32) (x15 : Int32), mT_tried_341 l a1 a2 a3 a4 a5 a6 a7 post B42 B61 B121 B169 B274 B341 B504 B541 S x8 x9 x10 x11 x12 x13 x15 → B341 S x8 x9 x10 x11 x12 x13 x15) → (∀ (S : MS) (x8 : Int32) (x9 : Int32) (x10 : Int32) (x11 : Int32) (x14 : Int32) (x16 : Int32), mT_tried_504 l a1 a2 a3 a4 a5 a6 a7 post B42 B61 B121 B169 B274 B341 B504 B541 S x8 x9 x10 x11 x14 x16 → B504 S x8 x9 x10 x11 x14 x16) → (∀ (S : MS) (x8 : Int32) (x11 : Int32) (x12 : Int32), mT_tried_541 l a1 a2 a3 a4 a5 a6 a7 post B42 B61 B121 B169 B274 B341 B504 B541 S x8 x11 x12 → B541 S x8 x11 x12) → mT_tried_e l a1 a2 a3 a4 a5 a6 a7 post B42 B61 B121 B169 B274 B341 B504 B541 S0) : mX_tried l S0 a1 a2 a3 a4 a5 a6 a7 post := by
  refine msetI rfl (fun _ => Nat.le_of_ble_eq_true rfl) ?_
  intro p e s m args below meth c D ad cI cZ cL A Q hx hb hml hown hts hK hA hret H locs ls hP hD hS hl
  replace hl : lv_has ls 18 [(0, .ref (ad 0)), (1, .int a1), (2, .int a2), (3, .int a3), (4, .int a4), (5, .int a5), (6, .int a6), (7, .int a7)] := hl
  obtain ⟨B42, hB42⟩ : ∃ B : MS → Prop, B = (fun S => ∀ (H : Heap) (locs : List Loc) (ls : Array Slot), va_P D vwCl (mW ad cI cZ cL S) H → va_D A (mW ad cI cZ cL S) → va_S A s.heap H locs → lv_has ls 18 [(0, .ref (ad 0))] → W p l e (mrm 3 71) s m args below meth c H locs 0 0 Q (F0 m 42 ls [])) := ⟨_, rfl⟩
  obtain ⟨B61, hB61⟩ : ∃ B : MS → Int32 → Prop, B = (fun S x8 => ∀ (H : Heap) (locs : List Loc) (ls : Array Slot), va_P D vwCl (mW ad cI cZ cL S) H → va_D A (mW ad cI cZ cL S) → va_S A s.heap H locs → lv_has ls 18 [(0, .ref (ad 0)), (1, .int a1), (2, .int a2), (8, .int x8)] → W p l e (mrm 3 71) s m args below meth c H locs 0 0 Q (F0 m 61 ls [])) := ⟨_, rfl⟩
  obtain ⟨B121, hB121⟩ : ∃ B : MS → Int32 → Int32 → Prop, B = (fun S x8 x9 => ∀ (H : Heap) (locs : List Loc) (ls : Array Slot), va_P D vwCl (mW ad cI cZ cL S) H → va_D A (mW ad cI cZ cL S) → va_S A s.heap H locs → lv_has ls 18 [(0, .ref (ad 0)), (2, .int a2), (8, .int x8), (9, .int x9)] → W p l e (mrm 3 71) s m args below meth c H locs 0 0 Q (F0 m 121 ls [])) := ⟨_, rfl⟩
  obtain ⟨B169, hB169⟩ : ∃ B : MS → Int32 → Int32 → Int32 → Int32 → Prop, B = (fun S x8 x9 x10 x11 => ∀ (H : Heap) (locs : List Loc) (ls : Array Slot), va_P D vwCl (mW ad cI cZ cL S) H → va_D A (mW ad cI cZ cL S) → va_S A s.heap H locs → lv_has ls 18 [(0, .ref (ad 0)), (2, .int a2), (8, .int x8), (9, .int x9), (10, .int x10), (11, .int x11)] → W p l e (mrm 3 71) s m args below meth c H locs 0 0 Q (F0 m 169 ls [])) := ⟨_, rfl⟩
  obtain ⟨B274, hB274⟩ : ∃ B : MS → Int32 → Int32 → Int32 → Int32 → Int32 → Int32 → Int32 → Prop, B = (fun S x8 x9 x10 x11 x12 x13 x14 => ∀ (H : Heap) (locs : List Loc) (ls : Array Slot), va_P D vwCl (mW ad cI cZ cL S) H → va_D A (mW ad cI cZ cL S) → va_S A s.heap H locs → lv_has ls 18 [(0, .ref (ad 0)), (2, .int a2), (8, .int x8), (9, .int x9), (10, .int x10), (11, .int x11), (12, .int x12), (13, .int x13), (14, .int x14)] → W p l e (mrm 3 71) s m args below meth c H locs 0 0 Q (F0 m 274 ls [])) := ⟨_, rfl⟩
  obtain ⟨B341, hB341⟩ : ∃ B : MS → Int32 → Int32 → Int32 → Int32 → Int32 → Int32 → Int32 → Prop, B = (fun S x8 x9 x10 x11 x12 x13 x15 => ∀ (H : Heap) (locs : List Loc) (ls : Array Slot), va_P D vwCl (mW ad cI cZ cL S) H → va_D A (mW ad cI cZ cL S) → va_S A s.heap H locs → lv_has ls 18 [(0, .ref (ad 0)), (2, .int a2), (8, .int x8), (9, .int x9), (10, .int x10), (11, .int x11), (12, .int x12), (13, .int x13), (15, .int x15)] → W p l e (mrm 3 71) s m args below meth c H locs 0 0 Q (F0 m 341 ls [])) := ⟨_, rfl⟩
  obtain ⟨B504, hB504⟩ : ∃ B : MS → Int32 → Int32 → Int32 → Int32 → Int32 → Int32 → Prop, B = (fun S x8 x9 x10 x11 x14 x16 => ∀ (H : Heap) (locs : List Loc) (ls : Array Slot), va_P D vwCl (mW ad cI cZ cL S) H → va_D A (mW ad cI cZ cL S) → va_S A s.heap H locs → lv_has ls 18 [(0, .ref (ad 0)), (2, .int a2), (8, .int x8), (9, .int x9), (10, .int x10), (11, .int x11), (14, .int x14), (16, .int x16)] → W p l e (mrm 3 71) s m args below meth c H locs 0 0 Q (F0 m 504 ls [])) := ⟨_, rfl⟩
  obtain ⟨B541, hB541⟩ : ∃ B : MS → Int32 → Int32 → Int32 → Prop, B = (fun S x8 x11 x12 => ∀ (H : Heap) (locs : List Loc) (ls : Array Slot), va_P D vwCl (mW ad cI cZ cL S) H → va_D A (mW ad cI cZ cL S) → va_S A s.heap H locs → lv_has ls 18 [(0, .ref (ad 0)), (2, .int a2), (8, .int x8), (11, .int x11), (12, .int x12)] → W p l e (mrm 3 71) s m args below meth c H locs 0 0 Q (F0 m 541 ls [])) := ⟨_, rfl⟩
  have hT : mT_tried_e l a1 a2 a3 a4 a5 a6 a7 post B42 B61 B121 B169 B274 B341 B504 B541 S0 := by
    refine h B42 B61 B121 B169 B274 B341 B504 B541 ?_ ?_ ?_ ?_ ?_ ?_ ?_ ?_
    · clear hP hD hS hl H locs ls
      intro S hT
      unfold mT_tried_42 at hT
      rw [hB42]
      intro H locs ls hP hD hS hl
      refine lv_aload_n hx hb dX9_tried_42 rfl (lv_at hl 0 rfl) ?_
      refine lv_iconst (v := 1) hx hb dX9_tried_43 (by decide) ?_
      refine mcallI (n := 1) (rest := []) hT hx hb hml hown hts hK hA hP hD hS hl gg_192 hd_X9_no ⟨Nat.le_of_ble_eq_true rfl, Nat.le_of_ble_eq_true rfl⟩ rfl rfl (Nat.le_of_ble_eq_true rfl) dX9_tried_44 (Nat.zero_le _) (Nat.zero_le _) (fun r2 S1 H locs hP hD hS hT => ?_)
      exact hret _ _ _ _ _ _ hP hD hS hT dX9_tried_47
    · clear hP hD hS hl H locs ls
      intro S x8 hT
      unfold mT_tried_61 at hT
      rw [hB61]
      intro H locs ls hP hD hS hl
      refine lv_iload hx hb dX9_tried_61 (lv_at hl 3 rfl) ?_
      refine lv_aload_n hx hb dX9_tried_63 rfl (lv_at hl 0 rfl) ?_
      refine mg_discs (v := S.1 1) hx hb hts hown hK hP rfl dX9_tried_64 ?_
      refine lv_icmp_ge (tgt := 89) hx hb dX9_tried_67 (by decide) (fun c3 => ?_) (fun c3 => ?_)
      · replace hT := hT.1 c3
        refine lv_aload_n hx hb dX9_tried_89 rfl (lv_at hl 0 rfl) ?_
        refine mg_names hx hb hts hown hK hP dX9_tried_90 ?_
        refine lv_iconst (v := 1) hx hb dX9_tried_93 (by decide) ?_
        obtain ⟨hi4, hT⟩ := hT
        refine va_iald (f := S.2.1 26) hx hb hK hP 26 0 mat_26 rfl hi4 dX9_tried_94 ?_
        refine lv_topi (fun v8_5 ev8_5 => ?_)
        replace hT := hT v8_5 ev8_5
        refine lv_istore (lv' := [(8, .int v8_5), (0, .ref (ad 0)), (1, .int a1), (2, .int a2)]) hx hb dX9_tried_95 hl (by decide) rfl (fun ls hl => ?_)
        refine lv_aload_n hx hb dX9_tried_97 rfl (lv_at hl 1 rfl) ?_
        refine mg_openScheme hx hb hts hown hK hP dX9_tried_98 ?_
        refine lv_iconst (v := 0) hx hb dX9_tried_101 (by decide) ?_
        refine lv_iload_n hx hb dX9_tried_102 rfl (lv_at hl 2 rfl) ?_
        obtain ⟨hi6, hT⟩ := hT
        refine va_iast (f := S.2.1 34) hx hb hK hP hD hS 34 0 mat_34 rfl hi6 dX9_tried_103 (fun H locs hP hD hS => ?_)
        replace hP := msetP_34 hP
        replace hD := msetD_34 hD
        refine lv_aload_n hx hb dX9_tried_104 rfl (lv_at hl 1 rfl) ?_
        refine mg_openHeight hx hb hts hown hK hP dX9_tried_105 ?_
        refine lv_iconst (v := 0) hx hb dX9_tried_108 (by decide) ?_
        refine lv_iload_n hx hb dX9_tried_109 rfl (lv_at hl 3 rfl) ?_
        obtain ⟨hi7, hT⟩ := hT
        refine va_iast (f := S.2.1 35) hx hb hK hP hD hS 35 0 mat_35 rfl hi7 dX9_tried_110 (fun H locs hP hD hS => ?_)
        replace hP := msetP_35 hP
        replace hD := msetD_35 hD
        refine lv_aload_n hx hb dX9_tried_111 rfl (lv_at hl 1 rfl) ?_
        refine mg_openStep hx hb hts hown hK hP dX9_tried_112 ?_
        refine lv_iconst (v := 0) hx hb dX9_tried_115 (by decide) ?_
        refine lv_iconst (v := 0) hx hb dX9_tried_116 (by decide) ?_
        obtain ⟨hi8, hT⟩ := hT
        refine va_iast (f := S.2.1 36) hx hb hK hP hD hS 36 0 mat_36 rfl hi8 dX9_tried_117 (fun H locs hP hD hS => ?_)
        replace hP := msetP_36 hP
        replace hD := msetD_36 hD
        refine lv_iconst (v := 0) hx hb dX9_tried_118 (by decide) ?_
        refine lv_istore (lv' := [(9, .int 0), (8, .int v8_5), (0, .ref (ad 0)), (1, .int a1), (2, .int a2)]) hx hb dX9_tried_119 hl (by decide) rfl (fun ls hl => ?_)
        rw [hB121] at hT
        exact hT _ _ _ hP hD hS (lv_sub hl [2, 4, 1, 0] rfl)
      · replace hT := hT.2 c3
        refine lv_aload_n hx hb dX9_tried_70 rfl (lv_at hl 0 rfl) ?_
        refine mg_at hx hb hts hown hK hP dX9_tried_71 ?_
        refine lv_iload hx hb dX9_tried_74 (lv_at hl 3 rfl) ?_
        refine lv_aload_n hx hb dX9_tried_76 rfl (lv_at hl 0 rfl) ?_
        refine mg_names hx hb hts hown hK hP dX9_tried_77 ?_
        refine lv_iconst (v := 0) hx hb dX9_tried_80 (by decide) ?_
        obtain ⟨hi9, hT⟩ := hT
        refine va_iald (f := S.2.1 26) hx hb hK hP 26 0 mat_26 rfl hi9 dX9_tried_81 ?_
        obtain ⟨hi10, hT⟩ := hT
        refine va_iast (f := S.2.1 8) hx hb hK hP hD hS 8 0 mat_8 rfl hi10 dX9_tried_82 (fun H locs hP hD hS => ?_)
        replace hP := msetP_8 hP
        replace hD := msetD_8 hD
        refine lv_iinc (v := x8 + 1) (lv' := [(8, .int (x8 + 1)), (0, .ref (ad 0)), (1, .int a1), (2, .int a2)]) hx hb dX9_tried_83 hl (k := 3) rfl rfl (by decide) rfl (fun ls hl => ?_)
        refine lv_goto (tgt := 61) hx hb dX9_tried_86 (by decide) ?_
        rw [hB61] at hT
        exact hT _ _ _ hP hD hS (lv_sub hl [1, 2, 3, 0] rfl)
    · clear hP hD hS hl H locs ls
      intro S x8 x9 hT
      unfold mT_tried_121 at hT
      rw [hB121]
      intro H locs ls hP hD hS hl
      refine lv_iload hx hb dX9_tried_121 (lv_at hl 3 rfl) ?_
      refine lv_iconst (v := 5) hx hb dX9_tried_123 (by decide) ?_
      refine lv_icmp_ge (tgt := 160) hx hb dX9_tried_124 (by decide) (fun c11 => ?_) (fun c11 => ?_)
      · replace hT := hT.1 c11
        refine lv_iconst (v := 1) hx hb dX9_tried_160 (by decide) ?_
        refine lv_istore (lv' := [(9, .int 1), (0, .ref (ad 0)), (2, .int a2), (8, .int x8)]) hx hb dX9_tried_161 hl (by decide) rfl (fun ls hl => ?_)
        refine lv_iconst (v := 1) hx hb dX9_tried_163 (by decide) ?_
        refine lv_istore (lv' := [(10, .int 1), (9, .int 1), (0, .ref (ad 0)), (2, .int a2), (8, .int x8)]) hx hb dX9_tried_164 hl (by decide) rfl (fun ls hl => ?_)
        refine lv_iconst (v := 0) hx hb dX9_tried_166 (by decide) ?_
        refine lv_istore (lv' := [(11, .int 0), (10, .int 1), (9, .int 1), (0, .ref (ad 0)), (2, .int a2), (8, .int x8)]) hx hb dX9_tried_167 hl (by decide) rfl (fun ls hl => ?_)
        rw [hB169] at hT
        exact hT _ _ _ hP hD hS (lv_sub hl [3, 4, 5, 2, 1, 0] rfl)
      · replace hT := hT.2 c11
        refine lv_aload_n hx hb dX9_tried_127 rfl (lv_at hl 0 rfl) ?_
        refine mg_openPegs hx hb hts hown hK hP dX9_tried_128 ?_
        refine lv_iload hx hb dX9_tried_131 (lv_at hl 3 rfl) ?_
        refine lv_iload hx hb dX9_tried_133 (lv_at hl 3 rfl) ?_
        refine lv_aload_n hx hb dX9_tried_135 rfl (lv_at hl 0 rfl) ?_
        refine mg_pegs (v := S.1 0) hx hb hts hown hK hP rfl dX9_tried_136 ?_
        refine lv_icmp_ge (tgt := 152) hx hb dX9_tried_139 (by decide) (fun c12 => ?_) (fun c12 => ?_)
        · replace hT := hT.1 c12
          refine lv_iconst (v := (-1)) hx hb dX9_tried_152 (by decide) ?_
          obtain ⟨hi13, hT⟩ := hT
          refine va_iast (f := S.2.1 37) hx hb hK hP hD hS 37 0 mat_37 rfl hi13 dX9_tried_153 (fun H locs hP hD hS => ?_)
          replace hP := msetP_37 hP
          replace hD := msetD_37 hD
          refine lv_iinc (v := x9 + 1) (lv' := [(9, .int (x9 + 1)), (0, .ref (ad 0)), (2, .int a2), (8, .int x8)]) hx hb dX9_tried_154 hl (k := 3) rfl rfl (by decide) rfl (fun ls hl => ?_)
          refine lv_goto (tgt := 121) hx hb dX9_tried_157 (by decide) ?_
          rw [hB121] at hT
          exact hT _ _ _ hP hD hS (lv_sub hl [1, 2, 3, 0] rfl)
        · replace hT := hT.2 c12
          refine lv_aload_n hx hb dX9_tried_142 rfl (lv_at hl 0 rfl) ?_
          refine mg_names hx hb hts hown hK hP dX9_tried_143 ?_
          refine lv_iload hx hb dX9_tried_146 (lv_at hl 3 rfl) ?_
          obtain ⟨hi14, hT⟩ := hT
          refine va_iald (f := S.2.1 26) hx hb hK hP 26 0 mat_26 rfl hi14 dX9_tried_148 ?_
          refine lv_goto (tgt := 153) hx hb dX9_tried_149 (by decide) ?_
          obtain ⟨hi15, hT⟩ := hT
          refine va_iast (f := S.2.1 37) hx hb hK hP hD hS 37 0 mat_37 rfl hi15 dX9_tried_153 (fun H locs hP hD hS => ?_)
          replace hP := msetP_37 hP
          replace hD := msetD_37 hD
          refine lv_iinc (v := x9 + 1) (lv' := [(9, .int (x9 + 1)), (0, .ref (ad 0)), (2, .int a2), (8, .int x8)]) hx hb dX9_tried_154 hl (k := 3) rfl rfl (by decide) rfl (fun ls hl => ?_)
          refine lv_goto (tgt := 121) hx hb dX9_tried_157 (by decide) ?_
          rw [hB121] at hT
          exact hT _ _ _ hP hD hS (lv_sub hl [1, 2, 3, 0] rfl)
    · clear hP hD hS hl H locs ls
      intro S x8 x9 x10 x11 hT
      unfold mT_tried_169 at hT
      rw [hB169]
      intro H locs ls hP hD hS hl
      refine lv_iload hx hb dX9_tried_169 (lv_at hl 3 rfl) ?_
      refine lv_if_le (tgt := 538) hx hb dX9_tried_171 (by decide) (fun c16 => ?_) (fun c16 => ?_)
      · replace hT := hT.1 c16
        refine lv_iconst (v := 0) hx hb dX9_tried_538 (by decide) ?_
        refine lv_istore (lv' := [(12, .int 0), (0, .ref (ad 0)), (2, .int a2), (8, .int x8), (9, .int x9), (10, .int x10), (11, .int x11)]) hx hb dX9_tried_539 hl (by decide) rfl (fun ls hl => ?_)
        rw [hB541] at hT
        exact hT _ _ _ hP hD hS (lv_sub hl [1, 2, 3, 6, 0] rfl)
      · replace hT := hT.2 c16
        refine lv_iload hx hb dX9_tried_174 (lv_at hl 3 rfl) ?_
        refine lv_iconst (v := 1) hx hb dX9_tried_176 (by decide) ?_
        refine lv_isub hx hb dX9_tried_177 ?_
        refine lv_topi (fun v12_17 ev12_17 => ?_)
        replace hT := hT v12_17 ev12_17
        refine lv_istore (lv' := [(12, .int v12_17), (0, .ref (ad 0)), (2, .int a2), (8, .int x8), (9, .int x9), (10, .int x10), (11, .int x11)]) hx hb dX9_tried_178 hl (by decide) rfl (fun ls hl => ?_)
        refine lv_aload_n hx hb dX9_tried_180 rfl (lv_at hl 1 rfl) ?_
        refine mg_openStep hx hb hts hown hK hP dX9_tried_181 ?_
        refine lv_iload hx hb dX9_tried_184 (lv_at hl 0 rfl) ?_
        obtain ⟨hi18, hT⟩ := hT
        refine va_iald (f := S.2.1 36) hx hb hK hP 36 0 mat_36 rfl hi18 dX9_tried_186 ?_
        refine lv_aload_n hx hb dX9_tried_187 rfl (lv_at hl 1 rfl) ?_
        refine mg_stepMany hx hb hts hown hK hP dX9_tried_188 ?_
        refine lv_aload_n hx hb dX9_tried_191 rfl (lv_at hl 1 rfl) ?_
        refine mg_openScheme hx hb hts hown hK hP dX9_tried_192 ?_
        refine lv_iload hx hb dX9_tried_195 (lv_at hl 0 rfl) ?_
        obtain ⟨hi19, hT⟩ := hT
        refine va_iald (f := S.2.1 34) hx hb hK hP 34 0 mat_34 rfl hi19 dX9_tried_197 ?_
        obtain ⟨hi20, hT⟩ := hT
        refine va_iald (f := S.2.1 29) hx hb hK hP 29 0 mat_29 rfl hi20 dX9_tried_198 ?_
        refine lv_icmp_ne (tgt := 208) hx hb dX9_tried_199 (by decide) (fun c21 => ?_) (fun c21 => ?_)
        · replace hT := hT.1 c21
          refine lv_bipush (v := 8) hx hb dX9_tried_208 (by decide) ?_
          refine lv_aload_n hx hb dX9_tried_210 rfl (lv_at hl 1 rfl) ?_
          refine mg_openScheme hx hb hts hown hK hP dX9_tried_211 ?_
          refine lv_iload hx hb dX9_tried_214 (lv_at hl 0 rfl) ?_
          obtain ⟨hi22, hT⟩ := hT
          refine va_iald (f := S.2.1 34) hx hb hK hP 34 0 mat_34 rfl hi22 dX9_tried_216 ?_
          refine lv_imul hx hb dX9_tried_217 ?_
          refine lv_aload_n hx hb dX9_tried_218 rfl (lv_at hl 1 rfl) ?_
          refine mg_openStep hx hb hts hown hK hP dX9_tried_219 ?_
          refine lv_iload hx hb dX9_tried_222 (lv_at hl 0 rfl) ?_
          obtain ⟨hi23, hT⟩ := hT
          refine va_iald (f := S.2.1 36) hx hb hK hP 36 0 mat_36 rfl hi23 dX9_tried_224 ?_
          refine lv_iadd hx hb dX9_tried_225 ?_
          refine lv_topi (fun v13_24 ev13_24 => ?_)
          replace hT := hT v13_24 ev13_24
          refine lv_istore (lv' := [(13, .int v13_24), (12, .int v12_17), (0, .ref (ad 0)), (2, .int a2), (8, .int x8), (9, .int x9), (10, .int x10), (11, .int x11)]) hx hb dX9_tried_226 hl (by decide) rfl (fun ls hl => ?_)
          refine lv_aload_n hx hb dX9_tried_228 rfl (lv_at hl 2 rfl) ?_
          refine mg_openStep hx hb hts hown hK hP dX9_tried_229 ?_
          refine lv_iload hx hb dX9_tried_232 (lv_at hl 1 rfl) ?_
          refine lv_dup2_11 hx hb dX9_tried_234 rfl rfl ?_
          obtain ⟨hi25, hT⟩ := hT
          refine va_iald (f := S.2.1 36) hx hb hK hP 36 0 mat_36 rfl hi25 dX9_tried_235 ?_
          refine lv_iconst (v := 1) hx hb dX9_tried_236 (by decide) ?_
          refine lv_iadd hx hb dX9_tried_237 ?_
          obtain ⟨hi26, hT⟩ := hT
          refine va_iast (f := S.2.1 36) hx hb hK hP hD hS 36 0 mat_36 rfl hi26 dX9_tried_238 (fun H locs hP hD hS => ?_)
          replace hP := msetP_36 hP
          replace hD := msetD_36 hD
          refine lv_aload_n hx hb dX9_tried_239 rfl (lv_at hl 2 rfl) ?_
          refine mg_openHeight hx hb hts hown hK hP dX9_tried_240 ?_
          refine lv_iload hx hb dX9_tried_243 (lv_at hl 1 rfl) ?_
          obtain ⟨hi27, hT⟩ := hT
          refine va_iald (f := S.2.1 35) hx hb hK hP 35 0 mat_35 rfl hi27 dX9_tried_245 ?_
          refine lv_topi (fun v14_28 ev14_28 => ?_)
          replace hT := hT v14_28 ev14_28
          refine lv_istore (lv' := [(14, .int v14_28), (13, .int v13_24), (12, .int v12_17), (0, .ref (ad 0)), (2, .int a2), (8, .int x8), (9, .int x9), (10, .int x10), (11, .int x11)]) hx hb dX9_tried_246 hl (by decide) rfl (fun ls hl => ?_)
          refine lv_aload_n hx hb dX9_tried_248 rfl (lv_at hl 3 rfl) ?_
          refine mg_stepOf hx hb hts hown hK hP dX9_tried_249 ?_
          refine lv_iload hx hb dX9_tried_252 (lv_at hl 1 rfl) ?_
          obtain ⟨hi29, hT⟩ := hT
          refine va_iald (f := S.2.1 30) hx hb hK hP 30 0 mat_30 rfl hi29 dX9_tried_254 ?_
          refine lv_iconst (v := (-1)) hx hb dX9_tried_255 (by decide) ?_
          refine lv_icmp_eq (tgt := 274) hx hb dX9_tried_256 (by decide) (fun c30 => ?_) (fun c30 => ?_)
          · replace hT := hT.1 c30
            rw [hB274] at hT
            exact hT _ _ _ hP hD hS (lv_sub hl [3, 4, 5, 6, 7, 8, 2, 1, 0] rfl)
          · replace hT := hT.2 c30
            refine lv_iload hx hb dX9_tried_259 (lv_at hl 0 rfl) ?_
            refine lv_aload_n hx hb dX9_tried_261 rfl (lv_at hl 3 rfl) ?_
            refine mg_stepLess hx hb hts hown hK hP dX9_tried_262 ?_
            refine lv_iload hx hb dX9_tried_265 (lv_at hl 1 rfl) ?_
            obtain ⟨hi31, hT⟩ := hT
            refine va_iald (f := S.2.1 31) hx hb hK hP 31 0 mat_31 rfl hi31 dX9_tried_267 ?_
            refine lv_icmp_gt (tgt := 274) hx hb dX9_tried_268 (by decide) (fun c32 => ?_) (fun c32 => ?_)
            · replace hT := hT.1 c32
              rw [hB274] at hT
              exact hT _ _ _ hP hD hS (lv_sub hl [3, 4, 5, 6, 7, 8, 2, 1, 0] rfl)
            · replace hT := hT.2 c32
              refine lv_goto (tgt := 169) hx hb dX9_tried_271 (by decide) ?_
              rw [hB169] at hT
              exact hT _ _ _ hP hD hS (lv_sub hl [3, 4, 5, 6, 7, 8] rfl)
        · replace hT := hT.2 c21
          refine lv_iinc (v := x9 + (-1)) (lv' := [(9, .int (x9 + (-1))), (12, .int v12_17), (0, .ref (ad 0)), (2, .int a2), (8, .int x8), (10, .int x10), (11, .int x11)]) hx hb dX9_tried_202 hl (k := 4) rfl rfl (by decide) rfl (fun ls hl => ?_)
          refine lv_goto (tgt := 169) hx hb dX9_tried_205 (by decide) ?_
          rw [hB169] at hT
          exact hT _ _ _ hP hD hS (lv_sub hl [2, 3, 4, 0, 5, 6] rfl)
    · clear hP hD hS hl H locs ls
      intro S x8 x9 x10 x11 x12 x13 x14 hT
      unfold mT_tried_274 at hT
      rw [hB274]
      intro H locs ls hP hD hS hl
      refine lv_iload hx hb dX9_tried_274 (lv_at hl 4 rfl) ?_
      refine lv_sipush (v := 5000) hx hb dX9_tried_276 (by decide) ?_
      refine lv_icmp_ne (tgt := 285) hx hb dX9_tried_279 (by decide) (fun c33 => ?_) (fun c33 => ?_)
      · replace hT := hT.1 c33
        refine lv_iinc (v := x10 + 1) (lv' := [(10, .int (x10 + 1)), (0, .ref (ad 0)), (2, .int a2), (8, .int x8), (9, .int x9), (11, .int x11), (12, .int x12), (13, .int x13), (14, .int x14)]) hx hb dX9_tried_285 hl (k := 4) rfl rfl (by decide) rfl (fun ls hl => ?_)
        refine lv_aload_n hx hb dX9_tried_288 rfl (lv_at hl 1 rfl) ?_
        refine mg_stepOf hx hb hts hown hK hP dX9_tried_289 ?_
        refine lv_iload hx hb dX9_tried_292 (lv_at hl 7 rfl) ?_
        obtain ⟨hi34, hT⟩ := hT
        refine va_iald (f := S.2.1 30) hx hb hK hP 30 0 mat_30 rfl hi34 dX9_tried_294 ?_
        refine lv_iconst (v := (-1)) hx hb dX9_tried_295 (by decide) ?_
        refine lv_icmp_eq (tgt := 393) hx hb dX9_tried_296 (by decide) (fun c35 => ?_) (fun c35 => ?_)
        · replace hT := hT.1 c35
          refine lv_aload_n hx hb dX9_tried_393 rfl (lv_at hl 1 rfl) ?_
          refine mg_openPegs hx hb hts hown hK hP dX9_tried_394 ?_
          refine lv_iconst (v := 5) hx hb dX9_tried_397 (by decide) ?_
          refine lv_iload hx hb dX9_tried_398 (lv_at hl 6 rfl) ?_
          refine lv_imul hx hb dX9_tried_400 ?_
          refine lv_aload_n hx hb dX9_tried_401 rfl (lv_at hl 1 rfl) ?_
          refine mg_stepRoles hx hb hts hown hK hP dX9_tried_402 ?_
          refine lv_iconst (v := 5) hx hb dX9_tried_405 (by decide) ?_
          refine lv_iload hx hb dX9_tried_406 (lv_at hl 7 rfl) ?_
          refine lv_imul hx hb dX9_tried_408 ?_
          obtain ⟨hi36, hT⟩ := hT
          refine va_iald (f := S.2.1 32) hx hb hK hP 32 0 mat_32 rfl hi36 dX9_tried_409 ?_
          refine lv_iadd hx hb dX9_tried_410 ?_
          obtain ⟨hi37, hT⟩ := hT
          refine va_iald (f := S.2.1 37) hx hb hK hP 37 0 mat_37 rfl hi37 dX9_tried_411 ?_
          refine lv_topi (fun v15_38 ev15_38 => ?_)
          replace hT := hT v15_38 ev15_38
          refine lv_istore (lv' := [(15, .int v15_38), (10, .int (x10 + 1)), (0, .ref (ad 0)), (2, .int a2), (8, .int x8), (9, .int x9), (11, .int x11), (12, .int x12), (13, .int x13), (14, .int x14)]) hx hb dX9_tried_412 hl (by decide) rfl (fun ls hl => ?_)
          refine lv_aload_n hx hb dX9_tried_414 rfl (lv_at hl 2 rfl) ?_
          refine mg_openPegs hx hb hts hown hK hP dX9_tried_415 ?_
          refine lv_iconst (v := 5) hx hb dX9_tried_418 (by decide) ?_
          refine lv_iload hx hb dX9_tried_419 (lv_at hl 7 rfl) ?_
          refine lv_imul hx hb dX9_tried_421 ?_
          refine lv_aload_n hx hb dX9_tried_422 rfl (lv_at hl 2 rfl) ?_
          refine mg_stepRoles hx hb hts hown hK hP dX9_tried_423 ?_
          refine lv_iconst (v := 5) hx hb dX9_tried_426 (by decide) ?_
          refine lv_iload hx hb dX9_tried_427 (lv_at hl 8 rfl) ?_
          refine lv_imul hx hb dX9_tried_429 ?_
          refine lv_iconst (v := 1) hx hb dX9_tried_430 (by decide) ?_
          refine lv_iadd hx hb dX9_tried_431 ?_
          obtain ⟨hi39, hT⟩ := hT
          refine va_iald (f := S.2.1 32) hx hb hK hP 32 0 mat_32 rfl hi39 dX9_tried_432 ?_
          refine lv_iadd hx hb dX9_tried_433 ?_
          obtain ⟨hi40, hT⟩ := hT
          refine va_iald (f := S.2.1 37) hx hb hK hP 37 0 mat_37 rfl hi40 dX9_tried_434 ?_
          refine lv_topi (fun v16_41 ev16_41 => ?_)
          replace hT := hT v16_41 ev16_41
          refine lv_istore (lv' := [(16, .int v16_41), (15, .int v15_38), (10, .int (x10 + 1)), (0, .ref (ad 0)), (2, .int a2), (8, .int x8), (9, .int x9), (11, .int x11), (12, .int x12), (13, .int x13), (14, .int x14)]) hx hb dX9_tried_435 hl (by decide) rfl (fun ls hl => ?_)
          refine lv_iload hx hb dX9_tried_437 (lv_at hl 1 rfl) ?_
          refine lv_iconst (v := (-1)) hx hb dX9_tried_439 (by decide) ?_
          refine lv_icmp_eq (tgt := 504) hx hb dX9_tried_440 (by decide) (fun c42 => ?_) (fun c42 => ?_)
          · replace hT := hT.1 c42
            rw [hB504] at hT
            exact hT _ _ _ hP hD hS (lv_sub hl [3, 4, 5, 6, 2, 7, 10, 0] rfl)
          · replace hT := hT.2 c42
            refine lv_iload hx hb dX9_tried_443 (lv_at hl 0 rfl) ?_
            refine lv_iconst (v := (-1)) hx hb dX9_tried_445 (by decide) ?_
            refine lv_icmp_eq (tgt := 504) hx hb dX9_tried_446 (by decide) (fun c43 => ?_) (fun c43 => ?_)
            · replace hT := hT.1 c43
              rw [hB504] at hT
              exact hT _ _ _ hP hD hS (lv_sub hl [3, 4, 5, 6, 2, 7, 10, 0] rfl)
            · replace hT := hT.2 c43
              refine lv_aload_n hx hb dX9_tried_449 rfl (lv_at hl 3 rfl) ?_
              refine lv_aload_n hx hb dX9_tried_450 rfl (lv_at hl 3 rfl) ?_
              refine mg_at hx hb hts hown hK hP dX9_tried_451 ?_
              refine lv_iload hx hb dX9_tried_454 (lv_at hl 1 rfl) ?_
              refine mcallI (n := 2) (rest := []) hT hx hb hml hown hts hK hA hP hD hS hl gg_153 hd_X9_top ⟨Nat.le_of_ble_eq_true rfl, Nat.le_of_ble_eq_true rfl⟩ rfl rfl (Nat.le_of_ble_eq_true rfl) dX9_tried_456 (Nat.zero_le _) (Nat.zero_le _) (fun r45 S44 H locs hP hD hS hT => ?_)
              refine lv_iload hx hb dX9_tried_459 (lv_at hl 10 rfl) ?_
              refine lv_iconst (v := 1) hx hb dX9_tried_461 (by decide) ?_
              refine lv_isub hx hb dX9_tried_462 ?_
              refine lv_icmp_ne (tgt := 504) hx hb dX9_tried_463 (by decide) (fun c46 => ?_) (fun c46 => ?_)
              · replace hT := hT.1 c46
                rw [hB504] at hT
                exact hT _ _ _ hP hD hS (lv_sub hl [3, 4, 5, 6, 2, 7, 10, 0] rfl)
              · replace hT := hT.2 c46
                refine lv_aload_n hx hb dX9_tried_466 rfl (lv_at hl 3 rfl) ?_
                refine lv_aload_n hx hb dX9_tried_467 rfl (lv_at hl 3 rfl) ?_
                refine mg_at hx hb hts hown hK hP dX9_tried_468 ?_
                refine lv_iload hx hb dX9_tried_471 (lv_at hl 10 rfl) ?_
                refine lv_iconst (v := 1) hx hb dX9_tried_473 (by decide) ?_
                refine lv_isub hx hb dX9_tried_474 ?_
                refine mcallI (n := 2) (rest := []) hT hx hb hml hown hts hK hA hP hD hS hl gg_156 hd_X9_packOf ⟨Nat.le_of_ble_eq_true rfl, Nat.le_of_ble_eq_true rfl⟩ rfl rfl (Nat.le_of_ble_eq_true rfl) dX9_tried_475 (Nat.zero_le _) (Nat.zero_le _) (fun r48 S47 H locs hP hD hS hT => ?_)
                refine lv_iload hx hb dX9_tried_478 (lv_at hl 10 rfl) ?_
                refine lv_iconst (v := 1) hx hb dX9_tried_480 (by decide) ?_
                refine lv_isub hx hb dX9_tried_481 ?_
                refine lv_icmp_ne (tgt := 504) hx hb dX9_tried_482 (by decide) (fun c49 => ?_) (fun c49 => ?_)
                · replace hT := hT.1 c49
                  rw [hB504] at hT
                  exact hT _ _ _ hP hD hS (lv_sub hl [3, 4, 5, 6, 2, 7, 10, 0] rfl)
                · replace hT := hT.2 c49
                  refine lv_aload_n hx hb dX9_tried_485 rfl (lv_at hl 3 rfl) ?_
                  refine lv_aload_n hx hb dX9_tried_486 rfl (lv_at hl 3 rfl) ?_
                  refine mg_at hx hb hts hown hK hP dX9_tried_487 ?_
                  refine lv_iload hx hb dX9_tried_490 (lv_at hl 1 rfl) ?_
                  refine lv_iload hx hb dX9_tried_492 (lv_at hl 0 rfl) ?_
                  refine mcallI (n := 3) (rest := []) hT hx hb hml hown hts hK hA hP hD hS hl gg_188 hd_X9_whyOf ⟨Nat.le_of_ble_eq_true rfl, Nat.le_of_ble_eq_true rfl⟩ rfl rfl (Nat.le_of_ble_eq_true rfl) dX9_tried_494 (Nat.zero_le _) (Nat.zero_le _) (fun r51 S50 H locs hP hD hS hT => ?_)
                  refine lv_if_ne (tgt := 504) hx hb dX9_tried_497 (by decide) (fun c52 => ?_) (fun c52 => ?_)
                  · replace hT := hT.1 c52
                    rw [hB504] at hT
                    exact hT _ _ _ hP hD hS (lv_sub hl [3, 4, 5, 6, 2, 7, 10, 0] rfl)
                  · replace hT := hT.2 c52
                    refine lv_iconst (v := 1) hx hb dX9_tried_500 (by decide) ?_
                    refine lv_goto (tgt := 505) hx hb dX9_tried_501 (by decide) ?_
                    refine lv_istore (lv' := [(17, .int 1), (16, .int v16_41), (15, .int v15_38), (10, .int (x10 + 1)), (0, .ref (ad 0)), (2, .int a2), (8, .int x8), (9, .int x9), (11, .int x11), (12, .int x12), (13, .int x13), (14, .int x14)]) hx hb dX9_tried_505 hl (by decide) rfl (fun ls hl => ?_)
                    refine lv_iload hx hb dX9_tried_507 (lv_at hl 0 rfl) ?_
                    refine lv_if_ne (tgt := 521) hx hb dX9_tried_509 (by decide) (fun c53 => ?_) (fun c53 => ?_)
                    · replace hT := hT.1 c53
                      refine lv_aload_n hx hb dX9_tried_521 rfl (lv_at hl 4 rfl) ?_
                      refine mg_at hx hb hts hown hK hP dX9_tried_522 ?_
                      refine lv_iload hx hb dX9_tried_525 (lv_at hl 11 rfl) ?_
                      refine lv_iconst (v := 1) hx hb dX9_tried_527 (by decide) ?_
                      refine lv_isub hx hb dX9_tried_528 ?_
                      refine lv_iload hx hb dX9_tried_529 (lv_at hl 1 rfl) ?_
                      obtain ⟨hi54, hT⟩ := hT
                      refine va_iast (f := S50.2.1 8) hx hb hK hP hD hS 8 0 mat_8 rfl hi54 dX9_tried_531 (fun H locs hP hD hS => ?_)
                      replace hP := msetP_8 hP
                      replace hD := msetD_8 hD
                      refine lv_iinc (v := x11 + 1) (lv' := [(11, .int (x11 + 1)), (17, .int 1), (16, .int v16_41), (15, .int v15_38), (10, .int (x10 + 1)), (0, .ref (ad 0)), (2, .int a2), (8, .int x8), (9, .int x9), (12, .int x12), (13, .int x13), (14, .int x14)]) hx hb dX9_tried_532 hl (k := 8) rfl rfl (by decide) rfl (fun ls hl => ?_)
                      refine lv_goto (tgt := 169) hx hb dX9_tried_535 (by decide) ?_
                      rw [hB169] at hT
                      exact hT _ _ _ hP hD hS (lv_sub hl [5, 6, 7, 8, 4, 0] rfl)
                    · replace hT := hT.2 c53
                      refine lv_aload_n hx hb dX9_tried_512 rfl (lv_at hl 4 rfl) ?_
                      refine lv_iload hx hb dX9_tried_513 (lv_at hl 8 rfl) ?_
                      refine mp_failedMove hx hb hts hown hK hP hD hS dX9_tried_515 (fun H locs hP hD hS => ?_)
                      refine lv_bipush (v := (-2)) hx hb dX9_tried_518 (by decide) ?_
                      exact hret _ _ _ _ _ _ hP hD hS hT dX9_tried_520
        · replace hT := hT.2 c35
          refine lv_aload_n hx hb dX9_tried_299 rfl (lv_at hl 1 rfl) ?_
          refine mg_openScheme hx hb hts hown hK hP dX9_tried_300 ?_
          refine lv_iload hx hb dX9_tried_303 (lv_at hl 4 rfl) ?_
          refine lv_aload_n hx hb dX9_tried_305 rfl (lv_at hl 1 rfl) ?_
          refine mg_stepOf hx hb hts hown hK hP dX9_tried_306 ?_
          refine lv_iload hx hb dX9_tried_309 (lv_at hl 7 rfl) ?_
          obtain ⟨hi55, hT⟩ := hT
          refine va_iald (f := S.2.1 30) hx hb hK hP 30 0 mat_30 rfl hi55 dX9_tried_311 ?_
          obtain ⟨hi56, hT⟩ := hT
          refine va_iast (f := S.2.1 34) hx hb hK hP hD hS 34 0 mat_34 rfl hi56 dX9_tried_312 (fun H locs hP hD hS => ?_)
          replace hP := msetP_34 hP
          replace hD := msetD_34 hD
          refine lv_aload_n hx hb dX9_tried_313 rfl (lv_at hl 1 rfl) ?_
          refine mg_openHeight hx hb hts hown hK hP dX9_tried_314 ?_
          refine lv_iload hx hb dX9_tried_317 (lv_at hl 4 rfl) ?_
          refine lv_iload hx hb dX9_tried_319 (lv_at hl 8 rfl) ?_
          refine lv_aload_n hx hb dX9_tried_321 rfl (lv_at hl 1 rfl) ?_
          refine mg_stepLess hx hb hts hown hK hP dX9_tried_322 ?_
          refine lv_iload hx hb dX9_tried_325 (lv_at hl 7 rfl) ?_
          obtain ⟨hi57, hT⟩ := hT
          refine va_iald (f := S.2.1 31) hx hb hK hP 31 0 mat_31 rfl hi57 dX9_tried_327 ?_
          refine lv_isub hx hb dX9_tried_328 ?_
          obtain ⟨hi58, hT⟩ := hT
          refine va_iast (f := S.2.1 35) hx hb hK hP hD hS 35 0 mat_35 rfl hi58 dX9_tried_329 (fun H locs hP hD hS => ?_)
          replace hP := msetP_35 hP
          replace hD := msetD_35 hD
          refine lv_aload_n hx hb dX9_tried_330 rfl (lv_at hl 1 rfl) ?_
          refine mg_openStep hx hb hts hown hK hP dX9_tried_331 ?_
          refine lv_iload hx hb dX9_tried_334 (lv_at hl 4 rfl) ?_
          refine lv_iconst (v := 0) hx hb dX9_tried_336 (by decide) ?_
          obtain ⟨hi59, hT⟩ := hT
          refine va_iast (f := S.2.1 36) hx hb hK hP hD hS 36 0 mat_36 rfl hi59 dX9_tried_337 (fun H locs hP hD hS => ?_)
          replace hP := msetP_36 hP
          replace hD := msetD_36 hD
          refine lv_iconst (v := 0) hx hb dX9_tried_338 (by decide) ?_
          refine lv_istore (lv' := [(15, .int 0), (10, .int (x10 + 1)), (0, .ref (ad 0)), (2, .int a2), (8, .int x8), (9, .int x9), (11, .int x11), (12, .int x12), (13, .int x13), (14, .int x14)]) hx hb dX9_tried_339 hl (by decide) rfl (fun ls hl => ?_)
          rw [hB341] at hT
          exact hT _ _ _ hP hD hS (lv_sub hl [2, 3, 4, 5, 1, 6, 7, 8, 0] rfl)
      · replace hT := hT.2 c33
        refine lv_bipush (v := (-4)) hx hb dX9_tried_282 (by decide) ?_
        exact hret _ _ _ _ _ _ hP hD hS hT dX9_tried_284
    · clear hP hD hS hl H locs ls
      intro S x8 x9 x10 x11 x12 x13 x15 hT
      unfold mT_tried_341 at hT
      rw [hB341]
      intro H locs ls hP hD hS hl
      refine lv_iload hx hb dX9_tried_341 (lv_at hl 8 rfl) ?_
      refine lv_iconst (v := 5) hx hb dX9_tried_343 (by decide) ?_
      refine lv_icmp_ge (tgt := 387) hx hb dX9_tried_344 (by decide) (fun c60 => ?_) (fun c60 => ?_)
      · replace hT := hT.1 c60
        refine lv_iinc (v := x9 + 1) (lv' := [(9, .int (x9 + 1)), (0, .ref (ad 0)), (2, .int a2), (8, .int x8), (10, .int x10), (11, .int x11), (12, .int x12), (13, .int x13), (15, .int x15)]) hx hb dX9_tried_387 hl (k := 3) rfl rfl (by decide) rfl (fun ls hl => ?_)
        refine lv_goto (tgt := 169) hx hb dX9_tried_390 (by decide) ?_
        rw [hB169] at hT
        exact hT _ _ _ hP hD hS (lv_sub hl [1, 2, 3, 0, 4, 5] rfl)
      · replace hT := hT.2 c60
        refine lv_aload_n hx hb dX9_tried_347 rfl (lv_at hl 0 rfl) ?_
        refine mg_openPegs hx hb hts hown hK hP dX9_tried_348 ?_
        refine lv_iconst (v := 5) hx hb dX9_tried_351 (by decide) ?_
        refine lv_iload hx hb dX9_tried_352 (lv_at hl 3 rfl) ?_
        refine lv_imul hx hb dX9_tried_354 ?_
        refine lv_iload hx hb dX9_tried_355 (lv_at hl 8 rfl) ?_
        refine lv_iadd hx hb dX9_tried_357 ?_
        refine lv_aload_n hx hb dX9_tried_358 rfl (lv_at hl 0 rfl) ?_
        refine mg_openPegs hx hb hts hown hK hP dX9_tried_359 ?_
        refine lv_iconst (v := 5) hx hb dX9_tried_362 (by decide) ?_
        refine lv_iload hx hb dX9_tried_363 (lv_at hl 6 rfl) ?_
        refine lv_imul hx hb dX9_tried_365 ?_
        refine lv_aload_n hx hb dX9_tried_366 rfl (lv_at hl 0 rfl) ?_
        refine mg_stepRoles hx hb hts hown hK hP dX9_tried_367 ?_
        refine lv_iconst (v := 5) hx hb dX9_tried_370 (by decide) ?_
        refine lv_iload hx hb dX9_tried_371 (lv_at hl 7 rfl) ?_
        refine lv_imul hx hb dX9_tried_373 ?_
        refine lv_iload hx hb dX9_tried_374 (lv_at hl 8 rfl) ?_
        refine lv_iadd hx hb dX9_tried_376 ?_
        obtain ⟨hi61, hT⟩ := hT
        refine va_iald (f := S.2.1 32) hx hb hK hP 32 0 mat_32 rfl hi61 dX9_tried_377 ?_
        refine lv_iadd hx hb dX9_tried_378 ?_
        obtain ⟨hi62, hT⟩ := hT
        refine va_iald (f := S.2.1 37) hx hb hK hP 37 0 mat_37 rfl hi62 dX9_tried_379 ?_
        obtain ⟨hi63, hT⟩ := hT
        refine va_iast (f := S.2.1 37) hx hb hK hP hD hS 37 0 mat_37 rfl hi63 dX9_tried_380 (fun H locs hP hD hS => ?_)
        replace hP := msetP_37 hP
        replace hD := msetD_37 hD
        refine lv_iinc (v := x15 + 1) (lv' := [(15, .int (x15 + 1)), (0, .ref (ad 0)), (2, .int a2), (8, .int x8), (9, .int x9), (10, .int x10), (11, .int x11), (12, .int x12), (13, .int x13)]) hx hb dX9_tried_381 hl (k := 8) rfl rfl (by decide) rfl (fun ls hl => ?_)
        refine lv_goto (tgt := 341) hx hb dX9_tried_384 (by decide) ?_
        rw [hB341] at hT
        exact hT _ _ _ hP hD hS (lv_sub hl [1, 2, 3, 4, 5, 6, 7, 8, 0] rfl)
    · clear hP hD hS hl H locs ls
      intro S x8 x9 x10 x11 x14 x16 hT
      unfold mT_tried_504 at hT
      rw [hB504]
      intro H locs ls hP hD hS hl
      refine lv_iconst (v := 0) hx hb dX9_tried_504 (by decide) ?_
      refine lv_istore (lv' := [(17, .int 0), (0, .ref (ad 0)), (2, .int a2), (8, .int x8), (9, .int x9), (10, .int x10), (11, .int x11), (14, .int x14), (16, .int x16)]) hx hb dX9_tried_505 hl (by decide) rfl (fun ls hl => ?_)
      refine lv_iload hx hb dX9_tried_507 (lv_at hl 0 rfl) ?_
      refine lv_if_ne (tgt := 521) hx hb dX9_tried_509 (by decide) (fun c64 => ?_) (fun c64 => ?_)
      · replace hT := hT.1 c64
        refine lv_aload_n hx hb dX9_tried_521 rfl (lv_at hl 1 rfl) ?_
        refine mg_at hx hb hts hown hK hP dX9_tried_522 ?_
        refine lv_iload hx hb dX9_tried_525 (lv_at hl 7 rfl) ?_
        refine lv_iconst (v := 1) hx hb dX9_tried_527 (by decide) ?_
        refine lv_isub hx hb dX9_tried_528 ?_
        refine lv_iload hx hb dX9_tried_529 (lv_at hl 8 rfl) ?_
        obtain ⟨hi65, hT⟩ := hT
        refine va_iast (f := S.2.1 8) hx hb hK hP hD hS 8 0 mat_8 rfl hi65 dX9_tried_531 (fun H locs hP hD hS => ?_)
        replace hP := msetP_8 hP
        replace hD := msetD_8 hD
        refine lv_iinc (v := x11 + 1) (lv' := [(11, .int (x11 + 1)), (17, .int 0), (0, .ref (ad 0)), (2, .int a2), (8, .int x8), (9, .int x9), (10, .int x10), (14, .int x14), (16, .int x16)]) hx hb dX9_tried_532 hl (k := 6) rfl rfl (by decide) rfl (fun ls hl => ?_)
        refine lv_goto (tgt := 169) hx hb dX9_tried_535 (by decide) ?_
        rw [hB169] at hT
        exact hT _ _ _ hP hD hS (lv_sub hl [2, 3, 4, 5, 6, 0] rfl)
      · replace hT := hT.2 c64
        refine lv_aload_n hx hb dX9_tried_512 rfl (lv_at hl 1 rfl) ?_
        refine lv_iload hx hb dX9_tried_513 (lv_at hl 6 rfl) ?_
        refine mp_failedMove hx hb hts hown hK hP hD hS dX9_tried_515 (fun H locs hP hD hS => ?_)
        refine lv_bipush (v := (-2)) hx hb dX9_tried_518 (by decide) ?_
        exact hret _ _ _ _ _ _ hP hD hS hT dX9_tried_520
    · clear hP hD hS hl H locs ls
      intro S x8 x11 x12 hT
      unfold mT_tried_541 at hT
      rw [hB541]
      intro H locs ls hP hD hS hl
      refine lv_iload hx hb dX9_tried_541 (lv_at hl 4 rfl) ?_
      refine lv_iload_n hx hb dX9_tried_543 rfl (lv_at hl 1 rfl) ?_
      refine lv_icmp_ge (tgt := 568) hx hb dX9_tried_544 (by decide) (fun c66 => ?_) (fun c66 => ?_)
      · replace hT := hT.1 c66
        refine lv_iload hx hb dX9_tried_568 (lv_at hl 3 rfl) ?_
        exact hret _ _ _ _ _ _ hP hD hS hT dX9_tried_570
      · replace hT := hT.2 c66
        refine lv_aload_n hx hb dX9_tried_547 rfl (lv_at hl 0 rfl) ?_
        refine mg_at hx hb hts hown hK hP dX9_tried_548 ?_
        refine lv_iload hx hb dX9_tried_551 (lv_at hl 4 rfl) ?_
        obtain ⟨hi67, hT⟩ := hT
        refine va_iald (f := S.2.1 8) hx hb hK hP 8 0 mat_8 rfl hi67 dX9_tried_553 ?_
        refine lv_iload hx hb dX9_tried_554 (lv_at hl 2 rfl) ?_
        refine lv_icmp_eq (tgt := 562) hx hb dX9_tried_556 (by decide) (fun c68 => ?_) (fun c68 => ?_)
        · replace hT := hT.1 c68
          refine lv_iinc (v := x12 + 1) (lv' := [(12, .int (x12 + 1)), (0, .ref (ad 0)), (2, .int a2), (8, .int x8), (11, .int x11)]) hx hb dX9_tried_562 hl (k := 4) rfl rfl (by decide) rfl (fun ls hl => ?_)
          refine lv_goto (tgt := 541) hx hb dX9_tried_565 (by decide) ?_
          rw [hB541] at hT
          exact hT _ _ _ hP hD hS (lv_sub hl [1, 2, 3, 4, 0] rfl)
        · replace hT := hT.2 c68
          refine lv_bipush (v := (-3)) hx hb dX9_tried_559 (by decide) ?_
          exact hret _ _ _ _ _ _ hP hD hS hT dX9_tried_561
  unfold mT_tried_e at hT
  refine lv_aload_n hx hb dX9_tried_0 rfl (lv_at hl 0 rfl) ?_
  refine lv_iconst (v := 0) hx hb dX9_tried_1 (by decide) ?_
  refine mp_thrown hx hb hts hown hK hP hD hS dX9_tried_2 (fun H locs hP hD hS => ?_)
  refine lv_aload_n hx hb dX9_tried_5 rfl (lv_at hl 0 rfl) ?_
  refine lv_iload_n hx hb dX9_tried_6 rfl (lv_at hl 1 rfl) ?_
  refine mcallZ (n := 1) (rest := []) hT hx hb hml hown hts hK hA hP hD hS hl gg_242 hd_X9_isScheme ⟨Nat.le_of_ble_eq_true rfl, Nat.le_of_ble_eq_true rfl⟩ rfl rfl (Nat.le_of_ble_eq_true rfl) dX9_tried_7 (Nat.zero_le _) (Nat.zero_le _) (fun b70 S69 H locs hP hD hS hT => ?_)
  refine lv_if_eq (tgt := 42) hx hb dX9_tried_10 (by decide) (fun c71 => ?_) (fun c71 => ?_)
  · replace hT := hT.1 c71
    rw [hB42] at hT
    exact hT _ _ _ hP hD hS (lv_sub hl [0] rfl)
  · replace hT := hT.2 c71
    refine lv_aload_n hx hb dX9_tried_13 rfl (lv_at hl 0 rfl) ?_
    refine lv_iload_n hx hb dX9_tried_14 rfl (lv_at hl 2 rfl) ?_
    refine lv_iconst (v := 1) hx hb dX9_tried_15 (by decide) ?_
    refine lv_aload_n hx hb dX9_tried_16 rfl (lv_at hl 0 rfl) ?_
    refine mg_discs (v := S69.1 1) hx hb hts hown hK hP rfl dX9_tried_17 ?_
    refine mcallZ (n := 3) (rest := []) hT hx hb hml hown hts hK hA hP hD hS hl gg_139 hd_X9_in ⟨Nat.le_of_ble_eq_true rfl, Nat.le_of_ble_eq_true rfl⟩ rfl rfl (Nat.le_of_ble_eq_true rfl) dX9_tried_20 (Nat.zero_le _) (Nat.zero_le _) (fun b73 S72 H locs hP hD hS hT => ?_)
    refine lv_if_eq (tgt := 42) hx hb dX9_tried_23 (by decide) (fun c74 => ?_) (fun c74 => ?_)
    · replace hT := hT.1 c74
      rw [hB42] at hT
      exact hT _ _ _ hP hD hS (lv_sub hl [0] rfl)
    · replace hT := hT.2 c74
      refine lv_aload_n hx hb dX9_tried_26 rfl (lv_at hl 0 rfl) ?_
      refine lv_iload_n hx hb dX9_tried_27 rfl (lv_at hl 3 rfl) ?_
      refine lv_iload hx hb dX9_tried_28 (lv_at hl 4 rfl) ?_
      refine lv_iload hx hb dX9_tried_30 (lv_at hl 5 rfl) ?_
      refine lv_iload hx hb dX9_tried_32 (lv_at hl 6 rfl) ?_
      refine lv_iload hx hb dX9_tried_34 (lv_at hl 7 rfl) ?_
      refine mcallZ (n := 5) (rest := []) hT hx hb hml hown hts hK hA hP hD hS hl gg_235 hd_X9_areNames ⟨Nat.le_of_ble_eq_true rfl, Nat.le_of_ble_eq_true rfl⟩ rfl rfl (Nat.le_of_ble_eq_true rfl) dX9_tried_36 (Nat.zero_le _) (Nat.zero_le _) (fun b76 S75 H locs hP hD hS hT => ?_)
      refine lv_if_ne (tgt := 48) hx hb dX9_tried_39 (by decide) (fun c77 => ?_) (fun c77 => ?_)
      · replace hT := hT.1 c77
        refine lv_aload_n hx hb dX9_tried_48 rfl (lv_at hl 0 rfl) ?_
        refine lv_iconst (v := 0) hx hb dX9_tried_49 (by decide) ?_
        refine mp_trouble hx hb hts hown hK hP hD hS dX9_tried_50 (fun H locs hP hD hS => ?_)
        refine lv_aload_n hx hb dX9_tried_53 rfl (lv_at hl 0 rfl) ?_
        refine lv_iconst (v := (-1)) hx hb dX9_tried_54 (by decide) ?_
        refine mp_failedMove hx hb hts hown hK hP hD hS dX9_tried_55 (fun H locs hP hD hS => ?_)
        refine lv_iconst (v := 0) hx hb dX9_tried_58 (by decide) ?_
        refine lv_istore (lv' := [(8, .int 0), (0, .ref (ad 0)), (1, .int a1), (2, .int a2), (3, .int a3), (4, .int a4), (5, .int a5), (6, .int a6), (7, .int a7)]) hx hb dX9_tried_59 hl (by decide) rfl (fun ls hl => ?_)
        rw [hB61] at hT
        exact hT _ _ _ hP hD hS (lv_sub hl [1, 2, 3, 0] rfl)
      · replace hT := hT.2 c77
        rw [hB42] at hT
        exact hT _ _ _ hP hD hS (lv_sub hl [0] rfl)
end
section
abbrev mX_failed (l : Launch) (S : MS) (post : Int32 → MS → Prop) : Prop := mCtI l yX9_failed cX9_failed 1 0 0 (fun ad => []) S post
def mT_failed_e (l : Launch) (post : Int32 → MS → Prop) (S0 : MS) : Prop := post (S0.1 10) (mf S0 3 0)
set_option maxHeartbeats 4000000 in
set_option maxRecDepth 100000 in
theorem m_failed (l : Launch) (S0 : MS) (post : Int32 → MS → Prop) (h : mT_failed_e l post S0) : mX_failed l S0 post := by
  refine msetI rfl (fun _ => Nat.le_of_ble_eq_true rfl) ?_
  intro p e s m args below meth c D ad cI cZ cL A Q hx hb hml hown hts hK hA hret H locs ls hP hD hS hl
  replace hl : lv_has ls 1 [(0, .ref (ad 0))] := hl
  have hT := h
  unfold mT_failed_e at hT
  refine lv_aload_n hx hb dX9_failed_0 rfl (lv_at hl 0 rfl) ?_
  refine lv_iconst (v := 0) hx hb dX9_failed_1 (by decide) ?_
  refine mp_thrown hx hb hts hown hK hP hD hS dX9_failed_2 (fun H locs hP hD hS => ?_)
  refine lv_aload_n hx hb dX9_failed_5 rfl (lv_at hl 0 rfl) ?_
  refine mg_failedMove (v := S0.1 10) hx hb hts hown hK hP rfl dX9_failed_6 ?_
  exact hret _ _ _ _ _ _ hP hD hS hT dX9_failed_9
abbrev mX_trouble (l : Launch) (S : MS) (post : Int32 → MS → Prop) : Prop := mCtI l yX9_trouble cX9_trouble 1 0 0 (fun ad => []) S post
def mT_trouble_e (l : Launch) (post : Int32 → MS → Prop) (S0 : MS) : Prop := post (S0.1 2) (mf S0 3 0)
set_option maxHeartbeats 4000000 in
set_option maxRecDepth 100000 in
theorem m_trouble (l : Launch) (S0 : MS) (post : Int32 → MS → Prop) (h : mT_trouble_e l post S0) : mX_trouble l S0 post := by
  refine msetI rfl (fun _ => Nat.le_of_ble_eq_true rfl) ?_
  intro p e s m args below meth c D ad cI cZ cL A Q hx hb hml hown hts hK hA hret H locs ls hP hD hS hl
  replace hl : lv_has ls 1 [(0, .ref (ad 0))] := hl
  have hT := h
  unfold mT_trouble_e at hT
  refine lv_aload_n hx hb dX9_trouble_0 rfl (lv_at hl 0 rfl) ?_
  refine lv_iconst (v := 0) hx hb dX9_trouble_1 (by decide) ?_
  refine mp_thrown hx hb hts hown hK hP hD hS dX9_trouble_2 (fun H locs hP hD hS => ?_)
  refine lv_aload_n hx hb dX9_trouble_5 rfl (lv_at hl 0 rfl) ?_
  refine mg_trouble (v := S0.1 2) hx hb hts hown hK hP rfl dX9_trouble_6 ?_
  exact hret _ _ _ _ _ _ hP hD hS hT dX9_trouble_9
abbrev mX_size (l : Launch) (S : MS) (a1 : Int32) (post : Int32 → MS → Prop) : Prop := mCtI l yX9_size cX9_size 4 1 22 (fun ad => [.int a1]) S post
def mT_size_96 (l : Launch) (a1 : Int32) (post : Int32 → MS → Prop) (B96 : MS → Int32 → Int32 → Prop) (S : MS) (x2 : Int32) (x3 : Int32) : Prop := (x3 < 0 → post x2 S) ∧ (¬ x3 < 0 → vp_in x3 7 ∧ ∀ v2_3 : Int32, v2_3 = (4 * x2) + (S.2.1 1 x3.toNatClampNeg) → B96 S v2_3 (x3 + (-1)))
def mT_size_e (l : Launch) (a1 : Int32) (post : Int32 → MS → Prop) (B96 : MS → Int32 → Int32 → Prop) (S0 : MS) : Prop := (a1 = 0 → post (S0.1 0) (mf S0 3 0)) ∧ (a1 = 1 → post (S0.1 1) (mf S0 3 0)) ∧ (a1 = 2 → mX_lanesThere l (mf S0 3 0) (fun r5 S4 => post r5 S4)) ∧ (a1 = 3 → post (S0.1 9) (mf S0 3 0)) ∧ (a1 = 4 → post (S0.1 4) (mf S0 3 0)) ∧ (a1 = 5 → post (S0.1 5) (mf S0 3 0)) ∧ (a1 = 6 → post (S0.1 6) (mf S0 3 0)) ∧ (a1 = 7 → ∀ v3_6 : Int32, v3_6 = (S0.1 1) - 1 → B96 (mf S0 3 0) 0 v3_6) ∧ ((a1.toInt < 0 ∨ 7 < a1.toInt) → post (-1) (mf S0 3 0))
set_option maxHeartbeats 4000000 in
set_option maxRecDepth 100000 in
theorem m_size (l : Launch) (S0 : MS) (a1 : Int32) (post : Int32 → MS → Prop) (h : ∀ (B96 : MS → Int32 → Int32 → Prop), (∀ (S : MS) (x2 : Int32) (x3 : Int32), mT_size_96 l a1 post B96 S x2 x3 → B96 S x2 x3) → mT_size_e l a1 post B96 S0) : mX_size l S0 a1 post := by
  refine msetI rfl (fun _ => Nat.le_of_ble_eq_true rfl) ?_
  intro p e s m args below meth c D ad cI cZ cL A Q hx hb hml hown hts hK hA hret H locs ls hP hD hS hl
  replace hl : lv_has ls 4 [(0, .ref (ad 0)), (1, .int a1)] := hl
  obtain ⟨B96, hB96⟩ : ∃ B : MS → Int32 → Int32 → Prop, B = (fun S x2 x3 => ∀ (H : Heap) (locs : List Loc) (ls : Array Slot), va_P D vwCl (mW ad cI cZ cL S) H → va_D A (mW ad cI cZ cL S) → va_S A s.heap H locs → lv_has ls 4 [(0, .ref (ad 0)), (2, .int x2), (3, .int x3)] → W p l e (mrm 1 22) s m args below meth c H locs 0 0 Q (F0 m 96 ls [])) := ⟨_, rfl⟩
  have hT : mT_size_e l a1 post B96 S0 := by
    refine h B96 ?_
    · clear hP hD hS hl H locs ls
      intro S x2 x3 hT
      unfold mT_size_96 at hT
      rw [hB96]
      intro H locs ls hP hD hS hl
      refine lv_iload_n hx hb dX9_size_96 rfl (lv_at hl 2 rfl) ?_
      refine lv_if_lt (tgt := 117) hx hb dX9_size_97 (by decide) (fun c1 => ?_) (fun c1 => ?_)
      · replace hT := hT.1 c1
        refine lv_iload_n hx hb dX9_size_117 rfl (lv_at hl 1 rfl) ?_
        exact hret _ _ _ _ _ _ hP hD hS hT dX9_size_118
      · replace hT := hT.2 c1
        refine lv_iconst (v := 4) hx hb dX9_size_100 (by decide) ?_
        refine lv_iload_n hx hb dX9_size_101 rfl (lv_at hl 1 rfl) ?_
        refine lv_imul hx hb dX9_size_102 ?_
        refine lv_aload_n hx hb dX9_size_103 rfl (lv_at hl 0 rfl) ?_
        refine mg_kinds hx hb hts hown hK hP dX9_size_104 ?_
        refine lv_iload_n hx hb dX9_size_107 rfl (lv_at hl 2 rfl) ?_
        obtain ⟨hi2, hT⟩ := hT
        refine va_iald (f := S.2.1 1) hx hb hK hP 1 0 mat_1 rfl hi2 dX9_size_108 ?_
        refine lv_iadd hx hb dX9_size_109 ?_
        refine lv_topi (fun v2_3 ev2_3 => ?_)
        replace hT := hT v2_3 ev2_3
        refine lv_istore_n (lv' := [(2, .int v2_3), (0, .ref (ad 0)), (3, .int x3)]) hx hb dX9_size_110 rfl hl (by decide) rfl (fun ls hl => ?_)
        refine lv_iinc (v := x3 + (-1)) (lv' := [(3, .int (x3 + (-1))), (2, .int v2_3), (0, .ref (ad 0))]) hx hb dX9_size_111 hl (k := 2) rfl rfl (by decide) rfl (fun ls hl => ?_)
        refine lv_goto (tgt := 96) hx hb dX9_size_114 (by decide) ?_
        rw [hB96] at hT
        exact hT _ _ _ hP hD hS (lv_sub hl [2, 1, 0] rfl)
  unfold mT_size_e at hT
  refine lv_aload_n hx hb dX9_size_0 rfl (lv_at hl 0 rfl) ?_
  refine lv_iconst (v := 0) hx hb dX9_size_1 (by decide) ?_
  refine mp_thrown hx hb hts hown hK hP hD hS dX9_size_2 (fun H locs hP hD hS => ?_)
  refine lv_iload_n hx hb dX9_size_5 rfl (lv_at hl 1 rfl) ?_
  by_cases csw : (a1.toInt < 0 ∨ 7 < a1.toInt)
  · replace hT := hT.2.2.2.2.2.2.2.2 csw
    refine lv_tableOut (tgt := 119) hx hb dX9_size_6 csw (by decide) ?_
    refine lv_iconst (v := (-1)) hx hb dX9_size_119 (by decide) ?_
    exact hret _ _ _ _ _ _ hP hD hS hT dX9_size_120
  · have csw : a1 = 0 ∨ a1 = 1 ∨ a1 = 2 ∨ a1 = 3 ∨ a1 = 4 ∨ a1 = 5 ∨ a1 = 6 ∨ a1 = 7 := sw_cases0_7 csw
    rcases csw with csw | csw | csw | csw | csw | csw | csw | csw
    · replace hT := hT.1 csw
      refine lv_tableIn (tgt := 52) hx hb dX9_size_6 (by rw [csw]; decide) (by rw [csw]; decide) (by rw [csw]; rfl) (by decide) ?_
      refine lv_aload_n hx hb dX9_size_52 rfl (lv_at hl 0 rfl) ?_
      refine mg_pegs (v := S0.1 0) hx hb hts hown hK hP rfl dX9_size_53 ?_
      exact hret _ _ _ _ _ _ hP hD hS hT dX9_size_56
    · replace hT := hT.2.1 csw
      refine lv_tableIn (tgt := 57) hx hb dX9_size_6 (by rw [csw]; decide) (by rw [csw]; decide) (by rw [csw]; rfl) (by decide) ?_
      refine lv_aload_n hx hb dX9_size_57 rfl (lv_at hl 0 rfl) ?_
      refine mg_discs (v := S0.1 1) hx hb hts hown hK hP rfl dX9_size_58 ?_
      exact hret _ _ _ _ _ _ hP hD hS hT dX9_size_61
    · replace hT := hT.2.2.1 csw
      refine lv_tableIn (tgt := 62) hx hb dX9_size_6 (by rw [csw]; decide) (by rw [csw]; decide) (by rw [csw]; rfl) (by decide) ?_
      refine lv_aload_n hx hb dX9_size_62 rfl (lv_at hl 0 rfl) ?_
      refine mcallI (n := 0) (rest := []) hT hx hb hml hown hts hK hA hP hD hS hl gg_173 hd_X9_lanesThere ⟨Nat.le_of_ble_eq_true rfl, Nat.le_of_ble_eq_true rfl⟩ rfl rfl (Nat.le_of_ble_eq_true rfl) dX9_size_63 (Nat.zero_le _) (Nat.zero_le _) (fun r5 S4 H locs hP hD hS hT => ?_)
      exact hret _ _ _ _ _ _ hP hD hS hT dX9_size_66
    · replace hT := hT.2.2.2.1 csw
      refine lv_tableIn (tgt := 67) hx hb dX9_size_6 (by rw [csw]; decide) (by rw [csw]; decide) (by rw [csw]; rfl) (by decide) ?_
      refine lv_aload_n hx hb dX9_size_67 rfl (lv_at hl 0 rfl) ?_
      refine mg_schemes (v := S0.1 9) hx hb hts hown hK hP rfl dX9_size_68 ?_
      exact hret _ _ _ _ _ _ hP hD hS hT dX9_size_71
    · replace hT := hT.2.2.2.2.1 csw
      refine lv_tableIn (tgt := 72) hx hb dX9_size_6 (by rw [csw]; decide) (by rw [csw]; decide) (by rw [csw]; rfl) (by decide) ?_
      refine lv_aload_n hx hb dX9_size_72 rfl (lv_at hl 0 rfl) ?_
      refine mg_undos (v := S0.1 4) hx hb hts hown hK hP rfl dX9_size_73 ?_
      exact hret _ _ _ _ _ _ hP hD hS hT dX9_size_76
    · replace hT := hT.2.2.2.2.2.1 csw
      refine lv_tableIn (tgt := 77) hx hb dX9_size_6 (by rw [csw]; decide) (by rw [csw]; decide) (by rw [csw]; rfl) (by decide) ?_
      refine lv_aload_n hx hb dX9_size_77 rfl (lv_at hl 0 rfl) ?_
      refine mg_redos (v := S0.1 5) hx hb hts hown hK hP rfl dX9_size_78 ?_
      exact hret _ _ _ _ _ _ hP hD hS hT dX9_size_81
    · replace hT := hT.2.2.2.2.2.2.1 csw
      refine lv_tableIn (tgt := 82) hx hb dX9_size_6 (by rw [csw]; decide) (by rw [csw]; decide) (by rw [csw]; rfl) (by decide) ?_
      refine lv_aload_n hx hb dX9_size_82 rfl (lv_at hl 0 rfl) ?_
      refine mg_planned (v := S0.1 6) hx hb hts hown hK hP rfl dX9_size_83 ?_
      exact hret _ _ _ _ _ _ hP hD hS hT dX9_size_86
    · replace hT := hT.2.2.2.2.2.2.2.1 csw
      refine lv_tableIn (tgt := 87) hx hb dX9_size_6 (by rw [csw]; decide) (by rw [csw]; decide) (by rw [csw]; rfl) (by decide) ?_
      refine lv_iconst (v := 0) hx hb dX9_size_87 (by decide) ?_
      refine lv_istore_n (lv' := [(2, .int 0), (0, .ref (ad 0)), (1, .int a1)]) hx hb dX9_size_88 rfl hl (by decide) rfl (fun ls hl => ?_)
      refine lv_aload_n hx hb dX9_size_89 rfl (lv_at hl 1 rfl) ?_
      refine mg_discs (v := S0.1 1) hx hb hts hown hK hP rfl dX9_size_90 ?_
      refine lv_iconst (v := 1) hx hb dX9_size_93 (by decide) ?_
      refine lv_isub hx hb dX9_size_94 ?_
      refine lv_topi (fun v3_6 ev3_6 => ?_)
      replace hT := hT v3_6 ev3_6
      refine lv_istore_n (lv' := [(3, .int v3_6), (2, .int 0), (0, .ref (ad 0)), (1, .int a1)]) hx hb dX9_size_95 rfl hl (by decide) rfl (fun ls hl => ?_)
      rw [hB96] at hT
      exact hT _ _ _ hP hD hS (lv_sub hl [2, 1, 0] rfl)
end
