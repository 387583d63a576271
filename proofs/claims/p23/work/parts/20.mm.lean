abbrev mX_in (l : Launch) (S : MS) (a1 : Int32) (a2 : Int32) (a3 : Int32) (post : Bool → MS → Prop) : Prop := mCtZ l yX9_in cX9_in 4 0 0 (fun ad => [.int a1, .int a2, .int a3]) S post
def mT_in_e (l : Launch) (a1 : Int32) (a2 : Int32) (a3 : Int32) (post : Bool → MS → Prop) (S0 : MS) : Prop := (a1 < a2 → post false S0) ∧ (¬ a1 < a2 → (a3 < a1 → post false S0) ∧ (¬ a3 < a1 → post true S0))
set_option maxHeartbeats 4000000 in
set_option maxRecDepth 100000 in
theorem m_in (l : Launch) (S0 : MS) (a1 : Int32) (a2 : Int32) (a3 : Int32) (post : Bool → MS → Prop) (h : mT_in_e l a1 a2 a3 post S0) : mX_in l S0 a1 a2 a3 post := by
  refine msetZ rfl (fun _ => Nat.le_of_ble_eq_true rfl) ?_
  intro p e s m args below meth c D ad cI cZ cL A Q hx hb hml hown hts hK hA hret H locs ls hP hD hS hl
  replace hl : lv_has ls 4 [(0, .ref (ad 0)), (1, .int a1), (2, .int a2), (3, .int a3)] := hl
  have hT := h
  unfold mT_in_e at hT
  refine lv_iload_n hx hb dX9_in_0 rfl (lv_at hl 1 rfl) ?_
  refine lv_iload_n hx hb dX9_in_1 rfl (lv_at hl 2 rfl) ?_
  refine lv_icmp_lt (tgt := 14) hx hb dX9_in_2 (by decide) (fun c1 => ?_) (fun c1 => ?_)
  · replace hT := hT.1 c1
    refine lv_iconst (v := 0) hx hb dX9_in_14 (by decide) ?_
    exact hret false _ _ _ _ _ hP hD hS hT dX9_in_15
  · replace hT := hT.2 c1
    refine lv_iload_n hx hb dX9_in_5 rfl (lv_at hl 1 rfl) ?_
    refine lv_iload_n hx hb dX9_in_6 rfl (lv_at hl 3 rfl) ?_
    refine lv_icmp_gt (tgt := 14) hx hb dX9_in_7 (by decide) (fun c2 => ?_) (fun c2 => ?_)
    · replace hT := hT.1 c2
      refine lv_iconst (v := 0) hx hb dX9_in_14 (by decide) ?_
      exact hret false _ _ _ _ _ hP hD hS hT dX9_in_15
    · replace hT := hT.2 c2
      refine lv_iconst (v := 1) hx hb dX9_in_10 (by decide) ?_
      refine lv_goto (tgt := 15) hx hb dX9_in_11 (by decide) ?_
      exact hret true _ _ _ _ _ hP hD hS hT dX9_in_15
abbrev mX_no (l : Launch) (S : MS) (a1 : Int32) (post : Int32 → MS → Prop) : Prop := mCtI l yX9_no cX9_no 2 0 0 (fun ad => [.int a1]) S post
def mT_no_e (l : Launch) (a1 : Int32) (post : Int32 → MS → Prop) (S0 : MS) : Prop := post (-1) (mf S0 2 a1)
set_option maxHeartbeats 4000000 in
set_option maxRecDepth 100000 in
theorem m_no (l : Launch) (S0 : MS) (a1 : Int32) (post : Int32 → MS → Prop) (h : mT_no_e l a1 post S0) : mX_no l S0 a1 post := by
  refine msetI rfl (fun _ => Nat.le_of_ble_eq_true rfl) ?_
  intro p e s m args below meth c D ad cI cZ cL A Q hx hb hml hown hts hK hA hret H locs ls hP hD hS hl
  replace hl : lv_has ls 2 [(0, .ref (ad 0)), (1, .int a1)] := hl
  have hT := h
  unfold mT_no_e at hT
  refine lv_aload_n hx hb dX9_no_0 rfl (lv_at hl 0 rfl) ?_
  refine lv_iload_n hx hb dX9_no_1 rfl (lv_at hl 1 rfl) ?_
  refine mp_trouble hx hb hts hown hK hP hD hS dX9_no_2 (fun H locs hP hD hS => ?_)
  refine lv_iconst (v := (-1)) hx hb dX9_no_5 (by decide) ?_
  exact hret _ _ _ _ _ _ hP hD hS hT dX9_no_6
abbrev mX_not (l : Launch) (S : MS) (a1 : Int32) (post : Bool → MS → Prop) : Prop := mCtZ l yX9_not cX9_not 2 0 0 (fun ad => [.int a1]) S post
def mT_not_e (l : Launch) (a1 : Int32) (post : Bool → MS → Prop) (S0 : MS) : Prop := post false (mf S0 2 a1)
set_option maxHeartbeats 4000000 in
set_option maxRecDepth 100000 in
theorem m_not (l : Launch) (S0 : MS) (a1 : Int32) (post : Bool → MS → Prop) (h : mT_not_e l a1 post S0) : mX_not l S0 a1 post := by
  refine msetZ rfl (fun _ => Nat.le_of_ble_eq_true rfl) ?_
  intro p e s m args below meth c D ad cI cZ cL A Q hx hb hml hown hts hK hA hret H locs ls hP hD hS hl
  replace hl : lv_has ls 2 [(0, .ref (ad 0)), (1, .int a1)] := hl
  have hT := h
  unfold mT_not_e at hT
  refine lv_aload_n hx hb dX9_not_0 rfl (lv_at hl 0 rfl) ?_
  refine lv_iload_n hx hb dX9_not_1 rfl (lv_at hl 1 rfl) ?_
  refine mp_trouble hx hb hts hown hK hP hD hS dX9_not_2 (fun H locs hP hD hS => ?_)
  refine lv_iconst (v := 0) hx hb dX9_not_5 (by decide) ?_
  exact hret false _ _ _ _ _ hP hD hS hT dX9_not_6
abbrev mX_isPeg (l : Launch) (S : MS) (a1 : Int32) (post : Bool → MS → Prop) : Prop := mCtZ l yX9_isPeg cX9_isPeg 2 1 23 (fun ad => [.int a1]) S post
def mT_isPeg_e (l : Launch) (a1 : Int32) (post : Bool → MS → Prop) (S0 : MS) : Prop := mX_in l S0 a1 0 ((S0.1 0) - 1) (fun b2 S1 => post b2 S1)
set_option maxHeartbeats 4000000 in
set_option maxRecDepth 100000 in
theorem m_isPeg (l : Launch) (S0 : MS) (a1 : Int32) (post : Bool → MS → Prop) (h : mT_isPeg_e l a1 post S0) : mX_isPeg l S0 a1 post := by
  refine msetZ rfl (fun _ => Nat.le_of_ble_eq_true rfl) ?_
  intro p e s m args below meth c D ad cI cZ cL A Q hx hb hml hown hts hK hA hret H locs ls hP hD hS hl
  replace hl : lv_has ls 2 [(0, .ref (ad 0)), (1, .int a1)] := hl
  have hT := h
  unfold mT_isPeg_e at hT
  refine lv_aload_n hx hb dX9_isPeg_0 rfl (lv_at hl 0 rfl) ?_
  refine lv_iload_n hx hb dX9_isPeg_1 rfl (lv_at hl 1 rfl) ?_
  refine lv_iconst (v := 0) hx hb dX9_isPeg_2 (by decide) ?_
  refine lv_aload_n hx hb dX9_isPeg_3 rfl (lv_at hl 0 rfl) ?_
  refine mg_pegs (v := S0.1 0) hx hb hts hown hK hP rfl dX9_isPeg_4 ?_
  refine lv_iconst (v := 1) hx hb dX9_isPeg_7 (by decide) ?_
  refine lv_isub hx hb dX9_isPeg_8 ?_
  refine mcallZ (n := 3) (rest := []) hT hx hb hml hown hts hK hA hP hD hS hl gg_139 hd_X9_in ⟨Nat.le_of_ble_eq_true rfl, Nat.le_of_ble_eq_true rfl⟩ rfl rfl (Nat.le_of_ble_eq_true rfl) dX9_isPeg_9 (Nat.zero_le _) (Nat.zero_le _) (fun b2 S1 H locs hP hD hS hT => ?_)
  exact hret b2 _ _ _ _ _ hP hD hS hT dX9_isPeg_12
abbrev mX_nothingUndone (l : Launch) (S : MS) (post : MS → Prop) : Prop := mCtV l yX9_nothingUndone cX9_nothingUndone 1 0 0 (fun ad => []) S post
def mT_nothingUndone_e (l : Launch) (post : MS → Prop) (S0 : MS) : Prop := post (mf (mf (mf S0 4 0) 5 0) 2 0)
set_option maxHeartbeats 4000000 in
set_option maxRecDepth 100000 in
theorem m_nothingUndone (l : Launch) (S0 : MS) (post : MS → Prop) (h : mT_nothingUndone_e l post S0) : mX_nothingUndone l S0 post := by
  refine msetV rfl (fun _ => Nat.le_of_ble_eq_true rfl) ?_
  intro p e s m args below meth c D ad cI cZ cL A Q hx hb hml hown hts hK hA hret H locs ls hP hD hS hl
  replace hl : lv_has ls 1 [(0, .ref (ad 0))] := hl
  have hT := h
  unfold mT_nothingUndone_e at hT
  refine lv_aload_n hx hb dX9_nothingUndone_0 rfl (lv_at hl 0 rfl) ?_
  refine lv_iconst (v := 0) hx hb dX9_nothingUndone_1 (by decide) ?_
  refine mp_undos hx hb hts hown hK hP hD hS dX9_nothingUndone_2 (fun H locs hP hD hS => ?_)
  refine lv_aload_n hx hb dX9_nothingUndone_5 rfl (lv_at hl 0 rfl) ?_
  refine lv_iconst (v := 0) hx hb dX9_nothingUndone_6 (by decide) ?_
  refine mp_redos hx hb hts hown hK hP hD hS dX9_nothingUndone_7 (fun H locs hP hD hS => ?_)
  refine lv_aload_n hx hb dX9_nothingUndone_10 rfl (lv_at hl 0 rfl) ?_
  refine lv_iconst (v := 0) hx hb dX9_nothingUndone_11 (by decide) ?_
  refine mp_trouble hx hb hts hown hK hP hD hS dX9_nothingUndone_12 (fun H locs hP hD hS => ?_)
  exact hret _ _ _ _ _ hP hD hS hT dX9_nothingUndone_15
abbrev mX_unpack (l : Launch) (S : MS) (a1 : Int32) (k2 : Nat) (post : MS → Prop) : Prop := mCtV l yX9_unpack cX9_unpack 5 0 0 (fun ad => [.int a1, .ref (ad k2)]) S post
def mT_unpack_5 (l : Launch) (a1 : Int32) (k2 : Nat) (post : MS → Prop) (B5 : MS → Int32 → Int32 → Prop) (S : MS) (x3 : Int32) (x4 : Int32) : Prop := (S.1 1 ≤ x4 → post S) ∧ (¬ S.1 1 ≤ x4 → ¬ S.1 0 = 0 ∧ vp_in x4 7 ∧ ¬ S.1 0 = 0 ∧ ∀ v3_5 : Int32, v3_5 = x3 / (S.1 0) → B5 (ma S k2 (upd (S.2.1 k2) x4.toNatClampNeg (x3 - x3 / (S.1 0) * (S.1 0)))) v3_5 (x4 + 1))
def mT_unpack_e (l : Launch) (a1 : Int32) (k2 : Nat) (post : MS → Prop) (B5 : MS → Int32 → Int32 → Prop) (S0 : MS) : Prop := B5 S0 a1 0
set_option maxHeartbeats 4000000 in
set_option maxRecDepth 100000 in
theorem m_unpack (l : Launch) (S0 : MS) (a1 : Int32) (k2 : Nat) (hk2 : m7 k2) (post : MS → Prop) (h : ∀ (B5 : MS → Int32 → Int32 → Prop), (∀ (S : MS) (x3 : Int32) (x4 : Int32), mT_unpack_5 l a1 k2 post B5 S x3 x4 → B5 S x3 x4) → mT_unpack_e l a1 k2 post B5 S0) : mX_unpack l S0 a1 k2 post := by
  refine msetV rfl (fun _ => Nat.le_of_ble_eq_true rfl) ?_
  intro p e s m args below meth c D ad cI cZ cL A Q hx hb hml hown hts hK hA hret H locs ls hP hD hS hl
  replace hl : lv_has ls 5 [(0, .ref (ad 0)), (1, .int a1), (2, .ref (ad k2))] := hl
  obtain ⟨B5, hB5⟩ : ∃ B : MS → Int32 → Int32 → Prop, B = (fun S x3 x4 => ∀ (H : Heap) (locs : List Loc) (ls : Array Slot), va_P D vwCl (mW ad cI cZ cL S) H → va_D A (mW ad cI cZ cL S) → va_S A s.heap H locs → lv_has ls 5 [(0, .ref (ad 0)), (2, .ref (ad k2)), (3, .int x3), (4, .int x4)] → W p l e (mrm 0 0) s m args below meth c H locs 0 0 Q (F0 m 5 ls [])) := ⟨_, rfl⟩
  have hT : mT_unpack_e l a1 k2 post B5 S0 := by
    refine h B5 ?_
    · clear hP hD hS hl H locs ls
      intro S x3 x4 hT
      unfold mT_unpack_5 at hT
      rw [hB5]
      intro H locs ls hP hD hS hl
      refine lv_iload hx hb dX9_unpack_5 (lv_at hl 3 rfl) ?_
      refine lv_aload_n hx hb dX9_unpack_7 rfl (lv_at hl 0 rfl) ?_
      refine mg_discs (v := S.1 1) hx hb hts hown hK hP rfl dX9_unpack_8 ?_
      refine lv_icmp_ge (tgt := 37) hx hb dX9_unpack_11 (by decide) (fun c1 => ?_) (fun c1 => ?_)
      · replace hT := hT.1 c1
        exact hret _ _ _ _ _ hP hD hS hT dX9_unpack_37
      · replace hT := hT.2 c1
        refine lv_aload_n hx hb dX9_unpack_14 rfl (lv_at hl 1 rfl) ?_
        refine lv_iload hx hb dX9_unpack_15 (lv_at hl 3 rfl) ?_
        refine lv_iload_n hx hb dX9_unpack_17 rfl (lv_at hl 2 rfl) ?_
        refine lv_aload_n hx hb dX9_unpack_18 rfl (lv_at hl 0 rfl) ?_
        refine mg_pegs (v := S.1 0) hx hb hts hown hK hP rfl dX9_unpack_19 ?_
        obtain ⟨hz2, hT⟩ := hT
        refine lv_irem hx hb dX9_unpack_22 hz2 ?_
        obtain ⟨hi3, hT⟩ := hT
        refine va_iast (f := S.2.1 k2) hx hb hK hP hD hS k2 0 (mat_sym hk2) rfl hi3 dX9_unpack_23 (fun H locs hP hD hS => ?_)
        replace hP := msetP_sym hk2 hP
        replace hD := msetD_sym hk2 hD
        refine lv_iload_n hx hb dX9_unpack_24 rfl (lv_at hl 2 rfl) ?_
        refine lv_aload_n hx hb dX9_unpack_25 rfl (lv_at hl 0 rfl) ?_
        refine mg_pegs (v := S.1 0) hx hb hts hown hK hP rfl dX9_unpack_26 ?_
        obtain ⟨hz4, hT⟩ := hT
        refine lv_idiv hx hb dX9_unpack_29 hz4 ?_
        refine lv_topi (fun v3_5 ev3_5 => ?_)
        replace hT := hT v3_5 ev3_5
        refine lv_istore_n (lv' := [(3, .int v3_5), (0, .ref (ad 0)), (2, .ref (ad k2)), (4, .int x4)]) hx hb dX9_unpack_30 rfl hl (by decide) rfl (fun ls hl => ?_)
        refine lv_iinc (v := x4 + 1) (lv' := [(4, .int (x4 + 1)), (3, .int v3_5), (0, .ref (ad 0)), (2, .ref (ad k2))]) hx hb dX9_unpack_31 hl (k := 3) rfl rfl (by decide) rfl (fun ls hl => ?_)
        refine lv_goto (tgt := 5) hx hb dX9_unpack_34 (by decide) ?_
        rw [hB5] at hT
        exact hT _ _ _ hP hD hS (lv_sub hl [2, 3, 1, 0] rfl)
  unfold mT_unpack_e at hT
  refine lv_iload_n hx hb dX9_unpack_0 rfl (lv_at hl 1 rfl) ?_
  refine lv_istore_n (lv' := [(3, .int a1), (0, .ref (ad 0)), (1, .int a1), (2, .ref (ad k2))]) hx hb dX9_unpack_1 rfl hl (by decide) rfl (fun ls hl => ?_)
  refine lv_iconst (v := 0) hx hb dX9_unpack_2 (by decide) ?_
  refine lv_istore (lv' := [(4, .int 0), (3, .int a1), (0, .ref (ad 0)), (1, .int a1), (2, .ref (ad k2))]) hx hb dX9_unpack_3 hl (by decide) rfl (fun ls hl => ?_)
  rw [hB5] at hT
  exact hT _ _ _ hP hD hS (lv_sub hl [2, 4, 1, 0] rfl)
abbrev mX_pack (l : Launch) (S : MS) (k1 : Nat) (post : Int32 → MS → Prop) : Prop := mCtI l yX9_pack cX9_pack 4 0 0 (fun ad => [.ref (ad k1)]) S post
def mT_pack_9 (l : Launch) (k1 : Nat) (post : Int32 → MS → Prop) (B9 : MS → Int32 → Int32 → Prop) (S : MS) (x2 : Int32) (x3 : Int32) : Prop := (x3 < 0 → post x2 S) ∧ (¬ x3 < 0 → vp_in x3 7 ∧ ∀ v2_3 : Int32, v2_3 = (x2 * (S.1 0)) + (S.2.1 k1 x3.toNatClampNeg) → B9 S v2_3 (x3 + (-1)))
def mT_pack_e (l : Launch) (k1 : Nat) (post : Int32 → MS → Prop) (B9 : MS → Int32 → Int32 → Prop) (S0 : MS) : Prop := ∀ v3_4 : Int32, v3_4 = (S0.1 1) - 1 → B9 S0 0 v3_4
set_option maxHeartbeats 4000000 in
set_option maxRecDepth 100000 in
theorem m_pack (l : Launch) (S0 : MS) (k1 : Nat) (hk1 : m7 k1) (post : Int32 → MS → Prop) (h : ∀ (B9 : MS → Int32 → Int32 → Prop), (∀ (S : MS) (x2 : Int32) (x3 : Int32), mT_pack_9 l k1 post B9 S x2 x3 → B9 S x2 x3) → mT_pack_e l k1 post B9 S0) : mX_pack l S0 k1 post := by
  refine msetI rfl (fun _ => Nat.le_of_ble_eq_true rfl) ?_
  intro p e s m args below meth c D ad cI cZ cL A Q hx hb hml hown hts hK hA hret H locs ls hP hD hS hl
  replace hl : lv_has ls 4 [(0, .ref (ad 0)), (1, .ref (ad k1))] := hl
  obtain ⟨B9, hB9⟩ : ∃ B : MS → Int32 → Int32 → Prop, B = (fun S x2 x3 => ∀ (H : Heap) (locs : List Loc) (ls : Array Slot), va_P D vwCl (mW ad cI cZ cL S) H → va_D A (mW ad cI cZ cL S) → va_S A s.heap H locs → lv_has ls 4 [(0, .ref (ad 0)), (1, .ref (ad k1)), (2, .int x2), (3, .int x3)] → W p l e (mrm 0 0) s m args below meth c H locs 0 0 Q (F0 m 9 ls [])) := ⟨_, rfl⟩
  have hT : mT_pack_e l k1 post B9 S0 := by
    refine h B9 ?_
    · clear hP hD hS hl H locs ls
      intro S x2 x3 hT
      unfold mT_pack_9 at hT
      rw [hB9]
      intro H locs ls hP hD hS hl
      refine lv_iload_n hx hb dX9_pack_9 rfl (lv_at hl 3 rfl) ?_
      refine lv_if_lt (tgt := 30) hx hb dX9_pack_10 (by decide) (fun c1 => ?_) (fun c1 => ?_)
      · replace hT := hT.1 c1
        refine lv_iload_n hx hb dX9_pack_30 rfl (lv_at hl 2 rfl) ?_
        exact hret _ _ _ _ _ _ hP hD hS hT dX9_pack_31
      · replace hT := hT.2 c1
        refine lv_iload_n hx hb dX9_pack_13 rfl (lv_at hl 2 rfl) ?_
        refine lv_aload_n hx hb dX9_pack_14 rfl (lv_at hl 0 rfl) ?_
        refine mg_pegs (v := S.1 0) hx hb hts hown hK hP rfl dX9_pack_15 ?_
        refine lv_imul hx hb dX9_pack_18 ?_
        refine lv_aload_n hx hb dX9_pack_19 rfl (lv_at hl 1 rfl) ?_
        refine lv_iload_n hx hb dX9_pack_20 rfl (lv_at hl 3 rfl) ?_
        obtain ⟨hi2, hT⟩ := hT
        refine va_iald (f := S.2.1 k1) hx hb hK hP k1 0 (mat_sym hk1) rfl hi2 dX9_pack_21 ?_
        refine lv_iadd hx hb dX9_pack_22 ?_
        refine lv_topi (fun v2_3 ev2_3 => ?_)
        replace hT := hT v2_3 ev2_3
        refine lv_istore_n (lv' := [(2, .int v2_3), (0, .ref (ad 0)), (1, .ref (ad k1)), (3, .int x3)]) hx hb dX9_pack_23 rfl hl (by decide) rfl (fun ls hl => ?_)
        refine lv_iinc (v := x3 + (-1)) (lv' := [(3, .int (x3 + (-1))), (2, .int v2_3), (0, .ref (ad 0)), (1, .ref (ad k1))]) hx hb dX9_pack_24 hl (k := 3) rfl rfl (by decide) rfl (fun ls hl => ?_)
        refine lv_goto (tgt := 9) hx hb dX9_pack_27 (by decide) ?_
        rw [hB9] at hT
        exact hT _ _ _ hP hD hS (lv_sub hl [2, 3, 1, 0] rfl)
  unfold mT_pack_e at hT
  refine lv_iconst (v := 0) hx hb dX9_pack_0 (by decide) ?_
  refine lv_istore_n (lv' := [(2, .int 0), (0, .ref (ad 0)), (1, .ref (ad k1))]) hx hb dX9_pack_1 rfl hl (by decide) rfl (fun ls hl => ?_)
  refine lv_aload_n hx hb dX9_pack_2 rfl (lv_at hl 1 rfl) ?_
  refine mg_discs (v := S0.1 1) hx hb hts hown hK hP rfl dX9_pack_3 ?_
  refine lv_iconst (v := 1) hx hb dX9_pack_6 (by decide) ?_
  refine lv_isub hx hb dX9_pack_7 ?_
  refine lv_topi (fun v3_4 ev3_4 => ?_)
  replace hT := hT v3_4 ev3_4
  refine lv_istore_n (lv' := [(3, .int v3_4), (2, .int 0), (0, .ref (ad 0)), (1, .ref (ad k1))]) hx hb dX9_pack_8 rfl hl (by decide) rfl (fun ls hl => ?_)
  rw [hB9] at hT
  exact hT _ _ _ hP hD hS (lv_sub hl [2, 3, 1, 0] rfl)
abbrev mX_stands (l : Launch) (S : MS) (post : Int32 → MS → Prop) : Prop := mCtI l yX9_stands cX9_stands 3 0 0 (fun ad => []) S post
def mT_stands_4 (l : Launch) (post : Int32 → MS → Prop) (B4 : MS → Int32 → Int32 → Prop) (S : MS) (x1 : Int32) (x2 : Int32) : Prop := (S.1 1 ≤ x2 → post x1 S) ∧ (¬ S.1 1 ≤ x2 → ∀ v1_2 : Int32, v1_2 = x1 * (S.1 0) → B4 S v1_2 (x2 + 1))
def mT_stands_e (l : Launch) (post : Int32 → MS → Prop) (B4 : MS → Int32 → Int32 → Prop) (S0 : MS) : Prop := B4 S0 1 0
set_option maxHeartbeats 4000000 in
set_option maxRecDepth 100000 in
theorem m_stands (l : Launch) (S0 : MS) (post : Int32 → MS → Prop) (h : ∀ (B4 : MS → Int32 → Int32 → Prop), (∀ (S : MS) (x1 : Int32) (x2 : Int32), mT_stands_4 l post B4 S x1 x2 → B4 S x1 x2) → mT_stands_e l post B4 S0) : mX_stands l S0 post := by
  refine msetI rfl (fun _ => Nat.le_of_ble_eq_true rfl) ?_
  intro p e s m args below meth c D ad cI cZ cL A Q hx hb hml hown hts hK hA hret H locs ls hP hD hS hl
  replace hl : lv_has ls 3 [(0, .ref (ad 0))] := hl
  obtain ⟨B4, hB4⟩ : ∃ B : MS → Int32 → Int32 → Prop, B = (fun S x1 x2 => ∀ (H : Heap) (locs : List Loc) (ls : Array Slot), va_P D vwCl (mW ad cI cZ cL S) H → va_D A (mW ad cI cZ cL S) → va_S A s.heap H locs → lv_has ls 3 [(0, .ref (ad 0)), (1, .int x1), (2, .int x2)] → W p l e (mrm 0 0) s m args below meth c H locs 0 0 Q (F0 m 4 ls [])) := ⟨_, rfl⟩
  have hT : mT_stands_e l post B4 S0 := by
    refine h B4 ?_
    · clear hP hD hS hl H locs ls
      intro S x1 x2 hT
      unfold mT_stands_4 at hT
      rw [hB4]
      intro H locs ls hP hD hS hl
      refine lv_iload_n hx hb dX9_stands_4 rfl (lv_at hl 2 rfl) ?_
      refine lv_aload_n hx hb dX9_stands_5 rfl (lv_at hl 0 rfl) ?_
      refine mg_discs (v := S.1 1) hx hb hts hown hK hP rfl dX9_stands_6 ?_
      refine lv_icmp_ge (tgt := 25) hx hb dX9_stands_9 (by decide) (fun c1 => ?_) (fun c1 => ?_)
      · replace hT := hT.1 c1
        refine lv_iload_n hx hb dX9_stands_25 rfl (lv_at hl 1 rfl) ?_
        exact hret _ _ _ _ _ _ hP hD hS hT dX9_stands_26
      · replace hT := hT.2 c1
        refine lv_iload_n hx hb dX9_stands_12 rfl (lv_at hl 1 rfl) ?_
        refine lv_aload_n hx hb dX9_stands_13 rfl (lv_at hl 0 rfl) ?_
        refine mg_pegs (v := S.1 0) hx hb hts hown hK hP rfl dX9_stands_14 ?_
        refine lv_imul hx hb dX9_stands_17 ?_
        refine lv_topi (fun v1_2 ev1_2 => ?_)
        replace hT := hT v1_2 ev1_2
        refine lv_istore_n (lv' := [(1, .int v1_2), (0, .ref (ad 0)), (2, .int x2)]) hx hb dX9_stands_18 rfl hl (by decide) rfl (fun ls hl => ?_)
        refine lv_iinc (v := x2 + 1) (lv' := [(2, .int (x2 + 1)), (1, .int v1_2), (0, .ref (ad 0))]) hx hb dX9_stands_19 hl (k := 2) rfl rfl (by decide) rfl (fun ls hl => ?_)
        refine lv_goto (tgt := 4) hx hb dX9_stands_22 (by decide) ?_
        rw [hB4] at hT
        exact hT _ _ _ hP hD hS (lv_sub hl [2, 1, 0] rfl)
  unfold mT_stands_e at hT
  refine lv_iconst (v := 1) hx hb dX9_stands_0 (by decide) ?_
  refine lv_istore_n (lv' := [(1, .int 1), (0, .ref (ad 0))]) hx hb dX9_stands_1 rfl hl (by decide) rfl (fun ls hl => ?_)
  refine lv_iconst (v := 0) hx hb dX9_stands_2 (by decide) ?_
  refine lv_istore_n (lv' := [(2, .int 0), (1, .int 1), (0, .ref (ad 0))]) hx hb dX9_stands_3 rfl hl (by decide) rfl (fun ls hl => ?_)
  rw [hB4] at hT
  exact hT _ _ _ hP hD hS (lv_sub hl [2, 1, 0] rfl)
abbrev mX_below (l : Launch) (S : MS) (k1 : Nat) (a2 : Int32) (post : Int32 → MS → Prop) : Prop := mCtI l yX9_below cX9_below 4 0 0 (fun ad => [.ref (ad k1), .int a2]) S post
def mT_below_4 (l : Launch) (k1 : Nat) (a2 : Int32) (post : Int32 → MS → Prop) (B4 : MS → Int32 → Prop) (B27 : MS → Int32 → Prop) (S : MS) (x3 : Int32) : Prop := (S.1 1 ≤ x3 → B27 S x3) ∧ (¬ S.1 1 ≤ x3 → vp_in x3 7 ∧ vp_in a2 7 ∧ (S.2.1 k1 x3.toNatClampNeg = S.2.1 k1 a2.toNatClampNeg → B27 S x3) ∧ (¬ S.2.1 k1 x3.toNatClampNeg = S.2.1 k1 a2.toNatClampNeg → B4 S (x3 + 1)))
def mT_below_27 (l : Launch) (k1 : Nat) (a2 : Int32) (post : Int32 → MS → Prop) (B4 : MS → Int32 → Prop) (B27 : MS → Int32 → Prop) (S : MS) (x3 : Int32) : Prop := (S.1 1 ≤ x3 → post (-1) S) ∧ (¬ S.1 1 ≤ x3 → post x3 S)
def mT_below_e (l : Launch) (k1 : Nat) (a2 : Int32) (post : Int32 → MS → Prop) (B4 : MS → Int32 → Prop) (B27 : MS → Int32 → Prop) (S0 : MS) : Prop := ∀ v3_6 : Int32, v3_6 = a2 + 1 → B4 S0 v3_6
set_option maxHeartbeats 4000000 in
set_option maxRecDepth 100000 in
theorem m_below (l : Launch) (S0 : MS) (k1 : Nat) (a2 : Int32) (hk1 : m7 k1) (post : Int32 → MS → Prop) (h : ∀ (B4 : MS → Int32 → Prop) (B27 : MS → Int32 → Prop), (∀ (S : MS) (x3 : Int32), mT_below_4 l k1 a2 post B4 B27 S x3 → B4 S x3) → (∀ (S : MS) (x3 : Int32), mT_below_27 l k1 a2 post B4 B27 S x3 → B27 S x3) → mT_below_e l k1 a2 post B4 B27 S0) : mX_below l S0 k1 a2 post := by
  refine msetI rfl (fun _ => Nat.le_of_ble_eq_true rfl) ?_
  intro p e s m args below meth c D ad cI cZ cL A Q hx hb hml hown hts hK hA hret H locs ls hP hD hS hl
  replace hl : lv_has ls 4 [(0, .ref (ad 0)), (1, .ref (ad k1)), (2, .int a2)] := hl
  obtain ⟨B4, hB4⟩ : ∃ B : MS → Int32 → Prop, B = (fun S x3 => ∀ (H : Heap) (locs : List Loc) (ls : Array Slot), va_P D vwCl (mW ad cI cZ cL S) H → va_D A (mW ad cI cZ cL S) → va_S A s.heap H locs → lv_has ls 4 [(0, .ref (ad 0)), (1, .ref (ad k1)), (2, .int a2), (3, .int x3)] → W p l e (mrm 0 0) s m args below meth c H locs 0 0 Q (F0 m 4 ls [])) := ⟨_, rfl⟩
  obtain ⟨B27, hB27⟩ : ∃ B : MS → Int32 → Prop, B = (fun S x3 => ∀ (H : Heap) (locs : List Loc) (ls : Array Slot), va_P D vwCl (mW ad cI cZ cL S) H → va_D A (mW ad cI cZ cL S) → va_S A s.heap H locs → lv_has ls 4 [(0, .ref (ad 0)), (3, .int x3)] → W p l e (mrm 0 0) s m args below meth c H locs 0 0 Q (F0 m 27 ls [])) := ⟨_, rfl⟩
  have hT : mT_below_e l k1 a2 post B4 B27 S0 := by
    refine h B4 B27 ?_ ?_
    · clear hP hD hS hl H locs ls
      intro S x3 hT
      unfold mT_below_4 at hT
      rw [hB4]
      intro H locs ls hP hD hS hl
      refine lv_iload_n hx hb dX9_below_4 rfl (lv_at hl 3 rfl) ?_
      refine lv_aload_n hx hb dX9_below_5 rfl (lv_at hl 0 rfl) ?_
      refine mg_discs (v := S.1 1) hx hb hts hown hK hP rfl dX9_below_6 ?_
      refine lv_icmp_ge (tgt := 27) hx hb dX9_below_9 (by decide) (fun c1 => ?_) (fun c1 => ?_)
      · replace hT := hT.1 c1
        rw [hB27] at hT
        exact hT _ _ _ hP hD hS (lv_sub hl [0, 3] rfl)
      · replace hT := hT.2 c1
        refine lv_aload_n hx hb dX9_below_12 rfl (lv_at hl 1 rfl) ?_
        refine lv_iload_n hx hb dX9_below_13 rfl (lv_at hl 3 rfl) ?_
        obtain ⟨hi2, hT⟩ := hT
        refine va_iald (f := S.2.1 k1) hx hb hK hP k1 0 (mat_sym hk1) rfl hi2 dX9_below_14 ?_
        refine lv_aload_n hx hb dX9_below_15 rfl (lv_at hl 1 rfl) ?_
        refine lv_iload_n hx hb dX9_below_16 rfl (lv_at hl 2 rfl) ?_
        obtain ⟨hi3, hT⟩ := hT
        refine va_iald (f := S.2.1 k1) hx hb hK hP k1 0 (mat_sym hk1) rfl hi3 dX9_below_17 ?_
        refine lv_icmp_eq (tgt := 27) hx hb dX9_below_18 (by decide) (fun c4 => ?_) (fun c4 => ?_)
        · replace hT := hT.1 c4
          rw [hB27] at hT
          exact hT _ _ _ hP hD hS (lv_sub hl [0, 3] rfl)
        · replace hT := hT.2 c4
          refine lv_iinc (v := x3 + 1) (lv' := [(3, .int (x3 + 1)), (0, .ref (ad 0)), (1, .ref (ad k1)), (2, .int a2)]) hx hb dX9_below_21 hl (k := 3) rfl rfl (by decide) rfl (fun ls hl => ?_)
          refine lv_goto (tgt := 4) hx hb dX9_below_24 (by decide) ?_
          rw [hB4] at hT
          exact hT _ _ _ hP hD hS (lv_sub hl [1, 2, 3, 0] rfl)
    · clear hP hD hS hl H locs ls
      intro S x3 hT
      unfold mT_below_27 at hT
      rw [hB27]
      intro H locs ls hP hD hS hl
      refine lv_iload_n hx hb dX9_below_27 rfl (lv_at hl 1 rfl) ?_
      refine lv_aload_n hx hb dX9_below_28 rfl (lv_at hl 0 rfl) ?_
      refine mg_discs (v := S.1 1) hx hb hts hown hK hP rfl dX9_below_29 ?_
      refine lv_icmp_ge (tgt := 39) hx hb dX9_below_32 (by decide) (fun c5 => ?_) (fun c5 => ?_)
      · replace hT := hT.1 c5
        refine lv_iconst (v := (-1)) hx hb dX9_below_39 (by decide) ?_
        exact hret _ _ _ _ _ _ hP hD hS hT dX9_below_40
      · replace hT := hT.2 c5
        refine lv_iload_n hx hb dX9_below_35 rfl (lv_at hl 1 rfl) ?_
        refine lv_goto (tgt := 40) hx hb dX9_below_36 (by decide) ?_
        exact hret _ _ _ _ _ _ hP hD hS hT dX9_below_40
  unfold mT_below_e at hT
  refine lv_iload_n hx hb dX9_below_0 rfl (lv_at hl 2 rfl) ?_
  refine lv_iconst (v := 1) hx hb dX9_below_1 (by decide) ?_
  refine lv_iadd hx hb dX9_below_2 ?_
  refine lv_topi (fun v3_6 ev3_6 => ?_)
  replace hT := hT v3_6 ev3_6
  refine lv_istore_n (lv' := [(3, .int v3_6), (0, .ref (ad 0)), (1, .ref (ad k1)), (2, .int a2)]) hx hb dX9_below_3 rfl hl (by decide) rfl (fun ls hl => ?_)
  rw [hB4] at hT
  exact hT _ _ _ hP hD hS (lv_sub hl [1, 2, 3, 0] rfl)
abbrev mX_top (l : Launch) (S : MS) (k1 : Nat) (a2 : Int32) (post : Int32 → MS → Prop) : Prop := mCtI l yX9_top cX9_top 4 0 0 (fun ad => [.ref (ad k1), .int a2]) S post
def mT_top_2 (l : Launch) (k1 : Nat) (a2 : Int32) (post : Int32 → MS → Prop) (B2 : MS → Int32 → Prop) (B23 : MS → Int32 → Prop) (S : MS) (x3 : Int32) : Prop := (S.1 1 ≤ x3 → B23 S x3) ∧ (¬ S.1 1 ≤ x3 → vp_in x3 7 ∧ (S.2.1 k1 x3.toNatClampNeg = a2 → B23 S x3) ∧ (¬ S.2.1 k1 x3.toNatClampNeg = a2 → B2 S (x3 + 1)))
def mT_top_23 (l : Launch) (k1 : Nat) (a2 : Int32) (post : Int32 → MS → Prop) (B2 : MS → Int32 → Prop) (B23 : MS → Int32 → Prop) (S : MS) (x3 : Int32) : Prop := (S.1 1 ≤ x3 → post (-1) S) ∧ (¬ S.1 1 ≤ x3 → post x3 S)
def mT_top_e (l : Launch) (k1 : Nat) (a2 : Int32) (post : Int32 → MS → Prop) (B2 : MS → Int32 → Prop) (B23 : MS → Int32 → Prop) (S0 : MS) : Prop := B2 S0 0
set_option maxHeartbeats 4000000 in
set_option maxRecDepth 100000 in
theorem m_top (l : Launch) (S0 : MS) (k1 : Nat) (a2 : Int32) (hk1 : m7 k1) (post : Int32 → MS → Prop) (h : ∀ (B2 : MS → Int32 → Prop) (B23 : MS → Int32 → Prop), (∀ (S : MS) (x3 : Int32), mT_top_2 l k1 a2 post B2 B23 S x3 → B2 S x3) → (∀ (S : MS) (x3 : Int32), mT_top_23 l k1 a2 post B2 B23 S x3 → B23 S x3) → mT_top_e l k1 a2 post B2 B23 S0) : mX_top l S0 k1 a2 post := by
  refine msetI rfl (fun _ => Nat.le_of_ble_eq_true rfl) ?_
  intro p e s m args below meth c D ad cI cZ cL A Q hx hb hml hown hts hK hA hret H locs ls hP hD hS hl
  replace hl : lv_has ls 4 [(0, .ref (ad 0)), (1, .ref (ad k1)), (2, .int a2)] := hl
  obtain ⟨B2, hB2⟩ : ∃ B : MS → Int32 → Prop, B = (fun S x3 => ∀ (H : Heap) (locs : List Loc) (ls : Array Slot), va_P D vwCl (mW ad cI cZ cL S) H → va_D A (mW ad cI cZ cL S) → va_S A s.heap H locs → lv_has ls 4 [(0, .ref (ad 0)), (1, .ref (ad k1)), (2, .int a2), (3, .int x3)] → W p l e (mrm 0 0) s m args below meth c H locs 0 0 Q (F0 m 2 ls [])) := ⟨_, rfl⟩
  obtain ⟨B23, hB23⟩ : ∃ B : MS → Int32 → Prop, B = (fun S x3 => ∀ (H : Heap) (locs : List Loc) (ls : Array Slot), va_P D vwCl (mW ad cI cZ cL S) H → va_D A (mW ad cI cZ cL S) → va_S A s.heap H locs → lv_has ls 4 [(0, .ref (ad 0)), (3, .int x3)] → W p l e (mrm 0 0) s m args below meth c H locs 0 0 Q (F0 m 23 ls [])) := ⟨_, rfl⟩
  have hT : mT_top_e l k1 a2 post B2 B23 S0 := by
    refine h B2 B23 ?_ ?_
    · clear hP hD hS hl H locs ls
      intro S x3 hT
      unfold mT_top_2 at hT
      rw [hB2]
      intro H locs ls hP hD hS hl
      refine lv_iload_n hx hb dX9_top_2 rfl (lv_at hl 3 rfl) ?_
      refine lv_aload_n hx hb dX9_top_3 rfl (lv_at hl 0 rfl) ?_
      refine mg_discs (v := S.1 1) hx hb hts hown hK hP rfl dX9_top_4 ?_
      refine lv_icmp_ge (tgt := 23) hx hb dX9_top_7 (by decide) (fun c1 => ?_) (fun c1 => ?_)
      · replace hT := hT.1 c1
        rw [hB23] at hT
        exact hT _ _ _ hP hD hS (lv_sub hl [0, 3] rfl)
      · replace hT := hT.2 c1
        refine lv_aload_n hx hb dX9_top_10 rfl (lv_at hl 1 rfl) ?_
        refine lv_iload_n hx hb dX9_top_11 rfl (lv_at hl 3 rfl) ?_
        obtain ⟨hi2, hT⟩ := hT
        refine va_iald (f := S.2.1 k1) hx hb hK hP k1 0 (mat_sym hk1) rfl hi2 dX9_top_12 ?_
        refine lv_iload_n hx hb dX9_top_13 rfl (lv_at hl 2 rfl) ?_
        refine lv_icmp_eq (tgt := 23) hx hb dX9_top_14 (by decide) (fun c3 => ?_) (fun c3 => ?_)
        · replace hT := hT.1 c3
          rw [hB23] at hT
          exact hT _ _ _ hP hD hS (lv_sub hl [0, 3] rfl)
        · replace hT := hT.2 c3
          refine lv_iinc (v := x3 + 1) (lv' := [(3, .int (x3 + 1)), (0, .ref (ad 0)), (1, .ref (ad k1)), (2, .int a2)]) hx hb dX9_top_17 hl (k := 3) rfl rfl (by decide) rfl (fun ls hl => ?_)
          refine lv_goto (tgt := 2) hx hb dX9_top_20 (by decide) ?_
          rw [hB2] at hT
          exact hT _ _ _ hP hD hS (lv_sub hl [1, 2, 3, 0] rfl)
    · clear hP hD hS hl H locs ls
      intro S x3 hT
      unfold mT_top_23 at hT
      rw [hB23]
      intro H locs ls hP hD hS hl
      refine lv_iload_n hx hb dX9_top_23 rfl (lv_at hl 1 rfl) ?_
      refine lv_aload_n hx hb dX9_top_24 rfl (lv_at hl 0 rfl) ?_
      refine mg_discs (v := S.1 1) hx hb hts hown hK hP rfl dX9_top_25 ?_
      refine lv_icmp_ge (tgt := 35) hx hb dX9_top_28 (by decide) (fun c4 => ?_) (fun c4 => ?_)
      · replace hT := hT.1 c4
        refine lv_iconst (v := (-1)) hx hb dX9_top_35 (by decide) ?_
        exact hret _ _ _ _ _ _ hP hD hS hT dX9_top_36
      · replace hT := hT.2 c4
        refine lv_iload_n hx hb dX9_top_31 rfl (lv_at hl 1 rfl) ?_
        refine lv_goto (tgt := 36) hx hb dX9_top_32 (by decide) ?_
        exact hret _ _ _ _ _ _ hP hD hS hT dX9_top_36
  unfold mT_top_e at hT
  refine lv_iconst (v := 0) hx hb dX9_top_0 (by decide) ?_
  refine lv_istore_n (lv' := [(3, .int 0), (0, .ref (ad 0)), (1, .ref (ad k1)), (2, .int a2)]) hx hb dX9_top_1 rfl hl (by decide) rfl (fun ls hl => ?_)
  rw [hB2] at hT
  exact hT _ _ _ hP hD hS (lv_sub hl [1, 2, 3, 0] rfl)
abbrev mX_isRight (l : Launch) (S : MS) (k1 : Nat) (post : Bool → MS → Prop) : Prop := mCtZ l yX9_isRight cX9_isRight 4 1 23 (fun ad => [.ref (ad k1)]) S post
def mT_isRight_2 (l : Launch) (k1 : Nat) (post : Bool → MS → Prop) (B2 : MS → Int32 → Prop) (B44 : MS → Int32 → Prop) (S : MS) (x2 : Int32) : Prop := (S.1 1 ≤ x2 → post true S) ∧ (¬ S.1 1 ≤ x2 → mX_below l S k1 x2 (fun r3 S2 => (r3 = (-1) → B44 S2 x2) ∧ (¬ r3 = (-1) → vp_in r3 7 ∧ (¬ S2.2.1 1 r3.toNatClampNeg = 2 → B44 S2 x2) ∧ (S2.2.1 1 r3.toNatClampNeg = 2 → vp_in x2 7 ∧ (S2.2.1 1 x2.toNatClampNeg = 2 → B44 S2 x2) ∧ (¬ S2.2.1 1 x2.toNatClampNeg = 2 → post false S2)))))
def mT_isRight_44 (l : Launch) (k1 : Nat) (post : Bool → MS → Prop) (B2 : MS → Int32 → Prop) (B44 : MS → Int32 → Prop) (S : MS) (x2 : Int32) : Prop := B2 S (x2 + 1)
def mT_isRight_e (l : Launch) (k1 : Nat) (post : Bool → MS → Prop) (B2 : MS → Int32 → Prop) (B44 : MS → Int32 → Prop) (S0 : MS) : Prop := B2 S0 0
set_option maxHeartbeats 4000000 in
set_option maxRecDepth 100000 in
theorem m_isRight (l : Launch) (S0 : MS) (k1 : Nat) (hk1 : m7 k1) (post : Bool → MS → Prop) (h : ∀ (B2 : MS → Int32 → Prop) (B44 : MS → Int32 → Prop), (∀ (S : MS) (x2 : Int32), mT_isRight_2 l k1 post B2 B44 S x2 → B2 S x2) → (∀ (S : MS) (x2 : Int32), mT_isRight_44 l k1 post B2 B44 S x2 → B44 S x2) → mT_isRight_e l k1 post B2 B44 S0) : mX_isRight l S0 k1 post := by
  refine msetZ rfl (fun _ => Nat.le_of_ble_eq_true rfl) ?_
  intro p e s m args below meth c D ad cI cZ cL A Q hx hb hml hown hts hK hA hret H locs ls hP hD hS hl
  replace hl : lv_has ls 4 [(0, .ref (ad 0)), (1, .ref (ad k1))] := hl
  obtain ⟨B2, hB2⟩ : ∃ B : MS → Int32 → Prop, B = (fun S x2 => ∀ (H : Heap) (locs : List Loc) (ls : Array Slot), va_P D vwCl (mW ad cI cZ cL S) H → va_D A (mW ad cI cZ cL S) → va_S A s.heap H locs → lv_has ls 4 [(0, .ref (ad 0)), (1, .ref (ad k1)), (2, .int x2)] → W p l e (mrm 1 23) s m args below meth c H locs 0 0 Q (F0 m 2 ls [])) := ⟨_, rfl⟩
  obtain ⟨B44, hB44⟩ : ∃ B : MS → Int32 → Prop, B = (fun S x2 => ∀ (H : Heap) (locs : List Loc) (ls : Array Slot), va_P D vwCl (mW ad cI cZ cL S) H → va_D A (mW ad cI cZ cL S) → va_S A s.heap H locs → lv_has ls 4 [(0, .ref (ad 0)), (1, .ref (ad k1)), (2, .int x2)] → W p l e (mrm 1 23) s m args below meth c H locs 0 0 Q (F0 m 44 ls [])) := ⟨_, rfl⟩
  have hT : mT_isRight_e l k1 post B2 B44 S0 := by
    refine h B2 B44 ?_ ?_
    · clear hP hD hS hl H locs ls
      intro S x2 hT
      unfold mT_isRight_2 at hT
      rw [hB2]
      intro H locs ls hP hD hS hl
      refine lv_iload_n hx hb dX9_isRight_2 rfl (lv_at hl 2 rfl) ?_
      refine lv_aload_n hx hb dX9_isRight_3 rfl (lv_at hl 0 rfl) ?_
      refine mg_discs (v := S.1 1) hx hb hts hown hK hP rfl dX9_isRight_4 ?_
      refine lv_icmp_ge (tgt := 50) hx hb dX9_isRight_7 (by decide) (fun c1 => ?_) (fun c1 => ?_)
      · replace hT := hT.1 c1
        refine lv_iconst (v := 1) hx hb dX9_isRight_50 (by decide) ?_
        exact hret true _ _ _ _ _ hP hD hS hT dX9_isRight_51
      · replace hT := hT.2 c1
        refine lv_aload_n hx hb dX9_isRight_10 rfl (lv_at hl 0 rfl) ?_
        refine lv_aload_n hx hb dX9_isRight_11 rfl (lv_at hl 1 rfl) ?_
        refine lv_iload_n hx hb dX9_isRight_12 rfl (lv_at hl 2 rfl) ?_
        refine mcallI (n := 2) (rest := []) hT hx hb hml hown hts hK hA hP hD hS hl gg_149 hd_X9_below ⟨Nat.le_of_ble_eq_true rfl, Nat.le_of_ble_eq_true rfl⟩ rfl rfl (Nat.le_of_ble_eq_true rfl) dX9_isRight_13 (Nat.zero_le _) (Nat.zero_le _) (fun r3 S2 H locs hP hD hS hT => ?_)
        refine lv_istore_n (lv' := [(3, .int r3), (0, .ref (ad 0)), (1, .ref (ad k1)), (2, .int x2)]) hx hb dX9_isRight_16 rfl hl (by decide) rfl (fun ls hl => ?_)
        refine lv_iload_n hx hb dX9_isRight_17 rfl (lv_at hl 0 rfl) ?_
        refine lv_iconst (v := (-1)) hx hb dX9_isRight_18 (by decide) ?_
        refine lv_icmp_eq (tgt := 44) hx hb dX9_isRight_19 (by decide) (fun c4 => ?_) (fun c4 => ?_)
        · replace hT := hT.1 c4
          rw [hB44] at hT
          exact hT _ _ _ hP hD hS (lv_sub hl [1, 2, 3] rfl)
        · replace hT := hT.2 c4
          refine lv_aload_n hx hb dX9_isRight_22 rfl (lv_at hl 1 rfl) ?_
          refine mg_kinds hx hb hts hown hK hP dX9_isRight_23 ?_
          refine lv_iload_n hx hb dX9_isRight_26 rfl (lv_at hl 0 rfl) ?_
          obtain ⟨hi5, hT⟩ := hT
          refine va_iald (f := S2.2.1 1) hx hb hK hP 1 0 mat_1 rfl hi5 dX9_isRight_27 ?_
          refine lv_iconst (v := 2) hx hb dX9_isRight_28 (by decide) ?_
          refine lv_icmp_ne (tgt := 44) hx hb dX9_isRight_29 (by decide) (fun c6 => ?_) (fun c6 => ?_)
          · replace hT := hT.1 c6
            rw [hB44] at hT
            exact hT _ _ _ hP hD hS (lv_sub hl [1, 2, 3] rfl)
          · replace hT := hT.2 c6
            refine lv_aload_n hx hb dX9_isRight_32 rfl (lv_at hl 1 rfl) ?_
            refine mg_kinds hx hb hts hown hK hP dX9_isRight_33 ?_
            refine lv_iload_n hx hb dX9_isRight_36 rfl (lv_at hl 3 rfl) ?_
            obtain ⟨hi7, hT⟩ := hT
            refine va_iald (f := S2.2.1 1) hx hb hK hP 1 0 mat_1 rfl hi7 dX9_isRight_37 ?_
            refine lv_iconst (v := 2) hx hb dX9_isRight_38 (by decide) ?_
            refine lv_icmp_eq (tgt := 44) hx hb dX9_isRight_39 (by decide) (fun c8 => ?_) (fun c8 => ?_)
            · replace hT := hT.1 c8
              rw [hB44] at hT
              exact hT _ _ _ hP hD hS (lv_sub hl [1, 2, 3] rfl)
            · replace hT := hT.2 c8
              refine lv_iconst (v := 0) hx hb dX9_isRight_42 (by decide) ?_
              exact hret false _ _ _ _ _ hP hD hS hT dX9_isRight_43
    · clear hP hD hS hl H locs ls
      intro S x2 hT
      unfold mT_isRight_44 at hT
      rw [hB44]
      intro H locs ls hP hD hS hl
      refine lv_iinc (v := x2 + 1) (lv' := [(2, .int (x2 + 1)), (0, .ref (ad 0)), (1, .ref (ad k1))]) hx hb dX9_isRight_44 hl (k := 2) rfl rfl (by decide) rfl (fun ls hl => ?_)
      refine lv_goto (tgt := 2) hx hb dX9_isRight_47 (by decide) ?_
      rw [hB2] at hT
      exact hT _ _ _ hP hD hS (lv_sub hl [1, 2, 0] rfl)
  unfold mT_isRight_e at hT
  refine lv_iconst (v := 0) hx hb dX9_isRight_0 (by decide) ?_
  refine lv_istore_n (lv' := [(2, .int 0), (0, .ref (ad 0)), (1, .ref (ad k1))]) hx hb dX9_isRight_1 rfl hl (by decide) rfl (fun ls hl => ?_)
  rw [hB2] at hT
  exact hT _ _ _ hP hD hS (lv_sub hl [1, 2, 0] rfl)
abbrev mX_packOf (l : Launch) (S : MS) (k1 : Nat) (a2 : Int32) (post : Int32 → MS → Prop) : Prop := mCtI l yX9_packOf cX9_packOf 4 0 0 (fun ad => [.ref (ad k1), .int a2]) S post
def mT_packOf_2 (l : Launch) (k1 : Nat) (a2 : Int32) (post : Int32 → MS → Prop) (B2 : MS → Int32 → Prop) (S : MS) (x3 : Int32) : Prop := vp_in x3 7 ∧ (¬ S.2.1 1 x3.toNatClampNeg = 3 → post x3 S) ∧ (S.2.1 1 x3.toNatClampNeg = 3 → (S.1 1 ≤ x3 + 1 → post x3 S) ∧ (¬ S.1 1 ≤ x3 + 1 → vp_in (x3 + 1) 7 ∧ (¬ S.2.1 1 (x3 + 1).toNatClampNeg = 3 → post x3 S) ∧ (S.2.1 1 (x3 + 1).toNatClampNeg = 3 → vp_in (x3 + 1) 7 ∧ vp_in a2 7 ∧ (¬ S.2.1 k1 (x3 + 1).toNatClampNeg = S.2.1 k1 a2.toNatClampNeg → post x3 S) ∧ (S.2.1 k1 (x3 + 1).toNatClampNeg = S.2.1 k1 a2.toNatClampNeg → B2 S (x3 + 1)))))
def mT_packOf_e (l : Launch) (k1 : Nat) (a2 : Int32) (post : Int32 → MS → Prop) (B2 : MS → Int32 → Prop) (S0 : MS) : Prop := B2 S0 a2
set_option maxHeartbeats 4000000 in
set_option maxRecDepth 100000 in
theorem m_packOf (l : Launch) (S0 : MS) (k1 : Nat) (a2 : Int32) (hk1 : m7 k1) (post : Int32 → MS → Prop) (h : ∀ (B2 : MS → Int32 → Prop), (∀ (S : MS) (x3 : Int32), mT_packOf_2 l k1 a2 post B2 S x3 → B2 S x3) → mT_packOf_e l k1 a2 post B2 S0) : mX_packOf l S0 k1 a2 post := by
  refine msetI rfl (fun _ => Nat.le_of_ble_eq_true rfl) ?_
  intro p e s m args below meth c D ad cI cZ cL A Q hx hb hml hown hts hK hA hret H locs ls hP hD hS hl
  replace hl : lv_has ls 4 [(0, .ref (ad 0)), (1, .ref (ad k1)), (2, .int a2)] := hl
  obtain ⟨B2, hB2⟩ : ∃ B : MS → Int32 → Prop, B = (fun S x3 => ∀ (H : Heap) (locs : List Loc) (ls : Array Slot), va_P D vwCl (mW ad cI cZ cL S) H → va_D A (mW ad cI cZ cL S) → va_S A s.heap H locs → lv_has ls 4 [(0, .ref (ad 0)), (1, .ref (ad k1)), (2, .int a2), (3, .int x3)] → W p l e (mrm 0 0) s m args below meth c H locs 0 0 Q (F0 m 2 ls [])) := ⟨_, rfl⟩
  have hT : mT_packOf_e l k1 a2 post B2 S0 := by
    refine h B2 ?_
    · clear hP hD hS hl H locs ls
      intro S x3 hT
      unfold mT_packOf_2 at hT
      rw [hB2]
      intro H locs ls hP hD hS hl
      refine lv_aload_n hx hb dX9_packOf_2 rfl (lv_at hl 0 rfl) ?_
      refine mg_kinds hx hb hts hown hK hP dX9_packOf_3 ?_
      refine lv_iload_n hx hb dX9_packOf_6 rfl (lv_at hl 3 rfl) ?_
      obtain ⟨hi1, hT⟩ := hT
      refine va_iald (f := S.2.1 1) hx hb hK hP 1 0 mat_1 rfl hi1 dX9_packOf_7 ?_
      refine lv_iconst (v := 3) hx hb dX9_packOf_8 (by decide) ?_
      refine lv_icmp_ne (tgt := 51) hx hb dX9_packOf_9 (by decide) (fun c2 => ?_) (fun c2 => ?_)
      · replace hT := hT.1 c2
        refine lv_iload_n hx hb dX9_packOf_51 rfl (lv_at hl 3 rfl) ?_
        exact hret _ _ _ _ _ _ hP hD hS hT dX9_packOf_52
      · replace hT := hT.2 c2
        refine lv_iload_n hx hb dX9_packOf_12 rfl (lv_at hl 3 rfl) ?_
        refine lv_iconst (v := 1) hx hb dX9_packOf_13 (by decide) ?_
        refine lv_iadd hx hb dX9_packOf_14 ?_
        refine lv_aload_n hx hb dX9_packOf_15 rfl (lv_at hl 0 rfl) ?_
        refine mg_discs (v := S.1 1) hx hb hts hown hK hP rfl dX9_packOf_16 ?_
        refine lv_icmp_ge (tgt := 51) hx hb dX9_packOf_19 (by decide) (fun c3 => ?_) (fun c3 => ?_)
        · replace hT := hT.1 c3
          refine lv_iload_n hx hb dX9_packOf_51 rfl (lv_at hl 3 rfl) ?_
          exact hret _ _ _ _ _ _ hP hD hS hT dX9_packOf_52
        · replace hT := hT.2 c3
          refine lv_aload_n hx hb dX9_packOf_22 rfl (lv_at hl 0 rfl) ?_
          refine mg_kinds hx hb hts hown hK hP dX9_packOf_23 ?_
          refine lv_iload_n hx hb dX9_packOf_26 rfl (lv_at hl 3 rfl) ?_
          refine lv_iconst (v := 1) hx hb dX9_packOf_27 (by decide) ?_
          refine lv_iadd hx hb dX9_packOf_28 ?_
          obtain ⟨hi4, hT⟩ := hT
          refine va_iald (f := S.2.1 1) hx hb hK hP 1 0 mat_1 rfl hi4 dX9_packOf_29 ?_
          refine lv_iconst (v := 3) hx hb dX9_packOf_30 (by decide) ?_
          refine lv_icmp_ne (tgt := 51) hx hb dX9_packOf_31 (by decide) (fun c5 => ?_) (fun c5 => ?_)
          · replace hT := hT.1 c5
            refine lv_iload_n hx hb dX9_packOf_51 rfl (lv_at hl 3 rfl) ?_
            exact hret _ _ _ _ _ _ hP hD hS hT dX9_packOf_52
          · replace hT := hT.2 c5
            refine lv_aload_n hx hb dX9_packOf_34 rfl (lv_at hl 1 rfl) ?_
            refine lv_iload_n hx hb dX9_packOf_35 rfl (lv_at hl 3 rfl) ?_
            refine lv_iconst (v := 1) hx hb dX9_packOf_36 (by decide) ?_
            refine lv_iadd hx hb dX9_packOf_37 ?_
            obtain ⟨hi6, hT⟩ := hT
            refine va_iald (f := S.2.1 k1) hx hb hK hP k1 0 (mat_sym hk1) rfl hi6 dX9_packOf_38 ?_
            refine lv_aload_n hx hb dX9_packOf_39 rfl (lv_at hl 1 rfl) ?_
            refine lv_iload_n hx hb dX9_packOf_40 rfl (lv_at hl 2 rfl) ?_
            obtain ⟨hi7, hT⟩ := hT
            refine va_iald (f := S.2.1 k1) hx hb hK hP k1 0 (mat_sym hk1) rfl hi7 dX9_packOf_41 ?_
            refine lv_icmp_ne (tgt := 51) hx hb dX9_packOf_42 (by decide) (fun c8 => ?_) (fun c8 => ?_)
            · replace hT := hT.1 c8
              refine lv_iload_n hx hb dX9_packOf_51 rfl (lv_at hl 3 rfl) ?_
              exact hret _ _ _ _ _ _ hP hD hS hT dX9_packOf_52
            · replace hT := hT.2 c8
              refine lv_iinc (v := x3 + 1) (lv' := [(3, .int (x3 + 1)), (0, .ref (ad 0)), (1, .ref (ad k1)), (2, .int a2)]) hx hb dX9_packOf_45 hl (k := 3) rfl rfl (by decide) rfl (fun ls hl => ?_)
              refine lv_goto (tgt := 2) hx hb dX9_packOf_48 (by decide) ?_
              rw [hB2] at hT
              exact hT _ _ _ hP hD hS (lv_sub hl [1, 2, 3, 0] rfl)
  unfold mT_packOf_e at hT
  refine lv_iload_n hx hb dX9_packOf_0 rfl (lv_at hl 2 rfl) ?_
  refine lv_istore_n (lv' := [(3, .int a2), (0, .ref (ad 0)), (1, .ref (ad k1)), (2, .int a2)]) hx hb dX9_packOf_1 rfl hl (by decide) rfl (fun ls hl => ?_)
  rw [hB2] at hT
  exact hT _ _ _ hP hD hS (lv_sub hl [1, 2, 3, 0] rfl)
