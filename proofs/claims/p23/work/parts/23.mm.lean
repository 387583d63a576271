abbrev mX_move (l : Launch) (S : MS) (a1 : Int32) (a2 : Int32) (post : Int32 → MS → Prop) : Prop := mCtI l yX9_move cX9_move 4 2 49 (fun ad => [.int a1, .int a2]) S post
def mT_move_21 (l : Launch) (a1 : Int32) (a2 : Int32) (post : Int32 → MS → Prop) (B21 : MS → Prop) (B63 : MS → Int32 → Prop) (B101 : MS → Prop) (S : MS) : Prop := mX_no l S 1 (fun r2 S1 => post r2 S1)
def mT_move_63 (l : Launch) (a1 : Int32) (a2 : Int32) (post : Int32 → MS → Prop) (B21 : MS → Prop) (B63 : MS → Int32 → Prop) (B101 : MS → Prop) (S : MS) (x3 : Int32) : Prop := (S.1 4 ≤ x3 → B101 (mf S 4 ((S.1 4) - 1))) ∧ (¬ S.1 4 ≤ x3 → vp_in x3 201 ∧ vp_in (x3 - 1) 201 ∧ B63 (ma S 6 (upd (S.2.1 6) (x3 - 1).toNatClampNeg (S.2.1 6 x3.toNatClampNeg))) (x3 + 1))
def mT_move_101 (l : Launch) (a1 : Int32) (a2 : Int32) (post : Int32 → MS → Prop) (B21 : MS → Prop) (B63 : MS → Int32 → Prop) (B101 : MS → Prop) (S : MS) : Prop := mX_pack l S 2 (fun r7 S6 => vp_in (S.1 4) 201 ∧ mX_moved l (mf (mf (ma S6 6 (upd (S6.2.1 6) (S.1 4).toNatClampNeg r7)) 4 ((S6.1 4) + 1)) 5 0) 2 a1 a2 (fun r10 S9 => post r10 S9))
def mT_move_e (l : Launch) (a1 : Int32) (a2 : Int32) (post : Int32 → MS → Prop) (B21 : MS → Prop) (B63 : MS → Int32 → Prop) (B101 : MS → Prop) (S0 : MS) : Prop := mX_isPeg l (mf S0 3 0) a1 (fun b12 S11 => (bI b12 = 0 → B21 S11) ∧ (¬ bI b12 = 0 → mX_isPeg l S11 a2 (fun b15 S14 => (¬ bI b15 = 0 → mX_whyOf l S14 2 a1 a2 (fun r18 S17 => (r18 ≤ 0 → (¬ S17.1 4 = 200 → B101 (mf S17 2 0)) ∧ (S17.1 4 = 200 → B63 (mf S17 2 0) 1)) ∧ (¬ r18 ≤ 0 → mX_no l S17 4 (fun r22 S21 => post r22 S21)))) ∧ (bI b15 = 0 → B21 S14))))
set_option maxHeartbeats 4000000 in
set_option maxRecDepth 100000 in
theorem m_move (l : Launch) (S0 : MS) (a1 : Int32) (a2 : Int32) (post : Int32 → MS → Prop) (h : ∀ (B21 : MS → Prop) (B63 : MS → Int32 → Prop) (B101 : MS → Prop), (∀ (S : MS) , mT_move_21 l a1 a2 post B21 B63 B101 S → B21 S ) → (∀ (S : MS) (x3 : Int32), mT_move_63 l a1 a2 post B21 B63 B101 S x3 → B63 S x3) → (∀ (S : MS) , mT_move_101 l a1 a2 post B21 B63 B101 S → B101 S ) → mT_move_e l a1 a2 post B21 B63 B101 S0) : mX_move l S0 a1 a2 post := by
  refine msetI rfl (fun _ => Nat.le_of_ble_eq_true rfl) ?_
  intro p e s m args below meth c D ad cI cZ cL A Q hx hb hml hown hts hK hA hret H locs ls hP hD hS hl
  replace hl : lv_has ls 4 [(0, .ref (ad 0)), (1, .int a1), (2, .int a2)] := hl
  obtain ⟨B21, hB21⟩ : ∃ B : MS → Prop, B = (fun S => ∀ (H : Heap) (locs : List Loc) (ls : Array Slot), va_P D vwCl (mW ad cI cZ cL S) H → va_D A (mW ad cI cZ cL S) → va_S A s.heap H locs → lv_has ls 4 [(0, .ref (ad 0))] → W p l e (mrm 2 49) s m args below meth c H locs 0 0 Q (F0 m 21 ls [])) := ⟨_, rfl⟩
  obtain ⟨B63, hB63⟩ : ∃ B : MS → Int32 → Prop, B = (fun S x3 => ∀ (H : Heap) (locs : List Loc) (ls : Array Slot), va_P D vwCl (mW ad cI cZ cL S) H → va_D A (mW ad cI cZ cL S) → va_S A s.heap H locs → lv_has ls 4 [(0, .ref (ad 0)), (1, .int a1), (2, .int a2), (3, .int x3)] → W p l e (mrm 2 49) s m args below meth c H locs 0 0 Q (F0 m 63 ls [])) := ⟨_, rfl⟩
  obtain ⟨B101, hB101⟩ : ∃ B : MS → Prop, B = (fun S => ∀ (H : Heap) (locs : List Loc) (ls : Array Slot), va_P D vwCl (mW ad cI cZ cL S) H → va_D A (mW ad cI cZ cL S) → va_S A s.heap H locs → lv_has ls 4 [(0, .ref (ad 0)), (1, .int a1), (2, .int a2)] → W p l e (mrm 2 49) s m args below meth c H locs 0 0 Q (F0 m 101 ls [])) := ⟨_, rfl⟩
  have hT : mT_move_e l a1 a2 post B21 B63 B101 S0 := by
    refine h B21 B63 B101 ?_ ?_ ?_
    · clear hP hD hS hl H locs ls
      intro S hT
      unfold mT_move_21 at hT
      rw [hB21]
      intro H locs ls hP hD hS hl
      refine lv_aload_n hx hb dX9_move_21 rfl (lv_at hl 0 rfl) ?_
      refine lv_iconst (v := 1) hx hb dX9_move_22 (by decide) ?_
      refine mcallI (n := 1) (rest := []) hT hx hb hml hown hts hK hA hP hD hS hl gg_192 hd_X9_no ⟨Nat.le_of_ble_eq_true rfl, Nat.le_of_ble_eq_true rfl⟩ rfl rfl (Nat.le_of_ble_eq_true rfl) dX9_move_23 (Nat.zero_le _) (Nat.zero_le _) (fun r2 S1 H locs hP hD hS hT => ?_)
      exact hret _ _ _ _ _ _ hP hD hS hT dX9_move_26
    · clear hP hD hS hl H locs ls
      intro S x3 hT
      unfold mT_move_63 at hT
      rw [hB63]
      intro H locs ls hP hD hS hl
      refine lv_iload_n hx hb dX9_move_63 rfl (lv_at hl 3 rfl) ?_
      refine lv_aload_n hx hb dX9_move_64 rfl (lv_at hl 0 rfl) ?_
      refine mg_undos (v := S.1 4) hx hb hts hown hK hP rfl dX9_move_65 ?_
      refine lv_icmp_ge (tgt := 91) hx hb dX9_move_68 (by decide) (fun c3 => ?_) (fun c3 => ?_)
      · replace hT := hT.1 c3
        refine lv_aload_n hx hb dX9_move_91 rfl (lv_at hl 0 rfl) ?_
        refine lv_dup hx hb dX9_move_92 rfl ?_
        refine mg_undos (v := S.1 4) hx hb hts hown hK hP rfl dX9_move_93 ?_
        refine lv_iconst (v := 1) hx hb dX9_move_96 (by decide) ?_
        refine lv_isub hx hb dX9_move_97 ?_
        refine mp_undos hx hb hts hown hK hP hD hS dX9_move_98 (fun H locs hP hD hS => ?_)
        rw [hB101] at hT
        exact hT _ _ _ hP hD hS (lv_sub hl [0, 1, 2] rfl)
      · replace hT := hT.2 c3
        refine lv_aload_n hx hb dX9_move_71 rfl (lv_at hl 0 rfl) ?_
        refine mg_past hx hb hts hown hK hP dX9_move_72 ?_
        refine lv_iload_n hx hb dX9_move_75 rfl (lv_at hl 3 rfl) ?_
        refine lv_iconst (v := 1) hx hb dX9_move_76 (by decide) ?_
        refine lv_isub hx hb dX9_move_77 ?_
        refine lv_aload_n hx hb dX9_move_78 rfl (lv_at hl 0 rfl) ?_
        refine mg_past hx hb hts hown hK hP dX9_move_79 ?_
        refine lv_iload_n hx hb dX9_move_82 rfl (lv_at hl 3 rfl) ?_
        obtain ⟨hi4, hT⟩ := hT
        refine va_iald (f := S.2.1 6) hx hb hK hP 6 0 mat_6 rfl hi4 dX9_move_83 ?_
        obtain ⟨hi5, hT⟩ := hT
        refine va_iast (f := S.2.1 6) hx hb hK hP hD hS 6 0 mat_6 rfl hi5 dX9_move_84 (fun H locs hP hD hS => ?_)
        replace hP := msetP_6 hP
        replace hD := msetD_6 hD
        refine lv_iinc (v := x3 + 1) (lv' := [(3, .int (x3 + 1)), (0, .ref (ad 0)), (1, .int a1), (2, .int a2)]) hx hb dX9_move_85 hl (k := 3) rfl rfl (by decide) rfl (fun ls hl => ?_)
        refine lv_goto (tgt := 63) hx hb dX9_move_88 (by decide) ?_
        rw [hB63] at hT
        exact hT _ _ _ hP hD hS (lv_sub hl [1, 2, 3, 0] rfl)
    · clear hP hD hS hl H locs ls
      intro S hT
      unfold mT_move_101 at hT
      rw [hB101]
      intro H locs ls hP hD hS hl
      refine lv_aload_n hx hb dX9_move_101 rfl (lv_at hl 0 rfl) ?_
      refine mg_past hx hb hts hown hK hP dX9_move_102 ?_
      refine lv_aload_n hx hb dX9_move_105 rfl (lv_at hl 0 rfl) ?_
      refine mg_undos (v := S.1 4) hx hb hts hown hK hP rfl dX9_move_106 ?_
      refine lv_aload_n hx hb dX9_move_109 rfl (lv_at hl 0 rfl) ?_
      refine lv_aload_n hx hb dX9_move_110 rfl (lv_at hl 0 rfl) ?_
      refine mg_stand hx hb hts hown hK hP dX9_move_111 ?_
      refine mcallI (n := 1) (rest := [.int (S.1 4), .ref (ad 6)]) hT hx hb hml hown hts hK hA hP hD hS hl gg_184 hd_X9_pack ⟨Nat.le_of_ble_eq_true rfl, Nat.le_of_ble_eq_true rfl⟩ rfl rfl (Nat.le_of_ble_eq_true rfl) dX9_move_114 (Nat.zero_le _) (Nat.zero_le _) (fun r7 S6 H locs hP hD hS hT => ?_)
      obtain ⟨hi8, hT⟩ := hT
      refine va_iast (f := S6.2.1 6) hx hb hK hP hD hS 6 0 mat_6 rfl hi8 dX9_move_117 (fun H locs hP hD hS => ?_)
      replace hP := msetP_6 hP
      replace hD := msetD_6 hD
      refine lv_aload_n hx hb dX9_move_118 rfl (lv_at hl 0 rfl) ?_
      refine lv_dup hx hb dX9_move_119 rfl ?_
      refine mg_undos (v := S6.1 4) hx hb hts hown hK hP rfl dX9_move_120 ?_
      refine lv_iconst (v := 1) hx hb dX9_move_123 (by decide) ?_
      refine lv_iadd hx hb dX9_move_124 ?_
      refine mp_undos hx hb hts hown hK hP hD hS dX9_move_125 (fun H locs hP hD hS => ?_)
      refine lv_aload_n hx hb dX9_move_128 rfl (lv_at hl 0 rfl) ?_
      refine lv_iconst (v := 0) hx hb dX9_move_129 (by decide) ?_
      refine mp_redos hx hb hts hown hK hP hD hS dX9_move_130 (fun H locs hP hD hS => ?_)
      refine lv_aload_n hx hb dX9_move_133 rfl (lv_at hl 0 rfl) ?_
      refine lv_aload_n hx hb dX9_move_134 rfl (lv_at hl 0 rfl) ?_
      refine mg_stand hx hb hts hown hK hP dX9_move_135 ?_
      refine lv_iload_n hx hb dX9_move_138 rfl (lv_at hl 1 rfl) ?_
      refine lv_iload_n hx hb dX9_move_139 rfl (lv_at hl 2 rfl) ?_
      refine mcallI (n := 3) (rest := []) hT hx hb hml hown hts hK hA hP hD hS hl gg_196 hd_X9_moved ⟨Nat.le_of_ble_eq_true rfl, Nat.le_of_ble_eq_true rfl⟩ rfl rfl (Nat.le_of_ble_eq_true rfl) dX9_move_140 (Nat.zero_le _) (Nat.zero_le _) (fun r10 S9 H locs hP hD hS hT => ?_)
      exact hret _ _ _ _ _ _ hP hD hS hT dX9_move_143
  unfold mT_move_e at hT
  refine lv_aload_n hx hb dX9_move_0 rfl (lv_at hl 0 rfl) ?_
  refine lv_iconst (v := 0) hx hb dX9_move_1 (by decide) ?_
  refine mp_thrown hx hb hts hown hK hP hD hS dX9_move_2 (fun H locs hP hD hS => ?_)
  refine lv_aload_n hx hb dX9_move_5 rfl (lv_at hl 0 rfl) ?_
  refine lv_iload_n hx hb dX9_move_6 rfl (lv_at hl 1 rfl) ?_
  refine mcallZ (n := 1) (rest := []) hT hx hb hml hown hts hK hA hP hD hS hl gg_170 hd_X9_isPeg ⟨Nat.le_of_ble_eq_true rfl, Nat.le_of_ble_eq_true rfl⟩ rfl rfl (Nat.le_of_ble_eq_true rfl) dX9_move_7 (Nat.zero_le _) (Nat.zero_le _) (fun b12 S11 H locs hP hD hS hT => ?_)
  refine lv_if_eq (tgt := 21) hx hb dX9_move_10 (by decide) (fun c13 => ?_) (fun c13 => ?_)
  · replace hT := hT.1 c13
    rw [hB21] at hT
    exact hT _ _ _ hP hD hS (lv_sub hl [0] rfl)
  · replace hT := hT.2 c13
    refine lv_aload_n hx hb dX9_move_13 rfl (lv_at hl 0 rfl) ?_
    refine lv_iload_n hx hb dX9_move_14 rfl (lv_at hl 2 rfl) ?_
    refine mcallZ (n := 1) (rest := []) hT hx hb hml hown hts hK hA hP hD hS hl gg_170 hd_X9_isPeg ⟨Nat.le_of_ble_eq_true rfl, Nat.le_of_ble_eq_true rfl⟩ rfl rfl (Nat.le_of_ble_eq_true rfl) dX9_move_15 (Nat.zero_le _) (Nat.zero_le _) (fun b15 S14 H locs hP hD hS hT => ?_)
    refine lv_if_ne (tgt := 27) hx hb dX9_move_18 (by decide) (fun c16 => ?_) (fun c16 => ?_)
    · replace hT := hT.1 c16
      refine lv_aload_n hx hb dX9_move_27 rfl (lv_at hl 0 rfl) ?_
      refine lv_aload_n hx hb dX9_move_28 rfl (lv_at hl 0 rfl) ?_
      refine mg_stand hx hb hts hown hK hP dX9_move_29 ?_
      refine lv_iload_n hx hb dX9_move_32 rfl (lv_at hl 1 rfl) ?_
      refine lv_iload_n hx hb dX9_move_33 rfl (lv_at hl 2 rfl) ?_
      refine mcallI (n := 3) (rest := []) hT hx hb hml hown hts hK hA hP hD hS hl gg_188 hd_X9_whyOf ⟨Nat.le_of_ble_eq_true rfl, Nat.le_of_ble_eq_true rfl⟩ rfl rfl (Nat.le_of_ble_eq_true rfl) dX9_move_34 (Nat.zero_le _) (Nat.zero_le _) (fun r18 S17 H locs hP hD hS hT => ?_)
      refine lv_if_le (tgt := 46) hx hb dX9_move_37 (by decide) (fun c19 => ?_) (fun c19 => ?_)
      · replace hT := hT.1 c19
        refine lv_aload_n hx hb dX9_move_46 rfl (lv_at hl 0 rfl) ?_
        refine lv_iconst (v := 0) hx hb dX9_move_47 (by decide) ?_
        refine mp_trouble hx hb hts hown hK hP hD hS dX9_move_48 (fun H locs hP hD hS => ?_)
        refine lv_aload_n hx hb dX9_move_51 rfl (lv_at hl 0 rfl) ?_
        refine mg_undos (v := S17.1 4) hx hb hts hown hK hP rfl dX9_move_52 ?_
        refine lv_sipush (v := 200) hx hb dX9_move_55 (by decide) ?_
        refine lv_icmp_ne (tgt := 101) hx hb dX9_move_58 (by decide) (fun c20 => ?_) (fun c20 => ?_)
        · replace hT := hT.1 c20
          rw [hB101] at hT
          exact hT _ _ _ hP hD hS (lv_sub hl [0, 1, 2] rfl)
        · replace hT := hT.2 c20
          refine lv_iconst (v := 1) hx hb dX9_move_61 (by decide) ?_
          refine lv_istore_n (lv' := [(3, .int 1), (0, .ref (ad 0)), (1, .int a1), (2, .int a2)]) hx hb dX9_move_62 rfl hl (by decide) rfl (fun ls hl => ?_)
          rw [hB63] at hT
          exact hT _ _ _ hP hD hS (lv_sub hl [1, 2, 3, 0] rfl)
      · replace hT := hT.2 c19
        refine lv_aload_n hx hb dX9_move_40 rfl (lv_at hl 0 rfl) ?_
        refine lv_iconst (v := 4) hx hb dX9_move_41 (by decide) ?_
        refine mcallI (n := 1) (rest := []) hT hx hb hml hown hts hK hA hP hD hS hl gg_192 hd_X9_no ⟨Nat.le_of_ble_eq_true rfl, Nat.le_of_ble_eq_true rfl⟩ rfl rfl (Nat.le_of_ble_eq_true rfl) dX9_move_42 (Nat.zero_le _) (Nat.zero_le _) (fun r22 S21 H locs hP hD hS hT => ?_)
        exact hret _ _ _ _ _ _ hP hD hS hT dX9_move_45
    · replace hT := hT.2 c16
      rw [hB21] at hT
      exact hT _ _ _ hP hD hS (lv_sub hl [0] rfl)
abbrev mX_undo (l : Launch) (S : MS) (post : Int32 → MS → Prop) : Prop := mCtI l yX9_undo cX9_undo 2 1 24 (fun ad => []) S post
def mT_undo_e (l : Launch) (post : Int32 → MS → Prop) (S0 : MS) : Prop := (¬ S0.1 4 = 0 → vp_in ((S0.1 4) - 1) 201 ∧ ∀ v1_3 : Int32, v1_3 = S0.2.1 6 ((S0.1 4) - 1).toNatClampNeg → mX_pack l (mf (mf S0 3 0) 4 ((S0.1 4) - 1)) 2 (fun r5 S4 => vp_in ((S0.1 4) - 1) 201 ∧ mX_unpack l (mf (ma S4 6 (upd (S4.2.1 6) ((S0.1 4) - 1).toNatClampNeg r5)) 5 ((S4.1 5) + 1)) v1_3 2 (fun S7 => post 1 S7))) ∧ (S0.1 4 = 0 → post 0 (mf S0 3 0))
set_option maxHeartbeats 4000000 in
set_option maxRecDepth 100000 in
theorem m_undo (l : Launch) (S0 : MS) (post : Int32 → MS → Prop) (h : mT_undo_e l post S0) : mX_undo l S0 post := by
  refine msetI rfl (fun _ => Nat.le_of_ble_eq_true rfl) ?_
  intro p e s m args below meth c D ad cI cZ cL A Q hx hb hml hown hts hK hA hret H locs ls hP hD hS hl
  replace hl : lv_has ls 2 [(0, .ref (ad 0))] := hl
  have hT := h
  unfold mT_undo_e at hT
  refine lv_aload_n hx hb dX9_undo_0 rfl (lv_at hl 0 rfl) ?_
  refine lv_iconst (v := 0) hx hb dX9_undo_1 (by decide) ?_
  refine mp_thrown hx hb hts hown hK hP hD hS dX9_undo_2 (fun H locs hP hD hS => ?_)
  refine lv_aload_n hx hb dX9_undo_5 rfl (lv_at hl 0 rfl) ?_
  refine mg_undos (v := S0.1 4) hx hb hts hown hK hP rfl dX9_undo_6 ?_
  refine lv_if_ne (tgt := 14) hx hb dX9_undo_9 (by decide) (fun c1 => ?_) (fun c1 => ?_)
  · replace hT := hT.1 c1
    refine lv_aload_n hx hb dX9_undo_14 rfl (lv_at hl 0 rfl) ?_
    refine lv_dup hx hb dX9_undo_15 rfl ?_
    refine mg_undos (v := S0.1 4) hx hb hts hown hK hP rfl dX9_undo_16 ?_
    refine lv_iconst (v := 1) hx hb dX9_undo_19 (by decide) ?_
    refine lv_isub hx hb dX9_undo_20 ?_
    refine mp_undos hx hb hts hown hK hP hD hS dX9_undo_21 (fun H locs hP hD hS => ?_)
    refine lv_aload_n hx hb dX9_undo_24 rfl (lv_at hl 0 rfl) ?_
    refine mg_past hx hb hts hown hK hP dX9_undo_25 ?_
    refine lv_aload_n hx hb dX9_undo_28 rfl (lv_at hl 0 rfl) ?_
    refine mg_undos (v := (S0.1 4) - 1) hx hb hts hown hK hP rfl dX9_undo_29 ?_
    obtain ⟨hi2, hT⟩ := hT
    refine va_iald (f := S0.2.1 6) hx hb hK hP 6 0 mat_6 rfl hi2 dX9_undo_32 ?_
    refine lv_topi (fun v1_3 ev1_3 => ?_)
    replace hT := hT v1_3 ev1_3
    refine lv_istore_n (lv' := [(1, .int v1_3), (0, .ref (ad 0))]) hx hb dX9_undo_33 rfl hl (by decide) rfl (fun ls hl => ?_)
    refine lv_aload_n hx hb dX9_undo_34 rfl (lv_at hl 1 rfl) ?_
    refine mg_past hx hb hts hown hK hP dX9_undo_35 ?_
    refine lv_aload_n hx hb dX9_undo_38 rfl (lv_at hl 1 rfl) ?_
    refine mg_undos (v := (S0.1 4) - 1) hx hb hts hown hK hP rfl dX9_undo_39 ?_
    refine lv_aload_n hx hb dX9_undo_42 rfl (lv_at hl 1 rfl) ?_
    refine lv_aload_n hx hb dX9_undo_43 rfl (lv_at hl 1 rfl) ?_
    refine mg_stand hx hb hts hown hK hP dX9_undo_44 ?_
    refine mcallI (n := 1) (rest := [.int ((S0.1 4) - 1), .ref (ad 6)]) hT hx hb hml hown hts hK hA hP hD hS hl gg_184 hd_X9_pack ⟨Nat.le_of_ble_eq_true rfl, Nat.le_of_ble_eq_true rfl⟩ rfl rfl (Nat.le_of_ble_eq_true rfl) dX9_undo_47 (Nat.zero_le _) (Nat.zero_le _) (fun r5 S4 H locs hP hD hS hT => ?_)
    obtain ⟨hi6, hT⟩ := hT
    refine va_iast (f := S4.2.1 6) hx hb hK hP hD hS 6 0 mat_6 rfl hi6 dX9_undo_50 (fun H locs hP hD hS => ?_)
    replace hP := msetP_6 hP
    replace hD := msetD_6 hD
    refine lv_aload_n hx hb dX9_undo_51 rfl (lv_at hl 1 rfl) ?_
    refine lv_dup hx hb dX9_undo_52 rfl ?_
    refine mg_redos (v := S4.1 5) hx hb hts hown hK hP rfl dX9_undo_53 ?_
    refine lv_iconst (v := 1) hx hb dX9_undo_56 (by decide) ?_
    refine lv_iadd hx hb dX9_undo_57 ?_
    refine mp_redos hx hb hts hown hK hP hD hS dX9_undo_58 (fun H locs hP hD hS => ?_)
    refine lv_aload_n hx hb dX9_undo_61 rfl (lv_at hl 1 rfl) ?_
    refine lv_iload_n hx hb dX9_undo_62 rfl (lv_at hl 0 rfl) ?_
    refine lv_aload_n hx hb dX9_undo_63 rfl (lv_at hl 1 rfl) ?_
    refine mg_stand hx hb hts hown hK hP dX9_undo_64 ?_
    refine mcallV (n := 2) (rest := []) hT hx hb hml hown hts hK hA hP hD hS hl gg_180 hd_X9_unpack ⟨Nat.le_of_ble_eq_true rfl, Nat.le_of_ble_eq_true rfl⟩ rfl rfl (Nat.le_of_ble_eq_true rfl) dX9_undo_67 (Nat.zero_le _) (Nat.zero_le _) (fun S7 H locs hP hD hS hT => ?_)
    refine lv_iconst (v := 1) hx hb dX9_undo_70 (by decide) ?_
    exact hret _ _ _ _ _ _ hP hD hS hT dX9_undo_71
  · replace hT := hT.2 c1
    refine lv_iconst (v := 0) hx hb dX9_undo_12 (by decide) ?_
    exact hret _ _ _ _ _ _ hP hD hS hT dX9_undo_13
abbrev mX_redo (l : Launch) (S : MS) (post : Int32 → MS → Prop) : Prop := mCtI l yX9_redo cX9_redo 2 1 24 (fun ad => []) S post
def mT_redo_e (l : Launch) (post : Int32 → MS → Prop) (S0 : MS) : Prop := (¬ S0.1 5 = 0 → vp_in (S0.1 4) 201 ∧ ∀ v1_3 : Int32, v1_3 = S0.2.1 6 (S0.1 4).toNatClampNeg → mX_pack l (mf S0 3 0) 2 (fun r5 S4 => vp_in (S0.1 4) 201 ∧ mX_unpack l (mf (mf (ma S4 6 (upd (S4.2.1 6) (S0.1 4).toNatClampNeg r5)) 4 ((S4.1 4) + 1)) 5 ((S4.1 5) - 1)) v1_3 2 (fun S7 => post 1 S7))) ∧ (S0.1 5 = 0 → post 0 (mf S0 3 0))
set_option maxHeartbeats 4000000 in
set_option maxRecDepth 100000 in
theorem m_redo (l : Launch) (S0 : MS) (post : Int32 → MS → Prop) (h : mT_redo_e l post S0) : mX_redo l S0 post := by
  refine msetI rfl (fun _ => Nat.le_of_ble_eq_true rfl) ?_
  intro p e s m args below meth c D ad cI cZ cL A Q hx hb hml hown hts hK hA hret H locs ls hP hD hS hl
  replace hl : lv_has ls 2 [(0, .ref (ad 0))] := hl
  have hT := h
  unfold mT_redo_e at hT
  refine lv_aload_n hx hb dX9_redo_0 rfl (lv_at hl 0 rfl) ?_
  refine lv_iconst (v := 0) hx hb dX9_redo_1 (by decide) ?_
  refine mp_thrown hx hb hts hown hK hP hD hS dX9_redo_2 (fun H locs hP hD hS => ?_)
  refine lv_aload_n hx hb dX9_redo_5 rfl (lv_at hl 0 rfl) ?_
  refine mg_redos (v := S0.1 5) hx hb hts hown hK hP rfl dX9_redo_6 ?_
  refine lv_if_ne (tgt := 14) hx hb dX9_redo_9 (by decide) (fun c1 => ?_) (fun c1 => ?_)
  · replace hT := hT.1 c1
    refine lv_aload_n hx hb dX9_redo_14 rfl (lv_at hl 0 rfl) ?_
    refine mg_past hx hb hts hown hK hP dX9_redo_15 ?_
    refine lv_aload_n hx hb dX9_redo_18 rfl (lv_at hl 0 rfl) ?_
    refine mg_undos (v := S0.1 4) hx hb hts hown hK hP rfl dX9_redo_19 ?_
    obtain ⟨hi2, hT⟩ := hT
    refine va_iald (f := S0.2.1 6) hx hb hK hP 6 0 mat_6 rfl hi2 dX9_redo_22 ?_
    refine lv_topi (fun v1_3 ev1_3 => ?_)
    replace hT := hT v1_3 ev1_3
    refine lv_istore_n (lv' := [(1, .int v1_3), (0, .ref (ad 0))]) hx hb dX9_redo_23 rfl hl (by decide) rfl (fun ls hl => ?_)
    refine lv_aload_n hx hb dX9_redo_24 rfl (lv_at hl 1 rfl) ?_
    refine mg_past hx hb hts hown hK hP dX9_redo_25 ?_
    refine lv_aload_n hx hb dX9_redo_28 rfl (lv_at hl 1 rfl) ?_
    refine mg_undos (v := S0.1 4) hx hb hts hown hK hP rfl dX9_redo_29 ?_
    refine lv_aload_n hx hb dX9_redo_32 rfl (lv_at hl 1 rfl) ?_
    refine lv_aload_n hx hb dX9_redo_33 rfl (lv_at hl 1 rfl) ?_
    refine mg_stand hx hb hts hown hK hP dX9_redo_34 ?_
    refine mcallI (n := 1) (rest := [.int (S0.1 4), .ref (ad 6)]) hT hx hb hml hown hts hK hA hP hD hS hl gg_184 hd_X9_pack ⟨Nat.le_of_ble_eq_true rfl, Nat.le_of_ble_eq_true rfl⟩ rfl rfl (Nat.le_of_ble_eq_true rfl) dX9_redo_37 (Nat.zero_le _) (Nat.zero_le _) (fun r5 S4 H locs hP hD hS hT => ?_)
    obtain ⟨hi6, hT⟩ := hT
    refine va_iast (f := S4.2.1 6) hx hb hK hP hD hS 6 0 mat_6 rfl hi6 dX9_redo_40 (fun H locs hP hD hS => ?_)
    replace hP := msetP_6 hP
    replace hD := msetD_6 hD
    refine lv_aload_n hx hb dX9_redo_41 rfl (lv_at hl 1 rfl) ?_
    refine lv_dup hx hb dX9_redo_42 rfl ?_
    refine mg_undos (v := S4.1 4) hx hb hts hown hK hP rfl dX9_redo_43 ?_
    refine lv_iconst (v := 1) hx hb dX9_redo_46 (by decide) ?_
    refine lv_iadd hx hb dX9_redo_47 ?_
    refine mp_undos hx hb hts hown hK hP hD hS dX9_redo_48 (fun H locs hP hD hS => ?_)
    refine lv_aload_n hx hb dX9_redo_51 rfl (lv_at hl 1 rfl) ?_
    refine lv_dup hx hb dX9_redo_52 rfl ?_
    refine mg_redos (v := S4.1 5) hx hb hts hown hK hP rfl dX9_redo_53 ?_
    refine lv_iconst (v := 1) hx hb dX9_redo_56 (by decide) ?_
    refine lv_isub hx hb dX9_redo_57 ?_
    refine mp_redos hx hb hts hown hK hP hD hS dX9_redo_58 (fun H locs hP hD hS => ?_)
    refine lv_aload_n hx hb dX9_redo_61 rfl (lv_at hl 1 rfl) ?_
    refine lv_iload_n hx hb dX9_redo_62 rfl (lv_at hl 0 rfl) ?_
    refine lv_aload_n hx hb dX9_redo_63 rfl (lv_at hl 1 rfl) ?_
    refine mg_stand hx hb hts hown hK hP dX9_redo_64 ?_
    refine mcallV (n := 2) (rest := []) hT hx hb hml hown hts hK hA hP hD hS hl gg_180 hd_X9_unpack ⟨Nat.le_of_ble_eq_true rfl, Nat.le_of_ble_eq_true rfl⟩ rfl rfl (Nat.le_of_ble_eq_true rfl) dX9_redo_67 (Nat.zero_le _) (Nat.zero_le _) (fun S7 H locs hP hD hS hT => ?_)
    refine lv_iconst (v := 1) hx hb dX9_redo_70 (by decide) ?_
    exact hret _ _ _ _ _ _ hP hD hS hT dX9_redo_71
  · replace hT := hT.2 c1
    refine lv_iconst (v := 0) hx hb dX9_redo_12 (by decide) ?_
    exact hret _ _ _ _ _ _ hP hD hS hT dX9_redo_13
abbrev mX_moves (l : Launch) (S : MS) (post : Int32 → MS → Prop) : Prop := mCtI l yX9_moves cX9_moves 4 2 49 (fun ad => []) S post
def mT_moves_9 (l : Launch) (post : Int32 → MS → Prop) (B9 : MS → Int32 → Int32 → Prop) (B19 : MS → Int32 → Int32 → Int32 → Prop) (S : MS) (x1 : Int32) (x2 : Int32) : Prop := (S.1 0 ≤ x2 → post x1 S) ∧ (¬ S.1 0 ≤ x2 → B19 S x1 x2 0)
def mT_moves_19 (l : Launch) (post : Int32 → MS → Prop) (B9 : MS → Int32 → Int32 → Prop) (B19 : MS → Int32 → Int32 → Int32 → Prop) (S : MS) (x1 : Int32) (x2 : Int32) (x3 : Int32) : Prop := (S.1 0 ≤ x3 → B9 S x1 (x2 + 1)) ∧ (¬ S.1 0 ≤ x3 → mX_whyOf l S 2 x2 x3 (fun r4 S3 => (¬ r4 = 0 → ∀ v1_6 : Int32, v1_6 = x1 + 0 → B19 S3 v1_6 x2 (x3 + 1)) ∧ (r4 = 0 → ∀ v1_7 : Int32, v1_7 = x1 + 1 → B19 S3 v1_7 x2 (x3 + 1))))
def mT_moves_e (l : Launch) (post : Int32 → MS → Prop) (B9 : MS → Int32 → Int32 → Prop) (B19 : MS → Int32 → Int32 → Int32 → Prop) (S0 : MS) : Prop := B9 (mf S0 3 0) 0 0
set_option maxHeartbeats 4000000 in
set_option maxRecDepth 100000 in
theorem m_moves (l : Launch) (S0 : MS) (post : Int32 → MS → Prop) (h : ∀ (B9 : MS → Int32 → Int32 → Prop) (B19 : MS → Int32 → Int32 → Int32 → Prop), (∀ (S : MS) (x1 : Int32) (x2 : Int32), mT_moves_9 l post B9 B19 S x1 x2 → B9 S x1 x2) → (∀ (S : MS) (x1 : Int32) (x2 : Int32) (x3 : Int32), mT_moves_19 l post B9 B19 S x1 x2 x3 → B19 S x1 x2 x3) → mT_moves_e l post B9 B19 S0) : mX_moves l S0 post := by
  refine msetI rfl (fun _ => Nat.le_of_ble_eq_true rfl) ?_
  intro p e s m args below meth c D ad cI cZ cL A Q hx hb hml hown hts hK hA hret H locs ls hP hD hS hl
  replace hl : lv_has ls 4 [(0, .ref (ad 0))] := hl
  obtain ⟨B9, hB9⟩ : ∃ B : MS → Int32 → Int32 → Prop, B = (fun S x1 x2 => ∀ (H : Heap) (locs : List Loc) (ls : Array Slot), va_P D vwCl (mW ad cI cZ cL S) H → va_D A (mW ad cI cZ cL S) → va_S A s.heap H locs → lv_has ls 4 [(0, .ref (ad 0)), (1, .int x1), (2, .int x2)] → W p l e (mrm 2 49) s m args below meth c H locs 0 0 Q (F0 m 9 ls [])) := ⟨_, rfl⟩
  obtain ⟨B19, hB19⟩ : ∃ B : MS → Int32 → Int32 → Int32 → Prop, B = (fun S x1 x2 x3 => ∀ (H : Heap) (locs : List Loc) (ls : Array Slot), va_P D vwCl (mW ad cI cZ cL S) H → va_D A (mW ad cI cZ cL S) → va_S A s.heap H locs → lv_has ls 4 [(0, .ref (ad 0)), (1, .int x1), (2, .int x2), (3, .int x3)] → W p l e (mrm 2 49) s m args below meth c H locs 0 0 Q (F0 m 19 ls [])) := ⟨_, rfl⟩
  have hT : mT_moves_e l post B9 B19 S0 := by
    refine h B9 B19 ?_ ?_
    · clear hP hD hS hl H locs ls
      intro S x1 x2 hT
      unfold mT_moves_9 at hT
      rw [hB9]
      intro H locs ls hP hD hS hl
      refine lv_iload_n hx hb dX9_moves_9 rfl (lv_at hl 2 rfl) ?_
      refine lv_aload_n hx hb dX9_moves_10 rfl (lv_at hl 0 rfl) ?_
      refine mg_pegs (v := S.1 0) hx hb hts hown hK hP rfl dX9_moves_11 ?_
      refine lv_icmp_ge (tgt := 60) hx hb dX9_moves_14 (by decide) (fun c1 => ?_) (fun c1 => ?_)
      · replace hT := hT.1 c1
        refine lv_iload_n hx hb dX9_moves_60 rfl (lv_at hl 1 rfl) ?_
        exact hret _ _ _ _ _ _ hP hD hS hT dX9_moves_61
      · replace hT := hT.2 c1
        refine lv_iconst (v := 0) hx hb dX9_moves_17 (by decide) ?_
        refine lv_istore_n (lv' := [(3, .int 0), (0, .ref (ad 0)), (1, .int x1), (2, .int x2)]) hx hb dX9_moves_18 rfl hl (by decide) rfl (fun ls hl => ?_)
        rw [hB19] at hT
        exact hT _ _ _ hP hD hS (lv_sub hl [1, 2, 3, 0] rfl)
    · clear hP hD hS hl H locs ls
      intro S x1 x2 x3 hT
      unfold mT_moves_19 at hT
      rw [hB19]
      intro H locs ls hP hD hS hl
      refine lv_iload_n hx hb dX9_moves_19 rfl (lv_at hl 3 rfl) ?_
      refine lv_aload_n hx hb dX9_moves_20 rfl (lv_at hl 0 rfl) ?_
      refine mg_pegs (v := S.1 0) hx hb hts hown hK hP rfl dX9_moves_21 ?_
      refine lv_icmp_ge (tgt := 54) hx hb dX9_moves_24 (by decide) (fun c2 => ?_) (fun c2 => ?_)
      · replace hT := hT.1 c2
        refine lv_iinc (v := x2 + 1) (lv' := [(2, .int (x2 + 1)), (0, .ref (ad 0)), (1, .int x1), (3, .int x3)]) hx hb dX9_moves_54 hl (k := 2) rfl rfl (by decide) rfl (fun ls hl => ?_)
        refine lv_goto (tgt := 9) hx hb dX9_moves_57 (by decide) ?_
        rw [hB9] at hT
        exact hT _ _ _ hP hD hS (lv_sub hl [1, 2, 0] rfl)
      · replace hT := hT.2 c2
        refine lv_iload_n hx hb dX9_moves_27 rfl (lv_at hl 1 rfl) ?_
        refine lv_aload_n hx hb dX9_moves_28 rfl (lv_at hl 0 rfl) ?_
        refine lv_aload_n hx hb dX9_moves_29 rfl (lv_at hl 0 rfl) ?_
        refine mg_stand hx hb hts hown hK hP dX9_moves_30 ?_
        refine lv_iload_n hx hb dX9_moves_33 rfl (lv_at hl 2 rfl) ?_
        refine lv_iload_n hx hb dX9_moves_34 rfl (lv_at hl 3 rfl) ?_
        refine mcallI (n := 3) (rest := [.int x1]) hT hx hb hml hown hts hK hA hP hD hS hl gg_188 hd_X9_whyOf ⟨Nat.le_of_ble_eq_true rfl, Nat.le_of_ble_eq_true rfl⟩ rfl rfl (Nat.le_of_ble_eq_true rfl) dX9_moves_35 (Nat.zero_le _) (Nat.zero_le _) (fun r4 S3 H locs hP hD hS hT => ?_)
        refine lv_if_ne (tgt := 45) hx hb dX9_moves_38 (by decide) (fun c5 => ?_) (fun c5 => ?_)
        · replace hT := hT.1 c5
          refine lv_iconst (v := 0) hx hb dX9_moves_45 (by decide) ?_
          refine lv_iadd hx hb dX9_moves_46 ?_
          refine lv_topi (fun v1_6 ev1_6 => ?_)
          replace hT := hT v1_6 ev1_6
          refine lv_istore_n (lv' := [(1, .int v1_6), (0, .ref (ad 0)), (2, .int x2), (3, .int x3)]) hx hb dX9_moves_47 rfl hl (by decide) rfl (fun ls hl => ?_)
          refine lv_iinc (v := x3 + 1) (lv' := [(3, .int (x3 + 1)), (1, .int v1_6), (0, .ref (ad 0)), (2, .int x2)]) hx hb dX9_moves_48 hl (k := 3) rfl rfl (by decide) rfl (fun ls hl => ?_)
          refine lv_goto (tgt := 19) hx hb dX9_moves_51 (by decide) ?_
          rw [hB19] at hT
          exact hT _ _ _ hP hD hS (lv_sub hl [2, 1, 3, 0] rfl)
        · replace hT := hT.2 c5
          refine lv_iconst (v := 1) hx hb dX9_moves_41 (by decide) ?_
          refine lv_goto (tgt := 46) hx hb dX9_moves_42 (by decide) ?_
          refine lv_iadd hx hb dX9_moves_46 ?_
          refine lv_topi (fun v1_7 ev1_7 => ?_)
          replace hT := hT v1_7 ev1_7
          refine lv_istore_n (lv' := [(1, .int v1_7), (0, .ref (ad 0)), (2, .int x2), (3, .int x3)]) hx hb dX9_moves_47 rfl hl (by decide) rfl (fun ls hl => ?_)
          refine lv_iinc (v := x3 + 1) (lv' := [(3, .int (x3 + 1)), (1, .int v1_7), (0, .ref (ad 0)), (2, .int x2)]) hx hb dX9_moves_48 hl (k := 3) rfl rfl (by decide) rfl (fun ls hl => ?_)
          refine lv_goto (tgt := 19) hx hb dX9_moves_51 (by decide) ?_
          rw [hB19] at hT
          exact hT _ _ _ hP hD hS (lv_sub hl [2, 1, 3, 0] rfl)
  unfold mT_moves_e at hT
  refine lv_aload_n hx hb dX9_moves_0 rfl (lv_at hl 0 rfl) ?_
  refine lv_iconst (v := 0) hx hb dX9_moves_1 (by decide) ?_
  refine mp_thrown hx hb hts hown hK hP hD hS dX9_moves_2 (fun H locs hP hD hS => ?_)
  refine lv_iconst (v := 0) hx hb dX9_moves_5 (by decide) ?_
  refine lv_istore_n (lv' := [(1, .int 0), (0, .ref (ad 0))]) hx hb dX9_moves_6 rfl hl (by decide) rfl (fun ls hl => ?_)
  refine lv_iconst (v := 0) hx hb dX9_moves_7 (by decide) ?_
  refine lv_istore_n (lv' := [(2, .int 0), (1, .int 0), (0, .ref (ad 0))]) hx hb dX9_moves_8 rfl hl (by decide) rfl (fun ls hl => ?_)
  rw [hB9] at hT
  exact hT _ _ _ hP hD hS (lv_sub hl [2, 1, 0] rfl)
abbrev mX_fits (l : Launch) (S : MS) (post : Bool → MS → Prop) : Prop := mCtZ l yX9_fits cX9_fits 1 1 22 (fun ad => []) S post
def mT_fits_e (l : Launch) (post : Bool → MS → Prop) (S0 : MS) : Prop := mX_stands l S0 (fun r2 S1 => (20000 < r2 → post false S1) ∧ (¬ 20000 < r2 → post true S1))
set_option maxHeartbeats 4000000 in
set_option maxRecDepth 100000 in
theorem m_fits (l : Launch) (S0 : MS) (post : Bool → MS → Prop) (h : mT_fits_e l post S0) : mX_fits l S0 post := by
  refine msetZ rfl (fun _ => Nat.le_of_ble_eq_true rfl) ?_
  intro p e s m args below meth c D ad cI cZ cL A Q hx hb hml hown hts hK hA hret H locs ls hP hD hS hl
  replace hl : lv_has ls 1 [(0, .ref (ad 0))] := hl
  have hT := h
  unfold mT_fits_e at hT
  refine lv_aload_n hx hb dX9_fits_0 rfl (lv_at hl 0 rfl) ?_
  refine mcallI (n := 0) (rest := []) hT hx hb hml hown hts hK hA hP hD hS hl gg_177 hd_X9_stands ⟨Nat.le_of_ble_eq_true rfl, Nat.le_of_ble_eq_true rfl⟩ rfl rfl (Nat.le_of_ble_eq_true rfl) dX9_fits_1 (Nat.zero_le _) (Nat.zero_le _) (fun r2 S1 H locs hP hD hS hT => ?_)
  refine lv_sipush (v := 20000) hx hb dX9_fits_4 (by decide) ?_
  refine lv_icmp_gt (tgt := 14) hx hb dX9_fits_7 (by decide) (fun c3 => ?_) (fun c3 => ?_)
  · replace hT := hT.1 c3
    refine lv_iconst (v := 0) hx hb dX9_fits_14 (by decide) ?_
    exact hret false _ _ _ _ _ hP hD hS hT dX9_fits_15
  · replace hT := hT.2 c3
    refine lv_iconst (v := 1) hx hb dX9_fits_10 (by decide) ?_
    refine lv_goto (tgt := 15) hx hb dX9_fits_11 (by decide) ?_
    exact hret true _ _ _ _ _ hP hD hS hT dX9_fits_15
abbrev mX_unlink (l : Launch) (S : MS) (a1 : Int32) (post : MS → Prop) : Prop := mCtV l yX9_unlink cX9_unlink 3 0 0 (fun ad => [.int a1]) S post
def mT_unlink_52 (l : Launch) (a1 : Int32) (post : MS → Prop) (B52 : MS → Prop) (S : MS) : Prop := vp_in a1 20000 ∧ (S.2.1 11 a1.toNatClampNeg = (-1) → post S) ∧ (¬ S.2.1 11 a1.toNatClampNeg = (-1) → vp_in a1 20000 ∧ vp_in a1 20000 ∧ vp_in (S.2.1 11 a1.toNatClampNeg) 20000 ∧ post (ma S 12 (upd (S.2.1 12) (S.2.1 11 a1.toNatClampNeg).toNatClampNeg (S.2.1 12 a1.toNatClampNeg))))
def mT_unlink_e (l : Launch) (a1 : Int32) (post : MS → Prop) (B52 : MS → Prop) (S0 : MS) : Prop := vp_in a1 20000 ∧ ∀ v2_7 : Int32, v2_7 = (S0.2.1 10 a1.toNatClampNeg) - (S0.2.1 10 a1.toNatClampNeg) / 101 * 101 → vp_in a1 20000 ∧ (¬ S0.2.1 12 a1.toNatClampNeg = (-1) → vp_in a1 20000 ∧ vp_in a1 20000 ∧ vp_in (S0.2.1 12 a1.toNatClampNeg) 20000 ∧ B52 (ma S0 11 (upd (S0.2.1 11) (S0.2.1 12 a1.toNatClampNeg).toNatClampNeg (S0.2.1 11 a1.toNatClampNeg)))) ∧ (S0.2.1 12 a1.toNatClampNeg = (-1) → vp_in a1 20000 ∧ vp_in v2_7 101 ∧ B52 (ma S0 13 (upd (S0.2.1 13) v2_7.toNatClampNeg (S0.2.1 11 a1.toNatClampNeg))))
set_option maxHeartbeats 4000000 in
set_option maxRecDepth 100000 in
theorem m_unlink (l : Launch) (S0 : MS) (a1 : Int32) (post : MS → Prop) (h : ∀ (B52 : MS → Prop), (∀ (S : MS) , mT_unlink_52 l a1 post B52 S → B52 S ) → mT_unlink_e l a1 post B52 S0) : mX_unlink l S0 a1 post := by
  refine msetV rfl (fun _ => Nat.le_of_ble_eq_true rfl) ?_
  intro p e s m args below meth c D ad cI cZ cL A Q hx hb hml hown hts hK hA hret H locs ls hP hD hS hl
  replace hl : lv_has ls 3 [(0, .ref (ad 0)), (1, .int a1)] := hl
  obtain ⟨B52, hB52⟩ : ∃ B : MS → Prop, B = (fun S => ∀ (H : Heap) (locs : List Loc) (ls : Array Slot), va_P D vwCl (mW ad cI cZ cL S) H → va_D A (mW ad cI cZ cL S) → va_S A s.heap H locs → lv_has ls 3 [(0, .ref (ad 0)), (1, .int a1)] → W p l e (mrm 0 0) s m args below meth c H locs 0 0 Q (F0 m 52 ls [])) := ⟨_, rfl⟩
  have hT : mT_unlink_e l a1 post B52 S0 := by
    refine h B52 ?_
    · clear hP hD hS hl H locs ls
      intro S hT
      unfold mT_unlink_52 at hT
      rw [hB52]
      intro H locs ls hP hD hS hl
      refine lv_aload_n hx hb dX9_unlink_52 rfl (lv_at hl 0 rfl) ?_
      refine mg_after hx hb hts hown hK hP dX9_unlink_53 ?_
      refine lv_iload_n hx hb dX9_unlink_56 rfl (lv_at hl 1 rfl) ?_
      obtain ⟨hi1, hT⟩ := hT
      refine va_iald (f := S.2.1 11) hx hb hK hP 11 0 mat_11 rfl hi1 dX9_unlink_57 ?_
      refine lv_iconst (v := (-1)) hx hb dX9_unlink_58 (by decide) ?_
      refine lv_icmp_eq (tgt := 79) hx hb dX9_unlink_59 (by decide) (fun c2 => ?_) (fun c2 => ?_)
      · replace hT := hT.1 c2
        exact hret _ _ _ _ _ hP hD hS hT dX9_unlink_79
      · replace hT := hT.2 c2
        refine lv_aload_n hx hb dX9_unlink_62 rfl (lv_at hl 0 rfl) ?_
        refine mg_before hx hb hts hown hK hP dX9_unlink_63 ?_
        refine lv_aload_n hx hb dX9_unlink_66 rfl (lv_at hl 0 rfl) ?_
        refine mg_after hx hb hts hown hK hP dX9_unlink_67 ?_
        refine lv_iload_n hx hb dX9_unlink_70 rfl (lv_at hl 1 rfl) ?_
        obtain ⟨hi3, hT⟩ := hT
        refine va_iald (f := S.2.1 11) hx hb hK hP 11 0 mat_11 rfl hi3 dX9_unlink_71 ?_
        refine lv_aload_n hx hb dX9_unlink_72 rfl (lv_at hl 0 rfl) ?_
        refine mg_before hx hb hts hown hK hP dX9_unlink_73 ?_
        refine lv_iload_n hx hb dX9_unlink_76 rfl (lv_at hl 1 rfl) ?_
        obtain ⟨hi4, hT⟩ := hT
        refine va_iald (f := S.2.1 12) hx hb hK hP 12 0 mat_12 rfl hi4 dX9_unlink_77 ?_
        obtain ⟨hi5, hT⟩ := hT
        refine va_iast (f := S.2.1 12) hx hb hK hP hD hS 12 0 mat_12 rfl hi5 dX9_unlink_78 (fun H locs hP hD hS => ?_)
        replace hP := msetP_12 hP
        replace hD := msetD_12 hD
        exact hret _ _ _ _ _ hP hD hS hT dX9_unlink_79
  unfold mT_unlink_e at hT
  refine lv_aload_n hx hb dX9_unlink_0 rfl (lv_at hl 0 rfl) ?_
  refine mg_far hx hb hts hown hK hP dX9_unlink_1 ?_
  refine lv_iload_n hx hb dX9_unlink_4 rfl (lv_at hl 1 rfl) ?_
  obtain ⟨hi6, hT⟩ := hT
  refine va_iald (f := S0.2.1 10) hx hb hK hP 10 0 mat_10 rfl hi6 dX9_unlink_5 ?_
  refine lv_bipush (v := 101) hx hb dX9_unlink_6 (by decide) ?_
  refine lv_irem hx hb dX9_unlink_8 (by decide) ?_
  refine lv_topi (fun v2_7 ev2_7 => ?_)
  replace hT := hT v2_7 ev2_7
  refine lv_istore_n (lv' := [(2, .int v2_7), (0, .ref (ad 0)), (1, .int a1)]) hx hb dX9_unlink_9 rfl hl (by decide) rfl (fun ls hl => ?_)
  refine lv_aload_n hx hb dX9_unlink_10 rfl (lv_at hl 1 rfl) ?_
  refine mg_before hx hb hts hown hK hP dX9_unlink_11 ?_
  refine lv_iload_n hx hb dX9_unlink_14 rfl (lv_at hl 2 rfl) ?_
  obtain ⟨hi8, hT⟩ := hT
  refine va_iald (f := S0.2.1 12) hx hb hK hP 12 0 mat_12 rfl hi8 dX9_unlink_15 ?_
  refine lv_iconst (v := (-1)) hx hb dX9_unlink_16 (by decide) ?_
  refine lv_icmp_ne (tgt := 35) hx hb dX9_unlink_17 (by decide) (fun c9 => ?_) (fun c9 => ?_)
  · replace hT := hT.1 c9
    refine lv_aload_n hx hb dX9_unlink_35 rfl (lv_at hl 1 rfl) ?_
    refine mg_after hx hb hts hown hK hP dX9_unlink_36 ?_
    refine lv_aload_n hx hb dX9_unlink_39 rfl (lv_at hl 1 rfl) ?_
    refine mg_before hx hb hts hown hK hP dX9_unlink_40 ?_
    refine lv_iload_n hx hb dX9_unlink_43 rfl (lv_at hl 2 rfl) ?_
    obtain ⟨hi10, hT⟩ := hT
    refine va_iald (f := S0.2.1 12) hx hb hK hP 12 0 mat_12 rfl hi10 dX9_unlink_44 ?_
    refine lv_aload_n hx hb dX9_unlink_45 rfl (lv_at hl 1 rfl) ?_
    refine mg_after hx hb hts hown hK hP dX9_unlink_46 ?_
    refine lv_iload_n hx hb dX9_unlink_49 rfl (lv_at hl 2 rfl) ?_
    obtain ⟨hi11, hT⟩ := hT
    refine va_iald (f := S0.2.1 11) hx hb hK hP 11 0 mat_11 rfl hi11 dX9_unlink_50 ?_
    obtain ⟨hi12, hT⟩ := hT
    refine va_iast (f := S0.2.1 11) hx hb hK hP hD hS 11 0 mat_11 rfl hi12 dX9_unlink_51 (fun H locs hP hD hS => ?_)
    replace hP := msetP_11 hP
    replace hD := msetD_11 hD
    rw [hB52] at hT
    exact hT _ _ _ hP hD hS (lv_sub hl [1, 2] rfl)
  · replace hT := hT.2 c9
    refine lv_aload_n hx hb dX9_unlink_20 rfl (lv_at hl 1 rfl) ?_
    refine mg_heads hx hb hts hown hK hP dX9_unlink_21 ?_
    refine lv_iload_n hx hb dX9_unlink_24 rfl (lv_at hl 0 rfl) ?_
    refine lv_aload_n hx hb dX9_unlink_25 rfl (lv_at hl 1 rfl) ?_
    refine mg_after hx hb hts hown hK hP dX9_unlink_26 ?_
    refine lv_iload_n hx hb dX9_unlink_29 rfl (lv_at hl 2 rfl) ?_
    obtain ⟨hi13, hT⟩ := hT
    refine va_iald (f := S0.2.1 11) hx hb hK hP 11 0 mat_11 rfl hi13 dX9_unlink_30 ?_
    obtain ⟨hi14, hT⟩ := hT
    refine va_iast (f := S0.2.1 13) hx hb hK hP hD hS 13 0 mat_13 rfl hi14 dX9_unlink_31 (fun H locs hP hD hS => ?_)
    replace hP := msetP_13 hP
    replace hD := msetD_13 hD
    refine lv_goto (tgt := 52) hx hb dX9_unlink_32 (by decide) ?_
    rw [hB52] at hT
    exact hT _ _ _ hP hD hS (lv_sub hl [1, 2] rfl)
abbrev mX_link (l : Launch) (S : MS) (a1 : Int32) (a2 : Int32) (post : MS → Prop) : Prop := mCtV l yX9_link cX9_link 4 0 0 (fun ad => [.int a1, .int a2]) S post
def mT_link_e (l : Launch) (a1 : Int32) (a2 : Int32) (post : MS → Prop) (S0 : MS) : Prop := vp_in a1 20000 ∧ ∀ v3_2 : Int32, v3_2 = a2 - a2 / 101 * 101 → vp_in a1 20000 ∧ vp_in v3_2 101 ∧ vp_in a1 20000 ∧ vp_in v3_2 101 ∧ (S0.2.1 13 v3_2.toNatClampNeg = (-1) → vp_in v3_2 101 ∧ post (ma (ma (ma (ma S0 10 (upd (S0.2.1 10) a1.toNatClampNeg a2)) 12 (upd (S0.2.1 12) a1.toNatClampNeg (-1))) 11 (upd (S0.2.1 11) a1.toNatClampNeg (S0.2.1 13 v3_2.toNatClampNeg))) 13 (upd (S0.2.1 13) v3_2.toNatClampNeg a1))) ∧ (¬ S0.2.1 13 v3_2.toNatClampNeg = (-1) → vp_in v3_2 101 ∧ vp_in (S0.2.1 13 v3_2.toNatClampNeg) 20000 ∧ vp_in v3_2 101 ∧ post (ma (ma (ma (ma (ma S0 10 (upd (S0.2.1 10) a1.toNatClampNeg a2)) 12 (upd (S0.2.1 12) a1.toNatClampNeg (-1))) 11 (upd (S0.2.1 11) a1.toNatClampNeg (S0.2.1 13 v3_2.toNatClampNeg))) 12 (upd (upd (S0.2.1 12) a1.toNatClampNeg (-1)) (S0.2.1 13 v3_2.toNatClampNeg).toNatClampNeg a1)) 13 (upd (S0.2.1 13) v3_2.toNatClampNeg a1)))
set_option maxHeartbeats 4000000 in
set_option maxRecDepth 100000 in
theorem m_link (l : Launch) (S0 : MS) (a1 : Int32) (a2 : Int32) (post : MS → Prop) (h : mT_link_e l a1 a2 post S0) : mX_link l S0 a1 a2 post := by
  refine msetV rfl (fun _ => Nat.le_of_ble_eq_true rfl) ?_
  intro p e s m args below meth c D ad cI cZ cL A Q hx hb hml hown hts hK hA hret H locs ls hP hD hS hl
  replace hl : lv_has ls 4 [(0, .ref (ad 0)), (1, .int a1), (2, .int a2)] := hl
  have hT := h
  unfold mT_link_e at hT
  refine lv_aload_n hx hb dX9_link_0 rfl (lv_at hl 0 rfl) ?_
  refine mg_far hx hb hts hown hK hP dX9_link_1 ?_
  refine lv_iload_n hx hb dX9_link_4 rfl (lv_at hl 1 rfl) ?_
  refine lv_iload_n hx hb dX9_link_5 rfl (lv_at hl 2 rfl) ?_
  obtain ⟨hi1, hT⟩ := hT
  refine va_iast (f := S0.2.1 10) hx hb hK hP hD hS 10 0 mat_10 rfl hi1 dX9_link_6 (fun H locs hP hD hS => ?_)
  replace hP := msetP_10 hP
  replace hD := msetD_10 hD
  refine lv_iload_n hx hb dX9_link_7 rfl (lv_at hl 2 rfl) ?_
  refine lv_bipush (v := 101) hx hb dX9_link_8 (by decide) ?_
  refine lv_irem hx hb dX9_link_10 (by decide) ?_
  refine lv_topi (fun v3_2 ev3_2 => ?_)
  replace hT := hT v3_2 ev3_2
  refine lv_istore_n (lv' := [(3, .int v3_2), (0, .ref (ad 0)), (1, .int a1), (2, .int a2)]) hx hb dX9_link_11 rfl hl (by decide) rfl (fun ls hl => ?_)
  refine lv_aload_n hx hb dX9_link_12 rfl (lv_at hl 1 rfl) ?_
  refine mg_before hx hb hts hown hK hP dX9_link_13 ?_
  refine lv_iload_n hx hb dX9_link_16 rfl (lv_at hl 2 rfl) ?_
  refine lv_iconst (v := (-1)) hx hb dX9_link_17 (by decide) ?_
  obtain ⟨hi3, hT⟩ := hT
  refine va_iast (f := S0.2.1 12) hx hb hK hP hD hS 12 0 mat_12 rfl hi3 dX9_link_18 (fun H locs hP hD hS => ?_)
  replace hP := msetP_12 hP
  replace hD := msetD_12 hD
  refine lv_aload_n hx hb dX9_link_19 rfl (lv_at hl 1 rfl) ?_
  refine mg_after hx hb hts hown hK hP dX9_link_20 ?_
  refine lv_iload_n hx hb dX9_link_23 rfl (lv_at hl 2 rfl) ?_
  refine lv_aload_n hx hb dX9_link_24 rfl (lv_at hl 1 rfl) ?_
  refine mg_heads hx hb hts hown hK hP dX9_link_25 ?_
  refine lv_iload_n hx hb dX9_link_28 rfl (lv_at hl 0 rfl) ?_
  obtain ⟨hi4, hT⟩ := hT
  refine va_iald (f := S0.2.1 13) hx hb hK hP 13 0 mat_13 rfl hi4 dX9_link_29 ?_
  obtain ⟨hi5, hT⟩ := hT
  refine va_iast (f := S0.2.1 11) hx hb hK hP hD hS 11 0 mat_11 rfl hi5 dX9_link_30 (fun H locs hP hD hS => ?_)
  replace hP := msetP_11 hP
  replace hD := msetD_11 hD
  refine lv_aload_n hx hb dX9_link_31 rfl (lv_at hl 1 rfl) ?_
  refine mg_heads hx hb hts hown hK hP dX9_link_32 ?_
  refine lv_iload_n hx hb dX9_link_35 rfl (lv_at hl 0 rfl) ?_
  obtain ⟨hi6, hT⟩ := hT
  refine va_iald (f := S0.2.1 13) hx hb hK hP 13 0 mat_13 rfl hi6 dX9_link_36 ?_
  refine lv_iconst (v := (-1)) hx hb dX9_link_37 (by decide) ?_
  refine lv_icmp_eq (tgt := 53) hx hb dX9_link_38 (by decide) (fun c7 => ?_) (fun c7 => ?_)
  · replace hT := hT.1 c7
    refine lv_aload_n hx hb dX9_link_53 rfl (lv_at hl 1 rfl) ?_
    refine mg_heads hx hb hts hown hK hP dX9_link_54 ?_
    refine lv_iload_n hx hb dX9_link_57 rfl (lv_at hl 0 rfl) ?_
    refine lv_iload_n hx hb dX9_link_58 rfl (lv_at hl 2 rfl) ?_
    obtain ⟨hi8, hT⟩ := hT
    refine va_iast (f := S0.2.1 13) hx hb hK hP hD hS 13 0 mat_13 rfl hi8 dX9_link_59 (fun H locs hP hD hS => ?_)
    replace hP := msetP_13 hP
    replace hD := msetD_13 hD
    exact hret _ _ _ _ _ hP hD hS hT dX9_link_60
  · replace hT := hT.2 c7
    refine lv_aload_n hx hb dX9_link_41 rfl (lv_at hl 1 rfl) ?_
    refine mg_before hx hb hts hown hK hP dX9_link_42 ?_
    refine lv_aload_n hx hb dX9_link_45 rfl (lv_at hl 1 rfl) ?_
    refine mg_heads hx hb hts hown hK hP dX9_link_46 ?_
    refine lv_iload_n hx hb dX9_link_49 rfl (lv_at hl 0 rfl) ?_
    obtain ⟨hi9, hT⟩ := hT
    refine va_iald (f := S0.2.1 13) hx hb hK hP 13 0 mat_13 rfl hi9 dX9_link_50 ?_
    refine lv_iload_n hx hb dX9_link_51 rfl (lv_at hl 2 rfl) ?_
    obtain ⟨hi10, hT⟩ := hT
    refine va_iast (f := upd (S0.2.1 12) a1.toNatClampNeg (-1)) hx hb hK hP hD hS 12 0 mat_12 rfl hi10 dX9_link_52 (fun H locs hP hD hS => ?_)
    replace hP := msetP_12 hP
    replace hD := msetD_12 hD
    refine lv_aload_n hx hb dX9_link_53 rfl (lv_at hl 1 rfl) ?_
    refine mg_heads hx hb hts hown hK hP dX9_link_54 ?_
    refine lv_iload_n hx hb dX9_link_57 rfl (lv_at hl 0 rfl) ?_
    refine lv_iload_n hx hb dX9_link_58 rfl (lv_at hl 2 rfl) ?_
    obtain ⟨hi11, hT⟩ := hT
    refine va_iast (f := S0.2.1 13) hx hb hK hP hD hS 13 0 mat_13 rfl hi11 dX9_link_59 (fun H locs hP hD hS => ?_)
    replace hP := msetP_13 hP
    replace hD := msetD_13 hD
    exact hret _ _ _ _ _ hP hD hS hT dX9_link_60
