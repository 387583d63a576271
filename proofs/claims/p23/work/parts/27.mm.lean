abbrev mX_about (l : Launch) (S : MS) (post : Int32 → MS → Prop) : Prop := mCtI l yX9_about cX9_about 5 1 22 (fun ad => []) S post
def mT_about_7 (l : Launch) (post : Int32 → MS → Prop) (B7 : MS → Int32 → Prop) (B16 : MS → Int32 → Int32 → Prop) (B121 : MS → Int32 → Prop) (S : MS) (x1 : Int32) : Prop := (5 ≤ x1 → B121 S 0) ∧ (¬ 5 ≤ x1 → ∀ v2_2 : Int32, v2_2 = x1 + 1 → B16 S x1 v2_2)
def mT_about_16 (l : Launch) (post : Int32 → MS → Prop) (B7 : MS → Int32 → Prop) (B16 : MS → Int32 → Int32 → Prop) (B121 : MS → Int32 → Prop) (S : MS) (x1 : Int32) (x2 : Int32) : Prop := (5 ≤ x2 → B7 S (x1 + 1)) ∧ (¬ 5 ≤ x2 → vp_in ((5 * x1) + x2) 25 ∧ ∀ v3_5 : Int32, v3_5 = S.2.1 4 ((5 * x1) + x2).toNatClampNeg → vp_in ((5 * x1) + x2) 25 ∧ ∀ v4_7 : Int32, v4_7 = S.2.1 5 ((5 * x1) + x2).toNatClampNeg → vp_in ((5 * x2) + x1) 25 ∧ vp_in ((5 * x1) + x2) 25 ∧ vp_in ((5 * x2) + x1) 25 ∧ vp_in ((5 * x1) + x2) 25 ∧ vp_in ((5 * x2) + x1) 25 ∧ vp_in ((5 * x2) + x1) 25 ∧ B16 (ma (ma (ma (ma S 4 (upd (S.2.1 4) ((5 * x1) + x2).toNatClampNeg (S.2.1 4 ((5 * x2) + x1).toNatClampNeg))) 5 (upd (S.2.1 5) ((5 * x1) + x2).toNatClampNeg (vp_nar .boolean (S.2.1 5 ((5 * x2) + x1).toNatClampNeg)))) 4 (upd (upd (S.2.1 4) ((5 * x1) + x2).toNatClampNeg (S.2.1 4 ((5 * x2) + x1).toNatClampNeg)) ((5 * x2) + x1).toNatClampNeg v3_5)) 5 (upd (upd (S.2.1 5) ((5 * x1) + x2).toNatClampNeg (vp_nar .boolean (S.2.1 5 ((5 * x2) + x1).toNatClampNeg))) ((5 * x2) + x1).toNatClampNeg (vp_nar .boolean v4_7))) x1 (x2 + 1))
def mT_about_121 (l : Launch) (post : Int32 → MS → Prop) (B7 : MS → Int32 → Prop) (B16 : MS → Int32 → Int32 → Prop) (B121 : MS → Int32 → Prop) (S : MS) (x1 : Int32) : Prop := (S.1 1 ≤ x1 → mX_lanesThere l (mf (mf S 4 0) 5 0) (fun r16 S15 => post r16 S15)) ∧ (¬ S.1 1 ≤ x1 → vp_in x1 7 ∧ ∀ v2_18 : Int32, v2_18 = S.2.1 2 x1.toNatClampNeg → vp_in x1 7 ∧ vp_in x1 7 ∧ vp_in x1 7 ∧ B121 (ma (ma S 2 (upd (S.2.1 2) x1.toNatClampNeg (S.2.1 3 x1.toNatClampNeg))) 3 (upd (S.2.1 3) x1.toNatClampNeg v2_18)) (x1 + 1))
def mT_about_e (l : Launch) (post : Int32 → MS → Prop) (B7 : MS → Int32 → Prop) (B16 : MS → Int32 → Int32 → Prop) (B121 : MS → Int32 → Prop) (S0 : MS) : Prop := B7 (mf S0 3 0) 0
set_option maxHeartbeats 4000000 in
set_option maxRecDepth 100000 in
theorem m_about (l : Launch) (S0 : MS) (post : Int32 → MS → Prop) (h : ∀ (B7 : MS → Int32 → Prop) (B16 : MS → Int32 → Int32 → Prop) (B121 : MS → Int32 → Prop), (∀ (S : MS) (x1 : Int32), mT_about_7 l post B7 B16 B121 S x1 → B7 S x1) → (∀ (S : MS) (x1 : Int32) (x2 : Int32), mT_about_16 l post B7 B16 B121 S x1 x2 → B16 S x1 x2) → (∀ (S : MS) (x1 : Int32), mT_about_121 l post B7 B16 B121 S x1 → B121 S x1) → mT_about_e l post B7 B16 B121 S0) : mX_about l S0 post := by
  refine msetI rfl (fun _ => Nat.le_of_ble_eq_true rfl) ?_
  intro p e s m args below meth c D ad cI cZ cL A Q hx hb hml hown hts hK hA hret H locs ls hP hD hS hl
  replace hl : lv_has ls 5 [(0, .ref (ad 0))] := hl
  obtain ⟨B7, hB7⟩ : ∃ B : MS → Int32 → Prop, B = (fun S x1 => ∀ (H : Heap) (locs : List Loc) (ls : Array Slot), va_P D vwCl (mW ad cI cZ cL S) H → va_D A (mW ad cI cZ cL S) → va_S A s.heap H locs → lv_has ls 5 [(0, .ref (ad 0)), (1, .int x1)] → W p l e (mrm 1 22) s m args below meth c H locs 0 0 Q (F0 m 7 ls [])) := ⟨_, rfl⟩
  obtain ⟨B16, hB16⟩ : ∃ B : MS → Int32 → Int32 → Prop, B = (fun S x1 x2 => ∀ (H : Heap) (locs : List Loc) (ls : Array Slot), va_P D vwCl (mW ad cI cZ cL S) H → va_D A (mW ad cI cZ cL S) → va_S A s.heap H locs → lv_has ls 5 [(0, .ref (ad 0)), (1, .int x1), (2, .int x2)] → W p l e (mrm 1 22) s m args below meth c H locs 0 0 Q (F0 m 16 ls [])) := ⟨_, rfl⟩
  obtain ⟨B121, hB121⟩ : ∃ B : MS → Int32 → Prop, B = (fun S x1 => ∀ (H : Heap) (locs : List Loc) (ls : Array Slot), va_P D vwCl (mW ad cI cZ cL S) H → va_D A (mW ad cI cZ cL S) → va_S A s.heap H locs → lv_has ls 5 [(0, .ref (ad 0)), (1, .int x1)] → W p l e (mrm 1 22) s m args below meth c H locs 0 0 Q (F0 m 121 ls [])) := ⟨_, rfl⟩
  have hT : mT_about_e l post B7 B16 B121 S0 := by
    refine h B7 B16 B121 ?_ ?_ ?_
    · clear hP hD hS hl H locs ls
      intro S x1 hT
      unfold mT_about_7 at hT
      rw [hB7]
      intro H locs ls hP hD hS hl
      refine lv_iload_n hx hb dX9_about_7 rfl (lv_at hl 1 rfl) ?_
      refine lv_iconst (v := 5) hx hb dX9_about_8 (by decide) ?_
      refine lv_icmp_ge (tgt := 119) hx hb dX9_about_9 (by decide) (fun c1 => ?_) (fun c1 => ?_)
      · replace hT := hT.1 c1
        refine lv_iconst (v := 0) hx hb dX9_about_119 (by decide) ?_
        refine lv_istore_n (lv' := [(1, .int 0), (0, .ref (ad 0))]) hx hb dX9_about_120 rfl hl (by decide) rfl (fun ls hl => ?_)
        rw [hB121] at hT
        exact hT _ _ _ hP hD hS (lv_sub hl [1, 0] rfl)
      · replace hT := hT.2 c1
        refine lv_iload_n hx hb dX9_about_12 rfl (lv_at hl 1 rfl) ?_
        refine lv_iconst (v := 1) hx hb dX9_about_13 (by decide) ?_
        refine lv_iadd hx hb dX9_about_14 ?_
        refine lv_topi (fun v2_2 ev2_2 => ?_)
        replace hT := hT v2_2 ev2_2
        refine lv_istore_n (lv' := [(2, .int v2_2), (0, .ref (ad 0)), (1, .int x1)]) hx hb dX9_about_15 rfl hl (by decide) rfl (fun ls hl => ?_)
        rw [hB16] at hT
        exact hT _ _ _ hP hD hS (lv_sub hl [1, 2, 0] rfl)
    · clear hP hD hS hl H locs ls
      intro S x1 x2 hT
      unfold mT_about_16 at hT
      rw [hB16]
      intro H locs ls hP hD hS hl
      refine lv_iload_n hx hb dX9_about_16 rfl (lv_at hl 2 rfl) ?_
      refine lv_iconst (v := 5) hx hb dX9_about_17 (by decide) ?_
      refine lv_icmp_ge (tgt := 113) hx hb dX9_about_18 (by decide) (fun c3 => ?_) (fun c3 => ?_)
      · replace hT := hT.1 c3
        refine lv_iinc (v := x1 + 1) (lv' := [(1, .int (x1 + 1)), (0, .ref (ad 0)), (2, .int x2)]) hx hb dX9_about_113 hl (k := 1) rfl rfl (by decide) rfl (fun ls hl => ?_)
        refine lv_goto (tgt := 7) hx hb dX9_about_116 (by decide) ?_
        rw [hB7] at hT
        exact hT _ _ _ hP hD hS (lv_sub hl [1, 0] rfl)
      · replace hT := hT.2 c3
        refine lv_aload_n hx hb dX9_about_21 rfl (lv_at hl 0 rfl) ?_
        refine mg_costs hx hb hts hown hK hP dX9_about_22 ?_
        refine lv_iconst (v := 5) hx hb dX9_about_25 (by decide) ?_
        refine lv_iload_n hx hb dX9_about_26 rfl (lv_at hl 1 rfl) ?_
        refine lv_imul hx hb dX9_about_27 ?_
        refine lv_iload_n hx hb dX9_about_28 rfl (lv_at hl 2 rfl) ?_
        refine lv_iadd hx hb dX9_about_29 ?_
        obtain ⟨hi4, hT⟩ := hT
        refine va_iald (f := S.2.1 4) hx hb hK hP 4 0 mat_4 rfl hi4 dX9_about_30 ?_
        refine lv_topi (fun v3_5 ev3_5 => ?_)
        replace hT := hT v3_5 ev3_5
        refine lv_istore_n (lv' := [(3, .int v3_5), (0, .ref (ad 0)), (1, .int x1), (2, .int x2)]) hx hb dX9_about_31 rfl hl (by decide) rfl (fun ls hl => ?_)
        refine lv_aload_n hx hb dX9_about_32 rfl (lv_at hl 1 rfl) ?_
        refine mg_isStrong hx hb hts hown hK hP dX9_about_33 ?_
        refine lv_iconst (v := 5) hx hb dX9_about_36 (by decide) ?_
        refine lv_iload_n hx hb dX9_about_37 rfl (lv_at hl 2 rfl) ?_
        refine lv_imul hx hb dX9_about_38 ?_
        refine lv_iload_n hx hb dX9_about_39 rfl (lv_at hl 3 rfl) ?_
        refine lv_iadd hx hb dX9_about_40 ?_
        obtain ⟨hi6, hT⟩ := hT
        refine va_zald (f := S.2.1 5) hx hb hK hP 5 1 mat_5 rfl hi6 dX9_about_41 ?_
        refine lv_topi (fun v4_7 ev4_7 => ?_)
        replace hT := hT v4_7 ev4_7
        refine lv_istore (lv' := [(4, .int v4_7), (3, .int v3_5), (0, .ref (ad 0)), (1, .int x1), (2, .int x2)]) hx hb dX9_about_42 hl (by decide) rfl (fun ls hl => ?_)
        refine lv_aload_n hx hb dX9_about_44 rfl (lv_at hl 2 rfl) ?_
        refine mg_costs hx hb hts hown hK hP dX9_about_45 ?_
        refine lv_iconst (v := 5) hx hb dX9_about_48 (by decide) ?_
        refine lv_iload_n hx hb dX9_about_49 rfl (lv_at hl 3 rfl) ?_
        refine lv_imul hx hb dX9_about_50 ?_
        refine lv_iload_n hx hb dX9_about_51 rfl (lv_at hl 4 rfl) ?_
        refine lv_iadd hx hb dX9_about_52 ?_
        refine lv_aload_n hx hb dX9_about_53 rfl (lv_at hl 2 rfl) ?_
        refine mg_costs hx hb hts hown hK hP dX9_about_54 ?_
        refine lv_iconst (v := 5) hx hb dX9_about_57 (by decide) ?_
        refine lv_iload_n hx hb dX9_about_58 rfl (lv_at hl 4 rfl) ?_
        refine lv_imul hx hb dX9_about_59 ?_
        refine lv_iload_n hx hb dX9_about_60 rfl (lv_at hl 3 rfl) ?_
        refine lv_iadd hx hb dX9_about_61 ?_
        obtain ⟨hi8, hT⟩ := hT
        refine va_iald (f := S.2.1 4) hx hb hK hP 4 0 mat_4 rfl hi8 dX9_about_62 ?_
        obtain ⟨hi9, hT⟩ := hT
        refine va_iast (f := S.2.1 4) hx hb hK hP hD hS 4 0 mat_4 rfl hi9 dX9_about_63 (fun H locs hP hD hS => ?_)
        replace hP := msetP_4 hP
        replace hD := msetD_4 hD
        refine lv_aload_n hx hb dX9_about_64 rfl (lv_at hl 2 rfl) ?_
        refine mg_isStrong hx hb hts hown hK hP dX9_about_65 ?_
        refine lv_iconst (v := 5) hx hb dX9_about_68 (by decide) ?_
        refine lv_iload_n hx hb dX9_about_69 rfl (lv_at hl 3 rfl) ?_
        refine lv_imul hx hb dX9_about_70 ?_
        refine lv_iload_n hx hb dX9_about_71 rfl (lv_at hl 4 rfl) ?_
        refine lv_iadd hx hb dX9_about_72 ?_
        refine lv_aload_n hx hb dX9_about_73 rfl (lv_at hl 2 rfl) ?_
        refine mg_isStrong hx hb hts hown hK hP dX9_about_74 ?_
        refine lv_iconst (v := 5) hx hb dX9_about_77 (by decide) ?_
        refine lv_iload_n hx hb dX9_about_78 rfl (lv_at hl 4 rfl) ?_
        refine lv_imul hx hb dX9_about_79 ?_
        refine lv_iload_n hx hb dX9_about_80 rfl (lv_at hl 3 rfl) ?_
        refine lv_iadd hx hb dX9_about_81 ?_
        obtain ⟨hi10, hT⟩ := hT
        refine va_zald (f := S.2.1 5) hx hb hK hP 5 1 mat_5 rfl hi10 dX9_about_82 ?_
        obtain ⟨hi11, hT⟩ := hT
        refine va_zast (f := S.2.1 5) hx hb hK hP hD hS 5 1 mat_5 rfl hi11 dX9_about_83 (fun H locs hP hD hS => ?_)
        replace hP := msetP_5 hP
        replace hD := msetD_5 hD
        refine lv_aload_n hx hb dX9_about_84 rfl (lv_at hl 2 rfl) ?_
        refine mg_costs hx hb hts hown hK hP dX9_about_85 ?_
        refine lv_iconst (v := 5) hx hb dX9_about_88 (by decide) ?_
        refine lv_iload_n hx hb dX9_about_89 rfl (lv_at hl 4 rfl) ?_
        refine lv_imul hx hb dX9_about_90 ?_
        refine lv_iload_n hx hb dX9_about_91 rfl (lv_at hl 3 rfl) ?_
        refine lv_iadd hx hb dX9_about_92 ?_
        refine lv_iload_n hx hb dX9_about_93 rfl (lv_at hl 1 rfl) ?_
        obtain ⟨hi12, hT⟩ := hT
        refine va_iast (f := upd (S.2.1 4) ((5 * x1) + x2).toNatClampNeg (S.2.1 4 ((5 * x2) + x1).toNatClampNeg)) hx hb hK hP hD hS 4 0 mat_4 rfl hi12 dX9_about_94 (fun H locs hP hD hS => ?_)
        replace hP := msetP_4 hP
        replace hD := msetD_4 hD
        refine lv_aload_n hx hb dX9_about_95 rfl (lv_at hl 2 rfl) ?_
        refine mg_isStrong hx hb hts hown hK hP dX9_about_96 ?_
        refine lv_iconst (v := 5) hx hb dX9_about_99 (by decide) ?_
        refine lv_iload_n hx hb dX9_about_100 rfl (lv_at hl 4 rfl) ?_
        refine lv_imul hx hb dX9_about_101 ?_
        refine lv_iload_n hx hb dX9_about_102 rfl (lv_at hl 3 rfl) ?_
        refine lv_iadd hx hb dX9_about_103 ?_
        refine lv_iload hx hb dX9_about_104 (lv_at hl 0 rfl) ?_
        obtain ⟨hi13, hT⟩ := hT
        refine va_zast (f := upd (S.2.1 5) ((5 * x1) + x2).toNatClampNeg (vp_nar .boolean (S.2.1 5 ((5 * x2) + x1).toNatClampNeg))) hx hb hK hP hD hS 5 1 mat_5 rfl hi13 dX9_about_106 (fun H locs hP hD hS => ?_)
        replace hP := msetP_5 hP
        replace hD := msetD_5 hD
        refine lv_iinc (v := x2 + 1) (lv' := [(2, .int (x2 + 1)), (4, .int v4_7), (3, .int v3_5), (0, .ref (ad 0)), (1, .int x1)]) hx hb dX9_about_107 hl (k := 4) rfl rfl (by decide) rfl (fun ls hl => ?_)
        refine lv_goto (tgt := 16) hx hb dX9_about_110 (by decide) ?_
        rw [hB16] at hT
        exact hT _ _ _ hP hD hS (lv_sub hl [3, 4, 0] rfl)
    · clear hP hD hS hl H locs ls
      intro S x1 hT
      unfold mT_about_121 at hT
      rw [hB121]
      intro H locs ls hP hD hS hl
      refine lv_iload_n hx hb dX9_about_121 rfl (lv_at hl 1 rfl) ?_
      refine lv_aload_n hx hb dX9_about_122 rfl (lv_at hl 0 rfl) ?_
      refine mg_discs (v := S.1 1) hx hb hts hown hK hP rfl dX9_about_123 ?_
      refine lv_icmp_ge (tgt := 161) hx hb dX9_about_126 (by decide) (fun c14 => ?_) (fun c14 => ?_)
      · replace hT := hT.1 c14
        refine lv_aload_n hx hb dX9_about_161 rfl (lv_at hl 0 rfl) ?_
        refine lv_iconst (v := 0) hx hb dX9_about_162 (by decide) ?_
        refine mp_undos hx hb hts hown hK hP hD hS dX9_about_163 (fun H locs hP hD hS => ?_)
        refine lv_aload_n hx hb dX9_about_166 rfl (lv_at hl 0 rfl) ?_
        refine lv_iconst (v := 0) hx hb dX9_about_167 (by decide) ?_
        refine mp_redos hx hb hts hown hK hP hD hS dX9_about_168 (fun H locs hP hD hS => ?_)
        refine lv_aload_n hx hb dX9_about_171 rfl (lv_at hl 0 rfl) ?_
        refine mcallI (n := 0) (rest := []) hT hx hb hml hown hts hK hA hP hD hS hl gg_173 hd_X9_lanesThere ⟨Nat.le_of_ble_eq_true rfl, Nat.le_of_ble_eq_true rfl⟩ rfl rfl (Nat.le_of_ble_eq_true rfl) dX9_about_172 (Nat.zero_le _) (Nat.zero_le _) (fun r16 S15 H locs hP hD hS hT => ?_)
        exact hret _ _ _ _ _ _ hP hD hS hT dX9_about_175
      · replace hT := hT.2 c14
        refine lv_aload_n hx hb dX9_about_129 rfl (lv_at hl 0 rfl) ?_
        refine mg_stand hx hb hts hown hK hP dX9_about_130 ?_
        refine lv_iload_n hx hb dX9_about_133 rfl (lv_at hl 1 rfl) ?_
        obtain ⟨hi17, hT⟩ := hT
        refine va_iald (f := S.2.1 2) hx hb hK hP 2 0 mat_2 rfl hi17 dX9_about_134 ?_
        refine lv_topi (fun v2_18 ev2_18 => ?_)
        replace hT := hT v2_18 ev2_18
        refine lv_istore_n (lv' := [(2, .int v2_18), (0, .ref (ad 0)), (1, .int x1)]) hx hb dX9_about_135 rfl hl (by decide) rfl (fun ls hl => ?_)
        refine lv_aload_n hx hb dX9_about_136 rfl (lv_at hl 1 rfl) ?_
        refine mg_stand hx hb hts hown hK hP dX9_about_137 ?_
        refine lv_iload_n hx hb dX9_about_140 rfl (lv_at hl 2 rfl) ?_
        refine lv_aload_n hx hb dX9_about_141 rfl (lv_at hl 1 rfl) ?_
        refine mg_goal hx hb hts hown hK hP dX9_about_142 ?_
        refine lv_iload_n hx hb dX9_about_145 rfl (lv_at hl 2 rfl) ?_
        obtain ⟨hi19, hT⟩ := hT
        refine va_iald (f := S.2.1 3) hx hb hK hP 3 0 mat_3 rfl hi19 dX9_about_146 ?_
        obtain ⟨hi20, hT⟩ := hT
        refine va_iast (f := S.2.1 2) hx hb hK hP hD hS 2 0 mat_2 rfl hi20 dX9_about_147 (fun H locs hP hD hS => ?_)
        replace hP := msetP_2 hP
        replace hD := msetD_2 hD
        refine lv_aload_n hx hb dX9_about_148 rfl (lv_at hl 1 rfl) ?_
        refine mg_goal hx hb hts hown hK hP dX9_about_149 ?_
        refine lv_iload_n hx hb dX9_about_152 rfl (lv_at hl 2 rfl) ?_
        refine lv_iload_n hx hb dX9_about_153 rfl (lv_at hl 0 rfl) ?_
        obtain ⟨hi21, hT⟩ := hT
        refine va_iast (f := S.2.1 3) hx hb hK hP hD hS 3 0 mat_3 rfl hi21 dX9_about_154 (fun H locs hP hD hS => ?_)
        replace hP := msetP_3 hP
        replace hD := msetD_3 hD
        refine lv_iinc (v := x1 + 1) (lv' := [(1, .int (x1 + 1)), (2, .int v2_18), (0, .ref (ad 0))]) hx hb dX9_about_155 hl (k := 2) rfl rfl (by decide) rfl (fun ls hl => ?_)
        refine lv_goto (tgt := 121) hx hb dX9_about_158 (by decide) ?_
        rw [hB121] at hT
        exact hT _ _ _ hP hD hS (lv_sub hl [2, 0] rfl)
  unfold mT_about_e at hT
  refine lv_aload_n hx hb dX9_about_0 rfl (lv_at hl 0 rfl) ?_
  refine lv_iconst (v := 0) hx hb dX9_about_1 (by decide) ?_
  refine mp_thrown hx hb hts hown hK hP hD hS dX9_about_2 (fun H locs hP hD hS => ?_)
  refine lv_iconst (v := 0) hx hb dX9_about_5 (by decide) ?_
  refine lv_istore_n (lv' := [(1, .int 0), (0, .ref (ad 0))]) hx hb dX9_about_6 rfl hl (by decide) rfl (fun ls hl => ?_)
  rw [hB7] at hT
  exact hT _ _ _ hP hD hS (lv_sub hl [1, 0] rfl)
abbrev mX_scheme (l : Launch) (S : MS) (post : Int32 → MS → Prop) : Prop := mCtI l yX9_scheme cX9_scheme 1 1 21 (fun ad => []) S post
def mT_scheme_e (l : Launch) (post : Int32 → MS → Prop) (S0 : MS) : Prop := (¬ S0.1 9 = 8 → vp_in (S0.1 9) 8 ∧ post (((S0.1 9) + 1) - 1) (mf (mf (ma (mf S0 3 0) 29 (upd (S0.2.1 29) (S0.1 9).toNatClampNeg 0)) 9 ((S0.1 9) + 1)) 2 0)) ∧ (S0.1 9 = 8 → mX_no l (mf S0 3 0) 5 (fun r4 S3 => post r4 S3))
set_option maxHeartbeats 4000000 in
set_option maxRecDepth 100000 in
theorem m_scheme (l : Launch) (S0 : MS) (post : Int32 → MS → Prop) (h : mT_scheme_e l post S0) : mX_scheme l S0 post := by
  refine msetI rfl (fun _ => Nat.le_of_ble_eq_true rfl) ?_
  intro p e s m args below meth c D ad cI cZ cL A Q hx hb hml hown hts hK hA hret H locs ls hP hD hS hl
  replace hl : lv_has ls 1 [(0, .ref (ad 0))] := hl
  have hT := h
  unfold mT_scheme_e at hT
  refine lv_aload_n hx hb dX9_scheme_0 rfl (lv_at hl 0 rfl) ?_
  refine lv_iconst (v := 0) hx hb dX9_scheme_1 (by decide) ?_
  refine mp_thrown hx hb hts hown hK hP hD hS dX9_scheme_2 (fun H locs hP hD hS => ?_)
  refine lv_aload_n hx hb dX9_scheme_5 rfl (lv_at hl 0 rfl) ?_
  refine mg_schemes (v := S0.1 9) hx hb hts hown hK hP rfl dX9_scheme_6 ?_
  refine lv_bipush (v := 8) hx hb dX9_scheme_9 (by decide) ?_
  refine lv_icmp_ne (tgt := 20) hx hb dX9_scheme_11 (by decide) (fun c1 => ?_) (fun c1 => ?_)
  · replace hT := hT.1 c1
    refine lv_aload_n hx hb dX9_scheme_20 rfl (lv_at hl 0 rfl) ?_
    refine mg_stepMany hx hb hts hown hK hP dX9_scheme_21 ?_
    refine lv_aload_n hx hb dX9_scheme_24 rfl (lv_at hl 0 rfl) ?_
    refine mg_schemes (v := S0.1 9) hx hb hts hown hK hP rfl dX9_scheme_25 ?_
    refine lv_iconst (v := 0) hx hb dX9_scheme_28 (by decide) ?_
    obtain ⟨hi2, hT⟩ := hT
    refine va_iast (f := S0.2.1 29) hx hb hK hP hD hS 29 0 mat_29 rfl hi2 dX9_scheme_29 (fun H locs hP hD hS => ?_)
    replace hP := msetP_29 hP
    replace hD := msetD_29 hD
    refine lv_aload_n hx hb dX9_scheme_30 rfl (lv_at hl 0 rfl) ?_
    refine lv_dup hx hb dX9_scheme_31 rfl ?_
    refine mg_schemes (v := S0.1 9) hx hb hts hown hK hP rfl dX9_scheme_32 ?_
    refine lv_iconst (v := 1) hx hb dX9_scheme_35 (by decide) ?_
    refine lv_iadd hx hb dX9_scheme_36 ?_
    refine mp_schemes hx hb hts hown hK hP hD hS dX9_scheme_37 (fun H locs hP hD hS => ?_)
    refine lv_aload_n hx hb dX9_scheme_40 rfl (lv_at hl 0 rfl) ?_
    refine lv_iconst (v := 0) hx hb dX9_scheme_41 (by decide) ?_
    refine mp_trouble hx hb hts hown hK hP hD hS dX9_scheme_42 (fun H locs hP hD hS => ?_)
    refine lv_aload_n hx hb dX9_scheme_45 rfl (lv_at hl 0 rfl) ?_
    refine mg_schemes (v := (S0.1 9) + 1) hx hb hts hown hK hP rfl dX9_scheme_46 ?_
    refine lv_iconst (v := 1) hx hb dX9_scheme_49 (by decide) ?_
    refine lv_isub hx hb dX9_scheme_50 ?_
    exact hret _ _ _ _ _ _ hP hD hS hT dX9_scheme_51
  · replace hT := hT.2 c1
    refine lv_aload_n hx hb dX9_scheme_14 rfl (lv_at hl 0 rfl) ?_
    refine lv_iconst (v := 5) hx hb dX9_scheme_15 (by decide) ?_
    refine mcallI (n := 1) (rest := []) hT hx hb hml hown hts hK hA hP hD hS hl gg_192 hd_X9_no ⟨Nat.le_of_ble_eq_true rfl, Nat.le_of_ble_eq_true rfl⟩ rfl rfl (Nat.le_of_ble_eq_true rfl) dX9_scheme_16 (Nat.zero_le _) (Nat.zero_le _) (fun r4 S3 H locs hP hD hS hT => ?_)
    exact hret _ _ _ _ _ _ hP hD hS hT dX9_scheme_19
abbrev mX_isScheme (l : Launch) (S : MS) (a1 : Int32) (post : Bool → MS → Prop) : Prop := mCtZ l yX9_isScheme cX9_isScheme 2 1 23 (fun ad => [.int a1]) S post
def mT_isScheme_e (l : Launch) (a1 : Int32) (post : Bool → MS → Prop) (S0 : MS) : Prop := mX_in l S0 a1 0 ((S0.1 9) - 1) (fun b2 S1 => post b2 S1)
set_option maxHeartbeats 4000000 in
set_option maxRecDepth 100000 in
theorem m_isScheme (l : Launch) (S0 : MS) (a1 : Int32) (post : Bool → MS → Prop) (h : mT_isScheme_e l a1 post S0) : mX_isScheme l S0 a1 post := by
  refine msetZ rfl (fun _ => Nat.le_of_ble_eq_true rfl) ?_
  intro p e s m args below meth c D ad cI cZ cL A Q hx hb hml hown hts hK hA hret H locs ls hP hD hS hl
  replace hl : lv_has ls 2 [(0, .ref (ad 0)), (1, .int a1)] := hl
  have hT := h
  unfold mT_isScheme_e at hT
  refine lv_aload_n hx hb dX9_isScheme_0 rfl (lv_at hl 0 rfl) ?_
  refine lv_iload_n hx hb dX9_isScheme_1 rfl (lv_at hl 1 rfl) ?_
  refine lv_iconst (v := 0) hx hb dX9_isScheme_2 (by decide) ?_
  refine lv_aload_n hx hb dX9_isScheme_3 rfl (lv_at hl 0 rfl) ?_
  refine mg_schemes (v := S0.1 9) hx hb hts hown hK hP rfl dX9_isScheme_4 ?_
  refine lv_iconst (v := 1) hx hb dX9_isScheme_7 (by decide) ?_
  refine lv_isub hx hb dX9_isScheme_8 ?_
  refine mcallZ (n := 3) (rest := []) hT hx hb hml hown hts hK hA hP hD hS hl gg_139 hd_X9_in ⟨Nat.le_of_ble_eq_true rfl, Nat.le_of_ble_eq_true rfl⟩ rfl rfl (Nat.le_of_ble_eq_true rfl) dX9_isScheme_9 (Nat.zero_le _) (Nat.zero_le _) (fun b2 S1 H locs hP hD hS hT => ?_)
  exact hret b2 _ _ _ _ _ hP hD hS hT dX9_isScheme_12
abbrev mX_single (l : Launch) (S : MS) (a1 : Int32) (a2 : Int32) (a3 : Int32) (post : Int32 → MS → Prop) : Prop := mCtI l yX9_single cX9_single 6 2 44 (fun ad => [.int a1, .int a2, .int a3]) S post
def mT_single_38 (l : Launch) (a1 : Int32) (a2 : Int32) (a3 : Int32) (post : Int32 → MS → Prop) (B38 : MS → Prop) (S : MS) : Prop := mX_no l S 1 (fun r2 S1 => post r2 S1)
def mT_single_e (l : Launch) (a1 : Int32) (a2 : Int32) (a3 : Int32) (post : Int32 → MS → Prop) (B38 : MS → Prop) (S0 : MS) : Prop := mX_isScheme l (mf S0 3 0) a1 (fun b4 S3 => (bI b4 = 0 → B38 S3) ∧ (¬ bI b4 = 0 → mX_in l S3 a2 0 4 (fun b7 S6 => (bI b7 = 0 → B38 S6) ∧ (¬ bI b7 = 0 → mX_in l S6 a3 0 4 (fun b10 S9 => (bI b10 = 0 → B38 S9) ∧ (¬ bI b10 = 0 → (¬ a2 = a3 → vp_in a1 8 ∧ ∀ v4_14 : Int32, v4_14 = S9.2.1 29 a1.toNatClampNeg → (¬ v4_14 = 8 → ∀ v5_16 : Int32, v5_16 = (8 * a1) + v4_14 → vp_in v5_16 64 ∧ vp_in (5 * v5_16) 320 ∧ vp_in ((5 * v5_16) + 1) 320 ∧ vp_in a1 8 ∧ vp_in a1 8 ∧ post (v4_14 + 1) (mf (ma (ma (ma (ma S9 30 (upd (S9.2.1 30) v5_16.toNatClampNeg (-1))) 32 (upd (S9.2.1 32) (5 * v5_16).toNatClampNeg a2)) 32 (upd (upd (S9.2.1 32) (5 * v5_16).toNatClampNeg a2) ((5 * v5_16) + 1).toNatClampNeg a3)) 29 (upd (S9.2.1 29) a1.toNatClampNeg ((S9.2.1 29 a1.toNatClampNeg) + 1))) 2 0)) ∧ (v4_14 = 8 → mX_no l S9 5 (fun r23 S22 => post r23 S22))) ∧ (a2 = a3 → B38 S9)))))))
set_option maxHeartbeats 4000000 in
set_option maxRecDepth 100000 in
theorem m_single (l : Launch) (S0 : MS) (a1 : Int32) (a2 : Int32) (a3 : Int32) (post : Int32 → MS → Prop) (h : ∀ (B38 : MS → Prop), (∀ (S : MS) , mT_single_38 l a1 a2 a3 post B38 S → B38 S ) → mT_single_e l a1 a2 a3 post B38 S0) : mX_single l S0 a1 a2 a3 post := by
  refine msetI rfl (fun _ => Nat.le_of_ble_eq_true rfl) ?_
  intro p e s m args below meth c D ad cI cZ cL A Q hx hb hml hown hts hK hA hret H locs ls hP hD hS hl
  replace hl : lv_has ls 6 [(0, .ref (ad 0)), (1, .int a1), (2, .int a2), (3, .int a3)] := hl
  obtain ⟨B38, hB38⟩ : ∃ B : MS → Prop, B = (fun S => ∀ (H : Heap) (locs : List Loc) (ls : Array Slot), va_P D vwCl (mW ad cI cZ cL S) H → va_D A (mW ad cI cZ cL S) → va_S A s.heap H locs → lv_has ls 6 [(0, .ref (ad 0))] → W p l e (mrm 2 44) s m args below meth c H locs 0 0 Q (F0 m 38 ls [])) := ⟨_, rfl⟩
  have hT : mT_single_e l a1 a2 a3 post B38 S0 := by
    refine h B38 ?_
    · clear hP hD hS hl H locs ls
      intro S hT
      unfold mT_single_38 at hT
      rw [hB38]
      intro H locs ls hP hD hS hl
      refine lv_aload_n hx hb dX9_single_38 rfl (lv_at hl 0 rfl) ?_
      refine lv_iconst (v := 1) hx hb dX9_single_39 (by decide) ?_
      refine mcallI (n := 1) (rest := []) hT hx hb hml hown hts hK hA hP hD hS hl gg_192 hd_X9_no ⟨Nat.le_of_ble_eq_true rfl, Nat.le_of_ble_eq_true rfl⟩ rfl rfl (Nat.le_of_ble_eq_true rfl) dX9_single_40 (Nat.zero_le _) (Nat.zero_le _) (fun r2 S1 H locs hP hD hS hT => ?_)
      exact hret _ _ _ _ _ _ hP hD hS hT dX9_single_43
  unfold mT_single_e at hT
  refine lv_aload_n hx hb dX9_single_0 rfl (lv_at hl 0 rfl) ?_
  refine lv_iconst (v := 0) hx hb dX9_single_1 (by decide) ?_
  refine mp_thrown hx hb hts hown hK hP hD hS dX9_single_2 (fun H locs hP hD hS => ?_)
  refine lv_aload_n hx hb dX9_single_5 rfl (lv_at hl 0 rfl) ?_
  refine lv_iload_n hx hb dX9_single_6 rfl (lv_at hl 1 rfl) ?_
  refine mcallZ (n := 1) (rest := []) hT hx hb hml hown hts hK hA hP hD hS hl gg_242 hd_X9_isScheme ⟨Nat.le_of_ble_eq_true rfl, Nat.le_of_ble_eq_true rfl⟩ rfl rfl (Nat.le_of_ble_eq_true rfl) dX9_single_7 (Nat.zero_le _) (Nat.zero_le _) (fun b4 S3 H locs hP hD hS hT => ?_)
  refine lv_if_eq (tgt := 38) hx hb dX9_single_10 (by decide) (fun c5 => ?_) (fun c5 => ?_)
  · replace hT := hT.1 c5
    rw [hB38] at hT
    exact hT _ _ _ hP hD hS (lv_sub hl [0] rfl)
  · replace hT := hT.2 c5
    refine lv_aload_n hx hb dX9_single_13 rfl (lv_at hl 0 rfl) ?_
    refine lv_iload_n hx hb dX9_single_14 rfl (lv_at hl 2 rfl) ?_
    refine lv_iconst (v := 0) hx hb dX9_single_15 (by decide) ?_
    refine lv_iconst (v := 4) hx hb dX9_single_16 (by decide) ?_
    refine mcallZ (n := 3) (rest := []) hT hx hb hml hown hts hK hA hP hD hS hl gg_139 hd_X9_in ⟨Nat.le_of_ble_eq_true rfl, Nat.le_of_ble_eq_true rfl⟩ rfl rfl (Nat.le_of_ble_eq_true rfl) dX9_single_17 (Nat.zero_le _) (Nat.zero_le _) (fun b7 S6 H locs hP hD hS hT => ?_)
    refine lv_if_eq (tgt := 38) hx hb dX9_single_20 (by decide) (fun c8 => ?_) (fun c8 => ?_)
    · replace hT := hT.1 c8
      rw [hB38] at hT
      exact hT _ _ _ hP hD hS (lv_sub hl [0] rfl)
    · replace hT := hT.2 c8
      refine lv_aload_n hx hb dX9_single_23 rfl (lv_at hl 0 rfl) ?_
      refine lv_iload_n hx hb dX9_single_24 rfl (lv_at hl 3 rfl) ?_
      refine lv_iconst (v := 0) hx hb dX9_single_25 (by decide) ?_
      refine lv_iconst (v := 4) hx hb dX9_single_26 (by decide) ?_
      refine mcallZ (n := 3) (rest := []) hT hx hb hml hown hts hK hA hP hD hS hl gg_139 hd_X9_in ⟨Nat.le_of_ble_eq_true rfl, Nat.le_of_ble_eq_true rfl⟩ rfl rfl (Nat.le_of_ble_eq_true rfl) dX9_single_27 (Nat.zero_le _) (Nat.zero_le _) (fun b10 S9 H locs hP hD hS hT => ?_)
      refine lv_if_eq (tgt := 38) hx hb dX9_single_30 (by decide) (fun c11 => ?_) (fun c11 => ?_)
      · replace hT := hT.1 c11
        rw [hB38] at hT
        exact hT _ _ _ hP hD hS (lv_sub hl [0] rfl)
      · replace hT := hT.2 c11
        refine lv_iload_n hx hb dX9_single_33 rfl (lv_at hl 2 rfl) ?_
        refine lv_iload_n hx hb dX9_single_34 rfl (lv_at hl 3 rfl) ?_
        refine lv_icmp_ne (tgt := 44) hx hb dX9_single_35 (by decide) (fun c12 => ?_) (fun c12 => ?_)
        · replace hT := hT.1 c12
          refine lv_aload_n hx hb dX9_single_44 rfl (lv_at hl 0 rfl) ?_
          refine mg_stepMany hx hb hts hown hK hP dX9_single_45 ?_
          refine lv_iload_n hx hb dX9_single_48 rfl (lv_at hl 1 rfl) ?_
          obtain ⟨hi13, hT⟩ := hT
          refine va_iald (f := S9.2.1 29) hx hb hK hP 29 0 mat_29 rfl hi13 dX9_single_49 ?_
          refine lv_topi (fun v4_14 ev4_14 => ?_)
          replace hT := hT v4_14 ev4_14
          refine lv_istore (lv' := [(4, .int v4_14), (0, .ref (ad 0)), (1, .int a1), (2, .int a2), (3, .int a3)]) hx hb dX9_single_50 hl (by decide) rfl (fun ls hl => ?_)
          refine lv_iload hx hb dX9_single_52 (lv_at hl 0 rfl) ?_
          refine lv_bipush (v := 8) hx hb dX9_single_54 (by decide) ?_
          refine lv_icmp_ne (tgt := 65) hx hb dX9_single_56 (by decide) (fun c15 => ?_) (fun c15 => ?_)
          · replace hT := hT.1 c15
            refine lv_bipush (v := 8) hx hb dX9_single_65 (by decide) ?_
            refine lv_iload_n hx hb dX9_single_67 rfl (lv_at hl 2 rfl) ?_
            refine lv_imul hx hb dX9_single_68 ?_
            refine lv_iload hx hb dX9_single_69 (lv_at hl 0 rfl) ?_
            refine lv_iadd hx hb dX9_single_71 ?_
            refine lv_topi (fun v5_16 ev5_16 => ?_)
            replace hT := hT v5_16 ev5_16
            refine lv_istore (lv' := [(5, .int v5_16), (4, .int v4_14), (0, .ref (ad 0)), (1, .int a1), (2, .int a2), (3, .int a3)]) hx hb dX9_single_72 hl (by decide) rfl (fun ls hl => ?_)
            refine lv_aload_n hx hb dX9_single_74 rfl (lv_at hl 2 rfl) ?_
            refine mg_stepOf hx hb hts hown hK hP dX9_single_75 ?_
            refine lv_iload hx hb dX9_single_78 (lv_at hl 0 rfl) ?_
            refine lv_iconst (v := (-1)) hx hb dX9_single_80 (by decide) ?_
            obtain ⟨hi17, hT⟩ := hT
            refine va_iast (f := S9.2.1 30) hx hb hK hP hD hS 30 0 mat_30 rfl hi17 dX9_single_81 (fun H locs hP hD hS => ?_)
            replace hP := msetP_30 hP
            replace hD := msetD_30 hD
            refine lv_aload_n hx hb dX9_single_82 rfl (lv_at hl 2 rfl) ?_
            refine mg_stepRoles hx hb hts hown hK hP dX9_single_83 ?_
            refine lv_iconst (v := 5) hx hb dX9_single_86 (by decide) ?_
            refine lv_iload hx hb dX9_single_87 (lv_at hl 0 rfl) ?_
            refine lv_imul hx hb dX9_single_89 ?_
            refine lv_iload_n hx hb dX9_single_90 rfl (lv_at hl 4 rfl) ?_
            obtain ⟨hi18, hT⟩ := hT
            refine va_iast (f := S9.2.1 32) hx hb hK hP hD hS 32 0 mat_32 rfl hi18 dX9_single_91 (fun H locs hP hD hS => ?_)
            replace hP := msetP_32 hP
            replace hD := msetD_32 hD
            refine lv_aload_n hx hb dX9_single_92 rfl (lv_at hl 2 rfl) ?_
            refine mg_stepRoles hx hb hts hown hK hP dX9_single_93 ?_
            refine lv_iconst (v := 5) hx hb dX9_single_96 (by decide) ?_
            refine lv_iload hx hb dX9_single_97 (lv_at hl 0 rfl) ?_
            refine lv_imul hx hb dX9_single_99 ?_
            refine lv_iconst (v := 1) hx hb dX9_single_100 (by decide) ?_
            refine lv_iadd hx hb dX9_single_101 ?_
            refine lv_iload_n hx hb dX9_single_102 rfl (lv_at hl 5 rfl) ?_
            obtain ⟨hi19, hT⟩ := hT
            refine va_iast (f := upd (S9.2.1 32) (5 * v5_16).toNatClampNeg a2) hx hb hK hP hD hS 32 0 mat_32 rfl hi19 dX9_single_103 (fun H locs hP hD hS => ?_)
            replace hP := msetP_32 hP
            replace hD := msetD_32 hD
            refine lv_aload_n hx hb dX9_single_104 rfl (lv_at hl 2 rfl) ?_
            refine mg_stepMany hx hb hts hown hK hP dX9_single_105 ?_
            refine lv_iload_n hx hb dX9_single_108 rfl (lv_at hl 3 rfl) ?_
            refine lv_dup2_11 hx hb dX9_single_109 rfl rfl ?_
            obtain ⟨hi20, hT⟩ := hT
            refine va_iald (f := S9.2.1 29) hx hb hK hP 29 0 mat_29 rfl hi20 dX9_single_110 ?_
            refine lv_iconst (v := 1) hx hb dX9_single_111 (by decide) ?_
            refine lv_iadd hx hb dX9_single_112 ?_
            obtain ⟨hi21, hT⟩ := hT
            refine va_iast (f := S9.2.1 29) hx hb hK hP hD hS 29 0 mat_29 rfl hi21 dX9_single_113 (fun H locs hP hD hS => ?_)
            replace hP := msetP_29 hP
            replace hD := msetD_29 hD
            refine lv_aload_n hx hb dX9_single_114 rfl (lv_at hl 2 rfl) ?_
            refine lv_iconst (v := 0) hx hb dX9_single_115 (by decide) ?_
            refine mp_trouble hx hb hts hown hK hP hD hS dX9_single_116 (fun H locs hP hD hS => ?_)
            refine lv_iload hx hb dX9_single_119 (lv_at hl 1 rfl) ?_
            refine lv_iconst (v := 1) hx hb dX9_single_121 (by decide) ?_
            refine lv_iadd hx hb dX9_single_122 ?_
            exact hret _ _ _ _ _ _ hP hD hS hT dX9_single_123
          · replace hT := hT.2 c15
            refine lv_aload_n hx hb dX9_single_59 rfl (lv_at hl 1 rfl) ?_
            refine lv_iconst (v := 5) hx hb dX9_single_60 (by decide) ?_
            refine mcallI (n := 1) (rest := []) hT hx hb hml hown hts hK hA hP hD hS hl gg_192 hd_X9_no ⟨Nat.le_of_ble_eq_true rfl, Nat.le_of_ble_eq_true rfl⟩ rfl rfl (Nat.le_of_ble_eq_true rfl) dX9_single_61 (Nat.zero_le _) (Nat.zero_le _) (fun r23 S22 H locs hP hD hS hT => ?_)
            exact hret _ _ _ _ _ _ hP hD hS hT dX9_single_64
        · replace hT := hT.2 c12
          rw [hB38] at hT
          exact hT _ _ _ hP hD hS (lv_sub hl [0] rfl)
abbrev mX_call (l : Launch) (S : MS) (a1 : Int32) (a2 : Int32) (a3 : Int32) (a4 : Int32) (a5 : Int32) (a6 : Int32) (a7 : Int32) (a8 : Int32) (post : Int32 → MS → Prop) : Prop := mCtI l yX9_call cX9_call 12 2 44 (fun ad => [.int a1, .int a2, .int a3, .int a4, .int a5, .int a6, .int a7, .int a8]) S post
def mT_call_31 (l : Launch) (a1 : Int32) (a2 : Int32) (a3 : Int32) (a4 : Int32) (a5 : Int32) (a6 : Int32) (a7 : Int32) (a8 : Int32) (post : Int32 → MS → Prop) (B31 : MS → Prop) (B43 : MS → Int32 → Int32 → Prop) (B118 : MS → Prop) (S : MS) : Prop := mX_no l S 1 (fun r2 S1 => post r2 S1)
def mT_call_43 (l : Launch) (a1 : Int32) (a2 : Int32) (a3 : Int32) (a4 : Int32) (a5 : Int32) (a6 : Int32) (a7 : Int32) (a8 : Int32) (post : Int32 → MS → Prop) (B31 : MS → Prop) (B43 : MS → Int32 → Int32 → Prop) (B118 : MS → Prop) (S : MS) (x9 : Int32) (x10 : Int32) : Prop := (5 ≤ x10 → vp_in a1 8 ∧ ∀ v10_5 : Int32, v10_5 = S.2.1 29 a1.toNatClampNeg → (¬ v10_5 = 8 → ∀ v11_7 : Int32, v11_7 = (8 * a1) + v10_5 → vp_in v11_7 64 ∧ vp_in v11_7 64 ∧ vp_in (5 * v11_7) 320 ∧ vp_in ((5 * v11_7) + 1) 320 ∧ vp_in ((5 * v11_7) + 2) 320 ∧ vp_in ((5 * v11_7) + 3) 320 ∧ vp_in ((5 * v11_7) + 4) 320 ∧ vp_in a1 8 ∧ vp_in a1 8 ∧ post (v10_5 + 1) (mf (ma (ma (ma (ma (ma (ma (ma (ma S 30 (upd (S.2.1 30) v11_7.toNatClampNeg a2)) 31 (upd (S.2.1 31) v11_7.toNatClampNeg a3)) 32 (upd (S.2.1 32) (5 * v11_7).toNatClampNeg a4)) 32 (upd (upd (S.2.1 32) (5 * v11_7).toNatClampNeg a4) ((5 * v11_7) + 1).toNatClampNeg a5)) 32 (upd (upd (upd (S.2.1 32) (5 * v11_7).toNatClampNeg a4) ((5 * v11_7) + 1).toNatClampNeg a5) ((5 * v11_7) + 2).toNatClampNeg a6)) 32 (upd (upd (upd (upd (S.2.1 32) (5 * v11_7).toNatClampNeg a4) ((5 * v11_7) + 1).toNatClampNeg a5) ((5 * v11_7) + 2).toNatClampNeg a6) ((5 * v11_7) + 3).toNatClampNeg a7)) 32 (upd (upd (upd (upd (upd (S.2.1 32) (5 * v11_7).toNatClampNeg a4) ((5 * v11_7) + 1).toNatClampNeg a5) ((5 * v11_7) + 2).toNatClampNeg a6) ((5 * v11_7) + 3).toNatClampNeg a7) ((5 * v11_7) + 4).toNatClampNeg a8)) 29 (upd (S.2.1 29) a1.toNatClampNeg ((S.2.1 29 a1.toNatClampNeg) + 1))) 2 0)) ∧ (v10_5 = 8 → mX_no l S 5 (fun r18 S17 => post r18 S17))) ∧ (¬ 5 ≤ x10 → (¬ x10 = 0 → (¬ x10 = 1 → (¬ x10 = 2 → (¬ x10 = 3 → mX_in l S a8 0 4 (fun b24 S23 => (bI b24 = 0 → B118 S23) ∧ (¬ bI b24 = 0 → (¬ (x9 >>> (a8 &&& 31)) &&& 1 = 1 → ∀ v9_27 : Int32, v9_27 = x9 ||| (1 <<< (a8 &&& 31)) → B43 S23 v9_27 (x10 + 1)) ∧ ((x9 >>> (a8 &&& 31)) &&& 1 = 1 → B118 S23)))) ∧ (x10 = 3 → mX_in l S a7 0 4 (fun b29 S28 => (bI b29 = 0 → B118 S28) ∧ (¬ bI b29 = 0 → (¬ (x9 >>> (a7 &&& 31)) &&& 1 = 1 → ∀ v9_32 : Int32, v9_32 = x9 ||| (1 <<< (a7 &&& 31)) → B43 S28 v9_32 (x10 + 1)) ∧ ((x9 >>> (a7 &&& 31)) &&& 1 = 1 → B118 S28))))) ∧ (x10 = 2 → mX_in l S a6 0 4 (fun b34 S33 => (bI b34 = 0 → B118 S33) ∧ (¬ bI b34 = 0 → (¬ (x9 >>> (a6 &&& 31)) &&& 1 = 1 → ∀ v9_37 : Int32, v9_37 = x9 ||| (1 <<< (a6 &&& 31)) → B43 S33 v9_37 (x10 + 1)) ∧ ((x9 >>> (a6 &&& 31)) &&& 1 = 1 → B118 S33))))) ∧ (x10 = 1 → mX_in l S a5 0 4 (fun b39 S38 => (bI b39 = 0 → B118 S38) ∧ (¬ bI b39 = 0 → (¬ (x9 >>> (a5 &&& 31)) &&& 1 = 1 → ∀ v9_42 : Int32, v9_42 = x9 ||| (1 <<< (a5 &&& 31)) → B43 S38 v9_42 (x10 + 1)) ∧ ((x9 >>> (a5 &&& 31)) &&& 1 = 1 → B118 S38))))) ∧ (x10 = 0 → mX_in l S a4 0 4 (fun b44 S43 => (bI b44 = 0 → B118 S43) ∧ (¬ bI b44 = 0 → (¬ (x9 >>> (a4 &&& 31)) &&& 1 = 1 → ∀ v9_47 : Int32, v9_47 = x9 ||| (1 <<< (a4 &&& 31)) → B43 S43 v9_47 (x10 + 1)) ∧ ((x9 >>> (a4 &&& 31)) &&& 1 = 1 → B118 S43)))))
def mT_call_118 (l : Launch) (a1 : Int32) (a2 : Int32) (a3 : Int32) (a4 : Int32) (a5 : Int32) (a6 : Int32) (a7 : Int32) (a8 : Int32) (post : Int32 → MS → Prop) (B31 : MS → Prop) (B43 : MS → Int32 → Int32 → Prop) (B118 : MS → Prop) (S : MS) : Prop := mX_no l S 1 (fun r49 S48 => post r49 S48)
def mT_call_e (l : Launch) (a1 : Int32) (a2 : Int32) (a3 : Int32) (a4 : Int32) (a5 : Int32) (a6 : Int32) (a7 : Int32) (a8 : Int32) (post : Int32 → MS → Prop) (B31 : MS → Prop) (B43 : MS → Int32 → Int32 → Prop) (B118 : MS → Prop) (S0 : MS) : Prop := mX_isScheme l (mf S0 3 0) a1 (fun b51 S50 => (bI b51 = 0 → B31 S50) ∧ (¬ bI b51 = 0 → mX_isScheme l S50 a2 (fun b54 S53 => (bI b54 = 0 → B31 S53) ∧ (¬ bI b54 = 0 → mX_in l S53 a3 1 4 (fun b57 S56 => (¬ bI b57 = 0 → B43 S56 0 0) ∧ (bI b57 = 0 → B31 S56))))))
set_option maxHeartbeats 4000000 in
set_option maxRecDepth 100000 in
theorem m_call (l : Launch) (S0 : MS) (a1 : Int32) (a2 : Int32) (a3 : Int32) (a4 : Int32) (a5 : Int32) (a6 : Int32) (a7 : Int32) (a8 : Int32) (post : Int32 → MS → Prop) (h : ∀ (B31 : MS → Prop) (B43 : MS → Int32 → Int32 → Prop) (B118 : MS → Prop), (∀ (S : MS) , mT_call_31 l a1 a2 a3 a4 a5 a6 a7 a8 post B31 B43 B118 S → B31 S ) → (∀ (S : MS) (x9 : Int32) (x10 : Int32), mT_call_43 l a1 a2 a3 a4 a5 a6 a7 a8 post B31 B43 B118 S x9 x10 → B43 S x9 x10) → (∀ (S : MS) , mT_call_118 l a1 a2 a3 a4 a5 a6 a7 a8 post B31 B43 B118 S → B118 S ) → mT_call_e l a1 a2 a3 a4 a5 a6 a7 a8 post B31 B43 B118 S0) : mX_call l S0 a1 a2 a3 a4 a5 a6 a7 a8 post := by
  refine msetI rfl (fun _ => Nat.le_of_ble_eq_true rfl) ?_
  intro p e s m args below meth c D ad cI cZ cL A Q hx hb hml hown hts hK hA hret H locs ls hP hD hS hl
  replace hl : lv_has ls 12 [(0, .ref (ad 0)), (1, .int a1), (2, .int a2), (3, .int a3), (4, .int a4), (5, .int a5), (6, .int a6), (7, .int a7), (8, .int a8)] := hl
  obtain ⟨B31, hB31⟩ : ∃ B : MS → Prop, B = (fun S => ∀ (H : Heap) (locs : List Loc) (ls : Array Slot), va_P D vwCl (mW ad cI cZ cL S) H → va_D A (mW ad cI cZ cL S) → va_S A s.heap H locs → lv_has ls 12 [(0, .ref (ad 0))] → W p l e (mrm 2 44) s m args below meth c H locs 0 0 Q (F0 m 31 ls [])) := ⟨_, rfl⟩
  obtain ⟨B43, hB43⟩ : ∃ B : MS → Int32 → Int32 → Prop, B = (fun S x9 x10 => ∀ (H : Heap) (locs : List Loc) (ls : Array Slot), va_P D vwCl (mW ad cI cZ cL S) H → va_D A (mW ad cI cZ cL S) → va_S A s.heap H locs → lv_has ls 12 [(0, .ref (ad 0)), (1, .int a1), (2, .int a2), (3, .int a3), (4, .int a4), (5, .int a5), (6, .int a6), (7, .int a7), (8, .int a8), (9, .int x9), (10, .int x10)] → W p l e (mrm 2 44) s m args below meth c H locs 0 0 Q (F0 m 43 ls [])) := ⟨_, rfl⟩
  obtain ⟨B118, hB118⟩ : ∃ B : MS → Prop, B = (fun S => ∀ (H : Heap) (locs : List Loc) (ls : Array Slot), va_P D vwCl (mW ad cI cZ cL S) H → va_D A (mW ad cI cZ cL S) → va_S A s.heap H locs → lv_has ls 12 [(0, .ref (ad 0))] → W p l e (mrm 2 44) s m args below meth c H locs 0 0 Q (F0 m 118 ls [])) := ⟨_, rfl⟩
  have hT : mT_call_e l a1 a2 a3 a4 a5 a6 a7 a8 post B31 B43 B118 S0 := by
    refine h B31 B43 B118 ?_ ?_ ?_
    · clear hP hD hS hl H locs ls
      intro S hT
      unfold mT_call_31 at hT
      rw [hB31]
      intro H locs ls hP hD hS hl
      refine lv_aload_n hx hb dX9_call_31 rfl (lv_at hl 0 rfl) ?_
      refine lv_iconst (v := 1) hx hb dX9_call_32 (by decide) ?_
      refine mcallI (n := 1) (rest := []) hT hx hb hml hown hts hK hA hP hD hS hl gg_192 hd_X9_no ⟨Nat.le_of_ble_eq_true rfl, Nat.le_of_ble_eq_true rfl⟩ rfl rfl (Nat.le_of_ble_eq_true rfl) dX9_call_33 (Nat.zero_le _) (Nat.zero_le _) (fun r2 S1 H locs hP hD hS hT => ?_)
      exact hret _ _ _ _ _ _ hP hD hS hT dX9_call_36
    · clear hP hD hS hl H locs ls
      intro S x9 x10 hT
      unfold mT_call_43 at hT
      rw [hB43]
      intro H locs ls hP hD hS hl
      refine lv_iload hx hb dX9_call_43 (lv_at hl 10 rfl) ?_
      refine lv_iconst (v := 5) hx hb dX9_call_45 (by decide) ?_
      refine lv_icmp_ge (tgt := 139) hx hb dX9_call_46 (by decide) (fun c3 => ?_) (fun c3 => ?_)
      · replace hT := hT.1 c3
        refine lv_aload_n hx hb dX9_call_139 rfl (lv_at hl 0 rfl) ?_
        refine mg_stepMany hx hb hts hown hK hP dX9_call_140 ?_
        refine lv_iload_n hx hb dX9_call_143 rfl (lv_at hl 1 rfl) ?_
        obtain ⟨hi4, hT⟩ := hT
        refine va_iald (f := S.2.1 29) hx hb hK hP 29 0 mat_29 rfl hi4 dX9_call_144 ?_
        refine lv_topi (fun v10_5 ev10_5 => ?_)
        replace hT := hT v10_5 ev10_5
        refine lv_istore (lv' := [(10, .int v10_5), (0, .ref (ad 0)), (1, .int a1), (2, .int a2), (3, .int a3), (4, .int a4), (5, .int a5), (6, .int a6), (7, .int a7), (8, .int a8), (9, .int x9)]) hx hb dX9_call_145 hl (by decide) rfl (fun ls hl => ?_)
        refine lv_iload hx hb dX9_call_147 (lv_at hl 0 rfl) ?_
        refine lv_bipush (v := 8) hx hb dX9_call_149 (by decide) ?_
        refine lv_icmp_ne (tgt := 160) hx hb dX9_call_151 (by decide) (fun c6 => ?_) (fun c6 => ?_)
        · replace hT := hT.1 c6
          refine lv_bipush (v := 8) hx hb dX9_call_160 (by decide) ?_
          refine lv_iload_n hx hb dX9_call_162 rfl (lv_at hl 2 rfl) ?_
          refine lv_imul hx hb dX9_call_163 ?_
          refine lv_iload hx hb dX9_call_164 (lv_at hl 0 rfl) ?_
          refine lv_iadd hx hb dX9_call_166 ?_
          refine lv_topi (fun v11_7 ev11_7 => ?_)
          replace hT := hT v11_7 ev11_7
          refine lv_istore (lv' := [(11, .int v11_7), (10, .int v10_5), (0, .ref (ad 0)), (1, .int a1), (2, .int a2), (3, .int a3), (4, .int a4), (5, .int a5), (6, .int a6), (7, .int a7), (8, .int a8), (9, .int x9)]) hx hb dX9_call_167 hl (by decide) rfl (fun ls hl => ?_)
          refine lv_aload_n hx hb dX9_call_169 rfl (lv_at hl 2 rfl) ?_
          refine mg_stepOf hx hb hts hown hK hP dX9_call_170 ?_
          refine lv_iload hx hb dX9_call_173 (lv_at hl 0 rfl) ?_
          refine lv_iload_n hx hb dX9_call_175 rfl (lv_at hl 4 rfl) ?_
          obtain ⟨hi8, hT⟩ := hT
          refine va_iast (f := S.2.1 30) hx hb hK hP hD hS 30 0 mat_30 rfl hi8 dX9_call_176 (fun H locs hP hD hS => ?_)
          replace hP := msetP_30 hP
          replace hD := msetD_30 hD
          refine lv_aload_n hx hb dX9_call_177 rfl (lv_at hl 2 rfl) ?_
          refine mg_stepLess hx hb hts hown hK hP dX9_call_178 ?_
          refine lv_iload hx hb dX9_call_181 (lv_at hl 0 rfl) ?_
          refine lv_iload_n hx hb dX9_call_183 rfl (lv_at hl 5 rfl) ?_
          obtain ⟨hi9, hT⟩ := hT
          refine va_iast (f := S.2.1 31) hx hb hK hP hD hS 31 0 mat_31 rfl hi9 dX9_call_184 (fun H locs hP hD hS => ?_)
          replace hP := msetP_31 hP
          replace hD := msetD_31 hD
          refine lv_aload_n hx hb dX9_call_185 rfl (lv_at hl 2 rfl) ?_
          refine mg_stepRoles hx hb hts hown hK hP dX9_call_186 ?_
          refine lv_iconst (v := 5) hx hb dX9_call_189 (by decide) ?_
          refine lv_iload hx hb dX9_call_190 (lv_at hl 0 rfl) ?_
          refine lv_imul hx hb dX9_call_192 ?_
          refine lv_iload hx hb dX9_call_193 (lv_at hl 6 rfl) ?_
          obtain ⟨hi10, hT⟩ := hT
          refine va_iast (f := S.2.1 32) hx hb hK hP hD hS 32 0 mat_32 rfl hi10 dX9_call_195 (fun H locs hP hD hS => ?_)
          replace hP := msetP_32 hP
          replace hD := msetD_32 hD
          refine lv_aload_n hx hb dX9_call_196 rfl (lv_at hl 2 rfl) ?_
          refine mg_stepRoles hx hb hts hown hK hP dX9_call_197 ?_
          refine lv_iconst (v := 5) hx hb dX9_call_200 (by decide) ?_
          refine lv_iload hx hb dX9_call_201 (lv_at hl 0 rfl) ?_
          refine lv_imul hx hb dX9_call_203 ?_
          refine lv_iconst (v := 1) hx hb dX9_call_204 (by decide) ?_
          refine lv_iadd hx hb dX9_call_205 ?_
          refine lv_iload hx hb dX9_call_206 (lv_at hl 7 rfl) ?_
          obtain ⟨hi11, hT⟩ := hT
          refine va_iast (f := upd (S.2.1 32) (5 * v11_7).toNatClampNeg a4) hx hb hK hP hD hS 32 0 mat_32 rfl hi11 dX9_call_208 (fun H locs hP hD hS => ?_)
          replace hP := msetP_32 hP
          replace hD := msetD_32 hD
          refine lv_aload_n hx hb dX9_call_209 rfl (lv_at hl 2 rfl) ?_
          refine mg_stepRoles hx hb hts hown hK hP dX9_call_210 ?_
          refine lv_iconst (v := 5) hx hb dX9_call_213 (by decide) ?_
          refine lv_iload hx hb dX9_call_214 (lv_at hl 0 rfl) ?_
          refine lv_imul hx hb dX9_call_216 ?_
          refine lv_iconst (v := 2) hx hb dX9_call_217 (by decide) ?_
          refine lv_iadd hx hb dX9_call_218 ?_
          refine lv_iload hx hb dX9_call_219 (lv_at hl 8 rfl) ?_
          obtain ⟨hi12, hT⟩ := hT
          refine va_iast (f := upd (upd (S.2.1 32) (5 * v11_7).toNatClampNeg a4) ((5 * v11_7) + 1).toNatClampNeg a5) hx hb hK hP hD hS 32 0 mat_32 rfl hi12 dX9_call_221 (fun H locs hP hD hS => ?_)
          replace hP := msetP_32 hP
          replace hD := msetD_32 hD
          refine lv_aload_n hx hb dX9_call_222 rfl (lv_at hl 2 rfl) ?_
          refine mg_stepRoles hx hb hts hown hK hP dX9_call_223 ?_
          refine lv_iconst (v := 5) hx hb dX9_call_226 (by decide) ?_
          refine lv_iload hx hb dX9_call_227 (lv_at hl 0 rfl) ?_
          refine lv_imul hx hb dX9_call_229 ?_
          refine lv_iconst (v := 3) hx hb dX9_call_230 (by decide) ?_
          refine lv_iadd hx hb dX9_call_231 ?_
          refine lv_iload hx hb dX9_call_232 (lv_at hl 9 rfl) ?_
          obtain ⟨hi13, hT⟩ := hT
          refine va_iast (f := upd (upd (upd (S.2.1 32) (5 * v11_7).toNatClampNeg a4) ((5 * v11_7) + 1).toNatClampNeg a5) ((5 * v11_7) + 2).toNatClampNeg a6) hx hb hK hP hD hS 32 0 mat_32 rfl hi13 dX9_call_234 (fun H locs hP hD hS => ?_)
          replace hP := msetP_32 hP
          replace hD := msetD_32 hD
          refine lv_aload_n hx hb dX9_call_235 rfl (lv_at hl 2 rfl) ?_
          refine mg_stepRoles hx hb hts hown hK hP dX9_call_236 ?_
          refine lv_iconst (v := 5) hx hb dX9_call_239 (by decide) ?_
          refine lv_iload hx hb dX9_call_240 (lv_at hl 0 rfl) ?_
          refine lv_imul hx hb dX9_call_242 ?_
          refine lv_iconst (v := 4) hx hb dX9_call_243 (by decide) ?_
          refine lv_iadd hx hb dX9_call_244 ?_
          refine lv_iload hx hb dX9_call_245 (lv_at hl 10 rfl) ?_
          obtain ⟨hi14, hT⟩ := hT
          refine va_iast (f := upd (upd (upd (upd (S.2.1 32) (5 * v11_7).toNatClampNeg a4) ((5 * v11_7) + 1).toNatClampNeg a5) ((5 * v11_7) + 2).toNatClampNeg a6) ((5 * v11_7) + 3).toNatClampNeg a7) hx hb hK hP hD hS 32 0 mat_32 rfl hi14 dX9_call_247 (fun H locs hP hD hS => ?_)
          replace hP := msetP_32 hP
          replace hD := msetD_32 hD
          refine lv_aload_n hx hb dX9_call_248 rfl (lv_at hl 2 rfl) ?_
          refine mg_stepMany hx hb hts hown hK hP dX9_call_249 ?_
          refine lv_iload_n hx hb dX9_call_252 rfl (lv_at hl 3 rfl) ?_
          refine lv_dup2_11 hx hb dX9_call_253 rfl rfl ?_
          obtain ⟨hi15, hT⟩ := hT
          refine va_iald (f := S.2.1 29) hx hb hK hP 29 0 mat_29 rfl hi15 dX9_call_254 ?_
          refine lv_iconst (v := 1) hx hb dX9_call_255 (by decide) ?_
          refine lv_iadd hx hb dX9_call_256 ?_
          obtain ⟨hi16, hT⟩ := hT
          refine va_iast (f := S.2.1 29) hx hb hK hP hD hS 29 0 mat_29 rfl hi16 dX9_call_257 (fun H locs hP hD hS => ?_)
          replace hP := msetP_29 hP
          replace hD := msetD_29 hD
          refine lv_aload_n hx hb dX9_call_258 rfl (lv_at hl 2 rfl) ?_
          refine lv_iconst (v := 0) hx hb dX9_call_259 (by decide) ?_
          refine mp_trouble hx hb hts hown hK hP hD hS dX9_call_260 (fun H locs hP hD hS => ?_)
          refine lv_iload hx hb dX9_call_263 (lv_at hl 1 rfl) ?_
          refine lv_iconst (v := 1) hx hb dX9_call_265 (by decide) ?_
          refine lv_iadd hx hb dX9_call_266 ?_
          exact hret _ _ _ _ _ _ hP hD hS hT dX9_call_267
        · replace hT := hT.2 c6
          refine lv_aload_n hx hb dX9_call_154 rfl (lv_at hl 1 rfl) ?_
          refine lv_iconst (v := 5) hx hb dX9_call_155 (by decide) ?_
          refine mcallI (n := 1) (rest := []) hT hx hb hml hown hts hK hA hP hD hS hl gg_192 hd_X9_no ⟨Nat.le_of_ble_eq_true rfl, Nat.le_of_ble_eq_true rfl⟩ rfl rfl (Nat.le_of_ble_eq_true rfl) dX9_call_156 (Nat.zero_le _) (Nat.zero_le _) (fun r18 S17 H locs hP hD hS hT => ?_)
          exact hret _ _ _ _ _ _ hP hD hS hT dX9_call_159
      · replace hT := hT.2 c3
        refine lv_iload hx hb dX9_call_49 (lv_at hl 10 rfl) ?_
        refine lv_if_ne (tgt := 59) hx hb dX9_call_51 (by decide) (fun c19 => ?_) (fun c19 => ?_)
        · replace hT := hT.1 c19
          refine lv_iload hx hb dX9_call_59 (lv_at hl 10 rfl) ?_
          refine lv_iconst (v := 1) hx hb dX9_call_61 (by decide) ?_
          refine lv_icmp_ne (tgt := 70) hx hb dX9_call_62 (by decide) (fun c20 => ?_) (fun c20 => ?_)
          · replace hT := hT.1 c20
            refine lv_iload hx hb dX9_call_70 (lv_at hl 10 rfl) ?_
            refine lv_iconst (v := 2) hx hb dX9_call_72 (by decide) ?_
            refine lv_icmp_ne (tgt := 81) hx hb dX9_call_73 (by decide) (fun c21 => ?_) (fun c21 => ?_)
            · replace hT := hT.1 c21
              refine lv_iload hx hb dX9_call_81 (lv_at hl 10 rfl) ?_
              refine lv_iconst (v := 3) hx hb dX9_call_83 (by decide) ?_
              refine lv_icmp_ne (tgt := 92) hx hb dX9_call_84 (by decide) (fun c22 => ?_) (fun c22 => ?_)
              · replace hT := hT.1 c22
                refine lv_iload hx hb dX9_call_92 (lv_at hl 8 rfl) ?_
                refine lv_istore (lv' := [(11, .int a8), (0, .ref (ad 0)), (1, .int a1), (2, .int a2), (3, .int a3), (4, .int a4), (5, .int a5), (6, .int a6), (7, .int a7), (8, .int a8), (9, .int x9), (10, .int x10)]) hx hb dX9_call_94 hl (by decide) rfl (fun ls hl => ?_)
                refine lv_aload_n hx hb dX9_call_96 rfl (lv_at hl 1 rfl) ?_
                refine lv_iload hx hb dX9_call_97 (lv_at hl 0 rfl) ?_
                refine lv_iconst (v := 0) hx hb dX9_call_99 (by decide) ?_
                refine lv_iconst (v := 4) hx hb dX9_call_100 (by decide) ?_
                refine mcallZ (n := 3) (rest := []) hT hx hb hml hown hts hK hA hP hD hS hl gg_139 hd_X9_in ⟨Nat.le_of_ble_eq_true rfl, Nat.le_of_ble_eq_true rfl⟩ rfl rfl (Nat.le_of_ble_eq_true rfl) dX9_call_101 (Nat.zero_le _) (Nat.zero_le _) (fun b24 S23 H locs hP hD hS hT => ?_)
                refine lv_if_eq (tgt := 118) hx hb dX9_call_104 (by decide) (fun c25 => ?_) (fun c25 => ?_)
                · replace hT := hT.1 c25
                  rw [hB118] at hT
                  exact hT _ _ _ hP hD hS (lv_sub hl [1] rfl)
                · replace hT := hT.2 c25
                  refine lv_iload hx hb dX9_call_107 (lv_at hl 10 rfl) ?_
                  refine lv_iload hx hb dX9_call_109 (lv_at hl 0 rfl) ?_
                  refine lv_ishr hx hb dX9_call_111 ?_
                  refine lv_iconst (v := 1) hx hb dX9_call_112 (by decide) ?_
                  refine lv_iand hx hb dX9_call_113 ?_
                  refine lv_iconst (v := 1) hx hb dX9_call_114 (by decide) ?_
                  refine lv_icmp_ne (tgt := 124) hx hb dX9_call_115 (by decide) (fun c26 => ?_) (fun c26 => ?_)
                  · replace hT := hT.1 c26
                    refine lv_iload hx hb dX9_call_124 (lv_at hl 10 rfl) ?_
                    refine lv_iconst (v := 1) hx hb dX9_call_126 (by decide) ?_
                    refine lv_iload hx hb dX9_call_127 (lv_at hl 0 rfl) ?_
                    refine lv_ishl hx hb dX9_call_129 ?_
                    refine lv_ior hx hb dX9_call_130 ?_
                    refine lv_topi (fun v9_27 ev9_27 => ?_)
                    replace hT := hT v9_27 ev9_27
                    refine lv_istore (lv' := [(9, .int v9_27), (11, .int a8), (0, .ref (ad 0)), (1, .int a1), (2, .int a2), (3, .int a3), (4, .int a4), (5, .int a5), (6, .int a6), (7, .int a7), (8, .int a8), (10, .int x10)]) hx hb dX9_call_131 hl (by decide) rfl (fun ls hl => ?_)
                    refine lv_iinc (v := x10 + 1) (lv' := [(10, .int (x10 + 1)), (9, .int v9_27), (11, .int a8), (0, .ref (ad 0)), (1, .int a1), (2, .int a2), (3, .int a3), (4, .int a4), (5, .int a5), (6, .int a6), (7, .int a7), (8, .int a8)]) hx hb dX9_call_133 hl (k := 11) rfl rfl (by decide) rfl (fun ls hl => ?_)
                    refine lv_goto (tgt := 43) hx hb dX9_call_136 (by decide) ?_
                    rw [hB43] at hT
                    exact hT _ _ _ hP hD hS (lv_sub hl [3, 4, 5, 6, 7, 8, 9, 10, 11, 1, 0] rfl)
                  · replace hT := hT.2 c26
                    rw [hB118] at hT
                    exact hT _ _ _ hP hD hS (lv_sub hl [1] rfl)
              · replace hT := hT.2 c22
                refine lv_iload hx hb dX9_call_87 (lv_at hl 7 rfl) ?_
                refine lv_goto (tgt := 94) hx hb dX9_call_89 (by decide) ?_
                refine lv_istore (lv' := [(11, .int a7), (0, .ref (ad 0)), (1, .int a1), (2, .int a2), (3, .int a3), (4, .int a4), (5, .int a5), (6, .int a6), (7, .int a7), (8, .int a8), (9, .int x9), (10, .int x10)]) hx hb dX9_call_94 hl (by decide) rfl (fun ls hl => ?_)
                refine lv_aload_n hx hb dX9_call_96 rfl (lv_at hl 1 rfl) ?_
                refine lv_iload hx hb dX9_call_97 (lv_at hl 0 rfl) ?_
                refine lv_iconst (v := 0) hx hb dX9_call_99 (by decide) ?_
                refine lv_iconst (v := 4) hx hb dX9_call_100 (by decide) ?_
                refine mcallZ (n := 3) (rest := []) hT hx hb hml hown hts hK hA hP hD hS hl gg_139 hd_X9_in ⟨Nat.le_of_ble_eq_true rfl, Nat.le_of_ble_eq_true rfl⟩ rfl rfl (Nat.le_of_ble_eq_true rfl) dX9_call_101 (Nat.zero_le _) (Nat.zero_le _) (fun b29 S28 H locs hP hD hS hT => ?_)
                refine lv_if_eq (tgt := 118) hx hb dX9_call_104 (by decide) (fun c30 => ?_) (fun c30 => ?_)
                · replace hT := hT.1 c30
                  rw [hB118] at hT
                  exact hT _ _ _ hP hD hS (lv_sub hl [1] rfl)
                · replace hT := hT.2 c30
                  refine lv_iload hx hb dX9_call_107 (lv_at hl 10 rfl) ?_
                  refine lv_iload hx hb dX9_call_109 (lv_at hl 0 rfl) ?_
                  refine lv_ishr hx hb dX9_call_111 ?_
                  refine lv_iconst (v := 1) hx hb dX9_call_112 (by decide) ?_
                  refine lv_iand hx hb dX9_call_113 ?_
                  refine lv_iconst (v := 1) hx hb dX9_call_114 (by decide) ?_
                  refine lv_icmp_ne (tgt := 124) hx hb dX9_call_115 (by decide) (fun c31 => ?_) (fun c31 => ?_)
                  · replace hT := hT.1 c31
                    refine lv_iload hx hb dX9_call_124 (lv_at hl 10 rfl) ?_
                    refine lv_iconst (v := 1) hx hb dX9_call_126 (by decide) ?_
                    refine lv_iload hx hb dX9_call_127 (lv_at hl 0 rfl) ?_
                    refine lv_ishl hx hb dX9_call_129 ?_
                    refine lv_ior hx hb dX9_call_130 ?_
                    refine lv_topi (fun v9_32 ev9_32 => ?_)
                    replace hT := hT v9_32 ev9_32
                    refine lv_istore (lv' := [(9, .int v9_32), (11, .int a7), (0, .ref (ad 0)), (1, .int a1), (2, .int a2), (3, .int a3), (4, .int a4), (5, .int a5), (6, .int a6), (7, .int a7), (8, .int a8), (10, .int x10)]) hx hb dX9_call_131 hl (by decide) rfl (fun ls hl => ?_)
                    refine lv_iinc (v := x10 + 1) (lv' := [(10, .int (x10 + 1)), (9, .int v9_32), (11, .int a7), (0, .ref (ad 0)), (1, .int a1), (2, .int a2), (3, .int a3), (4, .int a4), (5, .int a5), (6, .int a6), (7, .int a7), (8, .int a8)]) hx hb dX9_call_133 hl (k := 11) rfl rfl (by decide) rfl (fun ls hl => ?_)
                    refine lv_goto (tgt := 43) hx hb dX9_call_136 (by decide) ?_
                    rw [hB43] at hT
                    exact hT _ _ _ hP hD hS (lv_sub hl [3, 4, 5, 6, 7, 8, 9, 10, 11, 1, 0] rfl)
                  · replace hT := hT.2 c31
                    rw [hB118] at hT
                    exact hT _ _ _ hP hD hS (lv_sub hl [1] rfl)
            · replace hT := hT.2 c21
              refine lv_iload hx hb dX9_call_76 (lv_at hl 6 rfl) ?_
              refine lv_goto (tgt := 94) hx hb dX9_call_78 (by decide) ?_
              refine lv_istore (lv' := [(11, .int a6), (0, .ref (ad 0)), (1, .int a1), (2, .int a2), (3, .int a3), (4, .int a4), (5, .int a5), (6, .int a6), (7, .int a7), (8, .int a8), (9, .int x9), (10, .int x10)]) hx hb dX9_call_94 hl (by decide) rfl (fun ls hl => ?_)
              refine lv_aload_n hx hb dX9_call_96 rfl (lv_at hl 1 rfl) ?_
              refine lv_iload hx hb dX9_call_97 (lv_at hl 0 rfl) ?_
              refine lv_iconst (v := 0) hx hb dX9_call_99 (by decide) ?_
              refine lv_iconst (v := 4) hx hb dX9_call_100 (by decide) ?_
              refine mcallZ (n := 3) (rest := []) hT hx hb hml hown hts hK hA hP hD hS hl gg_139 hd_X9_in ⟨Nat.le_of_ble_eq_true rfl, Nat.le_of_ble_eq_true rfl⟩ rfl rfl (Nat.le_of_ble_eq_true rfl) dX9_call_101 (Nat.zero_le _) (Nat.zero_le _) (fun b34 S33 H locs hP hD hS hT => ?_)
              refine lv_if_eq (tgt := 118) hx hb dX9_call_104 (by decide) (fun c35 => ?_) (fun c35 => ?_)
              · replace hT := hT.1 c35
                rw [hB118] at hT
                exact hT _ _ _ hP hD hS (lv_sub hl [1] rfl)
              · replace hT := hT.2 c35
                refine lv_iload hx hb dX9_call_107 (lv_at hl 10 rfl) ?_
                refine lv_iload hx hb dX9_call_109 (lv_at hl 0 rfl) ?_
                refine lv_ishr hx hb dX9_call_111 ?_
                refine lv_iconst (v := 1) hx hb dX9_call_112 (by decide) ?_
                refine lv_iand hx hb dX9_call_113 ?_
                refine lv_iconst (v := 1) hx hb dX9_call_114 (by decide) ?_
                refine lv_icmp_ne (tgt := 124) hx hb dX9_call_115 (by decide) (fun c36 => ?_) (fun c36 => ?_)
                · replace hT := hT.1 c36
                  refine lv_iload hx hb dX9_call_124 (lv_at hl 10 rfl) ?_
                  refine lv_iconst (v := 1) hx hb dX9_call_126 (by decide) ?_
                  refine lv_iload hx hb dX9_call_127 (lv_at hl 0 rfl) ?_
                  refine lv_ishl hx hb dX9_call_129 ?_
                  refine lv_ior hx hb dX9_call_130 ?_
                  refine lv_topi (fun v9_37 ev9_37 => ?_)
                  replace hT := hT v9_37 ev9_37
                  refine lv_istore (lv' := [(9, .int v9_37), (11, .int a6), (0, .ref (ad 0)), (1, .int a1), (2, .int a2), (3, .int a3), (4, .int a4), (5, .int a5), (6, .int a6), (7, .int a7), (8, .int a8), (10, .int x10)]) hx hb dX9_call_131 hl (by decide) rfl (fun ls hl => ?_)
                  refine lv_iinc (v := x10 + 1) (lv' := [(10, .int (x10 + 1)), (9, .int v9_37), (11, .int a6), (0, .ref (ad 0)), (1, .int a1), (2, .int a2), (3, .int a3), (4, .int a4), (5, .int a5), (6, .int a6), (7, .int a7), (8, .int a8)]) hx hb dX9_call_133 hl (k := 11) rfl rfl (by decide) rfl (fun ls hl => ?_)
                  refine lv_goto (tgt := 43) hx hb dX9_call_136 (by decide) ?_
                  rw [hB43] at hT
                  exact hT _ _ _ hP hD hS (lv_sub hl [3, 4, 5, 6, 7, 8, 9, 10, 11, 1, 0] rfl)
                · replace hT := hT.2 c36
                  rw [hB118] at hT
                  exact hT _ _ _ hP hD hS (lv_sub hl [1] rfl)
          · replace hT := hT.2 c20
            refine lv_iload hx hb dX9_call_65 (lv_at hl 5 rfl) ?_
            refine lv_goto (tgt := 94) hx hb dX9_call_67 (by decide) ?_
            refine lv_istore (lv' := [(11, .int a5), (0, .ref (ad 0)), (1, .int a1), (2, .int a2), (3, .int a3), (4, .int a4), (5, .int a5), (6, .int a6), (7, .int a7), (8, .int a8), (9, .int x9), (10, .int x10)]) hx hb dX9_call_94 hl (by decide) rfl (fun ls hl => ?_)
            refine lv_aload_n hx hb dX9_call_96 rfl (lv_at hl 1 rfl) ?_
            refine lv_iload hx hb dX9_call_97 (lv_at hl 0 rfl) ?_
            refine lv_iconst (v := 0) hx hb dX9_call_99 (by decide) ?_
            refine lv_iconst (v := 4) hx hb dX9_call_100 (by decide) ?_
            refine mcallZ (n := 3) (rest := []) hT hx hb hml hown hts hK hA hP hD hS hl gg_139 hd_X9_in ⟨Nat.le_of_ble_eq_true rfl, Nat.le_of_ble_eq_true rfl⟩ rfl rfl (Nat.le_of_ble_eq_true rfl) dX9_call_101 (Nat.zero_le _) (Nat.zero_le _) (fun b39 S38 H locs hP hD hS hT => ?_)
            refine lv_if_eq (tgt := 118) hx hb dX9_call_104 (by decide) (fun c40 => ?_) (fun c40 => ?_)
            · replace hT := hT.1 c40
              rw [hB118] at hT
              exact hT _ _ _ hP hD hS (lv_sub hl [1] rfl)
            · replace hT := hT.2 c40
              refine lv_iload hx hb dX9_call_107 (lv_at hl 10 rfl) ?_
              refine lv_iload hx hb dX9_call_109 (lv_at hl 0 rfl) ?_
              refine lv_ishr hx hb dX9_call_111 ?_
              refine lv_iconst (v := 1) hx hb dX9_call_112 (by decide) ?_
              refine lv_iand hx hb dX9_call_113 ?_
              refine lv_iconst (v := 1) hx hb dX9_call_114 (by decide) ?_
              refine lv_icmp_ne (tgt := 124) hx hb dX9_call_115 (by decide) (fun c41 => ?_) (fun c41 => ?_)
              · replace hT := hT.1 c41
                refine lv_iload hx hb dX9_call_124 (lv_at hl 10 rfl) ?_
                refine lv_iconst (v := 1) hx hb dX9_call_126 (by decide) ?_
                refine lv_iload hx hb dX9_call_127 (lv_at hl 0 rfl) ?_
                refine lv_ishl hx hb dX9_call_129 ?_
                refine lv_ior hx hb dX9_call_130 ?_
                refine lv_topi (fun v9_42 ev9_42 => ?_)
                replace hT := hT v9_42 ev9_42
                refine lv_istore (lv' := [(9, .int v9_42), (11, .int a5), (0, .ref (ad 0)), (1, .int a1), (2, .int a2), (3, .int a3), (4, .int a4), (5, .int a5), (6, .int a6), (7, .int a7), (8, .int a8), (10, .int x10)]) hx hb dX9_call_131 hl (by decide) rfl (fun ls hl => ?_)
                refine lv_iinc (v := x10 + 1) (lv' := [(10, .int (x10 + 1)), (9, .int v9_42), (11, .int a5), (0, .ref (ad 0)), (1, .int a1), (2, .int a2), (3, .int a3), (4, .int a4), (5, .int a5), (6, .int a6), (7, .int a7), (8, .int a8)]) hx hb dX9_call_133 hl (k := 11) rfl rfl (by decide) rfl (fun ls hl => ?_)
                refine lv_goto (tgt := 43) hx hb dX9_call_136 (by decide) ?_
                rw [hB43] at hT
                exact hT _ _ _ hP hD hS (lv_sub hl [3, 4, 5, 6, 7, 8, 9, 10, 11, 1, 0] rfl)
              · replace hT := hT.2 c41
                rw [hB118] at hT
                exact hT _ _ _ hP hD hS (lv_sub hl [1] rfl)
        · replace hT := hT.2 c19
          refine lv_iload hx hb dX9_call_54 (lv_at hl 4 rfl) ?_
          refine lv_goto (tgt := 94) hx hb dX9_call_56 (by decide) ?_
          refine lv_istore (lv' := [(11, .int a4), (0, .ref (ad 0)), (1, .int a1), (2, .int a2), (3, .int a3), (4, .int a4), (5, .int a5), (6, .int a6), (7, .int a7), (8, .int a8), (9, .int x9), (10, .int x10)]) hx hb dX9_call_94 hl (by decide) rfl (fun ls hl => ?_)
          refine lv_aload_n hx hb dX9_call_96 rfl (lv_at hl 1 rfl) ?_
          refine lv_iload hx hb dX9_call_97 (lv_at hl 0 rfl) ?_
          refine lv_iconst (v := 0) hx hb dX9_call_99 (by decide) ?_
          refine lv_iconst (v := 4) hx hb dX9_call_100 (by decide) ?_
          refine mcallZ (n := 3) (rest := []) hT hx hb hml hown hts hK hA hP hD hS hl gg_139 hd_X9_in ⟨Nat.le_of_ble_eq_true rfl, Nat.le_of_ble_eq_true rfl⟩ rfl rfl (Nat.le_of_ble_eq_true rfl) dX9_call_101 (Nat.zero_le _) (Nat.zero_le _) (fun b44 S43 H locs hP hD hS hT => ?_)
          refine lv_if_eq (tgt := 118) hx hb dX9_call_104 (by decide) (fun c45 => ?_) (fun c45 => ?_)
          · replace hT := hT.1 c45
            rw [hB118] at hT
            exact hT _ _ _ hP hD hS (lv_sub hl [1] rfl)
          · replace hT := hT.2 c45
            refine lv_iload hx hb dX9_call_107 (lv_at hl 10 rfl) ?_
            refine lv_iload hx hb dX9_call_109 (lv_at hl 0 rfl) ?_
            refine lv_ishr hx hb dX9_call_111 ?_
            refine lv_iconst (v := 1) hx hb dX9_call_112 (by decide) ?_
            refine lv_iand hx hb dX9_call_113 ?_
            refine lv_iconst (v := 1) hx hb dX9_call_114 (by decide) ?_
            refine lv_icmp_ne (tgt := 124) hx hb dX9_call_115 (by decide) (fun c46 => ?_) (fun c46 => ?_)
            · replace hT := hT.1 c46
              refine lv_iload hx hb dX9_call_124 (lv_at hl 10 rfl) ?_
              refine lv_iconst (v := 1) hx hb dX9_call_126 (by decide) ?_
              refine lv_iload hx hb dX9_call_127 (lv_at hl 0 rfl) ?_
              refine lv_ishl hx hb dX9_call_129 ?_
              refine lv_ior hx hb dX9_call_130 ?_
              refine lv_topi (fun v9_47 ev9_47 => ?_)
              replace hT := hT v9_47 ev9_47
              refine lv_istore (lv' := [(9, .int v9_47), (11, .int a4), (0, .ref (ad 0)), (1, .int a1), (2, .int a2), (3, .int a3), (4, .int a4), (5, .int a5), (6, .int a6), (7, .int a7), (8, .int a8), (10, .int x10)]) hx hb dX9_call_131 hl (by decide) rfl (fun ls hl => ?_)
              refine lv_iinc (v := x10 + 1) (lv' := [(10, .int (x10 + 1)), (9, .int v9_47), (11, .int a4), (0, .ref (ad 0)), (1, .int a1), (2, .int a2), (3, .int a3), (4, .int a4), (5, .int a5), (6, .int a6), (7, .int a7), (8, .int a8)]) hx hb dX9_call_133 hl (k := 11) rfl rfl (by decide) rfl (fun ls hl => ?_)
              refine lv_goto (tgt := 43) hx hb dX9_call_136 (by decide) ?_
              rw [hB43] at hT
              exact hT _ _ _ hP hD hS (lv_sub hl [3, 4, 5, 6, 7, 8, 9, 10, 11, 1, 0] rfl)
            · replace hT := hT.2 c46
              rw [hB118] at hT
              exact hT _ _ _ hP hD hS (lv_sub hl [1] rfl)
    · clear hP hD hS hl H locs ls
      intro S hT
      unfold mT_call_118 at hT
      rw [hB118]
      intro H locs ls hP hD hS hl
      refine lv_aload_n hx hb dX9_call_118 rfl (lv_at hl 0 rfl) ?_
      refine lv_iconst (v := 1) hx hb dX9_call_119 (by decide) ?_
      refine mcallI (n := 1) (rest := []) hT hx hb hml hown hts hK hA hP hD hS hl gg_192 hd_X9_no ⟨Nat.le_of_ble_eq_true rfl, Nat.le_of_ble_eq_true rfl⟩ rfl rfl (Nat.le_of_ble_eq_true rfl) dX9_call_120 (Nat.zero_le _) (Nat.zero_le _) (fun r49 S48 H locs hP hD hS hT => ?_)
      exact hret _ _ _ _ _ _ hP hD hS hT dX9_call_123
  unfold mT_call_e at hT
  refine lv_aload_n hx hb dX9_call_0 rfl (lv_at hl 0 rfl) ?_
  refine lv_iconst (v := 0) hx hb dX9_call_1 (by decide) ?_
  refine mp_thrown hx hb hts hown hK hP hD hS dX9_call_2 (fun H locs hP hD hS => ?_)
  refine lv_aload_n hx hb dX9_call_5 rfl (lv_at hl 0 rfl) ?_
  refine lv_iload_n hx hb dX9_call_6 rfl (lv_at hl 1 rfl) ?_
  refine mcallZ (n := 1) (rest := []) hT hx hb hml hown hts hK hA hP hD hS hl gg_242 hd_X9_isScheme ⟨Nat.le_of_ble_eq_true rfl, Nat.le_of_ble_eq_true rfl⟩ rfl rfl (Nat.le_of_ble_eq_true rfl) dX9_call_7 (Nat.zero_le _) (Nat.zero_le _) (fun b51 S50 H locs hP hD hS hT => ?_)
  refine lv_if_eq (tgt := 31) hx hb dX9_call_10 (by decide) (fun c52 => ?_) (fun c52 => ?_)
  · replace hT := hT.1 c52
    rw [hB31] at hT
    exact hT _ _ _ hP hD hS (lv_sub hl [0] rfl)
  · replace hT := hT.2 c52
    refine lv_aload_n hx hb dX9_call_13 rfl (lv_at hl 0 rfl) ?_
    refine lv_iload_n hx hb dX9_call_14 rfl (lv_at hl 2 rfl) ?_
    refine mcallZ (n := 1) (rest := []) hT hx hb hml hown hts hK hA hP hD hS hl gg_242 hd_X9_isScheme ⟨Nat.le_of_ble_eq_true rfl, Nat.le_of_ble_eq_true rfl⟩ rfl rfl (Nat.le_of_ble_eq_true rfl) dX9_call_15 (Nat.zero_le _) (Nat.zero_le _) (fun b54 S53 H locs hP hD hS hT => ?_)
    refine lv_if_eq (tgt := 31) hx hb dX9_call_18 (by decide) (fun c55 => ?_) (fun c55 => ?_)
    · replace hT := hT.1 c55
      rw [hB31] at hT
      exact hT _ _ _ hP hD hS (lv_sub hl [0] rfl)
    · replace hT := hT.2 c55
      refine lv_aload_n hx hb dX9_call_21 rfl (lv_at hl 0 rfl) ?_
      refine lv_iload_n hx hb dX9_call_22 rfl (lv_at hl 3 rfl) ?_
      refine lv_iconst (v := 1) hx hb dX9_call_23 (by decide) ?_
      refine lv_iconst (v := 4) hx hb dX9_call_24 (by decide) ?_
      refine mcallZ (n := 3) (rest := []) hT hx hb hml hown hts hK hA hP hD hS hl gg_139 hd_X9_in ⟨Nat.le_of_ble_eq_true rfl, Nat.le_of_ble_eq_true rfl⟩ rfl rfl (Nat.le_of_ble_eq_true rfl) dX9_call_25 (Nat.zero_le _) (Nat.zero_le _) (fun b57 S56 H locs hP hD hS hT => ?_)
      refine lv_if_ne (tgt := 37) hx hb dX9_call_28 (by decide) (fun c58 => ?_) (fun c58 => ?_)
      · replace hT := hT.1 c58
        refine lv_iconst (v := 0) hx hb dX9_call_37 (by decide) ?_
        refine lv_istore (lv' := [(9, .int 0), (0, .ref (ad 0)), (1, .int a1), (2, .int a2), (3, .int a3), (4, .int a4), (5, .int a5), (6, .int a6), (7, .int a7), (8, .int a8)]) hx hb dX9_call_38 hl (by decide) rfl (fun ls hl => ?_)
        refine lv_iconst (v := 0) hx hb dX9_call_40 (by decide) ?_
        refine lv_istore (lv' := [(10, .int 0), (9, .int 0), (0, .ref (ad 0)), (1, .int a1), (2, .int a2), (3, .int a3), (4, .int a4), (5, .int a5), (6, .int a6), (7, .int a7), (8, .int a8)]) hx hb dX9_call_41 hl (by decide) rfl (fun ls hl => ?_)
        rw [hB43] at hT
        exact hT _ _ _ hP hD hS (lv_sub hl [2, 3, 4, 5, 6, 7, 8, 9, 10, 1, 0] rfl)
      · replace hT := hT.2 c58
        rw [hB31] at hT
        exact hT _ _ _ hP hD hS (lv_sub hl [0] rfl)
