abbrev mX_failed (l : Launch) (S : MS) (post : Int32 → MS → Prop) : Prop := mCtI l yX9_failed cX9_failed 1 0 0 (fun ad => []) S post
def mT_failed_e (l : Launch) (post : Int32 → MS → Prop) (S0 : MS) : Prop := post (S0.1 10) (mf S0 3 0)
set_option maxHeartbeats 4000000 in
set_option maxRecDepth 100000 in
theorem m_failed (l : Launch) (S0 : MS) (post : Int32 → MS → Prop) (h : mT_failed_e l post S0) : mX_failed l S0 post := by
  refine msetI rfl (fun _ => Nat.le_of_ble_eq_true rfl) ?_
  intro p e s m args below meth c D ad cI cZ cL A Q hx hb hml hown hts hK hA hret H locs ls hP hD hS hl
  replace hl : lv_has ls 1 [(0, .ref (ad 0))] := hl
  have hT := h
  unfold mT_failed_e at hT
  refine lv_aload_n hx hb dX9_failed_0 rfl (lv_at hl 0 rfl) ?_
  refine lv_iconst (v := 0) hx hb dX9_failed_1 (by decide) ?_
  refine mp_thrown hx hb hts hown hK hP hD hS dX9_failed_2 (fun H locs hP hD hS => ?_)
  refine lv_aload_n hx hb dX9_failed_5 rfl (lv_at hl 0 rfl) ?_
  refine mg_failedMove (v := S0.1 10) hx hb hts hown hK hP rfl dX9_failed_6 ?_
  exact hret _ _ _ _ _ _ hP hD hS hT dX9_failed_9
abbrev mX_trouble (l : Launch) (S : MS) (post : Int32 → MS → Prop) : Prop := mCtI l yX9_trouble cX9_trouble 1 0 0 (fun ad => []) S post
def mT_trouble_e (l : Launch) (post : Int32 → MS → Prop) (S0 : MS) : Prop := post (S0.1 2) (mf S0 3 0)
set_option maxHeartbeats 4000000 in
set_option maxRecDepth 100000 in
theorem m_trouble (l : Launch) (S0 : MS) (post : Int32 → MS → Prop) (h : mT_trouble_e l post S0) : mX_trouble l S0 post := by
  refine msetI rfl (fun _ => Nat.le_of_ble_eq_true rfl) ?_
  intro p e s m args below meth c D ad cI cZ cL A Q hx hb hml hown hts hK hA hret H locs ls hP hD hS hl
  replace hl : lv_has ls 1 [(0, .ref (ad 0))] := hl
  have hT := h
  unfold mT_trouble_e at hT
  refine lv_aload_n hx hb dX9_trouble_0 rfl (lv_at hl 0 rfl) ?_
  refine lv_iconst (v := 0) hx hb dX9_trouble_1 (by decide) ?_
  refine mp_thrown hx hb hts hown hK hP hD hS dX9_trouble_2 (fun H locs hP hD hS => ?_)
  refine lv_aload_n hx hb dX9_trouble_5 rfl (lv_at hl 0 rfl) ?_
  refine mg_trouble (v := S0.1 2) hx hb hts hown hK hP rfl dX9_trouble_6 ?_
  exact hret _ _ _ _ _ _ hP hD hS hT dX9_trouble_9
abbrev mX_size (l : Launch) (S : MS) (a1 : Int32) (post : Int32 → MS → Prop) : Prop := mCtI l yX9_size cX9_size 4 1 22 (fun ad => [.int a1]) S post
def mT_size_96 (l : Launch) (a1 : Int32) (post : Int32 → MS → Prop) (B96 : MS → Int32 → Int32 → Prop) (S : MS) (x2 : Int32) (x3 : Int32) : Prop := (x3 < 0 → post x2 S) ∧ (¬ x3 < 0 → vp_in x3 7 ∧ ∀ v2_3 : Int32, v2_3 = (4 * x2) + (S.2.1 1 x3.toNatClampNeg) → B96 S v2_3 (x3 + (-1)))
def mT_size_e (l : Launch) (a1 : Int32) (post : Int32 → MS → Prop) (B96 : MS → Int32 → Int32 → Prop) (S0 : MS) : Prop := (a1 = 0 → post (S0.1 0) (mf S0 3 0)) ∧ (a1 = 1 → post (S0.1 1) (mf S0 3 0)) ∧ (a1 = 2 → mX_lanesThere l (mf S0 3 0) (fun r5 S4 => post r5 S4)) ∧ (a1 = 3 → post (S0.1 9) (mf S0 3 0)) ∧ (a1 = 4 → post (S0.1 4) (mf S0 3 0)) ∧ (a1 = 5 → post (S0.1 5) (mf S0 3 0)) ∧ (a1 = 6 → post (S0.1 6) (mf S0 3 0)) ∧ (a1 = 7 → ∀ v3_6 : Int32, v3_6 = (S0.1 1) - 1 → B96 (mf S0 3 0) 0 v3_6) ∧ ((a1.toInt < 0 ∨ 7 < a1.toInt) → post (-1) (mf S0 3 0))
set_option maxHeartbeats 4000000 in
set_option maxRecDepth 100000 in
theorem m_size (l : Launch) (S0 : MS) (a1 : Int32) (post : Int32 → MS → Prop) (h : ∀ (B96 : MS → Int32 → Int32 → Prop), (∀ (S : MS) (x2 : Int32) (x3 : Int32), mT_size_96 l a1 post B96 S x2 x3 → B96 S x2 x3) → mT_size_e l a1 post B96 S0) : mX_size l S0 a1 post := by
  refine msetI rfl (fun _ => Nat.le_of_ble_eq_true rfl) ?_
  intro p e s m args below meth c D ad cI cZ cL A Q hx hb hml hown hts hK hA hret H locs ls hP hD hS hl
  replace hl : lv_has ls 4 [(0, .ref (ad 0)), (1, .int a1)] := hl
  obtain ⟨B96, hB96⟩ : ∃ B : MS → Int32 → Int32 → Prop, B = (fun S x2 x3 => ∀ (H : Heap) (locs : List Loc) (ls : Array Slot), va_P D vwCl (mW ad cI cZ cL S) H → va_D A (mW ad cI cZ cL S) → va_S A s.heap H locs → lv_has ls 4 [(0, .ref (ad 0)), (2, .int x2), (3, .int x3)] → W p l e (mrm 1 22) s m args below meth c H locs 0 0 Q (F0 m 96 ls [])) := ⟨_, rfl⟩
  have hT : mT_size_e l a1 post B96 S0 := by
    refine h B96 ?_
    · clear hP hD hS hl H locs ls
      intro S x2 x3 hT
      unfold mT_size_96 at hT
      rw [hB96]
      intro H locs ls hP hD hS hl
      refine lv_iload_n hx hb dX9_size_96 rfl (lv_at hl 2 rfl) ?_
      refine lv_if_lt (tgt := 117) hx hb dX9_size_97 (by decide) (fun c1 => ?_) (fun c1 => ?_)
      · replace hT := hT.1 c1
        refine lv_iload_n hx hb dX9_size_117 rfl (lv_at hl 1 rfl) ?_
        exact hret _ _ _ _ _ _ hP hD hS hT dX9_size_118
      · replace hT := hT.2 c1
        refine lv_iconst (v := 4) hx hb dX9_size_100 (by decide) ?_
        refine lv_iload_n hx hb dX9_size_101 rfl (lv_at hl 1 rfl) ?_
        refine lv_imul hx hb dX9_size_102 ?_
        refine lv_aload_n hx hb dX9_size_103 rfl (lv_at hl 0 rfl) ?_
        refine mg_kinds hx hb hts hown hK hP dX9_size_104 ?_
        refine lv_iload_n hx hb dX9_size_107 rfl (lv_at hl 2 rfl) ?_
        obtain ⟨hi2, hT⟩ := hT
        refine va_iald (f := S.2.1 1) hx hb hK hP 1 0 mat_1 rfl hi2 dX9_size_108 ?_
        refine lv_iadd hx hb dX9_size_109 ?_
        refine lv_topi (fun v2_3 ev2_3 => ?_)
        replace hT := hT v2_3 ev2_3
        refine lv_istore_n (lv' := [(2, .int v2_3), (0, .ref (ad 0)), (3, .int x3)]) hx hb dX9_size_110 rfl hl (by decide) rfl (fun ls hl => ?_)
        refine lv_iinc (v := x3 + (-1)) (lv' := [(3, .int (x3 + (-1))), (2, .int v2_3), (0, .ref (ad 0))]) hx hb dX9_size_111 hl (k := 2) rfl rfl (by decide) rfl (fun ls hl => ?_)
        refine lv_goto (tgt := 96) hx hb dX9_size_114 (by decide) ?_
        rw [hB96] at hT
        exact hT _ _ _ hP hD hS (lv_sub hl [2, 1, 0] rfl)
  unfold mT_size_e at hT
  refine lv_aload_n hx hb dX9_size_0 rfl (lv_at hl 0 rfl) ?_
  refine lv_iconst (v := 0) hx hb dX9_size_1 (by decide) ?_
  refine mp_thrown hx hb hts hown hK hP hD hS dX9_size_2 (fun H locs hP hD hS => ?_)
  refine lv_iload_n hx hb dX9_size_5 rfl (lv_at hl 1 rfl) ?_
  by_cases csw : (a1.toInt < 0 ∨ 7 < a1.toInt)
  · replace hT := hT.2.2.2.2.2.2.2.2 csw
    refine lv_tableOut (tgt := 119) hx hb dX9_size_6 csw (by decide) ?_
    refine lv_iconst (v := (-1)) hx hb dX9_size_119 (by decide) ?_
    exact hret _ _ _ _ _ _ hP hD hS hT dX9_size_120
  · have csw : a1 = 0 ∨ a1 = 1 ∨ a1 = 2 ∨ a1 = 3 ∨ a1 = 4 ∨ a1 = 5 ∨ a1 = 6 ∨ a1 = 7 := sw_cases0_7 csw
    rcases csw with csw | csw | csw | csw | csw | csw | csw | csw
    · replace hT := hT.1 csw
      refine lv_tableIn (tgt := 52) hx hb dX9_size_6 (by rw [csw]; decide) (by rw [csw]; decide) (by rw [csw]; rfl) (by decide) ?_
      refine lv_aload_n hx hb dX9_size_52 rfl (lv_at hl 0 rfl) ?_
      refine mg_pegs (v := S0.1 0) hx hb hts hown hK hP rfl dX9_size_53 ?_
      exact hret _ _ _ _ _ _ hP hD hS hT dX9_size_56
    · replace hT := hT.2.1 csw
      refine lv_tableIn (tgt := 57) hx hb dX9_size_6 (by rw [csw]; decide) (by rw [csw]; decide) (by rw [csw]; rfl) (by decide) ?_
      refine lv_aload_n hx hb dX9_size_57 rfl (lv_at hl 0 rfl) ?_
      refine mg_discs (v := S0.1 1) hx hb hts hown hK hP rfl dX9_size_58 ?_
      exact hret _ _ _ _ _ _ hP hD hS hT dX9_size_61
    · replace hT := hT.2.2.1 csw
      refine lv_tableIn (tgt := 62) hx hb dX9_size_6 (by rw [csw]; decide) (by rw [csw]; decide) (by rw [csw]; rfl) (by decide) ?_
      refine lv_aload_n hx hb dX9_size_62 rfl (lv_at hl 0 rfl) ?_
      refine mcallI (n := 0) (rest := []) hT hx hb hml hown hts hK hA hP hD hS hl gg_173 hd_X9_lanesThere ⟨Nat.le_of_ble_eq_true rfl, Nat.le_of_ble_eq_true rfl⟩ rfl rfl (Nat.le_of_ble_eq_true rfl) dX9_size_63 (Nat.zero_le _) (Nat.zero_le _) (fun r5 S4 H locs hP hD hS hT => ?_)
      exact hret _ _ _ _ _ _ hP hD hS hT dX9_size_66
    · replace hT := hT.2.2.2.1 csw
      refine lv_tableIn (tgt := 67) hx hb dX9_size_6 (by rw [csw]; decide) (by rw [csw]; decide) (by rw [csw]; rfl) (by decide) ?_
      refine lv_aload_n hx hb dX9_size_67 rfl (lv_at hl 0 rfl) ?_
      refine mg_schemes (v := S0.1 9) hx hb hts hown hK hP rfl dX9_size_68 ?_
      exact hret _ _ _ _ _ _ hP hD hS hT dX9_size_71
    · replace hT := hT.2.2.2.2.1 csw
      refine lv_tableIn (tgt := 72) hx hb dX9_size_6 (by rw [csw]; decide) (by rw [csw]; decide) (by rw [csw]; rfl) (by decide) ?_
      refine lv_aload_n hx hb dX9_size_72 rfl (lv_at hl 0 rfl) ?_
      refine mg_undos (v := S0.1 4) hx hb hts hown hK hP rfl dX9_size_73 ?_
      exact hret _ _ _ _ _ _ hP hD hS hT dX9_size_76
    · replace hT := hT.2.2.2.2.2.1 csw
      refine lv_tableIn (tgt := 77) hx hb dX9_size_6 (by rw [csw]; decide) (by rw [csw]; decide) (by rw [csw]; rfl) (by decide) ?_
      refine lv_aload_n hx hb dX9_size_77 rfl (lv_at hl 0 rfl) ?_
      refine mg_redos (v := S0.1 5) hx hb hts hown hK hP rfl dX9_size_78 ?_
      exact hret _ _ _ _ _ _ hP hD hS hT dX9_size_81
    · replace hT := hT.2.2.2.2.2.2.1 csw
      refine lv_tableIn (tgt := 82) hx hb dX9_size_6 (by rw [csw]; decide) (by rw [csw]; decide) (by rw [csw]; rfl) (by decide) ?_
      refine lv_aload_n hx hb dX9_size_82 rfl (lv_at hl 0 rfl) ?_
      refine mg_planned (v := S0.1 6) hx hb hts hown hK hP rfl dX9_size_83 ?_
      exact hret _ _ _ _ _ _ hP hD hS hT dX9_size_86
    · replace hT := hT.2.2.2.2.2.2.2.1 csw
      refine lv_tableIn (tgt := 87) hx hb dX9_size_6 (by rw [csw]; decide) (by rw [csw]; decide) (by rw [csw]; rfl) (by decide) ?_
      refine lv_iconst (v := 0) hx hb dX9_size_87 (by decide) ?_
      refine lv_istore_n (lv' := [(2, .int 0), (0, .ref (ad 0)), (1, .int a1)]) hx hb dX9_size_88 rfl hl (by decide) rfl (fun ls hl => ?_)
      refine lv_aload_n hx hb dX9_size_89 rfl (lv_at hl 1 rfl) ?_
      refine mg_discs (v := S0.1 1) hx hb hts hown hK hP rfl dX9_size_90 ?_
      refine lv_iconst (v := 1) hx hb dX9_size_93 (by decide) ?_
      refine lv_isub hx hb dX9_size_94 ?_
      refine lv_topi (fun v3_6 ev3_6 => ?_)
      replace hT := hT v3_6 ev3_6
      refine lv_istore_n (lv' := [(3, .int v3_6), (2, .int 0), (0, .ref (ad 0)), (1, .int a1)]) hx hb dX9_size_95 rfl hl (by decide) rfl (fun ls hl => ?_)
      rw [hB96] at hT
      exact hT _ _ _ hP hD hS (lv_sub hl [2, 1, 0] rfl)
