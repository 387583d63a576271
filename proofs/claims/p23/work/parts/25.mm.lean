abbrev mX_planned (l : Launch) (S : MS) (a1 : Int32) (post : Int32 → MS → Prop) : Prop := mCtI l yX9_planned cX9_planned 2 1 23 (fun ad => [.int a1]) S post
def mT_planned_e (l : Launch) (a1 : Int32) (post : Int32 → MS → Prop) (S0 : MS) : Prop := mX_in l (mf S0 3 0) a1 0 ((S0.1 6) - 1) (fun b2 S1 => (bI b2 = 0 → post (-1) S1) ∧ (¬ bI b2 = 0 → vp_in a1 20000 ∧ post (S1.2.1 7 a1.toNatClampNeg) S1))
set_option maxHeartbeats 4000000 in
set_option maxRecDepth 100000 in
theorem m_planned (l : Launch) (S0 : MS) (a1 : Int32) (post : Int32 → MS → Prop) (h : mT_planned_e l a1 post S0) : mX_planned l S0 a1 post := by
  refine msetI rfl (fun _ => Nat.le_of_ble_eq_true rfl) ?_
  intro p e s m args below meth c D ad cI cZ cL A Q hx hb hml hown hts hK hA hret H locs ls hP hD hS hl
  replace hl : lv_has ls 2 [(0, .ref (ad 0)), (1, .int a1)] := hl
  have hT := h
  unfold mT_planned_e at hT
  refine lv_aload_n hx hb dX9_planned_0 rfl (lv_at hl 0 rfl) ?_
  refine lv_iconst (v := 0) hx hb dX9_planned_1 (by decide) ?_
  refine mp_thrown hx hb hts hown hK hP hD hS dX9_planned_2 (fun H locs hP hD hS => ?_)
  refine lv_aload_n hx hb dX9_planned_5 rfl (lv_at hl 0 rfl) ?_
  refine lv_iload_n hx hb dX9_planned_6 rfl (lv_at hl 1 rfl) ?_
  refine lv_iconst (v := 0) hx hb dX9_planned_7 (by decide) ?_
  refine lv_aload_n hx hb dX9_planned_8 rfl (lv_at hl 0 rfl) ?_
  refine mg_planned (v := S0.1 6) hx hb hts hown hK hP rfl dX9_planned_9 ?_
  refine lv_iconst (v := 1) hx hb dX9_planned_12 (by decide) ?_
  refine lv_isub hx hb dX9_planned_13 ?_
  refine mcallZ (n := 3) (rest := []) hT hx hb hml hown hts hK hA hP hD hS hl gg_139 hd_X9_in ⟨Nat.le_of_ble_eq_true rfl, Nat.le_of_ble_eq_true rfl⟩ rfl rfl (Nat.le_of_ble_eq_true rfl) dX9_planned_14 (Nat.zero_le _) (Nat.zero_le _) (fun b2 S1 H locs hP hD hS hT => ?_)
  refine lv_if_eq (tgt := 29) hx hb dX9_planned_17 (by decide) (fun c3 => ?_) (fun c3 => ?_)
  · replace hT := hT.1 c3
    refine lv_iconst (v := (-1)) hx hb dX9_planned_29 (by decide) ?_
    exact hret _ _ _ _ _ _ hP hD hS hT dX9_planned_30
  · replace hT := hT.2 c3
    refine lv_aload_n hx hb dX9_planned_20 rfl (lv_at hl 0 rfl) ?_
    refine mg_plan hx hb hts hown hK hP dX9_planned_21 ?_
    refine lv_iload_n hx hb dX9_planned_24 rfl (lv_at hl 1 rfl) ?_
    obtain ⟨hi4, hT⟩ := hT
    refine va_iald (f := S1.2.1 7) hx hb hK hP 7 0 mat_7 rfl hi4 dX9_planned_25 ?_
    refine lv_goto (tgt := 30) hx hb dX9_planned_26 (by decide) ?_
    exact hret _ _ _ _ _ _ hP hD hS hT dX9_planned_30
abbrev mX_ways (l : Launch) (S : MS) (post : Int64 → MS → Prop) : Prop := mCtJ l yX9_ways cX9_ways 7 4 100 (fun ad => []) S post
def mT_ways_52 (l : Launch) (post : Int64 → MS → Prop) (B52 : MS → Int32 → Int32 → Prop) (B88 : MS → Int32 → Int32 → Prop) (B115 : MS → Int32 → Int32 → Int32 → Int32 → Prop) (B127 : MS → Int32 → Int32 → Int32 → Int32 → Int32 → Prop) (B176 : MS → Int32 → Int32 → Int32 → Int32 → Int32 → Prop) (S : MS) (x1 : Int32) (x2 : Int32) : Prop := (S.1 7 ≤ x2 → B88 S x1 0) ∧ (¬ S.1 7 ≤ x2 → vp_in x2 20000 ∧ (¬ x2 = 0 → vp_in (S.2.1 14 x2.toNatClampNeg) 20000 ∧ B52 (ml S 15 (vp_updL (S.2.2 15) (S.2.1 14 x2.toNatClampNeg).toNatClampNeg 0)) x1 (x2 + 1)) ∧ (x2 = 0 → vp_in (S.2.1 14 x2.toNatClampNeg) 20000 ∧ B52 (ml S 15 (vp_updL (S.2.2 15) (S.2.1 14 x2.toNatClampNeg).toNatClampNeg 1)) x1 (x2 + 1)))
def mT_ways_88 (l : Launch) (post : Int64 → MS → Prop) (B52 : MS → Int32 → Int32 → Prop) (B88 : MS → Int32 → Int32 → Prop) (B115 : MS → Int32 → Int32 → Int32 → Int32 → Prop) (B127 : MS → Int32 → Int32 → Int32 → Int32 → Int32 → Prop) (B176 : MS → Int32 → Int32 → Int32 → Int32 → Int32 → Prop) (S : MS) (x1 : Int32) (x2 : Int32) : Prop := (S.1 7 ≤ x2 → vp_in x1 20000 ∧ post (S.2.2 15 x1.toNatClampNeg) S) ∧ (¬ S.1 7 ≤ x2 → vp_in x2 20000 ∧ ∀ v3_9 : Int32, v3_9 = S.2.1 14 x2.toNatClampNeg → mX_unpack l S v3_9 8 (fun S10 => B115 S10 x1 x2 v3_9 0))
def mT_ways_115 (l : Launch) (post : Int64 → MS → Prop) (B52 : MS → Int32 → Int32 → Prop) (B88 : MS → Int32 → Int32 → Prop) (B115 : MS → Int32 → Int32 → Int32 → Int32 → Prop) (B127 : MS → Int32 → Int32 → Int32 → Int32 → Int32 → Prop) (B176 : MS → Int32 → Int32 → Int32 → Int32 → Int32 → Prop) (S : MS) (x1 : Int32) (x2 : Int32) (x3 : Int32) (x4 : Int32) : Prop := (S.1 0 ≤ x4 → B88 S x1 (x2 + 1)) ∧ (¬ S.1 0 ≤ x4 → B127 S x1 x2 x3 x4 0)
def mT_ways_127 (l : Launch) (post : Int64 → MS → Prop) (B52 : MS → Int32 → Int32 → Prop) (B88 : MS → Int32 → Int32 → Prop) (B115 : MS → Int32 → Int32 → Int32 → Int32 → Prop) (B127 : MS → Int32 → Int32 → Int32 → Int32 → Int32 → Prop) (B176 : MS → Int32 → Int32 → Int32 → Int32 → Int32 → Prop) (S : MS) (x1 : Int32) (x2 : Int32) (x3 : Int32) (x4 : Int32) (x5 : Int32) : Prop := (S.1 0 ≤ x5 → B115 S x1 x2 x3 (x4 + 1)) ∧ (¬ S.1 0 ≤ x5 → mX_leads l S x4 x5 (fun r14 S13 => mX_isNear l S13 x3 r14 x4 x5 (fun b16 S15 => (bI b16 = 0 → B176 S15 x1 x2 x3 x4 x5) ∧ (¬ bI b16 = 0 → vp_in r14 20000 ∧ vp_in x3 20000 ∧ vp_in r14 20000 ∧ B176 (ml S15 15 (vp_updL (S15.2.2 15) r14.toNatClampNeg ((S15.2.2 15 r14.toNatClampNeg) + (S15.2.2 15 x3.toNatClampNeg)))) x1 x2 x3 x4 x5))))
def mT_ways_176 (l : Launch) (post : Int64 → MS → Prop) (B52 : MS → Int32 → Int32 → Prop) (B88 : MS → Int32 → Int32 → Prop) (B115 : MS → Int32 → Int32 → Int32 → Int32 → Prop) (B127 : MS → Int32 → Int32 → Int32 → Int32 → Int32 → Prop) (B176 : MS → Int32 → Int32 → Int32 → Int32 → Int32 → Prop) (S : MS) (x1 : Int32) (x2 : Int32) (x3 : Int32) (x4 : Int32) (x5 : Int32) : Prop := B127 S x1 x2 x3 x4 (x5 + 1)
def mT_ways_e (l : Launch) (post : Int64 → MS → Prop) (B52 : MS → Int32 → Int32 → Prop) (B88 : MS → Int32 → Int32 → Prop) (B115 : MS → Int32 → Int32 → Int32 → Int32 → Prop) (B127 : MS → Int32 → Int32 → Int32 → Int32 → Int32 → Prop) (B176 : MS → Int32 → Int32 → Int32 → Int32 → Int32 → Prop) (S0 : MS) : Prop := mX_fits l (mf S0 3 0) (fun b22 S21 => (¬ bI b22 = 0 → mX_measure l (mf S21 2 0) (fun S24 => mX_pack l S24 3 (fun r26 S25 => vp_in r26 20000 ∧ (¬ S25.2.1 10 r26.toNatClampNeg = 2147483647 → B52 S25 r26 0) ∧ (S25.2.1 10 r26.toNatClampNeg = 2147483647 → post 0 S25)))) ∧ (bI b22 = 0 → mX_no l S21 2 (fun r30 S29 => post r30.toInt64 S29)))
set_option maxHeartbeats 4000000 in
set_option maxRecDepth 100000 in
theorem m_ways (l : Launch) (S0 : MS) (post : Int64 → MS → Prop) (h : ∀ (B52 : MS → Int32 → Int32 → Prop) (B88 : MS → Int32 → Int32 → Prop) (B115 : MS → Int32 → Int32 → Int32 → Int32 → Prop) (B127 : MS → Int32 → Int32 → Int32 → Int32 → Int32 → Prop) (B176 : MS → Int32 → Int32 → Int32 → Int32 → Int32 → Prop), (∀ (S : MS) (x1 : Int32) (x2 : Int32), mT_ways_52 l post B52 B88 B115 B127 B176 S x1 x2 → B52 S x1 x2) → (∀ (S : MS) (x1 : Int32) (x2 : Int32), mT_ways_88 l post B52 B88 B115 B127 B176 S x1 x2 → B88 S x1 x2) → (∀ (S : MS) (x1 : Int32) (x2 : Int32) (x3 : Int32) (x4 : Int32), mT_ways_115 l post B52 B88 B115 B127 B176 S x1 x2 x3 x4 → B115 S x1 x2 x3 x4) → (∀ (S : MS) (x1 : Int32) (x2 : Int32) (x3 : Int32) (x4 : Int32) (x5 : Int32), mT_ways_127 l post B52 B88 B115 B127 B176 S x1 x2 x3 x4 x5 → B127 S x1 x2 x3 x4 x5) → (∀ (S : MS) (x1 : Int32) (x2 : Int32) (x3 : Int32) (x4 : Int32) (x5 : Int32), mT_ways_176 l post B52 B88 B115 B127 B176 S x1 x2 x3 x4 x5 → B176 S x1 x2 x3 x4 x5) → mT_ways_e l post B52 B88 B115 B127 B176 S0) : mX_ways l S0 post := by
  refine msetJ rfl (fun _ => Nat.le_of_ble_eq_true rfl) ?_
  intro p e s m args below meth c D ad cI cZ cL A Q hx hb hml hown hts hK hA hret H locs ls hP hD hS hl
  replace hl : lv_has ls 7 [(0, .ref (ad 0))] := hl
  obtain ⟨B52, hB52⟩ : ∃ B : MS → Int32 → Int32 → Prop, B = (fun S x1 x2 => ∀ (H : Heap) (locs : List Loc) (ls : Array Slot), va_P D vwCl (mW ad cI cZ cL S) H → va_D A (mW ad cI cZ cL S) → va_S A s.heap H locs → lv_has ls 7 [(0, .ref (ad 0)), (1, .int x1), (2, .int x2)] → W p l e (mrm 4 100) s m args below meth c H locs 0 0 Q (F0 m 52 ls [])) := ⟨_, rfl⟩
  obtain ⟨B88, hB88⟩ : ∃ B : MS → Int32 → Int32 → Prop, B = (fun S x1 x2 => ∀ (H : Heap) (locs : List Loc) (ls : Array Slot), va_P D vwCl (mW ad cI cZ cL S) H → va_D A (mW ad cI cZ cL S) → va_S A s.heap H locs → lv_has ls 7 [(0, .ref (ad 0)), (1, .int x1), (2, .int x2)] → W p l e (mrm 4 100) s m args below meth c H locs 0 0 Q (F0 m 88 ls [])) := ⟨_, rfl⟩
  obtain ⟨B115, hB115⟩ : ∃ B : MS → Int32 → Int32 → Int32 → Int32 → Prop, B = (fun S x1 x2 x3 x4 => ∀ (H : Heap) (locs : List Loc) (ls : Array Slot), va_P D vwCl (mW ad cI cZ cL S) H → va_D A (mW ad cI cZ cL S) → va_S A s.heap H locs → lv_has ls 7 [(0, .ref (ad 0)), (1, .int x1), (2, .int x2), (3, .int x3), (4, .int x4)] → W p l e (mrm 4 100) s m args below meth c H locs 0 0 Q (F0 m 115 ls [])) := ⟨_, rfl⟩
  obtain ⟨B127, hB127⟩ : ∃ B : MS → Int32 → Int32 → Int32 → Int32 → Int32 → Prop, B = (fun S x1 x2 x3 x4 x5 => ∀ (H : Heap) (locs : List Loc) (ls : Array Slot), va_P D vwCl (mW ad cI cZ cL S) H → va_D A (mW ad cI cZ cL S) → va_S A s.heap H locs → lv_has ls 7 [(0, .ref (ad 0)), (1, .int x1), (2, .int x2), (3, .int x3), (4, .int x4), (5, .int x5)] → W p l e (mrm 4 100) s m args below meth c H locs 0 0 Q (F0 m 127 ls [])) := ⟨_, rfl⟩
  obtain ⟨B176, hB176⟩ : ∃ B : MS → Int32 → Int32 → Int32 → Int32 → Int32 → Prop, B = (fun S x1 x2 x3 x4 x5 => ∀ (H : Heap) (locs : List Loc) (ls : Array Slot), va_P D vwCl (mW ad cI cZ cL S) H → va_D A (mW ad cI cZ cL S) → va_S A s.heap H locs → lv_has ls 7 [(0, .ref (ad 0)), (1, .int x1), (2, .int x2), (3, .int x3), (4, .int x4), (5, .int x5)] → W p l e (mrm 4 100) s m args below meth c H locs 0 0 Q (F0 m 176 ls [])) := ⟨_, rfl⟩
  have hT : mT_ways_e l post B52 B88 B115 B127 B176 S0 := by
    refine h B52 B88 B115 B127 B176 ?_ ?_ ?_ ?_ ?_
    · clear hP hD hS hl H locs ls
      intro S x1 x2 hT
      unfold mT_ways_52 at hT
      rw [hB52]
      intro H locs ls hP hD hS hl
      refine lv_iload_n hx hb dX9_ways_52 rfl (lv_at hl 2 rfl) ?_
      refine lv_aload_n hx hb dX9_ways_53 rfl (lv_at hl 0 rfl) ?_
      refine mg_metMany (v := S.1 7) hx hb hts hown hK hP rfl dX9_ways_54 ?_
      refine lv_icmp_ge (tgt := 86) hx hb dX9_ways_57 (by decide) (fun c1 => ?_) (fun c1 => ?_)
      · replace hT := hT.1 c1
        refine lv_iconst (v := 0) hx hb dX9_ways_86 (by decide) ?_
        refine lv_istore_n (lv' := [(2, .int 0), (0, .ref (ad 0)), (1, .int x1)]) hx hb dX9_ways_87 rfl hl (by decide) rfl (fun ls hl => ?_)
        rw [hB88] at hT
        exact hT _ _ _ hP hD hS (lv_sub hl [1, 2, 0] rfl)
      · replace hT := hT.2 c1
        refine lv_aload_n hx hb dX9_ways_60 rfl (lv_at hl 0 rfl) ?_
        refine mg_many hx hb hts hown hK hP dX9_ways_61 ?_
        refine lv_aload_n hx hb dX9_ways_64 rfl (lv_at hl 0 rfl) ?_
        refine mg_met hx hb hts hown hK hP dX9_ways_65 ?_
        refine lv_iload_n hx hb dX9_ways_68 rfl (lv_at hl 2 rfl) ?_
        obtain ⟨hi2, hT⟩ := hT
        refine va_iald (f := S.2.1 14) hx hb hK hP 14 0 mat_14 rfl hi2 dX9_ways_69 ?_
        refine lv_iload_n hx hb dX9_ways_70 rfl (lv_at hl 2 rfl) ?_
        refine lv_if_ne (tgt := 78) hx hb dX9_ways_71 (by decide) (fun c3 => ?_) (fun c3 => ?_)
        · replace hT := hT.1 c3
          refine lv_lconst (v := 0) hx hb dX9_ways_78 (by decide) ?_
          obtain ⟨hi4, hT⟩ := hT
          refine va_last (f := S.2.2 15) hx hb hK hP hD hS 15 2 mat_15 rfl hi4 dX9_ways_79 (fun H locs hP hD hS => ?_)
          replace hP := msetP_15 hP
          replace hD := msetD_15 hD
          refine lv_iinc (v := x2 + 1) (lv' := [(2, .int (x2 + 1)), (0, .ref (ad 0)), (1, .int x1)]) hx hb dX9_ways_80 hl (k := 2) rfl rfl (by decide) rfl (fun ls hl => ?_)
          refine lv_goto (tgt := 52) hx hb dX9_ways_83 (by decide) ?_
          rw [hB52] at hT
          exact hT _ _ _ hP hD hS (lv_sub hl [1, 2, 0] rfl)
        · replace hT := hT.2 c3
          refine lv_lconst (v := 1) hx hb dX9_ways_74 (by decide) ?_
          refine lv_goto (tgt := 79) hx hb dX9_ways_75 (by decide) ?_
          obtain ⟨hi5, hT⟩ := hT
          refine va_last (f := S.2.2 15) hx hb hK hP hD hS 15 2 mat_15 rfl hi5 dX9_ways_79 (fun H locs hP hD hS => ?_)
          replace hP := msetP_15 hP
          replace hD := msetD_15 hD
          refine lv_iinc (v := x2 + 1) (lv' := [(2, .int (x2 + 1)), (0, .ref (ad 0)), (1, .int x1)]) hx hb dX9_ways_80 hl (k := 2) rfl rfl (by decide) rfl (fun ls hl => ?_)
          refine lv_goto (tgt := 52) hx hb dX9_ways_83 (by decide) ?_
          rw [hB52] at hT
          exact hT _ _ _ hP hD hS (lv_sub hl [1, 2, 0] rfl)
    · clear hP hD hS hl H locs ls
      intro S x1 x2 hT
      unfold mT_ways_88 at hT
      rw [hB88]
      intro H locs ls hP hD hS hl
      refine lv_iload_n hx hb dX9_ways_88 rfl (lv_at hl 2 rfl) ?_
      refine lv_aload_n hx hb dX9_ways_89 rfl (lv_at hl 0 rfl) ?_
      refine mg_metMany (v := S.1 7) hx hb hts hown hK hP rfl dX9_ways_90 ?_
      refine lv_icmp_ge (tgt := 194) hx hb dX9_ways_93 (by decide) (fun c6 => ?_) (fun c6 => ?_)
      · replace hT := hT.1 c6
        refine lv_aload_n hx hb dX9_ways_194 rfl (lv_at hl 0 rfl) ?_
        refine mg_many hx hb hts hown hK hP dX9_ways_195 ?_
        refine lv_iload_n hx hb dX9_ways_198 rfl (lv_at hl 1 rfl) ?_
        obtain ⟨hi7, hT⟩ := hT
        refine va_lald (f := S.2.2 15) hx hb hK hP 15 2 mat_15 rfl hi7 dX9_ways_199 ?_
        exact hret _ _ _ _ _ _ hP hD hS hT dX9_ways_200
      · replace hT := hT.2 c6
        refine lv_aload_n hx hb dX9_ways_96 rfl (lv_at hl 0 rfl) ?_
        refine mg_met hx hb hts hown hK hP dX9_ways_97 ?_
        refine lv_iload_n hx hb dX9_ways_100 rfl (lv_at hl 2 rfl) ?_
        obtain ⟨hi8, hT⟩ := hT
        refine va_iald (f := S.2.1 14) hx hb hK hP 14 0 mat_14 rfl hi8 dX9_ways_101 ?_
        refine lv_topi (fun v3_9 ev3_9 => ?_)
        replace hT := hT v3_9 ev3_9
        refine lv_istore_n (lv' := [(3, .int v3_9), (0, .ref (ad 0)), (1, .int x1), (2, .int x2)]) hx hb dX9_ways_102 rfl hl (by decide) rfl (fun ls hl => ?_)
        refine lv_aload_n hx hb dX9_ways_103 rfl (lv_at hl 1 rfl) ?_
        refine lv_iload_n hx hb dX9_ways_104 rfl (lv_at hl 0 rfl) ?_
        refine lv_aload_n hx hb dX9_ways_105 rfl (lv_at hl 1 rfl) ?_
        refine mg_at hx hb hts hown hK hP dX9_ways_106 ?_
        refine mcallV (n := 2) (rest := []) hT hx hb hml hown hts hK hA hP hD hS hl gg_180 hd_X9_unpack ⟨Nat.le_of_ble_eq_true rfl, Nat.le_of_ble_eq_true rfl⟩ rfl rfl (Nat.le_of_ble_eq_true rfl) dX9_ways_109 (Nat.zero_le _) (Nat.zero_le _) (fun S10 H locs hP hD hS hT => ?_)
        refine lv_iconst (v := 0) hx hb dX9_ways_112 (by decide) ?_
        refine lv_istore (lv' := [(4, .int 0), (3, .int v3_9), (0, .ref (ad 0)), (1, .int x1), (2, .int x2)]) hx hb dX9_ways_113 hl (by decide) rfl (fun ls hl => ?_)
        rw [hB115] at hT
        exact hT _ _ _ hP hD hS (lv_sub hl [2, 3, 4, 1, 0] rfl)
    · clear hP hD hS hl H locs ls
      intro S x1 x2 x3 x4 hT
      unfold mT_ways_115 at hT
      rw [hB115]
      intro H locs ls hP hD hS hl
      refine lv_iload hx hb dX9_ways_115 (lv_at hl 4 rfl) ?_
      refine lv_aload_n hx hb dX9_ways_117 rfl (lv_at hl 0 rfl) ?_
      refine mg_pegs (v := S.1 0) hx hb hts hown hK hP rfl dX9_ways_118 ?_
      refine lv_icmp_ge (tgt := 188) hx hb dX9_ways_121 (by decide) (fun c11 => ?_) (fun c11 => ?_)
      · replace hT := hT.1 c11
        refine lv_iinc (v := x2 + 1) (lv' := [(2, .int (x2 + 1)), (0, .ref (ad 0)), (1, .int x1), (3, .int x3), (4, .int x4)]) hx hb dX9_ways_188 hl (k := 2) rfl rfl (by decide) rfl (fun ls hl => ?_)
        refine lv_goto (tgt := 88) hx hb dX9_ways_191 (by decide) ?_
        rw [hB88] at hT
        exact hT _ _ _ hP hD hS (lv_sub hl [1, 2, 0] rfl)
      · replace hT := hT.2 c11
        refine lv_iconst (v := 0) hx hb dX9_ways_124 (by decide) ?_
        refine lv_istore (lv' := [(5, .int 0), (0, .ref (ad 0)), (1, .int x1), (2, .int x2), (3, .int x3), (4, .int x4)]) hx hb dX9_ways_125 hl (by decide) rfl (fun ls hl => ?_)
        rw [hB127] at hT
        exact hT _ _ _ hP hD hS (lv_sub hl [1, 2, 3, 4, 5, 0] rfl)
    · clear hP hD hS hl H locs ls
      intro S x1 x2 x3 x4 x5 hT
      unfold mT_ways_127 at hT
      rw [hB127]
      intro H locs ls hP hD hS hl
      refine lv_iload hx hb dX9_ways_127 (lv_at hl 5 rfl) ?_
      refine lv_aload_n hx hb dX9_ways_129 rfl (lv_at hl 0 rfl) ?_
      refine mg_pegs (v := S.1 0) hx hb hts hown hK hP rfl dX9_ways_130 ?_
      refine lv_icmp_ge (tgt := 182) hx hb dX9_ways_133 (by decide) (fun c12 => ?_) (fun c12 => ?_)
      · replace hT := hT.1 c12
        refine lv_iinc (v := x4 + 1) (lv' := [(4, .int (x4 + 1)), (0, .ref (ad 0)), (1, .int x1), (2, .int x2), (3, .int x3), (5, .int x5)]) hx hb dX9_ways_182 hl (k := 4) rfl rfl (by decide) rfl (fun ls hl => ?_)
        refine lv_goto (tgt := 115) hx hb dX9_ways_185 (by decide) ?_
        rw [hB115] at hT
        exact hT _ _ _ hP hD hS (lv_sub hl [1, 2, 3, 4, 0] rfl)
      · replace hT := hT.2 c12
        refine lv_aload_n hx hb dX9_ways_136 rfl (lv_at hl 0 rfl) ?_
        refine lv_iload hx hb dX9_ways_137 (lv_at hl 4 rfl) ?_
        refine lv_iload hx hb dX9_ways_139 (lv_at hl 5 rfl) ?_
        refine mcallI (n := 2) (rest := []) hT hx hb hml hown hts hK hA hP hD hS hl gg_211 hd_X9_leads ⟨Nat.le_of_ble_eq_true rfl, Nat.le_of_ble_eq_true rfl⟩ rfl rfl (Nat.le_of_ble_eq_true rfl) dX9_ways_141 (Nat.zero_le _) (Nat.zero_le _) (fun r14 S13 H locs hP hD hS hT => ?_)
        refine lv_istore (lv' := [(6, .int r14), (0, .ref (ad 0)), (1, .int x1), (2, .int x2), (3, .int x3), (4, .int x4), (5, .int x5)]) hx hb dX9_ways_144 hl (by decide) rfl (fun ls hl => ?_)
        refine lv_aload_n hx hb dX9_ways_146 rfl (lv_at hl 1 rfl) ?_
        refine lv_iload_n hx hb dX9_ways_147 rfl (lv_at hl 4 rfl) ?_
        refine lv_iload hx hb dX9_ways_148 (lv_at hl 0 rfl) ?_
        refine lv_iload hx hb dX9_ways_150 (lv_at hl 5 rfl) ?_
        refine lv_iload hx hb dX9_ways_152 (lv_at hl 6 rfl) ?_
        refine mcallZ (n := 4) (rest := []) hT hx hb hml hown hts hK hA hP hD hS hl gg_222 hd_X9_isNear ⟨Nat.le_of_ble_eq_true rfl, Nat.le_of_ble_eq_true rfl⟩ rfl rfl (Nat.le_of_ble_eq_true rfl) dX9_ways_154 (Nat.zero_le _) (Nat.zero_le _) (fun b16 S15 H locs hP hD hS hT => ?_)
        refine lv_if_eq (tgt := 176) hx hb dX9_ways_157 (by decide) (fun c17 => ?_) (fun c17 => ?_)
        · replace hT := hT.1 c17
          rw [hB176] at hT
          exact hT _ _ _ hP hD hS (lv_sub hl [1, 2, 3, 4, 5, 6] rfl)
        · replace hT := hT.2 c17
          refine lv_aload_n hx hb dX9_ways_160 rfl (lv_at hl 1 rfl) ?_
          refine mg_many hx hb hts hown hK hP dX9_ways_161 ?_
          refine lv_iload hx hb dX9_ways_164 (lv_at hl 0 rfl) ?_
          refine lv_dup2_11 hx hb dX9_ways_166 rfl rfl ?_
          obtain ⟨hi18, hT⟩ := hT
          refine va_lald (f := S15.2.2 15) hx hb hK hP 15 2 mat_15 rfl hi18 dX9_ways_167 ?_
          refine lv_aload_n hx hb dX9_ways_168 rfl (lv_at hl 1 rfl) ?_
          refine mg_many hx hb hts hown hK hP dX9_ways_169 ?_
          refine lv_iload_n hx hb dX9_ways_172 rfl (lv_at hl 4 rfl) ?_
          obtain ⟨hi19, hT⟩ := hT
          refine va_lald (f := S15.2.2 15) hx hb hK hP 15 2 mat_15 rfl hi19 dX9_ways_173 ?_
          refine lv_ladd hx hb dX9_ways_174 ?_
          obtain ⟨hi20, hT⟩ := hT
          refine va_last (f := S15.2.2 15) hx hb hK hP hD hS 15 2 mat_15 rfl hi20 dX9_ways_175 (fun H locs hP hD hS => ?_)
          replace hP := msetP_15 hP
          replace hD := msetD_15 hD
          rw [hB176] at hT
          exact hT _ _ _ hP hD hS (lv_sub hl [1, 2, 3, 4, 5, 6] rfl)
    · clear hP hD hS hl H locs ls
      intro S x1 x2 x3 x4 x5 hT
      unfold mT_ways_176 at hT
      rw [hB176]
      intro H locs ls hP hD hS hl
      refine lv_iinc (v := x5 + 1) (lv' := [(5, .int (x5 + 1)), (0, .ref (ad 0)), (1, .int x1), (2, .int x2), (3, .int x3), (4, .int x4)]) hx hb dX9_ways_176 hl (k := 5) rfl rfl (by decide) rfl (fun ls hl => ?_)
      refine lv_goto (tgt := 127) hx hb dX9_ways_179 (by decide) ?_
      rw [hB127] at hT
      exact hT _ _ _ hP hD hS (lv_sub hl [1, 2, 3, 4, 5, 0] rfl)
  unfold mT_ways_e at hT
  refine lv_aload_n hx hb dX9_ways_0 rfl (lv_at hl 0 rfl) ?_
  refine lv_iconst (v := 0) hx hb dX9_ways_1 (by decide) ?_
  refine mp_thrown hx hb hts hown hK hP hD hS dX9_ways_2 (fun H locs hP hD hS => ?_)
  refine lv_aload_n hx hb dX9_ways_5 rfl (lv_at hl 0 rfl) ?_
  refine mcallZ (n := 0) (rest := []) hT hx hb hml hown hts hK hA hP hD hS hl gg_215 hd_X9_fits ⟨Nat.le_of_ble_eq_true rfl, Nat.le_of_ble_eq_true rfl⟩ rfl rfl (Nat.le_of_ble_eq_true rfl) dX9_ways_6 (Nat.zero_le _) (Nat.zero_le _) (fun b22 S21 H locs hP hD hS hT => ?_)
  refine lv_if_ne (tgt := 19) hx hb dX9_ways_9 (by decide) (fun c23 => ?_) (fun c23 => ?_)
  · replace hT := hT.1 c23
    refine lv_aload_n hx hb dX9_ways_19 rfl (lv_at hl 0 rfl) ?_
    refine lv_iconst (v := 0) hx hb dX9_ways_20 (by decide) ?_
    refine mp_trouble hx hb hts hown hK hP hD hS dX9_ways_21 (fun H locs hP hD hS => ?_)
    refine lv_aload_n hx hb dX9_ways_24 rfl (lv_at hl 0 rfl) ?_
    refine mcallV (n := 0) (rest := []) hT hx hb hml hown hts hK hA hP hD hS hl gg_219 hd_X9_measure ⟨Nat.le_of_ble_eq_true rfl, Nat.le_of_ble_eq_true rfl⟩ rfl rfl (Nat.le_of_ble_eq_true rfl) dX9_ways_25 (Nat.zero_le _) (Nat.zero_le _) (fun S24 H locs hP hD hS hT => ?_)
    refine lv_aload_n hx hb dX9_ways_28 rfl (lv_at hl 0 rfl) ?_
    refine lv_aload_n hx hb dX9_ways_29 rfl (lv_at hl 0 rfl) ?_
    refine mg_goal hx hb hts hown hK hP dX9_ways_30 ?_
    refine mcallI (n := 1) (rest := []) hT hx hb hml hown hts hK hA hP hD hS hl gg_184 hd_X9_pack ⟨Nat.le_of_ble_eq_true rfl, Nat.le_of_ble_eq_true rfl⟩ rfl rfl (Nat.le_of_ble_eq_true rfl) dX9_ways_33 (Nat.zero_le _) (Nat.zero_le _) (fun r26 S25 H locs hP hD hS hT => ?_)
    refine lv_istore_n (lv' := [(1, .int r26), (0, .ref (ad 0))]) hx hb dX9_ways_36 rfl hl (by decide) rfl (fun ls hl => ?_)
    refine lv_aload_n hx hb dX9_ways_37 rfl (lv_at hl 1 rfl) ?_
    refine mg_far hx hb hts hown hK hP dX9_ways_38 ?_
    refine lv_iload_n hx hb dX9_ways_41 rfl (lv_at hl 0 rfl) ?_
    obtain ⟨hi27, hT⟩ := hT
    refine va_iald (f := S25.2.1 10) hx hb hK hP 10 0 mat_10 rfl hi27 dX9_ways_42 ?_
    refine lv_ldc (v := 2147483647) hx hb hown (hts _ k_1101) dX9_ways_43 ?_
    refine lv_icmp_ne (tgt := 50) hx hb dX9_ways_45 (by decide) (fun c28 => ?_) (fun c28 => ?_)
    · replace hT := hT.1 c28
      refine lv_iconst (v := 0) hx hb dX9_ways_50 (by decide) ?_
      refine lv_istore_n (lv' := [(2, .int 0), (1, .int r26), (0, .ref (ad 0))]) hx hb dX9_ways_51 rfl hl (by decide) rfl (fun ls hl => ?_)
      rw [hB52] at hT
      exact hT _ _ _ hP hD hS (lv_sub hl [2, 1, 0] rfl)
    · replace hT := hT.2 c28
      refine lv_lconst (v := 0) hx hb dX9_ways_48 (by decide) ?_
      exact hret _ _ _ _ _ _ hP hD hS hT dX9_ways_49
  · replace hT := hT.2 c23
    refine lv_aload_n hx hb dX9_ways_12 rfl (lv_at hl 0 rfl) ?_
    refine lv_iconst (v := 2) hx hb dX9_ways_13 (by decide) ?_
    refine mcallI (n := 1) (rest := []) hT hx hb hml hown hts hK hA hP hD hS hl gg_192 hd_X9_no ⟨Nat.le_of_ble_eq_true rfl, Nat.le_of_ble_eq_true rfl⟩ rfl rfl (Nat.le_of_ble_eq_true rfl) dX9_ways_14 (Nat.zero_le _) (Nat.zero_le _) (fun r30 S29 H locs hP hD hS hT => ?_)
    refine lv_i2l hx hb dX9_ways_17 rfl ?_
    exact hret _ _ _ _ _ _ hP hD hS hT dX9_ways_18
abbrev mX_reach (l : Launch) (S : MS) (post : Int32 → MS → Prop) : Prop := mCtI l yX9_reach cX9_reach 1 4 100 (fun ad => []) S post
def mT_reach_e (l : Launch) (post : Int32 → MS → Prop) (S0 : MS) : Prop := mX_fits l (mf S0 3 0) (fun b2 S1 => (¬ bI b2 = 0 → mX_measure l (mf S1 2 0) (fun S4 => post (S4.1 7) S4)) ∧ (bI b2 = 0 → mX_no l S1 2 (fun r6 S5 => post r6 S5)))
set_option maxHeartbeats 4000000 in
set_option maxRecDepth 100000 in
theorem m_reach (l : Launch) (S0 : MS) (post : Int32 → MS → Prop) (h : mT_reach_e l post S0) : mX_reach l S0 post := by
  refine msetI rfl (fun _ => Nat.le_of_ble_eq_true rfl) ?_
  intro p e s m args below meth c D ad cI cZ cL A Q hx hb hml hown hts hK hA hret H locs ls hP hD hS hl
  replace hl : lv_has ls 1 [(0, .ref (ad 0))] := hl
  have hT := h
  unfold mT_reach_e at hT
  refine lv_aload_n hx hb dX9_reach_0 rfl (lv_at hl 0 rfl) ?_
  refine lv_iconst (v := 0) hx hb dX9_reach_1 (by decide) ?_
  refine mp_thrown hx hb hts hown hK hP hD hS dX9_reach_2 (fun H locs hP hD hS => ?_)
  refine lv_aload_n hx hb dX9_reach_5 rfl (lv_at hl 0 rfl) ?_
  refine mcallZ (n := 0) (rest := []) hT hx hb hml hown hts hK hA hP hD hS hl gg_215 hd_X9_fits ⟨Nat.le_of_ble_eq_true rfl, Nat.le_of_ble_eq_true rfl⟩ rfl rfl (Nat.le_of_ble_eq_true rfl) dX9_reach_6 (Nat.zero_le _) (Nat.zero_le _) (fun b2 S1 H locs hP hD hS hT => ?_)
  refine lv_if_ne (tgt := 18) hx hb dX9_reach_9 (by decide) (fun c3 => ?_) (fun c3 => ?_)
  · replace hT := hT.1 c3
    refine lv_aload_n hx hb dX9_reach_18 rfl (lv_at hl 0 rfl) ?_
    refine lv_iconst (v := 0) hx hb dX9_reach_19 (by decide) ?_
    refine mp_trouble hx hb hts hown hK hP hD hS dX9_reach_20 (fun H locs hP hD hS => ?_)
    refine lv_aload_n hx hb dX9_reach_23 rfl (lv_at hl 0 rfl) ?_
    refine mcallV (n := 0) (rest := []) hT hx hb hml hown hts hK hA hP hD hS hl gg_219 hd_X9_measure ⟨Nat.le_of_ble_eq_true rfl, Nat.le_of_ble_eq_true rfl⟩ rfl rfl (Nat.le_of_ble_eq_true rfl) dX9_reach_24 (Nat.zero_le _) (Nat.zero_le _) (fun S4 H locs hP hD hS hT => ?_)
    refine lv_aload_n hx hb dX9_reach_27 rfl (lv_at hl 0 rfl) ?_
    refine mg_metMany (v := S4.1 7) hx hb hts hown hK hP rfl dX9_reach_28 ?_
    exact hret _ _ _ _ _ _ hP hD hS hT dX9_reach_31
  · replace hT := hT.2 c3
    refine lv_aload_n hx hb dX9_reach_12 rfl (lv_at hl 0 rfl) ?_
    refine lv_iconst (v := 2) hx hb dX9_reach_13 (by decide) ?_
    refine mcallI (n := 1) (rest := []) hT hx hb hml hown hts hK hA hP hD hS hl gg_192 hd_X9_no ⟨Nat.le_of_ble_eq_true rfl, Nat.le_of_ble_eq_true rfl⟩ rfl rfl (Nat.le_of_ble_eq_true rfl) dX9_reach_14 (Nat.zero_le _) (Nat.zero_le _) (fun r6 S5 H locs hP hD hS hT => ?_)
    exact hret _ _ _ _ _ _ hP hD hS hT dX9_reach_17
abbrev mX_far (l : Launch) (S : MS) (post : Int32 → MS → Prop) : Prop := mCtI l yX9_far cX9_far 1 4 100 (fun ad => []) S post
def mT_far_e (l : Launch) (post : Int32 → MS → Prop) (S0 : MS) : Prop := mX_fits l (mf S0 3 0) (fun b2 S1 => (¬ bI b2 = 0 → mX_measure l (mf S1 2 0) (fun S4 => vp_in ((S4.1 7) - 1) 20000 ∧ vp_in (S4.2.1 14 ((S4.1 7) - 1).toNatClampNeg) 20000 ∧ post (S4.2.1 10 (S4.2.1 14 ((S4.1 7) - 1).toNatClampNeg).toNatClampNeg) S4)) ∧ (bI b2 = 0 → mX_no l S1 2 (fun r8 S7 => post r8 S7)))
set_option maxHeartbeats 4000000 in
set_option maxRecDepth 100000 in
theorem m_far (l : Launch) (S0 : MS) (post : Int32 → MS → Prop) (h : mT_far_e l post S0) : mX_far l S0 post := by
  refine msetI rfl (fun _ => Nat.le_of_ble_eq_true rfl) ?_
  intro p e s m args below meth c D ad cI cZ cL A Q hx hb hml hown hts hK hA hret H locs ls hP hD hS hl
  replace hl : lv_has ls 1 [(0, .ref (ad 0))] := hl
  have hT := h
  unfold mT_far_e at hT
  refine lv_aload_n hx hb dX9_far_0 rfl (lv_at hl 0 rfl) ?_
  refine lv_iconst (v := 0) hx hb dX9_far_1 (by decide) ?_
  refine mp_thrown hx hb hts hown hK hP hD hS dX9_far_2 (fun H locs hP hD hS => ?_)
  refine lv_aload_n hx hb dX9_far_5 rfl (lv_at hl 0 rfl) ?_
  refine mcallZ (n := 0) (rest := []) hT hx hb hml hown hts hK hA hP hD hS hl gg_215 hd_X9_fits ⟨Nat.le_of_ble_eq_true rfl, Nat.le_of_ble_eq_true rfl⟩ rfl rfl (Nat.le_of_ble_eq_true rfl) dX9_far_6 (Nat.zero_le _) (Nat.zero_le _) (fun b2 S1 H locs hP hD hS hT => ?_)
  refine lv_if_ne (tgt := 18) hx hb dX9_far_9 (by decide) (fun c3 => ?_) (fun c3 => ?_)
  · replace hT := hT.1 c3
    refine lv_aload_n hx hb dX9_far_18 rfl (lv_at hl 0 rfl) ?_
    refine lv_iconst (v := 0) hx hb dX9_far_19 (by decide) ?_
    refine mp_trouble hx hb hts hown hK hP hD hS dX9_far_20 (fun H locs hP hD hS => ?_)
    refine lv_aload_n hx hb dX9_far_23 rfl (lv_at hl 0 rfl) ?_
    refine mcallV (n := 0) (rest := []) hT hx hb hml hown hts hK hA hP hD hS hl gg_219 hd_X9_measure ⟨Nat.le_of_ble_eq_true rfl, Nat.le_of_ble_eq_true rfl⟩ rfl rfl (Nat.le_of_ble_eq_true rfl) dX9_far_24 (Nat.zero_le _) (Nat.zero_le _) (fun S4 H locs hP hD hS hT => ?_)
    refine lv_aload_n hx hb dX9_far_27 rfl (lv_at hl 0 rfl) ?_
    refine mg_far hx hb hts hown hK hP dX9_far_28 ?_
    refine lv_aload_n hx hb dX9_far_31 rfl (lv_at hl 0 rfl) ?_
    refine mg_met hx hb hts hown hK hP dX9_far_32 ?_
    refine lv_aload_n hx hb dX9_far_35 rfl (lv_at hl 0 rfl) ?_
    refine mg_metMany (v := S4.1 7) hx hb hts hown hK hP rfl dX9_far_36 ?_
    refine lv_iconst (v := 1) hx hb dX9_far_39 (by decide) ?_
    refine lv_isub hx hb dX9_far_40 ?_
    obtain ⟨hi5, hT⟩ := hT
    refine va_iald (f := S4.2.1 14) hx hb hK hP 14 0 mat_14 rfl hi5 dX9_far_41 ?_
    obtain ⟨hi6, hT⟩ := hT
    refine va_iald (f := S4.2.1 10) hx hb hK hP 10 0 mat_10 rfl hi6 dX9_far_42 ?_
    exact hret _ _ _ _ _ _ hP hD hS hT dX9_far_43
  · replace hT := hT.2 c3
    refine lv_aload_n hx hb dX9_far_12 rfl (lv_at hl 0 rfl) ?_
    refine lv_iconst (v := 2) hx hb dX9_far_13 (by decide) ?_
    refine mcallI (n := 1) (rest := []) hT hx hb hml hown hts hK hA hP hD hS hl gg_192 hd_X9_no ⟨Nat.le_of_ble_eq_true rfl, Nat.le_of_ble_eq_true rfl⟩ rfl rfl (Nat.le_of_ble_eq_true rfl) dX9_far_14 (Nat.zero_le _) (Nat.zero_le _) (fun r8 S7 H locs hP hD hS hT => ?_)
    exact hret _ _ _ _ _ _ hP hD hS hT dX9_far_17
abbrev mX_farthest (l : Launch) (S : MS) (post : Int32 → MS → Prop) : Prop := mCtI l yX9_farthest cX9_farthest 3 4 100 (fun ad => []) S post
def mT_farthest_41 (l : Launch) (post : Int32 → MS → Prop) (B41 : MS → Int32 → Int32 → Prop) (B86 : MS → Int32 → Int32 → Prop) (S : MS) (x1 : Int32) (x2 : Int32) : Prop := (S.1 7 ≤ x2 → post x1 S) ∧ (¬ S.1 7 ≤ x2 → vp_in x2 20000 ∧ vp_in (S.2.1 14 x2.toNatClampNeg) 20000 ∧ vp_in x1 20000 ∧ (¬ S.2.1 10 (S.2.1 14 x2.toNatClampNeg).toNatClampNeg = S.2.1 10 x1.toNatClampNeg → B86 S x1 x2) ∧ (S.2.1 10 (S.2.1 14 x2.toNatClampNeg).toNatClampNeg = S.2.1 10 x1.toNatClampNeg → vp_in x2 20000 ∧ (x1 ≤ S.2.1 14 x2.toNatClampNeg → B86 S x1 x2) ∧ (¬ x1 ≤ S.2.1 14 x2.toNatClampNeg → vp_in x2 20000 ∧ ∀ v1_9 : Int32, v1_9 = S.2.1 14 x2.toNatClampNeg → B86 S v1_9 x2)))
def mT_farthest_86 (l : Launch) (post : Int32 → MS → Prop) (B41 : MS → Int32 → Int32 → Prop) (B86 : MS → Int32 → Int32 → Prop) (S : MS) (x1 : Int32) (x2 : Int32) : Prop := B41 S x1 (x2 + 1)
def mT_farthest_e (l : Launch) (post : Int32 → MS → Prop) (B41 : MS → Int32 → Int32 → Prop) (B86 : MS → Int32 → Int32 → Prop) (S0 : MS) : Prop := mX_fits l (mf S0 3 0) (fun b11 S10 => (¬ bI b11 = 0 → mX_measure l (mf S10 2 0) (fun S13 => vp_in ((S13.1 7) - 1) 20000 ∧ ∀ v1_15 : Int32, v1_15 = S13.2.1 14 ((S13.1 7) - 1).toNatClampNeg → B41 S13 v1_15 0)) ∧ (bI b11 = 0 → mX_no l S10 2 (fun r17 S16 => post r17 S16)))
set_option maxHeartbeats 4000000 in
set_option maxRecDepth 100000 in
theorem m_farthest (l : Launch) (S0 : MS) (post : Int32 → MS → Prop) (h : ∀ (B41 : MS → Int32 → Int32 → Prop) (B86 : MS → Int32 → Int32 → Prop), (∀ (S : MS) (x1 : Int32) (x2 : Int32), mT_farthest_41 l post B41 B86 S x1 x2 → B41 S x1 x2) → (∀ (S : MS) (x1 : Int32) (x2 : Int32), mT_farthest_86 l post B41 B86 S x1 x2 → B86 S x1 x2) → mT_farthest_e l post B41 B86 S0) : mX_farthest l S0 post := by
  refine msetI rfl (fun _ => Nat.le_of_ble_eq_true rfl) ?_
  intro p e s m args below meth c D ad cI cZ cL A Q hx hb hml hown hts hK hA hret H locs ls hP hD hS hl
  replace hl : lv_has ls 3 [(0, .ref (ad 0))] := hl
  obtain ⟨B41, hB41⟩ : ∃ B : MS → Int32 → Int32 → Prop, B = (fun S x1 x2 => ∀ (H : Heap) (locs : List Loc) (ls : Array Slot), va_P D vwCl (mW ad cI cZ cL S) H → va_D A (mW ad cI cZ cL S) → va_S A s.heap H locs → lv_has ls 3 [(0, .ref (ad 0)), (1, .int x1), (2, .int x2)] → W p l e (mrm 4 100) s m args below meth c H locs 0 0 Q (F0 m 41 ls [])) := ⟨_, rfl⟩
  obtain ⟨B86, hB86⟩ : ∃ B : MS → Int32 → Int32 → Prop, B = (fun S x1 x2 => ∀ (H : Heap) (locs : List Loc) (ls : Array Slot), va_P D vwCl (mW ad cI cZ cL S) H → va_D A (mW ad cI cZ cL S) → va_S A s.heap H locs → lv_has ls 3 [(0, .ref (ad 0)), (1, .int x1), (2, .int x2)] → W p l e (mrm 4 100) s m args below meth c H locs 0 0 Q (F0 m 86 ls [])) := ⟨_, rfl⟩
  have hT : mT_farthest_e l post B41 B86 S0 := by
    refine h B41 B86 ?_ ?_
    · clear hP hD hS hl H locs ls
      intro S x1 x2 hT
      unfold mT_farthest_41 at hT
      rw [hB41]
      intro H locs ls hP hD hS hl
      refine lv_iload_n hx hb dX9_farthest_41 rfl (lv_at hl 2 rfl) ?_
      refine lv_aload_n hx hb dX9_farthest_42 rfl (lv_at hl 0 rfl) ?_
      refine mg_metMany (v := S.1 7) hx hb hts hown hK hP rfl dX9_farthest_43 ?_
      refine lv_icmp_ge (tgt := 92) hx hb dX9_farthest_46 (by decide) (fun c1 => ?_) (fun c1 => ?_)
      · replace hT := hT.1 c1
        refine lv_iload_n hx hb dX9_farthest_92 rfl (lv_at hl 1 rfl) ?_
        exact hret _ _ _ _ _ _ hP hD hS hT dX9_farthest_93
      · replace hT := hT.2 c1
        refine lv_aload_n hx hb dX9_farthest_49 rfl (lv_at hl 0 rfl) ?_
        refine mg_far hx hb hts hown hK hP dX9_farthest_50 ?_
        refine lv_aload_n hx hb dX9_farthest_53 rfl (lv_at hl 0 rfl) ?_
        refine mg_met hx hb hts hown hK hP dX9_farthest_54 ?_
        refine lv_iload_n hx hb dX9_farthest_57 rfl (lv_at hl 2 rfl) ?_
        obtain ⟨hi2, hT⟩ := hT
        refine va_iald (f := S.2.1 14) hx hb hK hP 14 0 mat_14 rfl hi2 dX9_farthest_58 ?_
        obtain ⟨hi3, hT⟩ := hT
        refine va_iald (f := S.2.1 10) hx hb hK hP 10 0 mat_10 rfl hi3 dX9_farthest_59 ?_
        refine lv_aload_n hx hb dX9_farthest_60 rfl (lv_at hl 0 rfl) ?_
        refine mg_far hx hb hts hown hK hP dX9_farthest_61 ?_
        refine lv_iload_n hx hb dX9_farthest_64 rfl (lv_at hl 1 rfl) ?_
        obtain ⟨hi4, hT⟩ := hT
        refine va_iald (f := S.2.1 10) hx hb hK hP 10 0 mat_10 rfl hi4 dX9_farthest_65 ?_
        refine lv_icmp_ne (tgt := 86) hx hb dX9_farthest_66 (by decide) (fun c5 => ?_) (fun c5 => ?_)
        · replace hT := hT.1 c5
          rw [hB86] at hT
          exact hT _ _ _ hP hD hS (lv_sub hl [0, 1, 2] rfl)
        · replace hT := hT.2 c5
          refine lv_aload_n hx hb dX9_farthest_69 rfl (lv_at hl 0 rfl) ?_
          refine mg_met hx hb hts hown hK hP dX9_farthest_70 ?_
          refine lv_iload_n hx hb dX9_farthest_73 rfl (lv_at hl 2 rfl) ?_
          obtain ⟨hi6, hT⟩ := hT
          refine va_iald (f := S.2.1 14) hx hb hK hP 14 0 mat_14 rfl hi6 dX9_farthest_74 ?_
          refine lv_iload_n hx hb dX9_farthest_75 rfl (lv_at hl 1 rfl) ?_
          refine lv_icmp_ge (tgt := 86) hx hb dX9_farthest_76 (by decide) (fun c7 => ?_) (fun c7 => ?_)
          · replace hT := hT.1 c7
            rw [hB86] at hT
            exact hT _ _ _ hP hD hS (lv_sub hl [0, 1, 2] rfl)
          · replace hT := hT.2 c7
            refine lv_aload_n hx hb dX9_farthest_79 rfl (lv_at hl 0 rfl) ?_
            refine mg_met hx hb hts hown hK hP dX9_farthest_80 ?_
            refine lv_iload_n hx hb dX9_farthest_83 rfl (lv_at hl 2 rfl) ?_
            obtain ⟨hi8, hT⟩ := hT
            refine va_iald (f := S.2.1 14) hx hb hK hP 14 0 mat_14 rfl hi8 dX9_farthest_84 ?_
            refine lv_topi (fun v1_9 ev1_9 => ?_)
            replace hT := hT v1_9 ev1_9
            refine lv_istore_n (lv' := [(1, .int v1_9), (0, .ref (ad 0)), (2, .int x2)]) hx hb dX9_farthest_85 rfl hl (by decide) rfl (fun ls hl => ?_)
            rw [hB86] at hT
            exact hT _ _ _ hP hD hS (lv_sub hl [1, 0, 2] rfl)
    · clear hP hD hS hl H locs ls
      intro S x1 x2 hT
      unfold mT_farthest_86 at hT
      rw [hB86]
      intro H locs ls hP hD hS hl
      refine lv_iinc (v := x2 + 1) (lv' := [(2, .int (x2 + 1)), (0, .ref (ad 0)), (1, .int x1)]) hx hb dX9_farthest_86 hl (k := 2) rfl rfl (by decide) rfl (fun ls hl => ?_)
      refine lv_goto (tgt := 41) hx hb dX9_farthest_89 (by decide) ?_
      rw [hB41] at hT
      exact hT _ _ _ hP hD hS (lv_sub hl [1, 2, 0] rfl)
  unfold mT_farthest_e at hT
  refine lv_aload_n hx hb dX9_farthest_0 rfl (lv_at hl 0 rfl) ?_
  refine lv_iconst (v := 0) hx hb dX9_farthest_1 (by decide) ?_
  refine mp_thrown hx hb hts hown hK hP hD hS dX9_farthest_2 (fun H locs hP hD hS => ?_)
  refine lv_aload_n hx hb dX9_farthest_5 rfl (lv_at hl 0 rfl) ?_
  refine mcallZ (n := 0) (rest := []) hT hx hb hml hown hts hK hA hP hD hS hl gg_215 hd_X9_fits ⟨Nat.le_of_ble_eq_true rfl, Nat.le_of_ble_eq_true rfl⟩ rfl rfl (Nat.le_of_ble_eq_true rfl) dX9_farthest_6 (Nat.zero_le _) (Nat.zero_le _) (fun b11 S10 H locs hP hD hS hT => ?_)
  refine lv_if_ne (tgt := 18) hx hb dX9_farthest_9 (by decide) (fun c12 => ?_) (fun c12 => ?_)
  · replace hT := hT.1 c12
    refine lv_aload_n hx hb dX9_farthest_18 rfl (lv_at hl 0 rfl) ?_
    refine lv_iconst (v := 0) hx hb dX9_farthest_19 (by decide) ?_
    refine mp_trouble hx hb hts hown hK hP hD hS dX9_farthest_20 (fun H locs hP hD hS => ?_)
    refine lv_aload_n hx hb dX9_farthest_23 rfl (lv_at hl 0 rfl) ?_
    refine mcallV (n := 0) (rest := []) hT hx hb hml hown hts hK hA hP hD hS hl gg_219 hd_X9_measure ⟨Nat.le_of_ble_eq_true rfl, Nat.le_of_ble_eq_true rfl⟩ rfl rfl (Nat.le_of_ble_eq_true rfl) dX9_farthest_24 (Nat.zero_le _) (Nat.zero_le _) (fun S13 H locs hP hD hS hT => ?_)
    refine lv_aload_n hx hb dX9_farthest_27 rfl (lv_at hl 0 rfl) ?_
    refine mg_met hx hb hts hown hK hP dX9_farthest_28 ?_
    refine lv_aload_n hx hb dX9_farthest_31 rfl (lv_at hl 0 rfl) ?_
    refine mg_metMany (v := S13.1 7) hx hb hts hown hK hP rfl dX9_farthest_32 ?_
    refine lv_iconst (v := 1) hx hb dX9_farthest_35 (by decide) ?_
    refine lv_isub hx hb dX9_farthest_36 ?_
    obtain ⟨hi14, hT⟩ := hT
    refine va_iald (f := S13.2.1 14) hx hb hK hP 14 0 mat_14 rfl hi14 dX9_farthest_37 ?_
    refine lv_topi (fun v1_15 ev1_15 => ?_)
    replace hT := hT v1_15 ev1_15
    refine lv_istore_n (lv' := [(1, .int v1_15), (0, .ref (ad 0))]) hx hb dX9_farthest_38 rfl hl (by decide) rfl (fun ls hl => ?_)
    refine lv_iconst (v := 0) hx hb dX9_farthest_39 (by decide) ?_
    refine lv_istore_n (lv' := [(2, .int 0), (1, .int v1_15), (0, .ref (ad 0))]) hx hb dX9_farthest_40 rfl hl (by decide) rfl (fun ls hl => ?_)
    rw [hB41] at hT
    exact hT _ _ _ hP hD hS (lv_sub hl [2, 1, 0] rfl)
  · replace hT := hT.2 c12
    refine lv_aload_n hx hb dX9_farthest_12 rfl (lv_at hl 0 rfl) ?_
    refine lv_iconst (v := 2) hx hb dX9_farthest_13 (by decide) ?_
    refine mcallI (n := 1) (rest := []) hT hx hb hml hown hts hK hA hP hD hS hl gg_192 hd_X9_no ⟨Nat.le_of_ble_eq_true rfl, Nat.le_of_ble_eq_true rfl⟩ rfl rfl (Nat.le_of_ble_eq_true rfl) dX9_farthest_14 (Nat.zero_le _) (Nat.zero_le _) (fun r17 S16 H locs hP hD hS hT => ?_)
    exact hret _ _ _ _ _ _ hP hD hS hT dX9_farthest_17
abbrev mX_joinAll (l : Launch) (S : MS) (post : MS → Prop) : Prop := mCtV l yX9_joinAll cX9_joinAll 9 3 72 (fun ad => []) S post
def mT_joinAll_7 (l : Launch) (post : MS → Prop) (B7 : MS → Int32 → Int32 → Prop) (B41 : MS → Int32 → Int32 → Int32 → Prop) (B129 : MS → Int32 → Int32 → Int32 → Int32 → Int32 → Prop) (B398 : MS → Int32 → Int32 → Int32 → Int32 → Int32 → Int32 → Prop) (B431 : MS → Int32 → Int32 → Int32 → Int32 → Int32 → Int32 → Int32 → Prop) (B502 : MS → Int32 → Int32 → Int32 → Prop) (S : MS) (x1 : Int32) (x2 : Int32) : Prop := (x1 ≤ x2 → B41 (mf S 8 0) x1 0 0) ∧ (¬ x1 ≤ x2 → vp_in x2 20000 ∧ vp_in x2 20000 ∧ B7 (ma (ma S 18 (upd (S.2.1 18) x2.toNatClampNeg (-1))) 20 (upd (S.2.1 20) x2.toNatClampNeg (-1))) x1 (x2 + 1))
def mT_joinAll_41 (l : Launch) (post : MS → Prop) (B7 : MS → Int32 → Int32 → Prop) (B41 : MS → Int32 → Int32 → Int32 → Prop) (B129 : MS → Int32 → Int32 → Int32 → Int32 → Int32 → Prop) (B398 : MS → Int32 → Int32 → Int32 → Int32 → Int32 → Int32 → Prop) (B431 : MS → Int32 → Int32 → Int32 → Int32 → Int32 → Int32 → Int32 → Prop) (B502 : MS → Int32 → Int32 → Int32 → Prop) (S : MS) (x1 : Int32) (x2 : Int32) (x3 : Int32) : Prop := (x1 ≤ x3 → post S) ∧ (¬ x1 ≤ x3 → mX_unpack l S x3 8 (fun S5 => vp_in x3 20000 ∧ (¬ S5.2.1 18 x3.toNatClampNeg = (-1) → B502 S5 x1 x2 x3) ∧ (S5.2.1 18 x3.toNatClampNeg = (-1) → mX_isRight l S5 8 (fun b9 S8 => (¬ bI b9 = 0 → vp_in 0 20000 ∧ vp_in x3 20000 ∧ vp_in x3 20000 ∧ vp_in x3 20000 ∧ vp_in 0 20000 ∧ B129 (ma (ma (ma (ma (ma S8 21 (upd (S8.2.1 21) (0 : Int32).toNatClampNeg x3)) 23 (upd (S8.2.1 23) x3.toNatClampNeg 0)) 18 (upd (S8.2.1 18) x3.toNatClampNeg x2)) 19 (upd (S8.2.1 19) x3.toNatClampNeg x2)) 22 (upd (S8.2.1 22) (0 : Int32).toNatClampNeg x3)) x1 (x2 + 1) x3 1 1) ∧ (bI b9 = 0 → B502 S8 x1 x2 x3)))))
def mT_joinAll_129 (l : Launch) (post : MS → Prop) (B7 : MS → Int32 → Int32 → Prop) (B41 : MS → Int32 → Int32 → Int32 → Prop) (B129 : MS → Int32 → Int32 → Int32 → Int32 → Int32 → Prop) (B398 : MS → Int32 → Int32 → Int32 → Int32 → Int32 → Int32 → Prop) (B431 : MS → Int32 → Int32 → Int32 → Int32 → Int32 → Int32 → Int32 → Prop) (B502 : MS → Int32 → Int32 → Int32 → Prop) (S : MS) (x1 : Int32) (x2 : Int32) (x3 : Int32) (x4 : Int32) (x5 : Int32) : Prop := (x4 ≤ 0 → B502 S x1 x2 x3) ∧ (¬ x4 ≤ 0 → vp_in (x4 - 1) 20000 ∧ ∀ v6_18 : Int32, v6_18 = S.2.1 21 (x4 - 1).toNatClampNeg → vp_in v6_18 20000 ∧ (25 ≤ S.2.1 23 v6_18.toNatClampNeg → (x4 + (-1) ≤ 0 → B398 S x1 x2 x3 (x4 + (-1)) x5 v6_18) ∧ (¬ x4 + (-1) ≤ 0 → vp_in v6_18 20000 ∧ vp_in ((x4 + (-1)) - 1) 20000 ∧ vp_in (S.2.1 21 ((x4 + (-1)) - 1).toNatClampNeg) 20000 ∧ (S.2.1 19 (S.2.1 21 ((x4 + (-1)) - 1).toNatClampNeg).toNatClampNeg ≤ S.2.1 19 v6_18.toNatClampNeg → B398 S x1 x2 x3 (x4 + (-1)) x5 v6_18) ∧ (¬ S.2.1 19 (S.2.1 21 ((x4 + (-1)) - 1).toNatClampNeg).toNatClampNeg ≤ S.2.1 19 v6_18.toNatClampNeg → vp_in ((x4 + (-1)) - 1) 20000 ∧ vp_in v6_18 20000 ∧ vp_in (S.2.1 21 ((x4 + (-1)) - 1).toNatClampNeg) 20000 ∧ B398 (ma S 19 (upd (S.2.1 19) (S.2.1 21 ((x4 + (-1)) - 1).toNatClampNeg).toNatClampNeg (S.2.1 19 v6_18.toNatClampNeg))) x1 x2 x3 (x4 + (-1)) x5 v6_18))) ∧ (¬ 25 ≤ S.2.1 23 v6_18.toNatClampNeg → vp_in v6_18 20000 ∧ ∀ v7_30 : Int32, v7_30 = S.2.1 23 v6_18.toNatClampNeg → vp_in v6_18 20000 ∧ vp_in v6_18 20000 ∧ (S.1 0 ≤ v7_30 / 5 → B129 (ma S 23 (upd (S.2.1 23) v6_18.toNatClampNeg ((S.2.1 23 v6_18.toNatClampNeg) + 1))) x1 x2 x3 x4 x5) ∧ (¬ S.1 0 ≤ v7_30 / 5 → (v7_30 - v7_30 / 5 * 5 < S.1 0 → mX_unpack l (ma S 23 (upd (S.2.1 23) v6_18.toNatClampNeg ((S.2.1 23 v6_18.toNatClampNeg) + 1))) v6_18 8 (fun S35 => mX_leads l S35 (v7_30 / 5) (v7_30 - v7_30 / 5 * 5) (fun r37 S36 => (¬ r37 = (-1) → vp_in r37 20000 ∧ (¬ S36.2.1 18 r37.toNatClampNeg = (-1) → vp_in r37 20000 ∧ (¬ S36.2.1 20 r37.toNatClampNeg = (-1) → B129 S36 x1 x2 x3 x4 x5) ∧ (S36.2.1 20 r37.toNatClampNeg = (-1) → vp_in r37 20000 ∧ vp_in v6_18 20000 ∧ (S36.2.1 19 v6_18.toNatClampNeg ≤ S36.2.1 18 r37.toNatClampNeg → B129 S36 x1 x2 x3 x4 x5) ∧ (¬ S36.2.1 19 v6_18.toNatClampNeg ≤ S36.2.1 18 r37.toNatClampNeg → vp_in r37 20000 ∧ vp_in v6_18 20000 ∧ B129 (ma S36 19 (upd (S36.2.1 19) v6_18.toNatClampNeg (S36.2.1 18 r37.toNatClampNeg))) x1 x2 x3 x4 x5))) ∧ (S36.2.1 18 r37.toNatClampNeg = (-1) → vp_in r37 20000 ∧ vp_in r37 20000 ∧ vp_in r37 20000 ∧ vp_in x5 20000 ∧ vp_in x4 20000 ∧ B129 (ma (ma (ma (ma (ma S36 18 (upd (S36.2.1 18) r37.toNatClampNeg x2)) 19 (upd (S36.2.1 19) r37.toNatClampNeg x2)) 23 (upd (S36.2.1 23) r37.toNatClampNeg 0)) 22 (upd (S36.2.1 22) x5.toNatClampNeg r37)) 21 (upd (S36.2.1 21) x4.toNatClampNeg r37)) x1 (x2 + 1) x3 (x4 + 1) (x5 + 1))) ∧ (r37 = (-1) → B129 S36 x1 x2 x3 x4 x5)))) ∧ (¬ v7_30 - v7_30 / 5 * 5 < S.1 0 → B129 (ma S 23 (upd (S.2.1 23) v6_18.toNatClampNeg ((S.2.1 23 v6_18.toNatClampNeg) + 1))) x1 x2 x3 x4 x5))))
def mT_joinAll_398 (l : Launch) (post : MS → Prop) (B7 : MS → Int32 → Int32 → Prop) (B41 : MS → Int32 → Int32 → Int32 → Prop) (B129 : MS → Int32 → Int32 → Int32 → Int32 → Int32 → Prop) (B398 : MS → Int32 → Int32 → Int32 → Int32 → Int32 → Int32 → Prop) (B431 : MS → Int32 → Int32 → Int32 → Int32 → Int32 → Int32 → Int32 → Prop) (B502 : MS → Int32 → Int32 → Int32 → Prop) (S : MS) (x1 : Int32) (x2 : Int32) (x3 : Int32) (x4 : Int32) (x5 : Int32) (x6 : Int32) : Prop := vp_in x6 20000 ∧ vp_in x6 20000 ∧ (S.2.1 19 x6.toNatClampNeg = S.2.1 18 x6.toNatClampNeg → vp_in (S.1 8) 20000 ∧ B431 (ma S 24 (upd (S.2.1 24) (S.1 8).toNatClampNeg 0)) x1 x2 x3 x4 x5 x6 1) ∧ (¬ S.2.1 19 x6.toNatClampNeg = S.2.1 18 x6.toNatClampNeg → B129 S x1 x2 x3 x4 x5)
def mT_joinAll_431 (l : Launch) (post : MS → Prop) (B7 : MS → Int32 → Int32 → Prop) (B41 : MS → Int32 → Int32 → Int32 → Prop) (B129 : MS → Int32 → Int32 → Int32 → Int32 → Int32 → Prop) (B398 : MS → Int32 → Int32 → Int32 → Int32 → Int32 → Int32 → Prop) (B431 : MS → Int32 → Int32 → Int32 → Int32 → Int32 → Int32 → Int32 → Prop) (B502 : MS → Int32 → Int32 → Int32 → Prop) (S : MS) (x1 : Int32) (x2 : Int32) (x3 : Int32) (x4 : Int32) (x5 : Int32) (x6 : Int32) (x7 : Int32) : Prop := (x7 = 0 → B129 (mf S 8 ((S.1 8) + 1)) x1 x2 x3 x4 x5) ∧ (¬ x7 = 0 → vp_in (x5 + (-1)) 20000 ∧ ∀ v8_59 : Int32, v8_59 = S.2.1 22 (x5 + (-1)).toNatClampNeg → vp_in v8_59 20000 ∧ vp_in (S.1 8) 20000 ∧ vp_in (S.1 8) 20000 ∧ (v8_59 = x6 → B431 (ma (ma S 20 (upd (S.2.1 20) v8_59.toNatClampNeg (S.1 8))) 24 (upd (S.2.1 24) (S.1 8).toNatClampNeg ((S.2.1 24 (S.1 8).toNatClampNeg) + 1))) x1 x2 x3 x4 (x5 + (-1)) x6 0) ∧ (¬ v8_59 = x6 → B431 (ma (ma S 20 (upd (S.2.1 20) v8_59.toNatClampNeg (S.1 8))) 24 (upd (S.2.1 24) (S.1 8).toNatClampNeg ((S.2.1 24 (S.1 8).toNatClampNeg) + 1))) x1 x2 x3 x4 (x5 + (-1)) x6 1))
def mT_joinAll_502 (l : Launch) (post : MS → Prop) (B7 : MS → Int32 → Int32 → Prop) (B41 : MS → Int32 → Int32 → Int32 → Prop) (B129 : MS → Int32 → Int32 → Int32 → Int32 → Int32 → Prop) (B398 : MS → Int32 → Int32 → Int32 → Int32 → Int32 → Int32 → Prop) (B431 : MS → Int32 → Int32 → Int32 → Int32 → Int32 → Int32 → Int32 → Prop) (B502 : MS → Int32 → Int32 → Int32 → Prop) (S : MS) (x1 : Int32) (x2 : Int32) (x3 : Int32) : Prop := B41 S x1 x2 (x3 + 1)
def mT_joinAll_e (l : Launch) (post : MS → Prop) (B7 : MS → Int32 → Int32 → Prop) (B41 : MS → Int32 → Int32 → Int32 → Prop) (B129 : MS → Int32 → Int32 → Int32 → Int32 → Int32 → Prop) (B398 : MS → Int32 → Int32 → Int32 → Int32 → Int32 → Int32 → Prop) (B431 : MS → Int32 → Int32 → Int32 → Int32 → Int32 → Int32 → Int32 → Prop) (B502 : MS → Int32 → Int32 → Int32 → Prop) (S0 : MS) : Prop := mX_stands l S0 (fun r65 S64 => B7 S64 r65 0)
set_option maxHeartbeats 4000000 in
set_option maxRecDepth 100000 in
theorem m_joinAll (l : Launch) (S0 : MS) (post : MS → Prop) (h : ∀ (B7 : MS → Int32 → Int32 → Prop) (B41 : MS → Int32 → Int32 → Int32 → Prop) (B129 : MS → Int32 → Int32 → Int32 → Int32 → Int32 → Prop) (B398 : MS → Int32 → Int32 → Int32 → Int32 → Int32 → Int32 → Prop) (B431 : MS → Int32 → Int32 → Int32 → Int32 → Int32 → Int32 → Int32 → Prop) (B502 : MS → Int32 → Int32 → Int32 → Prop), (∀ (S : MS) (x1 : Int32) (x2 : Int32), mT_joinAll_7 l post B7 B41 B129 B398 B431 B502 S x1 x2 → B7 S x1 x2) → (∀ (S : MS) (x1 : Int32) (x2 : Int32) (x3 : Int32), mT_joinAll_41 l post B7 B41 B129 B398 B431 B502 S x1 x2 x3 → B41 S x1 x2 x3) → (∀ (S : MS) (x1 : Int32) (x2 : Int32) (x3 : Int32) (x4 : Int32) (x5 : Int32), mT_joinAll_129 l post B7 B41 B129 B398 B431 B502 S x1 x2 x3 x4 x5 → B129 S x1 x2 x3 x4 x5) → (∀ (S : MS) (x1 : Int32) (x2 : Int32) (x3 : Int32) (x4 : Int32) (x5 : Int32) (x6 : Int32), mT_joinAll_398 l post B7 B41 B129 B398 B431 B502 S x1 x2 x3 x4 x5 x6 → B398 S x1 x2 x3 x4 x5 x6) → (∀ (S : MS) (x1 : Int32) (x2 : Int32) (x3 : Int32) (x4 : Int32) (x5 : Int32) (x6 : Int32) (x7 : Int32), mT_joinAll_431 l post B7 B41 B129 B398 B431 B502 S x1 x2 x3 x4 x5 x6 x7 → B431 S x1 x2 x3 x4 x5 x6 x7) → (∀ (S : MS) (x1 : Int32) (x2 : Int32) (x3 : Int32), mT_joinAll_502 l post B7 B41 B129 B398 B431 B502 S x1 x2 x3 → B502 S x1 x2 x3) → mT_joinAll_e l post B7 B41 B129 B398 B431 B502 S0) : mX_joinAll l S0 post := by
  refine msetV rfl (fun _ => Nat.le_of_ble_eq_true rfl) ?_
  intro p e s m args below meth c D ad cI cZ cL A Q hx hb hml hown hts hK hA hret H locs ls hP hD hS hl
  replace hl : lv_has ls 9 [(0, .ref (ad 0))] := hl
  obtain ⟨B7, hB7⟩ : ∃ B : MS → Int32 → Int32 → Prop, B = (fun S x1 x2 => ∀ (H : Heap) (locs : List Loc) (ls : Array Slot), va_P D vwCl (mW ad cI cZ cL S) H → va_D A (mW ad cI cZ cL S) → va_S A s.heap H locs → lv_has ls 9 [(0, .ref (ad 0)), (1, .int x1), (2, .int x2)] → W p l e (mrm 3 72) s m args below meth c H locs 0 0 Q (F0 m 7 ls [])) := ⟨_, rfl⟩
  obtain ⟨B41, hB41⟩ : ∃ B : MS → Int32 → Int32 → Int32 → Prop, B = (fun S x1 x2 x3 => ∀ (H : Heap) (locs : List Loc) (ls : Array Slot), va_P D vwCl (mW ad cI cZ cL S) H → va_D A (mW ad cI cZ cL S) → va_S A s.heap H locs → lv_has ls 9 [(0, .ref (ad 0)), (1, .int x1), (2, .int x2), (3, .int x3)] → W p l e (mrm 3 72) s m args below meth c H locs 0 0 Q (F0 m 41 ls [])) := ⟨_, rfl⟩
  obtain ⟨B129, hB129⟩ : ∃ B : MS → Int32 → Int32 → Int32 → Int32 → Int32 → Prop, B = (fun S x1 x2 x3 x4 x5 => ∀ (H : Heap) (locs : List Loc) (ls : Array Slot), va_P D vwCl (mW ad cI cZ cL S) H → va_D A (mW ad cI cZ cL S) → va_S A s.heap H locs → lv_has ls 9 [(0, .ref (ad 0)), (1, .int x1), (2, .int x2), (3, .int x3), (4, .int x4), (5, .int x5)] → W p l e (mrm 3 72) s m args below meth c H locs 0 0 Q (F0 m 129 ls [])) := ⟨_, rfl⟩
  obtain ⟨B398, hB398⟩ : ∃ B : MS → Int32 → Int32 → Int32 → Int32 → Int32 → Int32 → Prop, B = (fun S x1 x2 x3 x4 x5 x6 => ∀ (H : Heap) (locs : List Loc) (ls : Array Slot), va_P D vwCl (mW ad cI cZ cL S) H → va_D A (mW ad cI cZ cL S) → va_S A s.heap H locs → lv_has ls 9 [(0, .ref (ad 0)), (1, .int x1), (2, .int x2), (3, .int x3), (4, .int x4), (5, .int x5), (6, .int x6)] → W p l e (mrm 3 72) s m args below meth c H locs 0 0 Q (F0 m 398 ls [])) := ⟨_, rfl⟩
  obtain ⟨B431, hB431⟩ : ∃ B : MS → Int32 → Int32 → Int32 → Int32 → Int32 → Int32 → Int32 → Prop, B = (fun S x1 x2 x3 x4 x5 x6 x7 => ∀ (H : Heap) (locs : List Loc) (ls : Array Slot), va_P D vwCl (mW ad cI cZ cL S) H → va_D A (mW ad cI cZ cL S) → va_S A s.heap H locs → lv_has ls 9 [(0, .ref (ad 0)), (1, .int x1), (2, .int x2), (3, .int x3), (4, .int x4), (5, .int x5), (6, .int x6), (7, .int x7)] → W p l e (mrm 3 72) s m args below meth c H locs 0 0 Q (F0 m 431 ls [])) := ⟨_, rfl⟩
  obtain ⟨B502, hB502⟩ : ∃ B : MS → Int32 → Int32 → Int32 → Prop, B = (fun S x1 x2 x3 => ∀ (H : Heap) (locs : List Loc) (ls : Array Slot), va_P D vwCl (mW ad cI cZ cL S) H → va_D A (mW ad cI cZ cL S) → va_S A s.heap H locs → lv_has ls 9 [(0, .ref (ad 0)), (1, .int x1), (2, .int x2), (3, .int x3)] → W p l e (mrm 3 72) s m args below meth c H locs 0 0 Q (F0 m 502 ls [])) := ⟨_, rfl⟩
  have hT : mT_joinAll_e l post B7 B41 B129 B398 B431 B502 S0 := by
    refine h B7 B41 B129 B398 B431 B502 ?_ ?_ ?_ ?_ ?_ ?_
    · clear hP hD hS hl H locs ls
      intro S x1 x2 hT
      unfold mT_joinAll_7 at hT
      rw [hB7]
      intro H locs ls hP hD hS hl
      refine lv_iload_n hx hb dX9_joinAll_7 rfl (lv_at hl 2 rfl) ?_
      refine lv_iload_n hx hb dX9_joinAll_8 rfl (lv_at hl 1 rfl) ?_
      refine lv_icmp_ge (tgt := 32) hx hb dX9_joinAll_9 (by decide) (fun c1 => ?_) (fun c1 => ?_)
      · replace hT := hT.1 c1
        refine lv_aload_n hx hb dX9_joinAll_32 rfl (lv_at hl 0 rfl) ?_
        refine lv_iconst (v := 0) hx hb dX9_joinAll_33 (by decide) ?_
        refine mp_sets hx hb hts hown hK hP hD hS dX9_joinAll_34 (fun H locs hP hD hS => ?_)
        refine lv_iconst (v := 0) hx hb dX9_joinAll_37 (by decide) ?_
        refine lv_istore_n (lv' := [(2, .int 0), (0, .ref (ad 0)), (1, .int x1)]) hx hb dX9_joinAll_38 rfl hl (by decide) rfl (fun ls hl => ?_)
        refine lv_iconst (v := 0) hx hb dX9_joinAll_39 (by decide) ?_
        refine lv_istore_n (lv' := [(3, .int 0), (2, .int 0), (0, .ref (ad 0)), (1, .int x1)]) hx hb dX9_joinAll_40 rfl hl (by decide) rfl (fun ls hl => ?_)
        rw [hB41] at hT
        exact hT _ _ _ hP hD hS (lv_sub hl [2, 3, 1, 0] rfl)
      · replace hT := hT.2 c1
        refine lv_aload_n hx hb dX9_joinAll_12 rfl (lv_at hl 0 rfl) ?_
        refine mg_order hx hb hts hown hK hP dX9_joinAll_13 ?_
        refine lv_iload_n hx hb dX9_joinAll_16 rfl (lv_at hl 2 rfl) ?_
        refine lv_iconst (v := (-1)) hx hb dX9_joinAll_17 (by decide) ?_
        obtain ⟨hi2, hT⟩ := hT
        refine va_iast (f := S.2.1 18) hx hb hK hP hD hS 18 0 mat_18 rfl hi2 dX9_joinAll_18 (fun H locs hP hD hS => ?_)
        replace hP := msetP_18 hP
        replace hD := msetD_18 hD
        refine lv_aload_n hx hb dX9_joinAll_19 rfl (lv_at hl 0 rfl) ?_
        refine mg_set hx hb hts hown hK hP dX9_joinAll_20 ?_
        refine lv_iload_n hx hb dX9_joinAll_23 rfl (lv_at hl 2 rfl) ?_
        refine lv_iconst (v := (-1)) hx hb dX9_joinAll_24 (by decide) ?_
        obtain ⟨hi3, hT⟩ := hT
        refine va_iast (f := S.2.1 20) hx hb hK hP hD hS 20 0 mat_20 rfl hi3 dX9_joinAll_25 (fun H locs hP hD hS => ?_)
        replace hP := msetP_20 hP
        replace hD := msetD_20 hD
        refine lv_iinc (v := x2 + 1) (lv' := [(2, .int (x2 + 1)), (0, .ref (ad 0)), (1, .int x1)]) hx hb dX9_joinAll_26 hl (k := 2) rfl rfl (by decide) rfl (fun ls hl => ?_)
        refine lv_goto (tgt := 7) hx hb dX9_joinAll_29 (by decide) ?_
        rw [hB7] at hT
        exact hT _ _ _ hP hD hS (lv_sub hl [1, 2, 0] rfl)
    · clear hP hD hS hl H locs ls
      intro S x1 x2 x3 hT
      unfold mT_joinAll_41 at hT
      rw [hB41]
      intro H locs ls hP hD hS hl
      refine lv_iload_n hx hb dX9_joinAll_41 rfl (lv_at hl 3 rfl) ?_
      refine lv_iload_n hx hb dX9_joinAll_42 rfl (lv_at hl 1 rfl) ?_
      refine lv_icmp_ge (tgt := 508) hx hb dX9_joinAll_43 (by decide) (fun c4 => ?_) (fun c4 => ?_)
      · replace hT := hT.1 c4
        exact hret _ _ _ _ _ hP hD hS hT dX9_joinAll_508
      · replace hT := hT.2 c4
        refine lv_aload_n hx hb dX9_joinAll_46 rfl (lv_at hl 0 rfl) ?_
        refine lv_iload_n hx hb dX9_joinAll_47 rfl (lv_at hl 3 rfl) ?_
        refine lv_aload_n hx hb dX9_joinAll_48 rfl (lv_at hl 0 rfl) ?_
        refine mg_at hx hb hts hown hK hP dX9_joinAll_49 ?_
        refine mcallV (n := 2) (rest := []) hT hx hb hml hown hts hK hA hP hD hS hl gg_180 hd_X9_unpack ⟨Nat.le_of_ble_eq_true rfl, Nat.le_of_ble_eq_true rfl⟩ rfl rfl (Nat.le_of_ble_eq_true rfl) dX9_joinAll_52 (Nat.zero_le _) (Nat.zero_le _) (fun S5 H locs hP hD hS hT => ?_)
        refine lv_aload_n hx hb dX9_joinAll_55 rfl (lv_at hl 0 rfl) ?_
        refine mg_order hx hb hts hown hK hP dX9_joinAll_56 ?_
        refine lv_iload_n hx hb dX9_joinAll_59 rfl (lv_at hl 3 rfl) ?_
        obtain ⟨hi6, hT⟩ := hT
        refine va_iald (f := S5.2.1 18) hx hb hK hP 18 0 mat_18 rfl hi6 dX9_joinAll_60 ?_
        refine lv_iconst (v := (-1)) hx hb dX9_joinAll_61 (by decide) ?_
        refine lv_icmp_ne (tgt := 502) hx hb dX9_joinAll_62 (by decide) (fun c7 => ?_) (fun c7 => ?_)
        · replace hT := hT.1 c7
          rw [hB502] at hT
          exact hT _ _ _ hP hD hS (lv_sub hl [0, 1, 2, 3] rfl)
        · replace hT := hT.2 c7
          refine lv_aload_n hx hb dX9_joinAll_65 rfl (lv_at hl 0 rfl) ?_
          refine lv_aload_n hx hb dX9_joinAll_66 rfl (lv_at hl 0 rfl) ?_
          refine mg_at hx hb hts hown hK hP dX9_joinAll_67 ?_
          refine mcallZ (n := 1) (rest := []) hT hx hb hml hown hts hK hA hP hD hS hl gg_166 hd_X9_isRight ⟨Nat.le_of_ble_eq_true rfl, Nat.le_of_ble_eq_true rfl⟩ rfl rfl (Nat.le_of_ble_eq_true rfl) dX9_joinAll_70 (Nat.zero_le _) (Nat.zero_le _) (fun b9 S8 H locs hP hD hS hT => ?_)
          refine lv_if_ne (tgt := 79) hx hb dX9_joinAll_73 (by decide) (fun c10 => ?_) (fun c10 => ?_)
          · replace hT := hT.1 c10
            refine lv_iconst (v := 0) hx hb dX9_joinAll_79 (by decide) ?_
            refine lv_istore (lv' := [(4, .int 0), (0, .ref (ad 0)), (1, .int x1), (2, .int x2), (3, .int x3)]) hx hb dX9_joinAll_80 hl (by decide) rfl (fun ls hl => ?_)
            refine lv_iconst (v := 0) hx hb dX9_joinAll_82 (by decide) ?_
            refine lv_istore (lv' := [(5, .int 0), (4, .int 0), (0, .ref (ad 0)), (1, .int x1), (2, .int x2), (3, .int x3)]) hx hb dX9_joinAll_83 hl (by decide) rfl (fun ls hl => ?_)
            refine lv_aload_n hx hb dX9_joinAll_85 rfl (lv_at hl 2 rfl) ?_
            refine mg_walk hx hb hts hown hK hP dX9_joinAll_86 ?_
            refine lv_iconst (v := 0) hx hb dX9_joinAll_89 (by decide) ?_
            refine lv_iload_n hx hb dX9_joinAll_90 rfl (lv_at hl 5 rfl) ?_
            obtain ⟨hi11, hT⟩ := hT
            refine va_iast (f := S8.2.1 21) hx hb hK hP hD hS 21 0 mat_21 rfl hi11 dX9_joinAll_91 (fun H locs hP hD hS => ?_)
            replace hP := msetP_21 hP
            replace hD := msetD_21 hD
            refine lv_aload_n hx hb dX9_joinAll_92 rfl (lv_at hl 2 rfl) ?_
            refine mg_move hx hb hts hown hK hP dX9_joinAll_93 ?_
            refine lv_iload_n hx hb dX9_joinAll_96 rfl (lv_at hl 5 rfl) ?_
            refine lv_iconst (v := 0) hx hb dX9_joinAll_97 (by decide) ?_
            obtain ⟨hi12, hT⟩ := hT
            refine va_iast (f := S8.2.1 23) hx hb hK hP hD hS 23 0 mat_23 rfl hi12 dX9_joinAll_98 (fun H locs hP hD hS => ?_)
            replace hP := msetP_23 hP
            replace hD := msetD_23 hD
            refine lv_aload_n hx hb dX9_joinAll_99 rfl (lv_at hl 2 rfl) ?_
            refine mg_order hx hb hts hown hK hP dX9_joinAll_100 ?_
            refine lv_iload_n hx hb dX9_joinAll_103 rfl (lv_at hl 5 rfl) ?_
            refine lv_iload_n hx hb dX9_joinAll_104 rfl (lv_at hl 4 rfl) ?_
            obtain ⟨hi13, hT⟩ := hT
            refine va_iast (f := S8.2.1 18) hx hb hK hP hD hS 18 0 mat_18 rfl hi13 dX9_joinAll_105 (fun H locs hP hD hS => ?_)
            replace hP := msetP_18 hP
            replace hD := msetD_18 hD
            refine lv_aload_n hx hb dX9_joinAll_106 rfl (lv_at hl 2 rfl) ?_
            refine mg_lowest hx hb hts hown hK hP dX9_joinAll_107 ?_
            refine lv_iload_n hx hb dX9_joinAll_110 rfl (lv_at hl 5 rfl) ?_
            refine lv_iload_n hx hb dX9_joinAll_111 rfl (lv_at hl 4 rfl) ?_
            obtain ⟨hi14, hT⟩ := hT
            refine va_iast (f := S8.2.1 19) hx hb hK hP hD hS 19 0 mat_19 rfl hi14 dX9_joinAll_112 (fun H locs hP hD hS => ?_)
            replace hP := msetP_19 hP
            replace hD := msetD_19 hD
            refine lv_iinc (v := x2 + 1) (lv' := [(2, .int (x2 + 1)), (5, .int 0), (4, .int 0), (0, .ref (ad 0)), (1, .int x1), (3, .int x3)]) hx hb dX9_joinAll_113 hl (k := 4) rfl rfl (by decide) rfl (fun ls hl => ?_)
            refine lv_aload_n hx hb dX9_joinAll_116 rfl (lv_at hl 3 rfl) ?_
            refine mg_pile hx hb hts hown hK hP dX9_joinAll_117 ?_
            refine lv_iconst (v := 0) hx hb dX9_joinAll_120 (by decide) ?_
            refine lv_iload_n hx hb dX9_joinAll_121 rfl (lv_at hl 5 rfl) ?_
            obtain ⟨hi15, hT⟩ := hT
            refine va_iast (f := S8.2.1 22) hx hb hK hP hD hS 22 0 mat_22 rfl hi15 dX9_joinAll_122 (fun H locs hP hD hS => ?_)
            replace hP := msetP_22 hP
            replace hD := msetD_22 hD
            refine lv_iconst (v := 1) hx hb dX9_joinAll_123 (by decide) ?_
            refine lv_istore (lv' := [(5, .int 1), (2, .int (x2 + 1)), (4, .int 0), (0, .ref (ad 0)), (1, .int x1), (3, .int x3)]) hx hb dX9_joinAll_124 hl (by decide) rfl (fun ls hl => ?_)
            refine lv_iconst (v := 1) hx hb dX9_joinAll_126 (by decide) ?_
            refine lv_istore (lv' := [(4, .int 1), (5, .int 1), (2, .int (x2 + 1)), (0, .ref (ad 0)), (1, .int x1), (3, .int x3)]) hx hb dX9_joinAll_127 hl (by decide) rfl (fun ls hl => ?_)
            rw [hB129] at hT
            exact hT _ _ _ hP hD hS (lv_sub hl [3, 4, 2, 5, 0, 1] rfl)
          · replace hT := hT.2 c10
            refine lv_goto (tgt := 502) hx hb dX9_joinAll_76 (by decide) ?_
            rw [hB502] at hT
            exact hT _ _ _ hP hD hS (lv_sub hl [0, 1, 2, 3] rfl)
    · clear hP hD hS hl H locs ls
      intro S x1 x2 x3 x4 x5 hT
      unfold mT_joinAll_129 at hT
      rw [hB129]
      intro H locs ls hP hD hS hl
      refine lv_iload hx hb dX9_joinAll_129 (lv_at hl 4 rfl) ?_
      refine lv_if_le (tgt := 502) hx hb dX9_joinAll_131 (by decide) (fun c16 => ?_) (fun c16 => ?_)
      · replace hT := hT.1 c16
        rw [hB502] at hT
        exact hT _ _ _ hP hD hS (lv_sub hl [0, 1, 2, 3] rfl)
      · replace hT := hT.2 c16
        refine lv_aload_n hx hb dX9_joinAll_134 rfl (lv_at hl 0 rfl) ?_
        refine mg_walk hx hb hts hown hK hP dX9_joinAll_135 ?_
        refine lv_iload hx hb dX9_joinAll_138 (lv_at hl 4 rfl) ?_
        refine lv_iconst (v := 1) hx hb dX9_joinAll_140 (by decide) ?_
        refine lv_isub hx hb dX9_joinAll_141 ?_
        obtain ⟨hi17, hT⟩ := hT
        refine va_iald (f := S.2.1 21) hx hb hK hP 21 0 mat_21 rfl hi17 dX9_joinAll_142 ?_
        refine lv_topi (fun v6_18 ev6_18 => ?_)
        replace hT := hT v6_18 ev6_18
        refine lv_istore (lv' := [(6, .int v6_18), (0, .ref (ad 0)), (1, .int x1), (2, .int x2), (3, .int x3), (4, .int x4), (5, .int x5)]) hx hb dX9_joinAll_143 hl (by decide) rfl (fun ls hl => ?_)
        refine lv_aload_n hx hb dX9_joinAll_145 rfl (lv_at hl 1 rfl) ?_
        refine mg_move hx hb hts hown hK hP dX9_joinAll_146 ?_
        refine lv_iload hx hb dX9_joinAll_149 (lv_at hl 0 rfl) ?_
        obtain ⟨hi19, hT⟩ := hT
        refine va_iald (f := S.2.1 23) hx hb hK hP 23 0 mat_23 rfl hi19 dX9_joinAll_151 ?_
        refine lv_bipush (v := 25) hx hb dX9_joinAll_152 (by decide) ?_
        refine lv_icmp_ge (tgt := 345) hx hb dX9_joinAll_154 (by decide) (fun c20 => ?_) (fun c20 => ?_)
        · replace hT := hT.1 c20
          refine lv_iinc (v := x4 + (-1)) (lv' := [(4, .int (x4 + (-1))), (6, .int v6_18), (0, .ref (ad 0)), (1, .int x1), (2, .int x2), (3, .int x3), (5, .int x5)]) hx hb dX9_joinAll_345 hl (k := 5) rfl rfl (by decide) rfl (fun ls hl => ?_)
          refine lv_iload hx hb dX9_joinAll_348 (lv_at hl 0 rfl) ?_
          refine lv_if_le (tgt := 398) hx hb dX9_joinAll_350 (by decide) (fun c21 => ?_) (fun c21 => ?_)
          · replace hT := hT.1 c21
            rw [hB398] at hT
            exact hT _ _ _ hP hD hS (lv_sub hl [2, 3, 4, 5, 0, 6, 1] rfl)
          · replace hT := hT.2 c21
            refine lv_aload_n hx hb dX9_joinAll_353 rfl (lv_at hl 2 rfl) ?_
            refine mg_lowest hx hb hts hown hK hP dX9_joinAll_354 ?_
            refine lv_iload hx hb dX9_joinAll_357 (lv_at hl 1 rfl) ?_
            obtain ⟨hi22, hT⟩ := hT
            refine va_iald (f := S.2.1 19) hx hb hK hP 19 0 mat_19 rfl hi22 dX9_joinAll_359 ?_
            refine lv_aload_n hx hb dX9_joinAll_360 rfl (lv_at hl 2 rfl) ?_
            refine mg_lowest hx hb hts hown hK hP dX9_joinAll_361 ?_
            refine lv_aload_n hx hb dX9_joinAll_364 rfl (lv_at hl 2 rfl) ?_
            refine mg_walk hx hb hts hown hK hP dX9_joinAll_365 ?_
            refine lv_iload hx hb dX9_joinAll_368 (lv_at hl 0 rfl) ?_
            refine lv_iconst (v := 1) hx hb dX9_joinAll_370 (by decide) ?_
            refine lv_isub hx hb dX9_joinAll_371 ?_
            obtain ⟨hi23, hT⟩ := hT
            refine va_iald (f := S.2.1 21) hx hb hK hP 21 0 mat_21 rfl hi23 dX9_joinAll_372 ?_
            obtain ⟨hi24, hT⟩ := hT
            refine va_iald (f := S.2.1 19) hx hb hK hP 19 0 mat_19 rfl hi24 dX9_joinAll_373 ?_
            refine lv_icmp_ge (tgt := 398) hx hb dX9_joinAll_374 (by decide) (fun c25 => ?_) (fun c25 => ?_)
            · replace hT := hT.1 c25
              rw [hB398] at hT
              exact hT _ _ _ hP hD hS (lv_sub hl [2, 3, 4, 5, 0, 6, 1] rfl)
            · replace hT := hT.2 c25
              refine lv_aload_n hx hb dX9_joinAll_377 rfl (lv_at hl 2 rfl) ?_
              refine mg_lowest hx hb hts hown hK hP dX9_joinAll_378 ?_
              refine lv_aload_n hx hb dX9_joinAll_381 rfl (lv_at hl 2 rfl) ?_
              refine mg_walk hx hb hts hown hK hP dX9_joinAll_382 ?_
              refine lv_iload hx hb dX9_joinAll_385 (lv_at hl 0 rfl) ?_
              refine lv_iconst (v := 1) hx hb dX9_joinAll_387 (by decide) ?_
              refine lv_isub hx hb dX9_joinAll_388 ?_
              obtain ⟨hi26, hT⟩ := hT
              refine va_iald (f := S.2.1 21) hx hb hK hP 21 0 mat_21 rfl hi26 dX9_joinAll_389 ?_
              refine lv_aload_n hx hb dX9_joinAll_390 rfl (lv_at hl 2 rfl) ?_
              refine mg_lowest hx hb hts hown hK hP dX9_joinAll_391 ?_
              refine lv_iload hx hb dX9_joinAll_394 (lv_at hl 1 rfl) ?_
              obtain ⟨hi27, hT⟩ := hT
              refine va_iald (f := S.2.1 19) hx hb hK hP 19 0 mat_19 rfl hi27 dX9_joinAll_396 ?_
              obtain ⟨hi28, hT⟩ := hT
              refine va_iast (f := S.2.1 19) hx hb hK hP hD hS 19 0 mat_19 rfl hi28 dX9_joinAll_397 (fun H locs hP hD hS => ?_)
              replace hP := msetP_19 hP
              replace hD := msetD_19 hD
              rw [hB398] at hT
              exact hT _ _ _ hP hD hS (lv_sub hl [2, 3, 4, 5, 0, 6, 1] rfl)
        · replace hT := hT.2 c20
          refine lv_aload_n hx hb dX9_joinAll_157 rfl (lv_at hl 1 rfl) ?_
          refine mg_move hx hb hts hown hK hP dX9_joinAll_158 ?_
          refine lv_iload hx hb dX9_joinAll_161 (lv_at hl 0 rfl) ?_
          obtain ⟨hi29, hT⟩ := hT
          refine va_iald (f := S.2.1 23) hx hb hK hP 23 0 mat_23 rfl hi29 dX9_joinAll_163 ?_
          refine lv_topi (fun v7_30 ev7_30 => ?_)
          replace hT := hT v7_30 ev7_30
          refine lv_istore (lv' := [(7, .int v7_30), (6, .int v6_18), (0, .ref (ad 0)), (1, .int x1), (2, .int x2), (3, .int x3), (4, .int x4), (5, .int x5)]) hx hb dX9_joinAll_164 hl (by decide) rfl (fun ls hl => ?_)
          refine lv_aload_n hx hb dX9_joinAll_166 rfl (lv_at hl 2 rfl) ?_
          refine mg_move hx hb hts hown hK hP dX9_joinAll_167 ?_
          refine lv_iload hx hb dX9_joinAll_170 (lv_at hl 1 rfl) ?_
          refine lv_dup2_11 hx hb dX9_joinAll_172 rfl rfl ?_
          obtain ⟨hi31, hT⟩ := hT
          refine va_iald (f := S.2.1 23) hx hb hK hP 23 0 mat_23 rfl hi31 dX9_joinAll_173 ?_
          refine lv_iconst (v := 1) hx hb dX9_joinAll_174 (by decide) ?_
          refine lv_iadd hx hb dX9_joinAll_175 ?_
          obtain ⟨hi32, hT⟩ := hT
          refine va_iast (f := S.2.1 23) hx hb hK hP hD hS 23 0 mat_23 rfl hi32 dX9_joinAll_176 (fun H locs hP hD hS => ?_)
          replace hP := msetP_23 hP
          replace hD := msetD_23 hD
          refine lv_iload hx hb dX9_joinAll_177 (lv_at hl 0 rfl) ?_
          refine lv_iconst (v := 5) hx hb dX9_joinAll_179 (by decide) ?_
          refine lv_idiv hx hb dX9_joinAll_180 (by decide) ?_
          refine lv_aload_n hx hb dX9_joinAll_181 rfl (lv_at hl 2 rfl) ?_
          refine mg_pegs (v := S.1 0) hx hb hts hown hK hP rfl dX9_joinAll_182 ?_
          refine lv_icmp_ge (tgt := 129) hx hb dX9_joinAll_185 (by decide) (fun c33 => ?_) (fun c33 => ?_)
          · replace hT := hT.1 c33
            rw [hB129] at hT
            exact hT _ _ _ hP hD hS (lv_sub hl [2, 3, 4, 5, 6, 7] rfl)
          · replace hT := hT.2 c33
            refine lv_iload hx hb dX9_joinAll_188 (lv_at hl 0 rfl) ?_
            refine lv_iconst (v := 5) hx hb dX9_joinAll_190 (by decide) ?_
            refine lv_irem hx hb dX9_joinAll_191 (by decide) ?_
            refine lv_aload_n hx hb dX9_joinAll_192 rfl (lv_at hl 2 rfl) ?_
            refine mg_pegs (v := S.1 0) hx hb hts hown hK hP rfl dX9_joinAll_193 ?_
            refine lv_icmp_lt (tgt := 202) hx hb dX9_joinAll_196 (by decide) (fun c34 => ?_) (fun c34 => ?_)
            · replace hT := hT.1 c34
              refine lv_aload_n hx hb dX9_joinAll_202 rfl (lv_at hl 2 rfl) ?_
              refine lv_iload hx hb dX9_joinAll_203 (lv_at hl 1 rfl) ?_
              refine lv_aload_n hx hb dX9_joinAll_205 rfl (lv_at hl 2 rfl) ?_
              refine mg_at hx hb hts hown hK hP dX9_joinAll_206 ?_
              refine mcallV (n := 2) (rest := []) hT hx hb hml hown hts hK hA hP hD hS hl gg_180 hd_X9_unpack ⟨Nat.le_of_ble_eq_true rfl, Nat.le_of_ble_eq_true rfl⟩ rfl rfl (Nat.le_of_ble_eq_true rfl) dX9_joinAll_209 (Nat.zero_le _) (Nat.zero_le _) (fun S35 H locs hP hD hS hT => ?_)
              refine lv_aload_n hx hb dX9_joinAll_212 rfl (lv_at hl 2 rfl) ?_
              refine lv_iload hx hb dX9_joinAll_213 (lv_at hl 0 rfl) ?_
              refine lv_iconst (v := 5) hx hb dX9_joinAll_215 (by decide) ?_
              refine lv_idiv hx hb dX9_joinAll_216 (by decide) ?_
              refine lv_iload hx hb dX9_joinAll_217 (lv_at hl 0 rfl) ?_
              refine lv_iconst (v := 5) hx hb dX9_joinAll_219 (by decide) ?_
              refine lv_irem hx hb dX9_joinAll_220 (by decide) ?_
              refine mcallI (n := 2) (rest := []) hT hx hb hml hown hts hK hA hP hD hS hl gg_211 hd_X9_leads ⟨Nat.le_of_ble_eq_true rfl, Nat.le_of_ble_eq_true rfl⟩ rfl rfl (Nat.le_of_ble_eq_true rfl) dX9_joinAll_221 (Nat.zero_le _) (Nat.zero_le _) (fun r37 S36 H locs hP hD hS hT => ?_)
              refine lv_istore (lv' := [(8, .int r37), (7, .int v7_30), (6, .int v6_18), (0, .ref (ad 0)), (1, .int x1), (2, .int x2), (3, .int x3), (4, .int x4), (5, .int x5)]) hx hb dX9_joinAll_224 hl (by decide) rfl (fun ls hl => ?_)
              refine lv_iload hx hb dX9_joinAll_226 (lv_at hl 0 rfl) ?_
              refine lv_iconst (v := (-1)) hx hb dX9_joinAll_228 (by decide) ?_
              refine lv_icmp_ne (tgt := 235) hx hb dX9_joinAll_229 (by decide) (fun c38 => ?_) (fun c38 => ?_)
              · replace hT := hT.1 c38
                refine lv_aload_n hx hb dX9_joinAll_235 rfl (lv_at hl 3 rfl) ?_
                refine mg_order hx hb hts hown hK hP dX9_joinAll_236 ?_
                refine lv_iload hx hb dX9_joinAll_239 (lv_at hl 0 rfl) ?_
                obtain ⟨hi39, hT⟩ := hT
                refine va_iald (f := S36.2.1 18) hx hb hK hP 18 0 mat_18 rfl hi39 dX9_joinAll_241 ?_
                refine lv_iconst (v := (-1)) hx hb dX9_joinAll_242 (by decide) ?_
                refine lv_icmp_ne (tgt := 300) hx hb dX9_joinAll_243 (by decide) (fun c40 => ?_) (fun c40 => ?_)
                · replace hT := hT.1 c40
                  refine lv_aload_n hx hb dX9_joinAll_300 rfl (lv_at hl 3 rfl) ?_
                  refine mg_set hx hb hts hown hK hP dX9_joinAll_301 ?_
                  refine lv_iload hx hb dX9_joinAll_304 (lv_at hl 0 rfl) ?_
                  obtain ⟨hi41, hT⟩ := hT
                  refine va_iald (f := S36.2.1 20) hx hb hK hP 20 0 mat_20 rfl hi41 dX9_joinAll_306 ?_
                  refine lv_iconst (v := (-1)) hx hb dX9_joinAll_307 (by decide) ?_
                  refine lv_icmp_ne (tgt := 129) hx hb dX9_joinAll_308 (by decide) (fun c42 => ?_) (fun c42 => ?_)
                  · replace hT := hT.1 c42
                    rw [hB129] at hT
                    exact hT _ _ _ hP hD hS (lv_sub hl [3, 4, 5, 6, 7, 8] rfl)
                  · replace hT := hT.2 c42
                    refine lv_aload_n hx hb dX9_joinAll_311 rfl (lv_at hl 3 rfl) ?_
                    refine mg_order hx hb hts hown hK hP dX9_joinAll_312 ?_
                    refine lv_iload hx hb dX9_joinAll_315 (lv_at hl 0 rfl) ?_
                    obtain ⟨hi43, hT⟩ := hT
                    refine va_iald (f := S36.2.1 18) hx hb hK hP 18 0 mat_18 rfl hi43 dX9_joinAll_317 ?_
                    refine lv_aload_n hx hb dX9_joinAll_318 rfl (lv_at hl 3 rfl) ?_
                    refine mg_lowest hx hb hts hown hK hP dX9_joinAll_319 ?_
                    refine lv_iload hx hb dX9_joinAll_322 (lv_at hl 2 rfl) ?_
                    obtain ⟨hi44, hT⟩ := hT
                    refine va_iald (f := S36.2.1 19) hx hb hK hP 19 0 mat_19 rfl hi44 dX9_joinAll_324 ?_
                    refine lv_icmp_ge (tgt := 129) hx hb dX9_joinAll_325 (by decide) (fun c45 => ?_) (fun c45 => ?_)
                    · replace hT := hT.1 c45
                      rw [hB129] at hT
                      exact hT _ _ _ hP hD hS (lv_sub hl [3, 4, 5, 6, 7, 8] rfl)
                    · replace hT := hT.2 c45
                      refine lv_aload_n hx hb dX9_joinAll_328 rfl (lv_at hl 3 rfl) ?_
                      refine mg_lowest hx hb hts hown hK hP dX9_joinAll_329 ?_
                      refine lv_iload hx hb dX9_joinAll_332 (lv_at hl 2 rfl) ?_
                      refine lv_aload_n hx hb dX9_joinAll_334 rfl (lv_at hl 3 rfl) ?_
                      refine mg_order hx hb hts hown hK hP dX9_joinAll_335 ?_
                      refine lv_iload hx hb dX9_joinAll_338 (lv_at hl 0 rfl) ?_
                      obtain ⟨hi46, hT⟩ := hT
                      refine va_iald (f := S36.2.1 18) hx hb hK hP 18 0 mat_18 rfl hi46 dX9_joinAll_340 ?_
                      obtain ⟨hi47, hT⟩ := hT
                      refine va_iast (f := S36.2.1 19) hx hb hK hP hD hS 19 0 mat_19 rfl hi47 dX9_joinAll_341 (fun H locs hP hD hS => ?_)
                      replace hP := msetP_19 hP
                      replace hD := msetD_19 hD
                      refine lv_goto (tgt := 129) hx hb dX9_joinAll_342 (by decide) ?_
                      rw [hB129] at hT
                      exact hT _ _ _ hP hD hS (lv_sub hl [3, 4, 5, 6, 7, 8] rfl)
                · replace hT := hT.2 c40
                  refine lv_aload_n hx hb dX9_joinAll_246 rfl (lv_at hl 3 rfl) ?_
                  refine mg_order hx hb hts hown hK hP dX9_joinAll_247 ?_
                  refine lv_iload hx hb dX9_joinAll_250 (lv_at hl 0 rfl) ?_
                  refine lv_iload_n hx hb dX9_joinAll_252 rfl (lv_at hl 5 rfl) ?_
                  obtain ⟨hi48, hT⟩ := hT
                  refine va_iast (f := S36.2.1 18) hx hb hK hP hD hS 18 0 mat_18 rfl hi48 dX9_joinAll_253 (fun H locs hP hD hS => ?_)
                  replace hP := msetP_18 hP
                  replace hD := msetD_18 hD
                  refine lv_aload_n hx hb dX9_joinAll_254 rfl (lv_at hl 3 rfl) ?_
                  refine mg_lowest hx hb hts hown hK hP dX9_joinAll_255 ?_
                  refine lv_iload hx hb dX9_joinAll_258 (lv_at hl 0 rfl) ?_
                  refine lv_iload_n hx hb dX9_joinAll_260 rfl (lv_at hl 5 rfl) ?_
                  obtain ⟨hi49, hT⟩ := hT
                  refine va_iast (f := S36.2.1 19) hx hb hK hP hD hS 19 0 mat_19 rfl hi49 dX9_joinAll_261 (fun H locs hP hD hS => ?_)
                  replace hP := msetP_19 hP
                  replace hD := msetD_19 hD
                  refine lv_iinc (v := x2 + 1) (lv' := [(2, .int (x2 + 1)), (8, .int r37), (7, .int v7_30), (6, .int v6_18), (0, .ref (ad 0)), (1, .int x1), (3, .int x3), (4, .int x4), (5, .int x5)]) hx hb dX9_joinAll_262 hl (k := 5) rfl rfl (by decide) rfl (fun ls hl => ?_)
                  refine lv_aload_n hx hb dX9_joinAll_265 rfl (lv_at hl 4 rfl) ?_
                  refine mg_move hx hb hts hown hK hP dX9_joinAll_266 ?_
                  refine lv_iload hx hb dX9_joinAll_269 (lv_at hl 1 rfl) ?_
                  refine lv_iconst (v := 0) hx hb dX9_joinAll_271 (by decide) ?_
                  obtain ⟨hi50, hT⟩ := hT
                  refine va_iast (f := S36.2.1 23) hx hb hK hP hD hS 23 0 mat_23 rfl hi50 dX9_joinAll_272 (fun H locs hP hD hS => ?_)
                  replace hP := msetP_23 hP
                  replace hD := msetD_23 hD
                  refine lv_aload_n hx hb dX9_joinAll_273 rfl (lv_at hl 4 rfl) ?_
                  refine mg_pile hx hb hts hown hK hP dX9_joinAll_274 ?_
                  refine lv_iload hx hb dX9_joinAll_277 (lv_at hl 8 rfl) ?_
                  refine lv_iload hx hb dX9_joinAll_279 (lv_at hl 1 rfl) ?_
                  obtain ⟨hi51, hT⟩ := hT
                  refine va_iast (f := S36.2.1 22) hx hb hK hP hD hS 22 0 mat_22 rfl hi51 dX9_joinAll_281 (fun H locs hP hD hS => ?_)
                  replace hP := msetP_22 hP
                  replace hD := msetD_22 hD
                  refine lv_iinc (v := x5 + 1) (lv' := [(5, .int (x5 + 1)), (2, .int (x2 + 1)), (8, .int r37), (7, .int v7_30), (6, .int v6_18), (0, .ref (ad 0)), (1, .int x1), (3, .int x3), (4, .int x4)]) hx hb dX9_joinAll_282 hl (k := 8) rfl rfl (by decide) rfl (fun ls hl => ?_)
                  refine lv_aload_n hx hb dX9_joinAll_285 rfl (lv_at hl 5 rfl) ?_
                  refine mg_walk hx hb hts hown hK hP dX9_joinAll_286 ?_
                  refine lv_iload hx hb dX9_joinAll_289 (lv_at hl 8 rfl) ?_
                  refine lv_iload hx hb dX9_joinAll_291 (lv_at hl 2 rfl) ?_
                  obtain ⟨hi52, hT⟩ := hT
                  refine va_iast (f := S36.2.1 21) hx hb hK hP hD hS 21 0 mat_21 rfl hi52 dX9_joinAll_293 (fun H locs hP hD hS => ?_)
                  replace hP := msetP_21 hP
                  replace hD := msetD_21 hD
                  refine lv_iinc (v := x4 + 1) (lv' := [(4, .int (x4 + 1)), (5, .int (x5 + 1)), (2, .int (x2 + 1)), (8, .int r37), (7, .int v7_30), (6, .int v6_18), (0, .ref (ad 0)), (1, .int x1), (3, .int x3)]) hx hb dX9_joinAll_294 hl (k := 8) rfl rfl (by decide) rfl (fun ls hl => ?_)
                  refine lv_goto (tgt := 129) hx hb dX9_joinAll_297 (by decide) ?_
                  rw [hB129] at hT
                  exact hT _ _ _ hP hD hS (lv_sub hl [6, 7, 2, 8, 0, 1] rfl)
              · replace hT := hT.2 c38
                refine lv_goto (tgt := 129) hx hb dX9_joinAll_232 (by decide) ?_
                rw [hB129] at hT
                exact hT _ _ _ hP hD hS (lv_sub hl [3, 4, 5, 6, 7, 8] rfl)
            · replace hT := hT.2 c34
              refine lv_goto (tgt := 129) hx hb dX9_joinAll_199 (by decide) ?_
              rw [hB129] at hT
              exact hT _ _ _ hP hD hS (lv_sub hl [2, 3, 4, 5, 6, 7] rfl)
    · clear hP hD hS hl H locs ls
      intro S x1 x2 x3 x4 x5 x6 hT
      unfold mT_joinAll_398 at hT
      rw [hB398]
      intro H locs ls hP hD hS hl
      refine lv_aload_n hx hb dX9_joinAll_398 rfl (lv_at hl 0 rfl) ?_
      refine mg_lowest hx hb hts hown hK hP dX9_joinAll_399 ?_
      refine lv_iload hx hb dX9_joinAll_402 (lv_at hl 6 rfl) ?_
      obtain ⟨hi53, hT⟩ := hT
      refine va_iald (f := S.2.1 19) hx hb hK hP 19 0 mat_19 rfl hi53 dX9_joinAll_404 ?_
      refine lv_aload_n hx hb dX9_joinAll_405 rfl (lv_at hl 0 rfl) ?_
      refine mg_order hx hb hts hown hK hP dX9_joinAll_406 ?_
      refine lv_iload hx hb dX9_joinAll_409 (lv_at hl 6 rfl) ?_
      obtain ⟨hi54, hT⟩ := hT
      refine va_iald (f := S.2.1 18) hx hb hK hP 18 0 mat_18 rfl hi54 dX9_joinAll_411 ?_
      refine lv_icmp_eq (tgt := 418) hx hb dX9_joinAll_412 (by decide) (fun c55 => ?_) (fun c55 => ?_)
      · replace hT := hT.1 c55
        refine lv_aload_n hx hb dX9_joinAll_418 rfl (lv_at hl 0 rfl) ?_
        refine mg_setSize hx hb hts hown hK hP dX9_joinAll_419 ?_
        refine lv_aload_n hx hb dX9_joinAll_422 rfl (lv_at hl 0 rfl) ?_
        refine mg_sets (v := S.1 8) hx hb hts hown hK hP rfl dX9_joinAll_423 ?_
        refine lv_iconst (v := 0) hx hb dX9_joinAll_426 (by decide) ?_
        obtain ⟨hi56, hT⟩ := hT
        refine va_iast (f := S.2.1 24) hx hb hK hP hD hS 24 0 mat_24 rfl hi56 dX9_joinAll_427 (fun H locs hP hD hS => ?_)
        replace hP := msetP_24 hP
        replace hD := msetD_24 hD
        refine lv_iconst (v := 1) hx hb dX9_joinAll_428 (by decide) ?_
        refine lv_istore (lv' := [(7, .int 1), (0, .ref (ad 0)), (1, .int x1), (2, .int x2), (3, .int x3), (4, .int x4), (5, .int x5), (6, .int x6)]) hx hb dX9_joinAll_429 hl (by decide) rfl (fun ls hl => ?_)
        rw [hB431] at hT
        exact hT _ _ _ hP hD hS (lv_sub hl [1, 2, 3, 4, 5, 6, 7, 0] rfl)
      · replace hT := hT.2 c55
        refine lv_goto (tgt := 129) hx hb dX9_joinAll_415 (by decide) ?_
        rw [hB129] at hT
        exact hT _ _ _ hP hD hS (lv_sub hl [0, 1, 2, 3, 4, 5] rfl)
    · clear hP hD hS hl H locs ls
      intro S x1 x2 x3 x4 x5 x6 x7 hT
      unfold mT_joinAll_431 at hT
      rw [hB431]
      intro H locs ls hP hD hS hl
      refine lv_iload hx hb dX9_joinAll_431 (lv_at hl 7 rfl) ?_
      refine lv_if_eq (tgt := 489) hx hb dX9_joinAll_433 (by decide) (fun c57 => ?_) (fun c57 => ?_)
      · replace hT := hT.1 c57
        refine lv_aload_n hx hb dX9_joinAll_489 rfl (lv_at hl 0 rfl) ?_
        refine lv_dup hx hb dX9_joinAll_490 rfl ?_
        refine mg_sets (v := S.1 8) hx hb hts hown hK hP rfl dX9_joinAll_491 ?_
        refine lv_iconst (v := 1) hx hb dX9_joinAll_494 (by decide) ?_
        refine lv_iadd hx hb dX9_joinAll_495 ?_
        refine mp_sets hx hb hts hown hK hP hD hS dX9_joinAll_496 (fun H locs hP hD hS => ?_)
        refine lv_goto (tgt := 129) hx hb dX9_joinAll_499 (by decide) ?_
        rw [hB129] at hT
        exact hT _ _ _ hP hD hS (lv_sub hl [0, 1, 2, 3, 4, 5] rfl)
      · replace hT := hT.2 c57
        refine lv_iinc (v := x5 + (-1)) (lv' := [(5, .int (x5 + (-1))), (0, .ref (ad 0)), (1, .int x1), (2, .int x2), (3, .int x3), (4, .int x4), (6, .int x6), (7, .int x7)]) hx hb dX9_joinAll_436 hl (k := 5) rfl rfl (by decide) rfl (fun ls hl => ?_)
        refine lv_aload_n hx hb dX9_joinAll_439 rfl (lv_at hl 1 rfl) ?_
        refine mg_pile hx hb hts hown hK hP dX9_joinAll_440 ?_
        refine lv_iload hx hb dX9_joinAll_443 (lv_at hl 0 rfl) ?_
        obtain ⟨hi58, hT⟩ := hT
        refine va_iald (f := S.2.1 22) hx hb hK hP 22 0 mat_22 rfl hi58 dX9_joinAll_445 ?_
        refine lv_topi (fun v8_59 ev8_59 => ?_)
        replace hT := hT v8_59 ev8_59
        refine lv_istore (lv' := [(8, .int v8_59), (5, .int (x5 + (-1))), (0, .ref (ad 0)), (1, .int x1), (2, .int x2), (3, .int x3), (4, .int x4), (6, .int x6), (7, .int x7)]) hx hb dX9_joinAll_446 hl (by decide) rfl (fun ls hl => ?_)
        refine lv_aload_n hx hb dX9_joinAll_448 rfl (lv_at hl 2 rfl) ?_
        refine mg_set hx hb hts hown hK hP dX9_joinAll_449 ?_
        refine lv_iload hx hb dX9_joinAll_452 (lv_at hl 0 rfl) ?_
        refine lv_aload_n hx hb dX9_joinAll_454 rfl (lv_at hl 2 rfl) ?_
        refine mg_sets (v := S.1 8) hx hb hts hown hK hP rfl dX9_joinAll_455 ?_
        obtain ⟨hi60, hT⟩ := hT
        refine va_iast (f := S.2.1 20) hx hb hK hP hD hS 20 0 mat_20 rfl hi60 dX9_joinAll_458 (fun H locs hP hD hS => ?_)
        replace hP := msetP_20 hP
        replace hD := msetD_20 hD
        refine lv_aload_n hx hb dX9_joinAll_459 rfl (lv_at hl 2 rfl) ?_
        refine mg_setSize hx hb hts hown hK hP dX9_joinAll_460 ?_
        refine lv_aload_n hx hb dX9_joinAll_463 rfl (lv_at hl 2 rfl) ?_
        refine mg_sets (v := S.1 8) hx hb hts hown hK hP rfl dX9_joinAll_464 ?_
        refine lv_dup2_11 hx hb dX9_joinAll_467 rfl rfl ?_
        obtain ⟨hi61, hT⟩ := hT
        refine va_iald (f := S.2.1 24) hx hb hK hP 24 0 mat_24 rfl hi61 dX9_joinAll_468 ?_
        refine lv_iconst (v := 1) hx hb dX9_joinAll_469 (by decide) ?_
        refine lv_iadd hx hb dX9_joinAll_470 ?_
        obtain ⟨hi62, hT⟩ := hT
        refine va_iast (f := S.2.1 24) hx hb hK hP hD hS 24 0 mat_24 rfl hi62 dX9_joinAll_471 (fun H locs hP hD hS => ?_)
        replace hP := msetP_24 hP
        replace hD := msetD_24 hD
        refine lv_iload hx hb dX9_joinAll_472 (lv_at hl 0 rfl) ?_
        refine lv_iload hx hb dX9_joinAll_474 (lv_at hl 7 rfl) ?_
        refine lv_icmp_eq (tgt := 483) hx hb dX9_joinAll_476 (by decide) (fun c63 => ?_) (fun c63 => ?_)
        · replace hT := hT.1 c63
          refine lv_iconst (v := 0) hx hb dX9_joinAll_483 (by decide) ?_
          refine lv_istore (lv' := [(7, .int 0), (8, .int v8_59), (5, .int (x5 + (-1))), (0, .ref (ad 0)), (1, .int x1), (2, .int x2), (3, .int x3), (4, .int x4), (6, .int x6)]) hx hb dX9_joinAll_484 hl (by decide) rfl (fun ls hl => ?_)
          refine lv_goto (tgt := 431) hx hb dX9_joinAll_486 (by decide) ?_
          rw [hB431] at hT
          exact hT _ _ _ hP hD hS (lv_sub hl [3, 4, 5, 6, 7, 2, 8, 0] rfl)
        · replace hT := hT.2 c63
          refine lv_iconst (v := 1) hx hb dX9_joinAll_479 (by decide) ?_
          refine lv_goto (tgt := 484) hx hb dX9_joinAll_480 (by decide) ?_
          refine lv_istore (lv' := [(7, .int 1), (8, .int v8_59), (5, .int (x5 + (-1))), (0, .ref (ad 0)), (1, .int x1), (2, .int x2), (3, .int x3), (4, .int x4), (6, .int x6)]) hx hb dX9_joinAll_484 hl (by decide) rfl (fun ls hl => ?_)
          refine lv_goto (tgt := 431) hx hb dX9_joinAll_486 (by decide) ?_
          rw [hB431] at hT
          exact hT _ _ _ hP hD hS (lv_sub hl [3, 4, 5, 6, 7, 2, 8, 0] rfl)
    · clear hP hD hS hl H locs ls
      intro S x1 x2 x3 hT
      unfold mT_joinAll_502 at hT
      rw [hB502]
      intro H locs ls hP hD hS hl
      refine lv_iinc (v := x3 + 1) (lv' := [(3, .int (x3 + 1)), (0, .ref (ad 0)), (1, .int x1), (2, .int x2)]) hx hb dX9_joinAll_502 hl (k := 3) rfl rfl (by decide) rfl (fun ls hl => ?_)
      refine lv_goto (tgt := 41) hx hb dX9_joinAll_505 (by decide) ?_
      rw [hB41] at hT
      exact hT _ _ _ hP hD hS (lv_sub hl [1, 2, 3, 0] rfl)
  unfold mT_joinAll_e at hT
  refine lv_aload_n hx hb dX9_joinAll_0 rfl (lv_at hl 0 rfl) ?_
  refine mcallI (n := 0) (rest := []) hT hx hb hml hown hts hK hA hP hD hS hl gg_177 hd_X9_stands ⟨Nat.le_of_ble_eq_true rfl, Nat.le_of_ble_eq_true rfl⟩ rfl rfl (Nat.le_of_ble_eq_true rfl) dX9_joinAll_1 (Nat.zero_le _) (Nat.zero_le _) (fun r65 S64 H locs hP hD hS hT => ?_)
  refine lv_istore_n (lv' := [(1, .int r65), (0, .ref (ad 0))]) hx hb dX9_joinAll_4 rfl hl (by decide) rfl (fun ls hl => ?_)
  refine lv_iconst (v := 0) hx hb dX9_joinAll_5 (by decide) ?_
  refine lv_istore_n (lv' := [(2, .int 0), (1, .int r65), (0, .ref (ad 0))]) hx hb dX9_joinAll_6 rfl hl (by decide) rfl (fun ls hl => ?_)
  rw [hB7] at hT
  exact hT _ _ _ hP hD hS (lv_sub hl [2, 1, 0] rfl)
