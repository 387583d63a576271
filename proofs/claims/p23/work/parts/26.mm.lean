abbrev mX_joined (l : Launch) (S : MS) (a1 : Int32) (post : Int32 → MS → Prop) : Prop := mCtI l yX9_joined cX9_joined 8 4 100 (fun ad => [.int a1]) S post
def mT_joined_80 (l : Launch) (a1 : Int32) (post : Int32 → MS → Prop) (B80 : MS → Int32 → Int32 → Prop) (B137 : MS → Int32 → Int32 → Prop) (B170 : MS → Int32 → Int32 → Int32 → Prop) (B182 : MS → Int32 → Int32 → Int32 → Int32 → Prop) (B237 : MS → Int32 → Int32 → Int32 → Int32 → Prop) (B249 : MS → Int32 → Int32 → Prop) (B261 : MS → Int32 → Int32 → Prop) (S : MS) (x2 : Int32) (x3 : Int32) : Prop := (S.1 8 ≤ x3 → (¬ a1 = 3 → mX_stands l S (fun r4 S3 => B137 S3 r4 0)) ∧ (a1 = 3 → post x2 S)) ∧ (¬ S.1 8 ≤ x3 → vp_in x3 20000 ∧ (S.2.1 24 x3.toNatClampNeg ≤ x2 → vp_in x3 20000 ∧ B80 (ma S 25 (upd (S.2.1 25) x3.toNatClampNeg (vp_nar .boolean 0))) x2 (x3 + 1)) ∧ (¬ S.2.1 24 x3.toNatClampNeg ≤ x2 → vp_in x3 20000 ∧ ∀ v2_9 : Int32, v2_9 = S.2.1 24 x3.toNatClampNeg → vp_in x3 20000 ∧ B80 (ma S 25 (upd (S.2.1 25) x3.toNatClampNeg (vp_nar .boolean 0))) v2_9 (x3 + 1)))
def mT_joined_137 (l : Launch) (a1 : Int32) (post : Int32 → MS → Prop) (B80 : MS → Int32 → Int32 → Prop) (B137 : MS → Int32 → Int32 → Prop) (B170 : MS → Int32 → Int32 → Int32 → Prop) (B182 : MS → Int32 → Int32 → Int32 → Int32 → Prop) (B237 : MS → Int32 → Int32 → Int32 → Int32 → Prop) (B249 : MS → Int32 → Int32 → Prop) (B261 : MS → Int32 → Int32 → Prop) (S : MS) (x3 : Int32) (x4 : Int32) : Prop := (x3 ≤ x4 → B261 S 0 0) ∧ (¬ x3 ≤ x4 → vp_in x4 20000 ∧ (¬ S.2.1 20 x4.toNatClampNeg = (-1) → mX_unpack l S x4 8 (fun S14 => B170 S14 x3 x4 0)) ∧ (S.2.1 20 x4.toNatClampNeg = (-1) → B249 S x3 x4))
def mT_joined_170 (l : Launch) (a1 : Int32) (post : Int32 → MS → Prop) (B80 : MS → Int32 → Int32 → Prop) (B137 : MS → Int32 → Int32 → Prop) (B170 : MS → Int32 → Int32 → Int32 → Prop) (B182 : MS → Int32 → Int32 → Int32 → Int32 → Prop) (B237 : MS → Int32 → Int32 → Int32 → Int32 → Prop) (B249 : MS → Int32 → Int32 → Prop) (B261 : MS → Int32 → Int32 → Prop) (S : MS) (x3 : Int32) (x4 : Int32) (x5 : Int32) : Prop := (S.1 0 ≤ x5 → B249 S x3 x4) ∧ (¬ S.1 0 ≤ x5 → B182 S x3 x4 x5 0)
def mT_joined_182 (l : Launch) (a1 : Int32) (post : Int32 → MS → Prop) (B80 : MS → Int32 → Int32 → Prop) (B137 : MS → Int32 → Int32 → Prop) (B170 : MS → Int32 → Int32 → Int32 → Prop) (B182 : MS → Int32 → Int32 → Int32 → Int32 → Prop) (B237 : MS → Int32 → Int32 → Int32 → Int32 → Prop) (B249 : MS → Int32 → Int32 → Prop) (B261 : MS → Int32 → Int32 → Prop) (S : MS) (x3 : Int32) (x4 : Int32) (x5 : Int32) (x6 : Int32) : Prop := (S.1 0 ≤ x6 → B170 S x3 x4 (x5 + 1)) ∧ (¬ S.1 0 ≤ x6 → mX_leads l S x5 x6 (fun r18 S17 => (r18 = (-1) → B237 S17 x3 x4 x5 x6) ∧ (¬ r18 = (-1) → vp_in r18 20000 ∧ vp_in x4 20000 ∧ (S17.2.1 20 r18.toNatClampNeg = S17.2.1 20 x4.toNatClampNeg → B237 S17 x3 x4 x5 x6) ∧ (¬ S17.2.1 20 r18.toNatClampNeg = S17.2.1 20 x4.toNatClampNeg → vp_in x4 20000 ∧ vp_in (S17.2.1 20 x4.toNatClampNeg) 20000 ∧ B237 (ma S17 25 (upd (S17.2.1 25) (S17.2.1 20 x4.toNatClampNeg).toNatClampNeg (vp_nar .boolean 1))) x3 x4 x5 x6))))
def mT_joined_237 (l : Launch) (a1 : Int32) (post : Int32 → MS → Prop) (B80 : MS → Int32 → Int32 → Prop) (B137 : MS → Int32 → Int32 → Prop) (B170 : MS → Int32 → Int32 → Int32 → Prop) (B182 : MS → Int32 → Int32 → Int32 → Int32 → Prop) (B237 : MS → Int32 → Int32 → Int32 → Int32 → Prop) (B249 : MS → Int32 → Int32 → Prop) (B261 : MS → Int32 → Int32 → Prop) (S : MS) (x3 : Int32) (x4 : Int32) (x5 : Int32) (x6 : Int32) : Prop := B182 S x3 x4 x5 (x6 + 1)
def mT_joined_249 (l : Launch) (a1 : Int32) (post : Int32 → MS → Prop) (B80 : MS → Int32 → Int32 → Prop) (B137 : MS → Int32 → Int32 → Prop) (B170 : MS → Int32 → Int32 → Int32 → Prop) (B182 : MS → Int32 → Int32 → Int32 → Int32 → Prop) (B237 : MS → Int32 → Int32 → Int32 → Int32 → Prop) (B249 : MS → Int32 → Int32 → Prop) (B261 : MS → Int32 → Int32 → Prop) (S : MS) (x3 : Int32) (x4 : Int32) : Prop := B137 S x3 (x4 + 1)
def mT_joined_261 (l : Launch) (a1 : Int32) (post : Int32 → MS → Prop) (B80 : MS → Int32 → Int32 → Prop) (B137 : MS → Int32 → Int32 → Prop) (B170 : MS → Int32 → Int32 → Int32 → Prop) (B182 : MS → Int32 → Int32 → Int32 → Int32 → Prop) (B237 : MS → Int32 → Int32 → Int32 → Int32 → Prop) (B249 : MS → Int32 → Int32 → Prop) (B261 : MS → Int32 → Int32 → Prop) (S : MS) (x4 : Int32) (x5 : Int32) : Prop := (S.1 8 ≤ x5 → post x4 S) ∧ (¬ S.1 8 ≤ x5 → vp_in x5 20000 ∧ (S.2.1 25 x5.toNatClampNeg = 0 → ∀ v4_28 : Int32, v4_28 = x4 + 1 → B261 S v4_28 (x5 + 1)) ∧ (¬ S.2.1 25 x5.toNatClampNeg = 0 → ∀ v4_29 : Int32, v4_29 = x4 + 0 → B261 S v4_29 (x5 + 1)))
def mT_joined_e (l : Launch) (a1 : Int32) (post : Int32 → MS → Prop) (B80 : MS → Int32 → Int32 → Prop) (B137 : MS → Int32 → Int32 → Prop) (B170 : MS → Int32 → Int32 → Int32 → Prop) (B182 : MS → Int32 → Int32 → Int32 → Int32 → Prop) (B237 : MS → Int32 → Int32 → Int32 → Int32 → Prop) (B249 : MS → Int32 → Int32 → Prop) (B261 : MS → Int32 → Int32 → Prop) (S0 : MS) : Prop := mX_fits l (mf S0 3 0) (fun b31 S30 => (¬ bI b31 = 0 → mX_in l S30 a1 0 3 (fun b34 S33 => (¬ bI b34 = 0 → mX_joinAll l (mf S33 2 0) (fun S36 => (¬ a1 = 0 → (¬ a1 = 1 → B80 S36 0 0) ∧ (a1 = 1 → mX_pack l S36 2 (fun r40 S39 => vp_in r40 20000 ∧ vp_in (S39.2.1 20 r40.toNatClampNeg) 20000 ∧ post (S39.2.1 24 (S39.2.1 20 r40.toNatClampNeg).toNatClampNeg) S39))) ∧ (a1 = 0 → post (S36.1 8) S36))) ∧ (bI b34 = 0 → mX_no l S33 1 (fun r44 S43 => post r44 S43)))) ∧ (bI b31 = 0 → mX_no l S30 2 (fun r46 S45 => post r46 S45)))
set_option maxHeartbeats 4000000 in
set_option maxRecDepth 100000 in
theorem m_joined (l : Launch) (S0 : MS) (a1 : Int32) (post : Int32 → MS → Prop) (h : ∀ (B80 : MS → Int32 → Int32 → Prop) (B137 : MS → Int32 → Int32 → Prop) (B170 : MS → Int32 → Int32 → Int32 → Prop) (B182 : MS → Int32 → Int32 → Int32 → Int32 → Prop) (B237 : MS → Int32 → Int32 → Int32 → Int32 → Prop) (B249 : MS → Int32 → Int32 → Prop) (B261 : MS → Int32 → Int32 → Prop), (∀ (S : MS) (x2 : Int32) (x3 : Int32), mT_joined_80 l a1 post B80 B137 B170 B182 B237 B249 B261 S x2 x3 → B80 S x2 x3) → (∀ (S : MS) (x3 : Int32) (x4 : Int32), mT_joined_137 l a1 post B80 B137 B170 B182 B237 B249 B261 S x3 x4 → B137 S x3 x4) → (∀ (S : MS) (x3 : Int32) (x4 : Int32) (x5 : Int32), mT_joined_170 l a1 post B80 B137 B170 B182 B237 B249 B261 S x3 x4 x5 → B170 S x3 x4 x5) → (∀ (S : MS) (x3 : Int32) (x4 : Int32) (x5 : Int32) (x6 : Int32), mT_joined_182 l a1 post B80 B137 B170 B182 B237 B249 B261 S x3 x4 x5 x6 → B182 S x3 x4 x5 x6) → (∀ (S : MS) (x3 : Int32) (x4 : Int32) (x5 : Int32) (x6 : Int32), mT_joined_237 l a1 post B80 B137 B170 B182 B237 B249 B261 S x3 x4 x5 x6 → B237 S x3 x4 x5 x6) → (∀ (S : MS) (x3 : Int32) (x4 : Int32), mT_joined_249 l a1 post B80 B137 B170 B182 B237 B249 B261 S x3 x4 → B249 S x3 x4) → (∀ (S : MS) (x4 : Int32) (x5 : Int32), mT_joined_261 l a1 post B80 B137 B170 B182 B237 B249 B261 S x4 x5 → B261 S x4 x5) → mT_joined_e l a1 post B80 B137 B170 B182 B237 B249 B261 S0) : mX_joined l S0 a1 post := by
  refine msetI rfl (fun _ => Nat.le_of_ble_eq_true rfl) ?_
  intro p e s m args below meth c D ad cI cZ cL A Q hx hb hml hown hts hK hA hret H locs ls hP hD hS hl
  replace hl : lv_has ls 8 [(0, .ref (ad 0)), (1, .int a1)] := hl
  obtain ⟨B80, hB80⟩ : ∃ B : MS → Int32 → Int32 → Prop, B = (fun S x2 x3 => ∀ (H : Heap) (locs : List Loc) (ls : Array Slot), va_P D vwCl (mW ad cI cZ cL S) H → va_D A (mW ad cI cZ cL S) → va_S A s.heap H locs → lv_has ls 8 [(0, .ref (ad 0)), (1, .int a1), (2, .int x2), (3, .int x3)] → W p l e (mrm 4 100) s m args below meth c H locs 0 0 Q (F0 m 80 ls [])) := ⟨_, rfl⟩
  obtain ⟨B137, hB137⟩ : ∃ B : MS → Int32 → Int32 → Prop, B = (fun S x3 x4 => ∀ (H : Heap) (locs : List Loc) (ls : Array Slot), va_P D vwCl (mW ad cI cZ cL S) H → va_D A (mW ad cI cZ cL S) → va_S A s.heap H locs → lv_has ls 8 [(0, .ref (ad 0)), (3, .int x3), (4, .int x4)] → W p l e (mrm 4 100) s m args below meth c H locs 0 0 Q (F0 m 137 ls [])) := ⟨_, rfl⟩
  obtain ⟨B170, hB170⟩ : ∃ B : MS → Int32 → Int32 → Int32 → Prop, B = (fun S x3 x4 x5 => ∀ (H : Heap) (locs : List Loc) (ls : Array Slot), va_P D vwCl (mW ad cI cZ cL S) H → va_D A (mW ad cI cZ cL S) → va_S A s.heap H locs → lv_has ls 8 [(0, .ref (ad 0)), (3, .int x3), (4, .int x4), (5, .int x5)] → W p l e (mrm 4 100) s m args below meth c H locs 0 0 Q (F0 m 170 ls [])) := ⟨_, rfl⟩
  obtain ⟨B182, hB182⟩ : ∃ B : MS → Int32 → Int32 → Int32 → Int32 → Prop, B = (fun S x3 x4 x5 x6 => ∀ (H : Heap) (locs : List Loc) (ls : Array Slot), va_P D vwCl (mW ad cI cZ cL S) H → va_D A (mW ad cI cZ cL S) → va_S A s.heap H locs → lv_has ls 8 [(0, .ref (ad 0)), (3, .int x3), (4, .int x4), (5, .int x5), (6, .int x6)] → W p l e (mrm 4 100) s m args below meth c H locs 0 0 Q (F0 m 182 ls [])) := ⟨_, rfl⟩
  obtain ⟨B237, hB237⟩ : ∃ B : MS → Int32 → Int32 → Int32 → Int32 → Prop, B = (fun S x3 x4 x5 x6 => ∀ (H : Heap) (locs : List Loc) (ls : Array Slot), va_P D vwCl (mW ad cI cZ cL S) H → va_D A (mW ad cI cZ cL S) → va_S A s.heap H locs → lv_has ls 8 [(0, .ref (ad 0)), (3, .int x3), (4, .int x4), (5, .int x5), (6, .int x6)] → W p l e (mrm 4 100) s m args below meth c H locs 0 0 Q (F0 m 237 ls [])) := ⟨_, rfl⟩
  obtain ⟨B249, hB249⟩ : ∃ B : MS → Int32 → Int32 → Prop, B = (fun S x3 x4 => ∀ (H : Heap) (locs : List Loc) (ls : Array Slot), va_P D vwCl (mW ad cI cZ cL S) H → va_D A (mW ad cI cZ cL S) → va_S A s.heap H locs → lv_has ls 8 [(0, .ref (ad 0)), (3, .int x3), (4, .int x4)] → W p l e (mrm 4 100) s m args below meth c H locs 0 0 Q (F0 m 249 ls [])) := ⟨_, rfl⟩
  obtain ⟨B261, hB261⟩ : ∃ B : MS → Int32 → Int32 → Prop, B = (fun S x4 x5 => ∀ (H : Heap) (locs : List Loc) (ls : Array Slot), va_P D vwCl (mW ad cI cZ cL S) H → va_D A (mW ad cI cZ cL S) → va_S A s.heap H locs → lv_has ls 8 [(0, .ref (ad 0)), (4, .int x4), (5, .int x5)] → W p l e (mrm 4 100) s m args below meth c H locs 0 0 Q (F0 m 261 ls [])) := ⟨_, rfl⟩
  have hT : mT_joined_e l a1 post B80 B137 B170 B182 B237 B249 B261 S0 := by
    refine h B80 B137 B170 B182 B237 B249 B261 ?_ ?_ ?_ ?_ ?_ ?_ ?_
    · clear hP hD hS hl H locs ls
      intro S x2 x3 hT
      unfold mT_joined_80 at hT
      rw [hB80]
      intro H locs ls hP hD hS hl
      refine lv_iload_n hx hb dX9_joined_80 rfl (lv_at hl 3 rfl) ?_
      refine lv_aload_n hx hb dX9_joined_81 rfl (lv_at hl 0 rfl) ?_
      refine mg_sets (v := S.1 8) hx hb hts hown hK hP rfl dX9_joined_82 ?_
      refine lv_icmp_ge (tgt := 122) hx hb dX9_joined_85 (by decide) (fun c1 => ?_) (fun c1 => ?_)
      · replace hT := hT.1 c1
        refine lv_iload_n hx hb dX9_joined_122 rfl (lv_at hl 1 rfl) ?_
        refine lv_iconst (v := 3) hx hb dX9_joined_123 (by decide) ?_
        refine lv_icmp_ne (tgt := 129) hx hb dX9_joined_124 (by decide) (fun c2 => ?_) (fun c2 => ?_)
        · replace hT := hT.1 c2
          refine lv_aload_n hx hb dX9_joined_129 rfl (lv_at hl 0 rfl) ?_
          refine mcallI (n := 0) (rest := []) hT hx hb hml hown hts hK hA hP hD hS hl gg_177 hd_X9_stands ⟨Nat.le_of_ble_eq_true rfl, Nat.le_of_ble_eq_true rfl⟩ rfl rfl (Nat.le_of_ble_eq_true rfl) dX9_joined_130 (Nat.zero_le _) (Nat.zero_le _) (fun r4 S3 H locs hP hD hS hT => ?_)
          refine lv_istore_n (lv' := [(3, .int r4), (0, .ref (ad 0)), (1, .int a1), (2, .int x2)]) hx hb dX9_joined_133 rfl hl (by decide) rfl (fun ls hl => ?_)
          refine lv_iconst (v := 0) hx hb dX9_joined_134 (by decide) ?_
          refine lv_istore (lv' := [(4, .int 0), (3, .int r4), (0, .ref (ad 0)), (1, .int a1), (2, .int x2)]) hx hb dX9_joined_135 hl (by decide) rfl (fun ls hl => ?_)
          rw [hB137] at hT
          exact hT _ _ _ hP hD hS (lv_sub hl [2, 1, 0] rfl)
        · replace hT := hT.2 c2
          refine lv_iload_n hx hb dX9_joined_127 rfl (lv_at hl 2 rfl) ?_
          exact hret _ _ _ _ _ _ hP hD hS hT dX9_joined_128
      · replace hT := hT.2 c1
        refine lv_aload_n hx hb dX9_joined_88 rfl (lv_at hl 0 rfl) ?_
        refine mg_setSize hx hb hts hown hK hP dX9_joined_89 ?_
        refine lv_iload_n hx hb dX9_joined_92 rfl (lv_at hl 3 rfl) ?_
        obtain ⟨hi5, hT⟩ := hT
        refine va_iald (f := S.2.1 24) hx hb hK hP 24 0 mat_24 rfl hi5 dX9_joined_93 ?_
        refine lv_iload_n hx hb dX9_joined_94 rfl (lv_at hl 2 rfl) ?_
        refine lv_icmp_le (tgt := 107) hx hb dX9_joined_95 (by decide) (fun c6 => ?_) (fun c6 => ?_)
        · replace hT := hT.1 c6
          refine lv_iload_n hx hb dX9_joined_107 rfl (lv_at hl 2 rfl) ?_
          refine lv_istore_n (lv' := [(2, .int x2), (0, .ref (ad 0)), (1, .int a1), (3, .int x3)]) hx hb dX9_joined_108 rfl hl (by decide) rfl (fun ls hl => ?_)
          refine lv_aload_n hx hb dX9_joined_109 rfl (lv_at hl 1 rfl) ?_
          refine mg_leaves hx hb hts hown hK hP dX9_joined_110 ?_
          refine lv_iload_n hx hb dX9_joined_113 rfl (lv_at hl 3 rfl) ?_
          refine lv_iconst (v := 0) hx hb dX9_joined_114 (by decide) ?_
          obtain ⟨hi7, hT⟩ := hT
          refine va_zast (f := S.2.1 25) hx hb hK hP hD hS 25 1 mat_25 rfl hi7 dX9_joined_115 (fun H locs hP hD hS => ?_)
          replace hP := msetP_25 hP
          replace hD := msetD_25 hD
          refine lv_iinc (v := x3 + 1) (lv' := [(3, .int (x3 + 1)), (2, .int x2), (0, .ref (ad 0)), (1, .int a1)]) hx hb dX9_joined_116 hl (k := 3) rfl rfl (by decide) rfl (fun ls hl => ?_)
          refine lv_goto (tgt := 80) hx hb dX9_joined_119 (by decide) ?_
          rw [hB80] at hT
          exact hT _ _ _ hP hD hS (lv_sub hl [2, 3, 1, 0] rfl)
        · replace hT := hT.2 c6
          refine lv_aload_n hx hb dX9_joined_98 rfl (lv_at hl 0 rfl) ?_
          refine mg_setSize hx hb hts hown hK hP dX9_joined_99 ?_
          refine lv_iload_n hx hb dX9_joined_102 rfl (lv_at hl 3 rfl) ?_
          obtain ⟨hi8, hT⟩ := hT
          refine va_iald (f := S.2.1 24) hx hb hK hP 24 0 mat_24 rfl hi8 dX9_joined_103 ?_
          refine lv_goto (tgt := 108) hx hb dX9_joined_104 (by decide) ?_
          refine lv_topi (fun v2_9 ev2_9 => ?_)
          replace hT := hT v2_9 ev2_9
          refine lv_istore_n (lv' := [(2, .int v2_9), (0, .ref (ad 0)), (1, .int a1), (3, .int x3)]) hx hb dX9_joined_108 rfl hl (by decide) rfl (fun ls hl => ?_)
          refine lv_aload_n hx hb dX9_joined_109 rfl (lv_at hl 1 rfl) ?_
          refine mg_leaves hx hb hts hown hK hP dX9_joined_110 ?_
          refine lv_iload_n hx hb dX9_joined_113 rfl (lv_at hl 3 rfl) ?_
          refine lv_iconst (v := 0) hx hb dX9_joined_114 (by decide) ?_
          obtain ⟨hi10, hT⟩ := hT
          refine va_zast (f := S.2.1 25) hx hb hK hP hD hS 25 1 mat_25 rfl hi10 dX9_joined_115 (fun H locs hP hD hS => ?_)
          replace hP := msetP_25 hP
          replace hD := msetD_25 hD
          refine lv_iinc (v := x3 + 1) (lv' := [(3, .int (x3 + 1)), (2, .int v2_9), (0, .ref (ad 0)), (1, .int a1)]) hx hb dX9_joined_116 hl (k := 3) rfl rfl (by decide) rfl (fun ls hl => ?_)
          refine lv_goto (tgt := 80) hx hb dX9_joined_119 (by decide) ?_
          rw [hB80] at hT
          exact hT _ _ _ hP hD hS (lv_sub hl [2, 3, 1, 0] rfl)
    · clear hP hD hS hl H locs ls
      intro S x3 x4 hT
      unfold mT_joined_137 at hT
      rw [hB137]
      intro H locs ls hP hD hS hl
      refine lv_iload hx hb dX9_joined_137 (lv_at hl 2 rfl) ?_
      refine lv_iload_n hx hb dX9_joined_139 rfl (lv_at hl 1 rfl) ?_
      refine lv_icmp_ge (tgt := 255) hx hb dX9_joined_140 (by decide) (fun c11 => ?_) (fun c11 => ?_)
      · replace hT := hT.1 c11
        refine lv_iconst (v := 0) hx hb dX9_joined_255 (by decide) ?_
        refine lv_istore (lv' := [(4, .int 0), (0, .ref (ad 0)), (3, .int x3)]) hx hb dX9_joined_256 hl (by decide) rfl (fun ls hl => ?_)
        refine lv_iconst (v := 0) hx hb dX9_joined_258 (by decide) ?_
        refine lv_istore (lv' := [(5, .int 0), (4, .int 0), (0, .ref (ad 0)), (3, .int x3)]) hx hb dX9_joined_259 hl (by decide) rfl (fun ls hl => ?_)
        rw [hB261] at hT
        exact hT _ _ _ hP hD hS (lv_sub hl [2, 1, 0] rfl)
      · replace hT := hT.2 c11
        refine lv_aload_n hx hb dX9_joined_143 rfl (lv_at hl 0 rfl) ?_
        refine mg_set hx hb hts hown hK hP dX9_joined_144 ?_
        refine lv_iload hx hb dX9_joined_147 (lv_at hl 2 rfl) ?_
        obtain ⟨hi12, hT⟩ := hT
        refine va_iald (f := S.2.1 20) hx hb hK hP 20 0 mat_20 rfl hi12 dX9_joined_149 ?_
        refine lv_iconst (v := (-1)) hx hb dX9_joined_150 (by decide) ?_
        refine lv_icmp_ne (tgt := 157) hx hb dX9_joined_151 (by decide) (fun c13 => ?_) (fun c13 => ?_)
        · replace hT := hT.1 c13
          refine lv_aload_n hx hb dX9_joined_157 rfl (lv_at hl 0 rfl) ?_
          refine lv_iload hx hb dX9_joined_158 (lv_at hl 2 rfl) ?_
          refine lv_aload_n hx hb dX9_joined_160 rfl (lv_at hl 0 rfl) ?_
          refine mg_at hx hb hts hown hK hP dX9_joined_161 ?_
          refine mcallV (n := 2) (rest := []) hT hx hb hml hown hts hK hA hP hD hS hl gg_180 hd_X9_unpack ⟨Nat.le_of_ble_eq_true rfl, Nat.le_of_ble_eq_true rfl⟩ rfl rfl (Nat.le_of_ble_eq_true rfl) dX9_joined_164 (Nat.zero_le _) (Nat.zero_le _) (fun S14 H locs hP hD hS hT => ?_)
          refine lv_iconst (v := 0) hx hb dX9_joined_167 (by decide) ?_
          refine lv_istore (lv' := [(5, .int 0), (0, .ref (ad 0)), (3, .int x3), (4, .int x4)]) hx hb dX9_joined_168 hl (by decide) rfl (fun ls hl => ?_)
          rw [hB170] at hT
          exact hT _ _ _ hP hD hS (lv_sub hl [1, 2, 3, 0] rfl)
        · replace hT := hT.2 c13
          refine lv_goto (tgt := 249) hx hb dX9_joined_154 (by decide) ?_
          rw [hB249] at hT
          exact hT _ _ _ hP hD hS (lv_sub hl [0, 1, 2] rfl)
    · clear hP hD hS hl H locs ls
      intro S x3 x4 x5 hT
      unfold mT_joined_170 at hT
      rw [hB170]
      intro H locs ls hP hD hS hl
      refine lv_iload hx hb dX9_joined_170 (lv_at hl 3 rfl) ?_
      refine lv_aload_n hx hb dX9_joined_172 rfl (lv_at hl 0 rfl) ?_
      refine mg_pegs (v := S.1 0) hx hb hts hown hK hP rfl dX9_joined_173 ?_
      refine lv_icmp_ge (tgt := 249) hx hb dX9_joined_176 (by decide) (fun c15 => ?_) (fun c15 => ?_)
      · replace hT := hT.1 c15
        rw [hB249] at hT
        exact hT _ _ _ hP hD hS (lv_sub hl [0, 1, 2] rfl)
      · replace hT := hT.2 c15
        refine lv_iconst (v := 0) hx hb dX9_joined_179 (by decide) ?_
        refine lv_istore (lv' := [(6, .int 0), (0, .ref (ad 0)), (3, .int x3), (4, .int x4), (5, .int x5)]) hx hb dX9_joined_180 hl (by decide) rfl (fun ls hl => ?_)
        rw [hB182] at hT
        exact hT _ _ _ hP hD hS (lv_sub hl [1, 2, 3, 4, 0] rfl)
    · clear hP hD hS hl H locs ls
      intro S x3 x4 x5 x6 hT
      unfold mT_joined_182 at hT
      rw [hB182]
      intro H locs ls hP hD hS hl
      refine lv_iload hx hb dX9_joined_182 (lv_at hl 4 rfl) ?_
      refine lv_aload_n hx hb dX9_joined_184 rfl (lv_at hl 0 rfl) ?_
      refine mg_pegs (v := S.1 0) hx hb hts hown hK hP rfl dX9_joined_185 ?_
      refine lv_icmp_ge (tgt := 243) hx hb dX9_joined_188 (by decide) (fun c16 => ?_) (fun c16 => ?_)
      · replace hT := hT.1 c16
        refine lv_iinc (v := x5 + 1) (lv' := [(5, .int (x5 + 1)), (0, .ref (ad 0)), (3, .int x3), (4, .int x4), (6, .int x6)]) hx hb dX9_joined_243 hl (k := 3) rfl rfl (by decide) rfl (fun ls hl => ?_)
        refine lv_goto (tgt := 170) hx hb dX9_joined_246 (by decide) ?_
        rw [hB170] at hT
        exact hT _ _ _ hP hD hS (lv_sub hl [1, 2, 3, 0] rfl)
      · replace hT := hT.2 c16
        refine lv_aload_n hx hb dX9_joined_191 rfl (lv_at hl 0 rfl) ?_
        refine lv_iload hx hb dX9_joined_192 (lv_at hl 3 rfl) ?_
        refine lv_iload hx hb dX9_joined_194 (lv_at hl 4 rfl) ?_
        refine mcallI (n := 2) (rest := []) hT hx hb hml hown hts hK hA hP hD hS hl gg_211 hd_X9_leads ⟨Nat.le_of_ble_eq_true rfl, Nat.le_of_ble_eq_true rfl⟩ rfl rfl (Nat.le_of_ble_eq_true rfl) dX9_joined_196 (Nat.zero_le _) (Nat.zero_le _) (fun r18 S17 H locs hP hD hS hT => ?_)
        refine lv_istore (lv' := [(7, .int r18), (0, .ref (ad 0)), (3, .int x3), (4, .int x4), (5, .int x5), (6, .int x6)]) hx hb dX9_joined_199 hl (by decide) rfl (fun ls hl => ?_)
        refine lv_iload hx hb dX9_joined_201 (lv_at hl 0 rfl) ?_
        refine lv_iconst (v := (-1)) hx hb dX9_joined_203 (by decide) ?_
        refine lv_icmp_eq (tgt := 237) hx hb dX9_joined_204 (by decide) (fun c19 => ?_) (fun c19 => ?_)
        · replace hT := hT.1 c19
          rw [hB237] at hT
          exact hT _ _ _ hP hD hS (lv_sub hl [1, 2, 3, 4, 5] rfl)
        · replace hT := hT.2 c19
          refine lv_aload_n hx hb dX9_joined_207 rfl (lv_at hl 1 rfl) ?_
          refine mg_set hx hb hts hown hK hP dX9_joined_208 ?_
          refine lv_iload hx hb dX9_joined_211 (lv_at hl 0 rfl) ?_
          obtain ⟨hi20, hT⟩ := hT
          refine va_iald (f := S17.2.1 20) hx hb hK hP 20 0 mat_20 rfl hi20 dX9_joined_213 ?_
          refine lv_aload_n hx hb dX9_joined_214 rfl (lv_at hl 1 rfl) ?_
          refine mg_set hx hb hts hown hK hP dX9_joined_215 ?_
          refine lv_iload hx hb dX9_joined_218 (lv_at hl 3 rfl) ?_
          obtain ⟨hi21, hT⟩ := hT
          refine va_iald (f := S17.2.1 20) hx hb hK hP 20 0 mat_20 rfl hi21 dX9_joined_220 ?_
          refine lv_icmp_eq (tgt := 237) hx hb dX9_joined_221 (by decide) (fun c22 => ?_) (fun c22 => ?_)
          · replace hT := hT.1 c22
            rw [hB237] at hT
            exact hT _ _ _ hP hD hS (lv_sub hl [1, 2, 3, 4, 5] rfl)
          · replace hT := hT.2 c22
            refine lv_aload_n hx hb dX9_joined_224 rfl (lv_at hl 1 rfl) ?_
            refine mg_leaves hx hb hts hown hK hP dX9_joined_225 ?_
            refine lv_aload_n hx hb dX9_joined_228 rfl (lv_at hl 1 rfl) ?_
            refine mg_set hx hb hts hown hK hP dX9_joined_229 ?_
            refine lv_iload hx hb dX9_joined_232 (lv_at hl 3 rfl) ?_
            obtain ⟨hi23, hT⟩ := hT
            refine va_iald (f := S17.2.1 20) hx hb hK hP 20 0 mat_20 rfl hi23 dX9_joined_234 ?_
            refine lv_iconst (v := 1) hx hb dX9_joined_235 (by decide) ?_
            obtain ⟨hi24, hT⟩ := hT
            refine va_zast (f := S17.2.1 25) hx hb hK hP hD hS 25 1 mat_25 rfl hi24 dX9_joined_236 (fun H locs hP hD hS => ?_)
            replace hP := msetP_25 hP
            replace hD := msetD_25 hD
            rw [hB237] at hT
            exact hT _ _ _ hP hD hS (lv_sub hl [1, 2, 3, 4, 5] rfl)
    · clear hP hD hS hl H locs ls
      intro S x3 x4 x5 x6 hT
      unfold mT_joined_237 at hT
      rw [hB237]
      intro H locs ls hP hD hS hl
      refine lv_iinc (v := x6 + 1) (lv' := [(6, .int (x6 + 1)), (0, .ref (ad 0)), (3, .int x3), (4, .int x4), (5, .int x5)]) hx hb dX9_joined_237 hl (k := 4) rfl rfl (by decide) rfl (fun ls hl => ?_)
      refine lv_goto (tgt := 182) hx hb dX9_joined_240 (by decide) ?_
      rw [hB182] at hT
      exact hT _ _ _ hP hD hS (lv_sub hl [1, 2, 3, 4, 0] rfl)
    · clear hP hD hS hl H locs ls
      intro S x3 x4 hT
      unfold mT_joined_249 at hT
      rw [hB249]
      intro H locs ls hP hD hS hl
      refine lv_iinc (v := x4 + 1) (lv' := [(4, .int (x4 + 1)), (0, .ref (ad 0)), (3, .int x3)]) hx hb dX9_joined_249 hl (k := 2) rfl rfl (by decide) rfl (fun ls hl => ?_)
      refine lv_goto (tgt := 137) hx hb dX9_joined_252 (by decide) ?_
      rw [hB137] at hT
      exact hT _ _ _ hP hD hS (lv_sub hl [1, 2, 0] rfl)
    · clear hP hD hS hl H locs ls
      intro S x4 x5 hT
      unfold mT_joined_261 at hT
      rw [hB261]
      intro H locs ls hP hD hS hl
      refine lv_iload hx hb dX9_joined_261 (lv_at hl 2 rfl) ?_
      refine lv_aload_n hx hb dX9_joined_263 rfl (lv_at hl 0 rfl) ?_
      refine mg_sets (v := S.1 8) hx hb hts hown hK hP rfl dX9_joined_264 ?_
      refine lv_icmp_ge (tgt := 296) hx hb dX9_joined_267 (by decide) (fun c25 => ?_) (fun c25 => ?_)
      · replace hT := hT.1 c25
        refine lv_iload hx hb dX9_joined_296 (lv_at hl 1 rfl) ?_
        exact hret _ _ _ _ _ _ hP hD hS hT dX9_joined_298
      · replace hT := hT.2 c25
        refine lv_iload hx hb dX9_joined_270 (lv_at hl 1 rfl) ?_
        refine lv_aload_n hx hb dX9_joined_272 rfl (lv_at hl 0 rfl) ?_
        refine mg_leaves hx hb hts hown hK hP dX9_joined_273 ?_
        refine lv_iload hx hb dX9_joined_276 (lv_at hl 2 rfl) ?_
        obtain ⟨hi26, hT⟩ := hT
        refine va_zald (f := S.2.1 25) hx hb hK hP 25 1 mat_25 rfl hi26 dX9_joined_278 ?_
        refine lv_if_eq (tgt := 286) hx hb dX9_joined_279 (by decide) (fun c27 => ?_) (fun c27 => ?_)
        · replace hT := hT.1 c27
          refine lv_iconst (v := 1) hx hb dX9_joined_286 (by decide) ?_
          refine lv_iadd hx hb dX9_joined_287 ?_
          refine lv_topi (fun v4_28 ev4_28 => ?_)
          replace hT := hT v4_28 ev4_28
          refine lv_istore (lv' := [(4, .int v4_28), (0, .ref (ad 0)), (5, .int x5)]) hx hb dX9_joined_288 hl (by decide) rfl (fun ls hl => ?_)
          refine lv_iinc (v := x5 + 1) (lv' := [(5, .int (x5 + 1)), (4, .int v4_28), (0, .ref (ad 0))]) hx hb dX9_joined_290 hl (k := 2) rfl rfl (by decide) rfl (fun ls hl => ?_)
          refine lv_goto (tgt := 261) hx hb dX9_joined_293 (by decide) ?_
          rw [hB261] at hT
          exact hT _ _ _ hP hD hS (lv_sub hl [2, 1, 0] rfl)
        · replace hT := hT.2 c27
          refine lv_iconst (v := 0) hx hb dX9_joined_282 (by decide) ?_
          refine lv_goto (tgt := 287) hx hb dX9_joined_283 (by decide) ?_
          refine lv_iadd hx hb dX9_joined_287 ?_
          refine lv_topi (fun v4_29 ev4_29 => ?_)
          replace hT := hT v4_29 ev4_29
          refine lv_istore (lv' := [(4, .int v4_29), (0, .ref (ad 0)), (5, .int x5)]) hx hb dX9_joined_288 hl (by decide) rfl (fun ls hl => ?_)
          refine lv_iinc (v := x5 + 1) (lv' := [(5, .int (x5 + 1)), (4, .int v4_29), (0, .ref (ad 0))]) hx hb dX9_joined_290 hl (k := 2) rfl rfl (by decide) rfl (fun ls hl => ?_)
          refine lv_goto (tgt := 261) hx hb dX9_joined_293 (by decide) ?_
          rw [hB261] at hT
          exact hT _ _ _ hP hD hS (lv_sub hl [2, 1, 0] rfl)
  unfold mT_joined_e at hT
  refine lv_aload_n hx hb dX9_joined_0 rfl (lv_at hl 0 rfl) ?_
  refine lv_iconst (v := 0) hx hb dX9_joined_1 (by decide) ?_
  refine mp_thrown hx hb hts hown hK hP hD hS dX9_joined_2 (fun H locs hP hD hS => ?_)
  refine lv_aload_n hx hb dX9_joined_5 rfl (lv_at hl 0 rfl) ?_
  refine mcallZ (n := 0) (rest := []) hT hx hb hml hown hts hK hA hP hD hS hl gg_215 hd_X9_fits ⟨Nat.le_of_ble_eq_true rfl, Nat.le_of_ble_eq_true rfl⟩ rfl rfl (Nat.le_of_ble_eq_true rfl) dX9_joined_6 (Nat.zero_le _) (Nat.zero_le _) (fun b31 S30 H locs hP hD hS hT => ?_)
  refine lv_if_ne (tgt := 18) hx hb dX9_joined_9 (by decide) (fun c32 => ?_) (fun c32 => ?_)
  · replace hT := hT.1 c32
    refine lv_aload_n hx hb dX9_joined_18 rfl (lv_at hl 0 rfl) ?_
    refine lv_iload_n hx hb dX9_joined_19 rfl (lv_at hl 1 rfl) ?_
    refine lv_iconst (v := 0) hx hb dX9_joined_20 (by decide) ?_
    refine lv_iconst (v := 3) hx hb dX9_joined_21 (by decide) ?_
    refine mcallZ (n := 3) (rest := []) hT hx hb hml hown hts hK hA hP hD hS hl gg_139 hd_X9_in ⟨Nat.le_of_ble_eq_true rfl, Nat.le_of_ble_eq_true rfl⟩ rfl rfl (Nat.le_of_ble_eq_true rfl) dX9_joined_22 (Nat.zero_le _) (Nat.zero_le _) (fun b34 S33 H locs hP hD hS hT => ?_)
    refine lv_if_ne (tgt := 34) hx hb dX9_joined_25 (by decide) (fun c35 => ?_) (fun c35 => ?_)
    · replace hT := hT.1 c35
      refine lv_aload_n hx hb dX9_joined_34 rfl (lv_at hl 0 rfl) ?_
      refine lv_iconst (v := 0) hx hb dX9_joined_35 (by decide) ?_
      refine mp_trouble hx hb hts hown hK hP hD hS dX9_joined_36 (fun H locs hP hD hS => ?_)
      refine lv_aload_n hx hb dX9_joined_39 rfl (lv_at hl 0 rfl) ?_
      refine mcallV (n := 0) (rest := []) hT hx hb hml hown hts hK hA hP hD hS hl gg_232 hd_X9_joinAll ⟨Nat.le_of_ble_eq_true rfl, Nat.le_of_ble_eq_true rfl⟩ rfl rfl (Nat.le_of_ble_eq_true rfl) dX9_joined_40 (Nat.zero_le _) (Nat.zero_le _) (fun S36 H locs hP hD hS hT => ?_)
      refine lv_iload_n hx hb dX9_joined_43 rfl (lv_at hl 1 rfl) ?_
      refine lv_if_ne (tgt := 52) hx hb dX9_joined_44 (by decide) (fun c37 => ?_) (fun c37 => ?_)
      · replace hT := hT.1 c37
        refine lv_iload_n hx hb dX9_joined_52 rfl (lv_at hl 1 rfl) ?_
        refine lv_iconst (v := 1) hx hb dX9_joined_53 (by decide) ?_
        refine lv_icmp_ne (tgt := 76) hx hb dX9_joined_54 (by decide) (fun c38 => ?_) (fun c38 => ?_)
        · replace hT := hT.1 c38
          refine lv_iconst (v := 0) hx hb dX9_joined_76 (by decide) ?_
          refine lv_istore_n (lv' := [(2, .int 0), (0, .ref (ad 0)), (1, .int a1)]) hx hb dX9_joined_77 rfl hl (by decide) rfl (fun ls hl => ?_)
          refine lv_iconst (v := 0) hx hb dX9_joined_78 (by decide) ?_
          refine lv_istore_n (lv' := [(3, .int 0), (2, .int 0), (0, .ref (ad 0)), (1, .int a1)]) hx hb dX9_joined_79 rfl hl (by decide) rfl (fun ls hl => ?_)
          rw [hB80] at hT
          exact hT _ _ _ hP hD hS (lv_sub hl [2, 3, 1, 0] rfl)
        · replace hT := hT.2 c38
          refine lv_aload_n hx hb dX9_joined_57 rfl (lv_at hl 0 rfl) ?_
          refine mg_setSize hx hb hts hown hK hP dX9_joined_58 ?_
          refine lv_aload_n hx hb dX9_joined_61 rfl (lv_at hl 0 rfl) ?_
          refine mg_set hx hb hts hown hK hP dX9_joined_62 ?_
          refine lv_aload_n hx hb dX9_joined_65 rfl (lv_at hl 0 rfl) ?_
          refine lv_aload_n hx hb dX9_joined_66 rfl (lv_at hl 0 rfl) ?_
          refine mg_stand hx hb hts hown hK hP dX9_joined_67 ?_
          refine mcallI (n := 1) (rest := [.ref (ad 20), .ref (ad 24)]) hT hx hb hml hown hts hK hA hP hD hS hl gg_184 hd_X9_pack ⟨Nat.le_of_ble_eq_true rfl, Nat.le_of_ble_eq_true rfl⟩ rfl rfl (Nat.le_of_ble_eq_true rfl) dX9_joined_70 (Nat.zero_le _) (Nat.zero_le _) (fun r40 S39 H locs hP hD hS hT => ?_)
          obtain ⟨hi41, hT⟩ := hT
          refine va_iald (f := S39.2.1 20) hx hb hK hP 20 0 mat_20 rfl hi41 dX9_joined_73 ?_
          obtain ⟨hi42, hT⟩ := hT
          refine va_iald (f := S39.2.1 24) hx hb hK hP 24 0 mat_24 rfl hi42 dX9_joined_74 ?_
          exact hret _ _ _ _ _ _ hP hD hS hT dX9_joined_75
      · replace hT := hT.2 c37
        refine lv_aload_n hx hb dX9_joined_47 rfl (lv_at hl 0 rfl) ?_
        refine mg_sets (v := S36.1 8) hx hb hts hown hK hP rfl dX9_joined_48 ?_
        exact hret _ _ _ _ _ _ hP hD hS hT dX9_joined_51
    · replace hT := hT.2 c35
      refine lv_aload_n hx hb dX9_joined_28 rfl (lv_at hl 0 rfl) ?_
      refine lv_iconst (v := 1) hx hb dX9_joined_29 (by decide) ?_
      refine mcallI (n := 1) (rest := []) hT hx hb hml hown hts hK hA hP hD hS hl gg_192 hd_X9_no ⟨Nat.le_of_ble_eq_true rfl, Nat.le_of_ble_eq_true rfl⟩ rfl rfl (Nat.le_of_ble_eq_true rfl) dX9_joined_30 (Nat.zero_le _) (Nat.zero_le _) (fun r44 S43 H locs hP hD hS hT => ?_)
      exact hret _ _ _ _ _ _ hP hD hS hT dX9_joined_33
  · replace hT := hT.2 c32
    refine lv_aload_n hx hb dX9_joined_12 rfl (lv_at hl 0 rfl) ?_
    refine lv_iconst (v := 2) hx hb dX9_joined_13 (by decide) ?_
    refine mcallI (n := 1) (rest := []) hT hx hb hml hown hts hK hA hP hD hS hl gg_192 hd_X9_no ⟨Nat.le_of_ble_eq_true rfl, Nat.le_of_ble_eq_true rfl⟩ rfl rfl (Nat.le_of_ble_eq_true rfl) dX9_joined_14 (Nat.zero_le _) (Nat.zero_le _) (fun r46 S45 H locs hP hD hS hT => ?_)
    exact hret _ _ _ _ _ _ hP hD hS hT dX9_joined_17
abbrev mX_areNames (l : Launch) (S : MS) (a1 : Int32) (a2 : Int32) (a3 : Int32) (a4 : Int32) (a5 : Int32) (post : Bool → MS → Prop) : Prop := mCtZ l yX9_areNames cX9_areNames 8 2 44 (fun ad => [.int a1, .int a2, .int a3, .int a4, .int a5]) S post
def mT_areNames_40 (l : Launch) (a1 : Int32) (a2 : Int32) (a3 : Int32) (a4 : Int32) (a5 : Int32) (post : Bool → MS → Prop) (B40 : MS → Int32 → Prop) (B68 : MS → Int32 → Int32 → Prop) (S : MS) (x6 : Int32) : Prop := (S.1 0 ≤ x6 → post true S) ∧ (¬ S.1 0 ≤ x6 → vp_in x6 5 ∧ mX_isPeg l S (S.2.1 26 x6.toNatClampNeg) (fun b4 S3 => (¬ bI b4 = 0 → B68 S3 x6 0) ∧ (bI b4 = 0 → post false S3)))
def mT_areNames_68 (l : Launch) (a1 : Int32) (a2 : Int32) (a3 : Int32) (a4 : Int32) (a5 : Int32) (post : Bool → MS → Prop) (B40 : MS → Int32 → Prop) (B68 : MS → Int32 → Int32 → Prop) (S : MS) (x6 : Int32) (x7 : Int32) : Prop := (x6 ≤ x7 → B40 S (x6 + 1)) ∧ (¬ x6 ≤ x7 → vp_in x7 5 ∧ vp_in x6 5 ∧ (¬ S.2.1 26 x7.toNatClampNeg = S.2.1 26 x6.toNatClampNeg → B68 S x6 (x7 + 1)) ∧ (S.2.1 26 x7.toNatClampNeg = S.2.1 26 x6.toNatClampNeg → post false S))
def mT_areNames_e (l : Launch) (a1 : Int32) (a2 : Int32) (a3 : Int32) (a4 : Int32) (a5 : Int32) (post : Bool → MS → Prop) (B40 : MS → Int32 → Prop) (B68 : MS → Int32 → Int32 → Prop) (S0 : MS) : Prop := vp_in 0 5 ∧ vp_in 1 5 ∧ vp_in 2 5 ∧ vp_in 3 5 ∧ vp_in 4 5 ∧ B40 (ma (ma (ma (ma (ma S0 26 (upd (S0.2.1 26) (0 : Int32).toNatClampNeg a1)) 26 (upd (upd (S0.2.1 26) (0 : Int32).toNatClampNeg a1) (1 : Int32).toNatClampNeg a2)) 26 (upd (upd (upd (S0.2.1 26) (0 : Int32).toNatClampNeg a1) (1 : Int32).toNatClampNeg a2) (2 : Int32).toNatClampNeg a3)) 26 (upd (upd (upd (upd (S0.2.1 26) (0 : Int32).toNatClampNeg a1) (1 : Int32).toNatClampNeg a2) (2 : Int32).toNatClampNeg a3) (3 : Int32).toNatClampNeg a4)) 26 (upd (upd (upd (upd (upd (S0.2.1 26) (0 : Int32).toNatClampNeg a1) (1 : Int32).toNatClampNeg a2) (2 : Int32).toNatClampNeg a3) (3 : Int32).toNatClampNeg a4) (4 : Int32).toNatClampNeg a5)) 0
set_option maxHeartbeats 4000000 in
set_option maxRecDepth 100000 in
theorem m_areNames (l : Launch) (S0 : MS) (a1 : Int32) (a2 : Int32) (a3 : Int32) (a4 : Int32) (a5 : Int32) (post : Bool → MS → Prop) (h : ∀ (B40 : MS → Int32 → Prop) (B68 : MS → Int32 → Int32 → Prop), (∀ (S : MS) (x6 : Int32), mT_areNames_40 l a1 a2 a3 a4 a5 post B40 B68 S x6 → B40 S x6) → (∀ (S : MS) (x6 : Int32) (x7 : Int32), mT_areNames_68 l a1 a2 a3 a4 a5 post B40 B68 S x6 x7 → B68 S x6 x7) → mT_areNames_e l a1 a2 a3 a4 a5 post B40 B68 S0) : mX_areNames l S0 a1 a2 a3 a4 a5 post := by
  refine msetZ rfl (fun _ => Nat.le_of_ble_eq_true rfl) ?_
  intro p e s m args below meth c D ad cI cZ cL A Q hx hb hml hown hts hK hA hret H locs ls hP hD hS hl
  replace hl : lv_has ls 8 [(0, .ref (ad 0)), (1, .int a1), (2, .int a2), (3, .int a3), (4, .int a4), (5, .int a5)] := hl
  obtain ⟨B40, hB40⟩ : ∃ B : MS → Int32 → Prop, B = (fun S x6 => ∀ (H : Heap) (locs : List Loc) (ls : Array Slot), va_P D vwCl (mW ad cI cZ cL S) H → va_D A (mW ad cI cZ cL S) → va_S A s.heap H locs → lv_has ls 8 [(0, .ref (ad 0)), (6, .int x6)] → W p l e (mrm 2 44) s m args below meth c H locs 0 0 Q (F0 m 40 ls [])) := ⟨_, rfl⟩
  obtain ⟨B68, hB68⟩ : ∃ B : MS → Int32 → Int32 → Prop, B = (fun S x6 x7 => ∀ (H : Heap) (locs : List Loc) (ls : Array Slot), va_P D vwCl (mW ad cI cZ cL S) H → va_D A (mW ad cI cZ cL S) → va_S A s.heap H locs → lv_has ls 8 [(0, .ref (ad 0)), (6, .int x6), (7, .int x7)] → W p l e (mrm 2 44) s m args below meth c H locs 0 0 Q (F0 m 68 ls [])) := ⟨_, rfl⟩
  have hT : mT_areNames_e l a1 a2 a3 a4 a5 post B40 B68 S0 := by
    refine h B40 B68 ?_ ?_
    · clear hP hD hS hl H locs ls
      intro S x6 hT
      unfold mT_areNames_40 at hT
      rw [hB40]
      intro H locs ls hP hD hS hl
      refine lv_iload hx hb dX9_areNames_40 (lv_at hl 1 rfl) ?_
      refine lv_aload_n hx hb dX9_areNames_42 rfl (lv_at hl 0 rfl) ?_
      refine mg_pegs (v := S.1 0) hx hb hts hown hK hP rfl dX9_areNames_43 ?_
      refine lv_icmp_ge (tgt := 106) hx hb dX9_areNames_46 (by decide) (fun c1 => ?_) (fun c1 => ?_)
      · replace hT := hT.1 c1
        refine lv_iconst (v := 1) hx hb dX9_areNames_106 (by decide) ?_
        exact hret true _ _ _ _ _ hP hD hS hT dX9_areNames_107
      · replace hT := hT.2 c1
        refine lv_aload_n hx hb dX9_areNames_49 rfl (lv_at hl 0 rfl) ?_
        refine lv_aload_n hx hb dX9_areNames_50 rfl (lv_at hl 0 rfl) ?_
        refine mg_names hx hb hts hown hK hP dX9_areNames_51 ?_
        refine lv_iload hx hb dX9_areNames_54 (lv_at hl 1 rfl) ?_
        obtain ⟨hi2, hT⟩ := hT
        refine va_iald (f := S.2.1 26) hx hb hK hP 26 0 mat_26 rfl hi2 dX9_areNames_56 ?_
        refine mcallZ (n := 1) (rest := []) hT hx hb hml hown hts hK hA hP hD hS hl gg_170 hd_X9_isPeg ⟨Nat.le_of_ble_eq_true rfl, Nat.le_of_ble_eq_true rfl⟩ rfl rfl (Nat.le_of_ble_eq_true rfl) dX9_areNames_57 (Nat.zero_le _) (Nat.zero_le _) (fun b4 S3 H locs hP hD hS hT => ?_)
        refine lv_if_ne (tgt := 65) hx hb dX9_areNames_60 (by decide) (fun c5 => ?_) (fun c5 => ?_)
        · replace hT := hT.1 c5
          refine lv_iconst (v := 0) hx hb dX9_areNames_65 (by decide) ?_
          refine lv_istore (lv' := [(7, .int 0), (0, .ref (ad 0)), (6, .int x6)]) hx hb dX9_areNames_66 hl (by decide) rfl (fun ls hl => ?_)
          rw [hB68] at hT
          exact hT _ _ _ hP hD hS (lv_sub hl [1, 2, 0] rfl)
        · replace hT := hT.2 c5
          refine lv_iconst (v := 0) hx hb dX9_areNames_63 (by decide) ?_
          exact hret false _ _ _ _ _ hP hD hS hT dX9_areNames_64
    · clear hP hD hS hl H locs ls
      intro S x6 x7 hT
      unfold mT_areNames_68 at hT
      rw [hB68]
      intro H locs ls hP hD hS hl
      refine lv_iload hx hb dX9_areNames_68 (lv_at hl 2 rfl) ?_
      refine lv_iload hx hb dX9_areNames_70 (lv_at hl 1 rfl) ?_
      refine lv_icmp_ge (tgt := 100) hx hb dX9_areNames_72 (by decide) (fun c6 => ?_) (fun c6 => ?_)
      · replace hT := hT.1 c6
        refine lv_iinc (v := x6 + 1) (lv' := [(6, .int (x6 + 1)), (0, .ref (ad 0)), (7, .int x7)]) hx hb dX9_areNames_100 hl (k := 1) rfl rfl (by decide) rfl (fun ls hl => ?_)
        refine lv_goto (tgt := 40) hx hb dX9_areNames_103 (by decide) ?_
        rw [hB40] at hT
        exact hT _ _ _ hP hD hS (lv_sub hl [1, 0] rfl)
      · replace hT := hT.2 c6
        refine lv_aload_n hx hb dX9_areNames_75 rfl (lv_at hl 0 rfl) ?_
        refine mg_names hx hb hts hown hK hP dX9_areNames_76 ?_
        refine lv_iload hx hb dX9_areNames_79 (lv_at hl 2 rfl) ?_
        obtain ⟨hi7, hT⟩ := hT
        refine va_iald (f := S.2.1 26) hx hb hK hP 26 0 mat_26 rfl hi7 dX9_areNames_81 ?_
        refine lv_aload_n hx hb dX9_areNames_82 rfl (lv_at hl 0 rfl) ?_
        refine mg_names hx hb hts hown hK hP dX9_areNames_83 ?_
        refine lv_iload hx hb dX9_areNames_86 (lv_at hl 1 rfl) ?_
        obtain ⟨hi8, hT⟩ := hT
        refine va_iald (f := S.2.1 26) hx hb hK hP 26 0 mat_26 rfl hi8 dX9_areNames_88 ?_
        refine lv_icmp_ne (tgt := 94) hx hb dX9_areNames_89 (by decide) (fun c9 => ?_) (fun c9 => ?_)
        · replace hT := hT.1 c9
          refine lv_iinc (v := x7 + 1) (lv' := [(7, .int (x7 + 1)), (0, .ref (ad 0)), (6, .int x6)]) hx hb dX9_areNames_94 hl (k := 2) rfl rfl (by decide) rfl (fun ls hl => ?_)
          refine lv_goto (tgt := 68) hx hb dX9_areNames_97 (by decide) ?_
          rw [hB68] at hT
          exact hT _ _ _ hP hD hS (lv_sub hl [1, 2, 0] rfl)
        · replace hT := hT.2 c9
          refine lv_iconst (v := 0) hx hb dX9_areNames_92 (by decide) ?_
          exact hret false _ _ _ _ _ hP hD hS hT dX9_areNames_93
  unfold mT_areNames_e at hT
  refine lv_aload_n hx hb dX9_areNames_0 rfl (lv_at hl 0 rfl) ?_
  refine mg_names hx hb hts hown hK hP dX9_areNames_1 ?_
  refine lv_iconst (v := 0) hx hb dX9_areNames_4 (by decide) ?_
  refine lv_iload_n hx hb dX9_areNames_5 rfl (lv_at hl 1 rfl) ?_
  obtain ⟨hi10, hT⟩ := hT
  refine va_iast (f := S0.2.1 26) hx hb hK hP hD hS 26 0 mat_26 rfl hi10 dX9_areNames_6 (fun H locs hP hD hS => ?_)
  replace hP := msetP_26 hP
  replace hD := msetD_26 hD
  refine lv_aload_n hx hb dX9_areNames_7 rfl (lv_at hl 0 rfl) ?_
  refine mg_names hx hb hts hown hK hP dX9_areNames_8 ?_
  refine lv_iconst (v := 1) hx hb dX9_areNames_11 (by decide) ?_
  refine lv_iload_n hx hb dX9_areNames_12 rfl (lv_at hl 2 rfl) ?_
  obtain ⟨hi11, hT⟩ := hT
  refine va_iast (f := upd (S0.2.1 26) (0 : Int32).toNatClampNeg a1) hx hb hK hP hD hS 26 0 mat_26 rfl hi11 dX9_areNames_13 (fun H locs hP hD hS => ?_)
  replace hP := msetP_26 hP
  replace hD := msetD_26 hD
  refine lv_aload_n hx hb dX9_areNames_14 rfl (lv_at hl 0 rfl) ?_
  refine mg_names hx hb hts hown hK hP dX9_areNames_15 ?_
  refine lv_iconst (v := 2) hx hb dX9_areNames_18 (by decide) ?_
  refine lv_iload_n hx hb dX9_areNames_19 rfl (lv_at hl 3 rfl) ?_
  obtain ⟨hi12, hT⟩ := hT
  refine va_iast (f := upd (upd (S0.2.1 26) (0 : Int32).toNatClampNeg a1) (1 : Int32).toNatClampNeg a2) hx hb hK hP hD hS 26 0 mat_26 rfl hi12 dX9_areNames_20 (fun H locs hP hD hS => ?_)
  replace hP := msetP_26 hP
  replace hD := msetD_26 hD
  refine lv_aload_n hx hb dX9_areNames_21 rfl (lv_at hl 0 rfl) ?_
  refine mg_names hx hb hts hown hK hP dX9_areNames_22 ?_
  refine lv_iconst (v := 3) hx hb dX9_areNames_25 (by decide) ?_
  refine lv_iload hx hb dX9_areNames_26 (lv_at hl 4 rfl) ?_
  obtain ⟨hi13, hT⟩ := hT
  refine va_iast (f := upd (upd (upd (S0.2.1 26) (0 : Int32).toNatClampNeg a1) (1 : Int32).toNatClampNeg a2) (2 : Int32).toNatClampNeg a3) hx hb hK hP hD hS 26 0 mat_26 rfl hi13 dX9_areNames_28 (fun H locs hP hD hS => ?_)
  replace hP := msetP_26 hP
  replace hD := msetD_26 hD
  refine lv_aload_n hx hb dX9_areNames_29 rfl (lv_at hl 0 rfl) ?_
  refine mg_names hx hb hts hown hK hP dX9_areNames_30 ?_
  refine lv_iconst (v := 4) hx hb dX9_areNames_33 (by decide) ?_
  refine lv_iload hx hb dX9_areNames_34 (lv_at hl 5 rfl) ?_
  obtain ⟨hi14, hT⟩ := hT
  refine va_iast (f := upd (upd (upd (upd (S0.2.1 26) (0 : Int32).toNatClampNeg a1) (1 : Int32).toNatClampNeg a2) (2 : Int32).toNatClampNeg a3) (3 : Int32).toNatClampNeg a4) hx hb hK hP hD hS 26 0 mat_26 rfl hi14 dX9_areNames_36 (fun H locs hP hD hS => ?_)
  replace hP := msetP_26 hP
  replace hD := msetD_26 hD
  refine lv_iconst (v := 0) hx hb dX9_areNames_37 (by decide) ?_
  refine lv_istore (lv' := [(6, .int 0), (0, .ref (ad 0)), (1, .int a1), (2, .int a2), (3, .int a3), (4, .int a4), (5, .int a5)]) hx hb dX9_areNames_38 hl (by decide) rfl (fun ls hl => ?_)
  rw [hB40] at hT
  exact hT _ _ _ hP hD hS (lv_sub hl [1, 0] rfl)
abbrev mX_rename (l : Launch) (S : MS) (a1 : Int32) (a2 : Int32) (a3 : Int32) (a4 : Int32) (a5 : Int32) (post : Bool → MS → Prop) : Prop := mCtZ l yX9_rename cX9_rename 8 3 71 (fun ad => [.int a1, .int a2, .int a3, .int a4, .int a5]) S post
def mT_rename_28 (l : Launch) (a1 : Int32) (a2 : Int32) (a3 : Int32) (a4 : Int32) (a5 : Int32) (post : Bool → MS → Prop) (B28 : MS → Int32 → Prop) (B72 : MS → Int32 → Prop) (B84 : MS → Int32 → Int32 → Prop) (B176 : MS → Int32 → Prop) (S : MS) (x6 : Int32) : Prop := (25 ≤ x6 → B72 S 0) ∧ (¬ 25 ≤ x6 → vp_in x6 25 ∧ vp_in x6 25 ∧ vp_in x6 25 ∧ vp_in x6 25 ∧ B28 (ma (ma S 27 (upd (S.2.1 27) x6.toNatClampNeg (S.2.1 4 x6.toNatClampNeg))) 28 (upd (S.2.1 28) x6.toNatClampNeg (vp_nar .boolean (S.2.1 5 x6.toNatClampNeg)))) (x6 + 1))
def mT_rename_72 (l : Launch) (a1 : Int32) (a2 : Int32) (a3 : Int32) (a4 : Int32) (a5 : Int32) (post : Bool → MS → Prop) (B28 : MS → Int32 → Prop) (B72 : MS → Int32 → Prop) (B84 : MS → Int32 → Int32 → Prop) (B176 : MS → Int32 → Prop) (S : MS) (x6 : Int32) : Prop := (S.1 0 ≤ x6 → B176 S 0) ∧ (¬ S.1 0 ≤ x6 → B84 S x6 0)
def mT_rename_84 (l : Launch) (a1 : Int32) (a2 : Int32) (a3 : Int32) (a4 : Int32) (a5 : Int32) (post : Bool → MS → Prop) (B28 : MS → Int32 → Prop) (B72 : MS → Int32 → Prop) (B84 : MS → Int32 → Int32 → Prop) (B176 : MS → Int32 → Prop) (S : MS) (x6 : Int32) (x7 : Int32) : Prop := (S.1 0 ≤ x7 → B72 S (x6 + 1)) ∧ (¬ S.1 0 ≤ x7 → vp_in x6 5 ∧ vp_in x7 5 ∧ vp_in ((5 * x6) + x7) 25 ∧ vp_in ((5 * (S.2.1 26 x6.toNatClampNeg)) + (S.2.1 26 x7.toNatClampNeg)) 25 ∧ vp_in x6 5 ∧ vp_in x7 5 ∧ vp_in ((5 * x6) + x7) 25 ∧ vp_in ((5 * (S.2.1 26 x6.toNatClampNeg)) + (S.2.1 26 x7.toNatClampNeg)) 25 ∧ B84 (ma (ma S 4 (upd (S.2.1 4) ((5 * (S.2.1 26 x6.toNatClampNeg)) + (S.2.1 26 x7.toNatClampNeg)).toNatClampNeg (S.2.1 27 ((5 * x6) + x7).toNatClampNeg))) 5 (upd (S.2.1 5) ((5 * (S.2.1 26 x6.toNatClampNeg)) + (S.2.1 26 x7.toNatClampNeg)).toNatClampNeg (vp_nar .boolean (S.2.1 28 ((5 * x6) + x7).toNatClampNeg)))) x6 (x7 + 1))
def mT_rename_176 (l : Launch) (a1 : Int32) (a2 : Int32) (a3 : Int32) (a4 : Int32) (a5 : Int32) (post : Bool → MS → Prop) (B28 : MS → Int32 → Prop) (B72 : MS → Int32 → Prop) (B84 : MS → Int32 → Int32 → Prop) (B176 : MS → Int32 → Prop) (S : MS) (x6 : Int32) : Prop := (S.1 1 ≤ x6 → mX_nothingUndone l S (fun S17 => post true S17)) ∧ (¬ S.1 1 ≤ x6 → vp_in x6 7 ∧ vp_in (S.2.1 2 x6.toNatClampNeg) 5 ∧ vp_in x6 7 ∧ vp_in x6 7 ∧ vp_in (S.2.1 3 x6.toNatClampNeg) 5 ∧ vp_in x6 7 ∧ B176 (ma (ma S 2 (upd (S.2.1 2) x6.toNatClampNeg (S.2.1 26 (S.2.1 2 x6.toNatClampNeg).toNatClampNeg))) 3 (upd (S.2.1 3) x6.toNatClampNeg (S.2.1 26 (S.2.1 3 x6.toNatClampNeg).toNatClampNeg))) (x6 + 1))
def mT_rename_e (l : Launch) (a1 : Int32) (a2 : Int32) (a3 : Int32) (a4 : Int32) (a5 : Int32) (post : Bool → MS → Prop) (B28 : MS → Int32 → Prop) (B72 : MS → Int32 → Prop) (B84 : MS → Int32 → Int32 → Prop) (B176 : MS → Int32 → Prop) (S0 : MS) : Prop := mX_areNames l (mf S0 3 0) a1 a2 a3 a4 a5 (fun b25 S24 => (¬ bI b25 = 0 → B28 S24 0) ∧ (bI b25 = 0 → mX_not l S24 1 (fun b28 S27 => post b28 S27)))
set_option maxHeartbeats 4000000 in
set_option maxRecDepth 100000 in
theorem m_rename (l : Launch) (S0 : MS) (a1 : Int32) (a2 : Int32) (a3 : Int32) (a4 : Int32) (a5 : Int32) (post : Bool → MS → Prop) (h : ∀ (B28 : MS → Int32 → Prop) (B72 : MS → Int32 → Prop) (B84 : MS → Int32 → Int32 → Prop) (B176 : MS → Int32 → Prop), (∀ (S : MS) (x6 : Int32), mT_rename_28 l a1 a2 a3 a4 a5 post B28 B72 B84 B176 S x6 → B28 S x6) → (∀ (S : MS) (x6 : Int32), mT_rename_72 l a1 a2 a3 a4 a5 post B28 B72 B84 B176 S x6 → B72 S x6) → (∀ (S : MS) (x6 : Int32) (x7 : Int32), mT_rename_84 l a1 a2 a3 a4 a5 post B28 B72 B84 B176 S x6 x7 → B84 S x6 x7) → (∀ (S : MS) (x6 : Int32), mT_rename_176 l a1 a2 a3 a4 a5 post B28 B72 B84 B176 S x6 → B176 S x6) → mT_rename_e l a1 a2 a3 a4 a5 post B28 B72 B84 B176 S0) : mX_rename l S0 a1 a2 a3 a4 a5 post := by
  refine msetZ rfl (fun _ => Nat.le_of_ble_eq_true rfl) ?_
  intro p e s m args below meth c D ad cI cZ cL A Q hx hb hml hown hts hK hA hret H locs ls hP hD hS hl
  replace hl : lv_has ls 8 [(0, .ref (ad 0)), (1, .int a1), (2, .int a2), (3, .int a3), (4, .int a4), (5, .int a5)] := hl
  obtain ⟨B28, hB28⟩ : ∃ B : MS → Int32 → Prop, B = (fun S x6 => ∀ (H : Heap) (locs : List Loc) (ls : Array Slot), va_P D vwCl (mW ad cI cZ cL S) H → va_D A (mW ad cI cZ cL S) → va_S A s.heap H locs → lv_has ls 8 [(0, .ref (ad 0)), (6, .int x6)] → W p l e (mrm 3 71) s m args below meth c H locs 0 0 Q (F0 m 28 ls [])) := ⟨_, rfl⟩
  obtain ⟨B72, hB72⟩ : ∃ B : MS → Int32 → Prop, B = (fun S x6 => ∀ (H : Heap) (locs : List Loc) (ls : Array Slot), va_P D vwCl (mW ad cI cZ cL S) H → va_D A (mW ad cI cZ cL S) → va_S A s.heap H locs → lv_has ls 8 [(0, .ref (ad 0)), (6, .int x6)] → W p l e (mrm 3 71) s m args below meth c H locs 0 0 Q (F0 m 72 ls [])) := ⟨_, rfl⟩
  obtain ⟨B84, hB84⟩ : ∃ B : MS → Int32 → Int32 → Prop, B = (fun S x6 x7 => ∀ (H : Heap) (locs : List Loc) (ls : Array Slot), va_P D vwCl (mW ad cI cZ cL S) H → va_D A (mW ad cI cZ cL S) → va_S A s.heap H locs → lv_has ls 8 [(0, .ref (ad 0)), (6, .int x6), (7, .int x7)] → W p l e (mrm 3 71) s m args below meth c H locs 0 0 Q (F0 m 84 ls [])) := ⟨_, rfl⟩
  obtain ⟨B176, hB176⟩ : ∃ B : MS → Int32 → Prop, B = (fun S x6 => ∀ (H : Heap) (locs : List Loc) (ls : Array Slot), va_P D vwCl (mW ad cI cZ cL S) H → va_D A (mW ad cI cZ cL S) → va_S A s.heap H locs → lv_has ls 8 [(0, .ref (ad 0)), (6, .int x6)] → W p l e (mrm 3 71) s m args below meth c H locs 0 0 Q (F0 m 176 ls [])) := ⟨_, rfl⟩
  have hT : mT_rename_e l a1 a2 a3 a4 a5 post B28 B72 B84 B176 S0 := by
    refine h B28 B72 B84 B176 ?_ ?_ ?_ ?_
    · clear hP hD hS hl H locs ls
      intro S x6 hT
      unfold mT_rename_28 at hT
      rw [hB28]
      intro H locs ls hP hD hS hl
      refine lv_iload hx hb dX9_rename_28 (lv_at hl 1 rfl) ?_
      refine lv_bipush (v := 25) hx hb dX9_rename_30 (by decide) ?_
      refine lv_icmp_ge (tgt := 69) hx hb dX9_rename_32 (by decide) (fun c1 => ?_) (fun c1 => ?_)
      · replace hT := hT.1 c1
        refine lv_iconst (v := 0) hx hb dX9_rename_69 (by decide) ?_
        refine lv_istore (lv' := [(6, .int 0), (0, .ref (ad 0))]) hx hb dX9_rename_70 hl (by decide) rfl (fun ls hl => ?_)
        rw [hB72] at hT
        exact hT _ _ _ hP hD hS (lv_sub hl [1, 0] rfl)
      · replace hT := hT.2 c1
        refine lv_aload_n hx hb dX9_rename_35 rfl (lv_at hl 0 rfl) ?_
        refine mg_spareCosts hx hb hts hown hK hP dX9_rename_36 ?_
        refine lv_iload hx hb dX9_rename_39 (lv_at hl 1 rfl) ?_
        refine lv_aload_n hx hb dX9_rename_41 rfl (lv_at hl 0 rfl) ?_
        refine mg_costs hx hb hts hown hK hP dX9_rename_42 ?_
        refine lv_iload hx hb dX9_rename_45 (lv_at hl 1 rfl) ?_
        obtain ⟨hi2, hT⟩ := hT
        refine va_iald (f := S.2.1 4) hx hb hK hP 4 0 mat_4 rfl hi2 dX9_rename_47 ?_
        obtain ⟨hi3, hT⟩ := hT
        refine va_iast (f := S.2.1 27) hx hb hK hP hD hS 27 0 mat_27 rfl hi3 dX9_rename_48 (fun H locs hP hD hS => ?_)
        replace hP := msetP_27 hP
        replace hD := msetD_27 hD
        refine lv_aload_n hx hb dX9_rename_49 rfl (lv_at hl 0 rfl) ?_
        refine mg_spareStrong hx hb hts hown hK hP dX9_rename_50 ?_
        refine lv_iload hx hb dX9_rename_53 (lv_at hl 1 rfl) ?_
        refine lv_aload_n hx hb dX9_rename_55 rfl (lv_at hl 0 rfl) ?_
        refine mg_isStrong hx hb hts hown hK hP dX9_rename_56 ?_
        refine lv_iload hx hb dX9_rename_59 (lv_at hl 1 rfl) ?_
        obtain ⟨hi4, hT⟩ := hT
        refine va_zald (f := S.2.1 5) hx hb hK hP 5 1 mat_5 rfl hi4 dX9_rename_61 ?_
        obtain ⟨hi5, hT⟩ := hT
        refine va_zast (f := S.2.1 28) hx hb hK hP hD hS 28 1 mat_28 rfl hi5 dX9_rename_62 (fun H locs hP hD hS => ?_)
        replace hP := msetP_28 hP
        replace hD := msetD_28 hD
        refine lv_iinc (v := x6 + 1) (lv' := [(6, .int (x6 + 1)), (0, .ref (ad 0))]) hx hb dX9_rename_63 hl (k := 1) rfl rfl (by decide) rfl (fun ls hl => ?_)
        refine lv_goto (tgt := 28) hx hb dX9_rename_66 (by decide) ?_
        rw [hB28] at hT
        exact hT _ _ _ hP hD hS (lv_sub hl [1, 0] rfl)
    · clear hP hD hS hl H locs ls
      intro S x6 hT
      unfold mT_rename_72 at hT
      rw [hB72]
      intro H locs ls hP hD hS hl
      refine lv_iload hx hb dX9_rename_72 (lv_at hl 1 rfl) ?_
      refine lv_aload_n hx hb dX9_rename_74 rfl (lv_at hl 0 rfl) ?_
      refine mg_pegs (v := S.1 0) hx hb hts hown hK hP rfl dX9_rename_75 ?_
      refine lv_icmp_ge (tgt := 173) hx hb dX9_rename_78 (by decide) (fun c6 => ?_) (fun c6 => ?_)
      · replace hT := hT.1 c6
        refine lv_iconst (v := 0) hx hb dX9_rename_173 (by decide) ?_
        refine lv_istore (lv' := [(6, .int 0), (0, .ref (ad 0))]) hx hb dX9_rename_174 hl (by decide) rfl (fun ls hl => ?_)
        rw [hB176] at hT
        exact hT _ _ _ hP hD hS (lv_sub hl [1, 0] rfl)
      · replace hT := hT.2 c6
        refine lv_iconst (v := 0) hx hb dX9_rename_81 (by decide) ?_
        refine lv_istore (lv' := [(7, .int 0), (0, .ref (ad 0)), (6, .int x6)]) hx hb dX9_rename_82 hl (by decide) rfl (fun ls hl => ?_)
        rw [hB84] at hT
        exact hT _ _ _ hP hD hS (lv_sub hl [1, 2, 0] rfl)
    · clear hP hD hS hl H locs ls
      intro S x6 x7 hT
      unfold mT_rename_84 at hT
      rw [hB84]
      intro H locs ls hP hD hS hl
      refine lv_iload hx hb dX9_rename_84 (lv_at hl 2 rfl) ?_
      refine lv_aload_n hx hb dX9_rename_86 rfl (lv_at hl 0 rfl) ?_
      refine mg_pegs (v := S.1 0) hx hb hts hown hK hP rfl dX9_rename_87 ?_
      refine lv_icmp_ge (tgt := 167) hx hb dX9_rename_90 (by decide) (fun c7 => ?_) (fun c7 => ?_)
      · replace hT := hT.1 c7
        refine lv_iinc (v := x6 + 1) (lv' := [(6, .int (x6 + 1)), (0, .ref (ad 0)), (7, .int x7)]) hx hb dX9_rename_167 hl (k := 1) rfl rfl (by decide) rfl (fun ls hl => ?_)
        refine lv_goto (tgt := 72) hx hb dX9_rename_170 (by decide) ?_
        rw [hB72] at hT
        exact hT _ _ _ hP hD hS (lv_sub hl [1, 0] rfl)
      · replace hT := hT.2 c7
        refine lv_aload_n hx hb dX9_rename_93 rfl (lv_at hl 0 rfl) ?_
        refine mg_costs hx hb hts hown hK hP dX9_rename_94 ?_
        refine lv_iconst (v := 5) hx hb dX9_rename_97 (by decide) ?_
        refine lv_aload_n hx hb dX9_rename_98 rfl (lv_at hl 0 rfl) ?_
        refine mg_names hx hb hts hown hK hP dX9_rename_99 ?_
        refine lv_iload hx hb dX9_rename_102 (lv_at hl 1 rfl) ?_
        obtain ⟨hi8, hT⟩ := hT
        refine va_iald (f := S.2.1 26) hx hb hK hP 26 0 mat_26 rfl hi8 dX9_rename_104 ?_
        refine lv_imul hx hb dX9_rename_105 ?_
        refine lv_aload_n hx hb dX9_rename_106 rfl (lv_at hl 0 rfl) ?_
        refine mg_names hx hb hts hown hK hP dX9_rename_107 ?_
        refine lv_iload hx hb dX9_rename_110 (lv_at hl 2 rfl) ?_
        obtain ⟨hi9, hT⟩ := hT
        refine va_iald (f := S.2.1 26) hx hb hK hP 26 0 mat_26 rfl hi9 dX9_rename_112 ?_
        refine lv_iadd hx hb dX9_rename_113 ?_
        refine lv_aload_n hx hb dX9_rename_114 rfl (lv_at hl 0 rfl) ?_
        refine mg_spareCosts hx hb hts hown hK hP dX9_rename_115 ?_
        refine lv_iconst (v := 5) hx hb dX9_rename_118 (by decide) ?_
        refine lv_iload hx hb dX9_rename_119 (lv_at hl 1 rfl) ?_
        refine lv_imul hx hb dX9_rename_121 ?_
        refine lv_iload hx hb dX9_rename_122 (lv_at hl 2 rfl) ?_
        refine lv_iadd hx hb dX9_rename_124 ?_
        obtain ⟨hi10, hT⟩ := hT
        refine va_iald (f := S.2.1 27) hx hb hK hP 27 0 mat_27 rfl hi10 dX9_rename_125 ?_
        obtain ⟨hi11, hT⟩ := hT
        refine va_iast (f := S.2.1 4) hx hb hK hP hD hS 4 0 mat_4 rfl hi11 dX9_rename_126 (fun H locs hP hD hS => ?_)
        replace hP := msetP_4 hP
        replace hD := msetD_4 hD
        refine lv_aload_n hx hb dX9_rename_127 rfl (lv_at hl 0 rfl) ?_
        refine mg_isStrong hx hb hts hown hK hP dX9_rename_128 ?_
        refine lv_iconst (v := 5) hx hb dX9_rename_131 (by decide) ?_
        refine lv_aload_n hx hb dX9_rename_132 rfl (lv_at hl 0 rfl) ?_
        refine mg_names hx hb hts hown hK hP dX9_rename_133 ?_
        refine lv_iload hx hb dX9_rename_136 (lv_at hl 1 rfl) ?_
        obtain ⟨hi12, hT⟩ := hT
        refine va_iald (f := S.2.1 26) hx hb hK hP 26 0 mat_26 rfl hi12 dX9_rename_138 ?_
        refine lv_imul hx hb dX9_rename_139 ?_
        refine lv_aload_n hx hb dX9_rename_140 rfl (lv_at hl 0 rfl) ?_
        refine mg_names hx hb hts hown hK hP dX9_rename_141 ?_
        refine lv_iload hx hb dX9_rename_144 (lv_at hl 2 rfl) ?_
        obtain ⟨hi13, hT⟩ := hT
        refine va_iald (f := S.2.1 26) hx hb hK hP 26 0 mat_26 rfl hi13 dX9_rename_146 ?_
        refine lv_iadd hx hb dX9_rename_147 ?_
        refine lv_aload_n hx hb dX9_rename_148 rfl (lv_at hl 0 rfl) ?_
        refine mg_spareStrong hx hb hts hown hK hP dX9_rename_149 ?_
        refine lv_iconst (v := 5) hx hb dX9_rename_152 (by decide) ?_
        refine lv_iload hx hb dX9_rename_153 (lv_at hl 1 rfl) ?_
        refine lv_imul hx hb dX9_rename_155 ?_
        refine lv_iload hx hb dX9_rename_156 (lv_at hl 2 rfl) ?_
        refine lv_iadd hx hb dX9_rename_158 ?_
        obtain ⟨hi14, hT⟩ := hT
        refine va_zald (f := S.2.1 28) hx hb hK hP 28 1 mat_28 rfl hi14 dX9_rename_159 ?_
        obtain ⟨hi15, hT⟩ := hT
        refine va_zast (f := S.2.1 5) hx hb hK hP hD hS 5 1 mat_5 rfl hi15 dX9_rename_160 (fun H locs hP hD hS => ?_)
        replace hP := msetP_5 hP
        replace hD := msetD_5 hD
        refine lv_iinc (v := x7 + 1) (lv' := [(7, .int (x7 + 1)), (0, .ref (ad 0)), (6, .int x6)]) hx hb dX9_rename_161 hl (k := 2) rfl rfl (by decide) rfl (fun ls hl => ?_)
        refine lv_goto (tgt := 84) hx hb dX9_rename_164 (by decide) ?_
        rw [hB84] at hT
        exact hT _ _ _ hP hD hS (lv_sub hl [1, 2, 0] rfl)
    · clear hP hD hS hl H locs ls
      intro S x6 hT
      unfold mT_rename_176 at hT
      rw [hB176]
      intro H locs ls hP hD hS hl
      refine lv_iload hx hb dX9_rename_176 (lv_at hl 1 rfl) ?_
      refine lv_aload_n hx hb dX9_rename_178 rfl (lv_at hl 0 rfl) ?_
      refine mg_discs (v := S.1 1) hx hb hts hown hK hP rfl dX9_rename_179 ?_
      refine lv_icmp_ge (tgt := 229) hx hb dX9_rename_182 (by decide) (fun c16 => ?_) (fun c16 => ?_)
      · replace hT := hT.1 c16
        refine lv_aload_n hx hb dX9_rename_229 rfl (lv_at hl 0 rfl) ?_
        refine mcallV (n := 0) (rest := []) hT hx hb hml hown hts hK hA hP hD hS hl gg_163 hd_X9_nothingUndone ⟨Nat.le_of_ble_eq_true rfl, Nat.le_of_ble_eq_true rfl⟩ rfl rfl (Nat.le_of_ble_eq_true rfl) dX9_rename_230 (Nat.zero_le _) (Nat.zero_le _) (fun S17 H locs hP hD hS hT => ?_)
        refine lv_iconst (v := 1) hx hb dX9_rename_233 (by decide) ?_
        exact hret true _ _ _ _ _ hP hD hS hT dX9_rename_234
      · replace hT := hT.2 c16
        refine lv_aload_n hx hb dX9_rename_185 rfl (lv_at hl 0 rfl) ?_
        refine mg_stand hx hb hts hown hK hP dX9_rename_186 ?_
        refine lv_iload hx hb dX9_rename_189 (lv_at hl 1 rfl) ?_
        refine lv_aload_n hx hb dX9_rename_191 rfl (lv_at hl 0 rfl) ?_
        refine mg_names hx hb hts hown hK hP dX9_rename_192 ?_
        refine lv_aload_n hx hb dX9_rename_195 rfl (lv_at hl 0 rfl) ?_
        refine mg_stand hx hb hts hown hK hP dX9_rename_196 ?_
        refine lv_iload hx hb dX9_rename_199 (lv_at hl 1 rfl) ?_
        obtain ⟨hi18, hT⟩ := hT
        refine va_iald (f := S.2.1 2) hx hb hK hP 2 0 mat_2 rfl hi18 dX9_rename_201 ?_
        obtain ⟨hi19, hT⟩ := hT
        refine va_iald (f := S.2.1 26) hx hb hK hP 26 0 mat_26 rfl hi19 dX9_rename_202 ?_
        obtain ⟨hi20, hT⟩ := hT
        refine va_iast (f := S.2.1 2) hx hb hK hP hD hS 2 0 mat_2 rfl hi20 dX9_rename_203 (fun H locs hP hD hS => ?_)
        replace hP := msetP_2 hP
        replace hD := msetD_2 hD
        refine lv_aload_n hx hb dX9_rename_204 rfl (lv_at hl 0 rfl) ?_
        refine mg_goal hx hb hts hown hK hP dX9_rename_205 ?_
        refine lv_iload hx hb dX9_rename_208 (lv_at hl 1 rfl) ?_
        refine lv_aload_n hx hb dX9_rename_210 rfl (lv_at hl 0 rfl) ?_
        refine mg_names hx hb hts hown hK hP dX9_rename_211 ?_
        refine lv_aload_n hx hb dX9_rename_214 rfl (lv_at hl 0 rfl) ?_
        refine mg_goal hx hb hts hown hK hP dX9_rename_215 ?_
        refine lv_iload hx hb dX9_rename_218 (lv_at hl 1 rfl) ?_
        obtain ⟨hi21, hT⟩ := hT
        refine va_iald (f := S.2.1 3) hx hb hK hP 3 0 mat_3 rfl hi21 dX9_rename_220 ?_
        obtain ⟨hi22, hT⟩ := hT
        refine va_iald (f := S.2.1 26) hx hb hK hP 26 0 mat_26 rfl hi22 dX9_rename_221 ?_
        obtain ⟨hi23, hT⟩ := hT
        refine va_iast (f := S.2.1 3) hx hb hK hP hD hS 3 0 mat_3 rfl hi23 dX9_rename_222 (fun H locs hP hD hS => ?_)
        replace hP := msetP_3 hP
        replace hD := msetD_3 hD
        refine lv_iinc (v := x6 + 1) (lv' := [(6, .int (x6 + 1)), (0, .ref (ad 0))]) hx hb dX9_rename_223 hl (k := 1) rfl rfl (by decide) rfl (fun ls hl => ?_)
        refine lv_goto (tgt := 176) hx hb dX9_rename_226 (by decide) ?_
        rw [hB176] at hT
        exact hT _ _ _ hP hD hS (lv_sub hl [1, 0] rfl)
  unfold mT_rename_e at hT
  refine lv_aload_n hx hb dX9_rename_0 rfl (lv_at hl 0 rfl) ?_
  refine lv_iconst (v := 0) hx hb dX9_rename_1 (by decide) ?_
  refine mp_thrown hx hb hts hown hK hP hD hS dX9_rename_2 (fun H locs hP hD hS => ?_)
  refine lv_aload_n hx hb dX9_rename_5 rfl (lv_at hl 0 rfl) ?_
  refine lv_iload_n hx hb dX9_rename_6 rfl (lv_at hl 1 rfl) ?_
  refine lv_iload_n hx hb dX9_rename_7 rfl (lv_at hl 2 rfl) ?_
  refine lv_iload_n hx hb dX9_rename_8 rfl (lv_at hl 3 rfl) ?_
  refine lv_iload hx hb dX9_rename_9 (lv_at hl 4 rfl) ?_
  refine lv_iload hx hb dX9_rename_11 (lv_at hl 5 rfl) ?_
  refine mcallZ (n := 5) (rest := []) hT hx hb hml hown hts hK hA hP hD hS hl gg_235 hd_X9_areNames ⟨Nat.le_of_ble_eq_true rfl, Nat.le_of_ble_eq_true rfl⟩ rfl rfl (Nat.le_of_ble_eq_true rfl) dX9_rename_13 (Nat.zero_le _) (Nat.zero_le _) (fun b25 S24 H locs hP hD hS hT => ?_)
  refine lv_if_ne (tgt := 25) hx hb dX9_rename_16 (by decide) (fun c26 => ?_) (fun c26 => ?_)
  · replace hT := hT.1 c26
    refine lv_iconst (v := 0) hx hb dX9_rename_25 (by decide) ?_
    refine lv_istore (lv' := [(6, .int 0), (0, .ref (ad 0)), (1, .int a1), (2, .int a2), (3, .int a3), (4, .int a4), (5, .int a5)]) hx hb dX9_rename_26 hl (by decide) rfl (fun ls hl => ?_)
    rw [hB28] at hT
    exact hT _ _ _ hP hD hS (lv_sub hl [1, 0] rfl)
  · replace hT := hT.2 c26
    refine lv_aload_n hx hb dX9_rename_19 rfl (lv_at hl 0 rfl) ?_
    refine lv_iconst (v := 1) hx hb dX9_rename_20 (by decide) ?_
    refine mcallZ (n := 1) (rest := []) hT hx hb hml hown hts hK hA hP hD hS hl gg_159 hd_X9_not ⟨Nat.le_of_ble_eq_true rfl, Nat.le_of_ble_eq_true rfl⟩ rfl rfl (Nat.le_of_ble_eq_true rfl) dX9_rename_21 (Nat.zero_le _) (Nat.zero_le _) (fun b28 S27 H locs hP hD hS hT => ?_)
    exact hret b28 _ _ _ _ _ hP hD hS hT dX9_rename_24
