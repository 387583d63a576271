abbrev mX_count (l : Launch) (S : MS) (a1 : Int32) (a2 : Int32) (post : Int64 → MS → Prop) : Prop := mCtJ l yX9_count cX9_count 11 2 44 (fun ad => [.int a1, .int a2]) S post
def mT_count_24 (l : Launch) (a1 : Int32) (a2 : Int32) (post : Int64 → MS → Prop) (B24 : MS → Prop) (B38 : MS → Int32 → Prop) (B59 : MS → Int32 → Prop) (B67 : MS → Int32 → Int32 → Prop) (B82 : MS → Int32 → Int32 → Int64 → Int32 → Prop) (S : MS) : Prop := mX_no l S 1 (fun r2 S1 => post r2.toInt64 S1)
def mT_count_38 (l : Launch) (a1 : Int32) (a2 : Int32) (post : Int64 → MS → Prop) (B24 : MS → Prop) (B38 : MS → Int32 → Prop) (B59 : MS → Int32 → Prop) (B67 : MS → Int32 → Int32 → Prop) (B82 : MS → Int32 → Int32 → Int64 → Int32 → Prop) (S : MS) (x3 : Int32) : Prop := (8 ≤ x3 → B59 S 1) ∧ (¬ 8 ≤ x3 → vp_in x3 488 ∧ B38 (ml S 33 (vp_updL (S.2.2 33) x3.toNatClampNeg 0)) (x3 + 1))
def mT_count_59 (l : Launch) (a1 : Int32) (a2 : Int32) (post : Int64 → MS → Prop) (B24 : MS → Prop) (B38 : MS → Int32 → Prop) (B59 : MS → Int32 → Prop) (B67 : MS → Int32 → Int32 → Prop) (B82 : MS → Int32 → Int32 → Int64 → Int32 → Prop) (S : MS) (x3 : Int32) : Prop := (a2 < x3 → vp_in ((8 * a2) + a1) 488 ∧ post (S.2.2 33 ((8 * a2) + a1).toNatClampNeg) S) ∧ (¬ a2 < x3 → B67 S x3 0)
def mT_count_67 (l : Launch) (a1 : Int32) (a2 : Int32) (post : Int64 → MS → Prop) (B24 : MS → Prop) (B38 : MS → Int32 → Prop) (B59 : MS → Int32 → Prop) (B67 : MS → Int32 → Int32 → Prop) (B82 : MS → Int32 → Int32 → Int64 → Int32 → Prop) (S : MS) (x3 : Int32) (x4 : Int32) : Prop := (S.1 9 ≤ x4 → B59 S (x3 + 1)) ∧ (¬ S.1 9 ≤ x4 → B82 S x3 x4 0 0)
def mT_count_82 (l : Launch) (a1 : Int32) (a2 : Int32) (post : Int64 → MS → Prop) (B24 : MS → Prop) (B38 : MS → Int32 → Prop) (B59 : MS → Int32 → Prop) (B67 : MS → Int32 → Int32 → Prop) (B82 : MS → Int32 → Int32 → Int64 → Int32 → Prop) (S : MS) (x3 : Int32) (x4 : Int32) (x5 : Int64) (x7 : Int32) : Prop := vp_in x4 8 ∧ (S.2.1 29 x4.toNatClampNeg ≤ x7 → vp_in ((8 * x3) + x4) 488 ∧ B67 (ml S 33 (vp_updL (S.2.2 33) ((8 * x3) + x4).toNatClampNeg x5)) x3 (x4 + 1)) ∧ (¬ S.2.1 29 x4.toNatClampNeg ≤ x7 → ∀ v8_11 : Int32, v8_11 = (8 * x4) + x7 → vp_in v8_11 64 ∧ (¬ S.2.1 30 v8_11.toNatClampNeg = (-1) → vp_in v8_11 64 ∧ (x3 ≤ S.2.1 31 v8_11.toNatClampNeg → (lg_cmp 0 (1000000000000000000 - x5) ≤ 0 → ∀ v5_17 : Int64, v5_17 = x5 + 0 → B82 S x3 x4 v5_17 (x7 + 1)) ∧ (¬ lg_cmp 0 (1000000000000000000 - x5) ≤ 0 → B82 S x3 x4 1000000000000000000 (x7 + 1))) ∧ (¬ x3 ≤ S.2.1 31 v8_11.toNatClampNeg → vp_in v8_11 64 ∧ vp_in v8_11 64 ∧ vp_in ((8 * (x3 - (S.2.1 31 v8_11.toNatClampNeg))) + (S.2.1 30 v8_11.toNatClampNeg)) 488 ∧ ∀ v9_21 : Int64, v9_21 = S.2.2 33 ((8 * (x3 - (S.2.1 31 v8_11.toNatClampNeg))) + (S.2.1 30 v8_11.toNatClampNeg)).toNatClampNeg → (lg_cmp v9_21 (1000000000000000000 - x5) ≤ 0 → ∀ v5_23 : Int64, v5_23 = x5 + v9_21 → B82 S x3 x4 v5_23 (x7 + 1)) ∧ (¬ lg_cmp v9_21 (1000000000000000000 - x5) ≤ 0 → B82 S x3 x4 1000000000000000000 (x7 + 1)))) ∧ (S.2.1 30 v8_11.toNatClampNeg = (-1) → (lg_cmp 1 (1000000000000000000 - x5) ≤ 0 → ∀ v5_25 : Int64, v5_25 = x5 + 1 → B82 S x3 x4 v5_25 (x7 + 1)) ∧ (¬ lg_cmp 1 (1000000000000000000 - x5) ≤ 0 → B82 S x3 x4 1000000000000000000 (x7 + 1))))
def mT_count_e (l : Launch) (a1 : Int32) (a2 : Int32) (post : Int64 → MS → Prop) (B24 : MS → Prop) (B38 : MS → Int32 → Prop) (B59 : MS → Int32 → Prop) (B67 : MS → Int32 → Int32 → Prop) (B82 : MS → Int32 → Int32 → Int64 → Int32 → Prop) (S0 : MS) : Prop := mX_isScheme l (mf S0 3 0) a1 (fun b27 S26 => (bI b27 = 0 → B24 S26) ∧ (¬ bI b27 = 0 → mX_in l S26 a2 0 60 (fun b30 S29 => (¬ bI b30 = 0 → B38 (mf S29 2 0) 0) ∧ (bI b30 = 0 → B24 S29))))
set_option maxHeartbeats 4000000 in
set_option maxRecDepth 100000 in
theorem m_count (l : Launch) (S0 : MS) (a1 : Int32) (a2 : Int32) (post : Int64 → MS → Prop) (h : ∀ (B24 : MS → Prop) (B38 : MS → Int32 → Prop) (B59 : MS → Int32 → Prop) (B67 : MS → Int32 → Int32 → Prop) (B82 : MS → Int32 → Int32 → Int64 → Int32 → Prop), (∀ (S : MS) , mT_count_24 l a1 a2 post B24 B38 B59 B67 B82 S → B24 S ) → (∀ (S : MS) (x3 : Int32), mT_count_38 l a1 a2 post B24 B38 B59 B67 B82 S x3 → B38 S x3) → (∀ (S : MS) (x3 : Int32), mT_count_59 l a1 a2 post B24 B38 B59 B67 B82 S x3 → B59 S x3) → (∀ (S : MS) (x3 : Int32) (x4 : Int32), mT_count_67 l a1 a2 post B24 B38 B59 B67 B82 S x3 x4 → B67 S x3 x4) → (∀ (S : MS) (x3 : Int32) (x4 : Int32) (x5 : Int64) (x7 : Int32), mT_count_82 l a1 a2 post B24 B38 B59 B67 B82 S x3 x4 x5 x7 → B82 S x3 x4 x5 x7) → mT_count_e l a1 a2 post B24 B38 B59 B67 B82 S0) : mX_count l S0 a1 a2 post := by
  refine msetJ rfl (fun _ => Nat.le_of_ble_eq_true rfl) ?_
  intro p e s m args below meth c D ad cI cZ cL A Q hx hb hml hown hts hK hA hret H locs ls hP hD hS hl
  replace hl : lv_has ls 11 [(0, .ref (ad 0)), (1, .int a1), (2, .int a2)] := hl
  obtain ⟨B24, hB24⟩ : ∃ B : MS → Prop, B = (fun S => ∀ (H : Heap) (locs : List Loc) (ls : Array Slot), va_P D vwCl (mW ad cI cZ cL S) H → va_D A (mW ad cI cZ cL S) → va_S A s.heap H locs → lv_has ls 11 [(0, .ref (ad 0))] → W p l e (mrm 2 44) s m args below meth c H locs 0 0 Q (F0 m 24 ls [])) := ⟨_, rfl⟩
  obtain ⟨B38, hB38⟩ : ∃ B : MS → Int32 → Prop, B = (fun S x3 => ∀ (H : Heap) (locs : List Loc) (ls : Array Slot), va_P D vwCl (mW ad cI cZ cL S) H → va_D A (mW ad cI cZ cL S) → va_S A s.heap H locs → lv_has ls 11 [(0, .ref (ad 0)), (1, .int a1), (2, .int a2), (3, .int x3)] → W p l e (mrm 2 44) s m args below meth c H locs 0 0 Q (F0 m 38 ls [])) := ⟨_, rfl⟩
  obtain ⟨B59, hB59⟩ : ∃ B : MS → Int32 → Prop, B = (fun S x3 => ∀ (H : Heap) (locs : List Loc) (ls : Array Slot), va_P D vwCl (mW ad cI cZ cL S) H → va_D A (mW ad cI cZ cL S) → va_S A s.heap H locs → lv_has ls 11 [(0, .ref (ad 0)), (1, .int a1), (2, .int a2), (3, .int x3)] → W p l e (mrm 2 44) s m args below meth c H locs 0 0 Q (F0 m 59 ls [])) := ⟨_, rfl⟩
  obtain ⟨B67, hB67⟩ : ∃ B : MS → Int32 → Int32 → Prop, B = (fun S x3 x4 => ∀ (H : Heap) (locs : List Loc) (ls : Array Slot), va_P D vwCl (mW ad cI cZ cL S) H → va_D A (mW ad cI cZ cL S) → va_S A s.heap H locs → lv_has ls 11 [(0, .ref (ad 0)), (1, .int a1), (2, .int a2), (3, .int x3), (4, .int x4)] → W p l e (mrm 2 44) s m args below meth c H locs 0 0 Q (F0 m 67 ls [])) := ⟨_, rfl⟩
  obtain ⟨B82, hB82⟩ : ∃ B : MS → Int32 → Int32 → Int64 → Int32 → Prop, B = (fun S x3 x4 x5 x7 => ∀ (H : Heap) (locs : List Loc) (ls : Array Slot), va_P D vwCl (mW ad cI cZ cL S) H → va_D A (mW ad cI cZ cL S) → va_S A s.heap H locs → lv_has ls 11 [(0, .ref (ad 0)), (1, .int a1), (2, .int a2), (3, .int x3), (4, .int x4), (5, .long x5), (7, .int x7)] → W p l e (mrm 2 44) s m args below meth c H locs 0 0 Q (F0 m 82 ls [])) := ⟨_, rfl⟩
  have hT : mT_count_e l a1 a2 post B24 B38 B59 B67 B82 S0 := by
    refine h B24 B38 B59 B67 B82 ?_ ?_ ?_ ?_ ?_
    · clear hP hD hS hl H locs ls
      intro S hT
      unfold mT_count_24 at hT
      rw [hB24]
      intro H locs ls hP hD hS hl
      refine lv_aload_n hx hb dX9_count_24 rfl (lv_at hl 0 rfl) ?_
      refine lv_iconst (v := 1) hx hb dX9_count_25 (by decide) ?_
      refine mcallI (n := 1) (rest := []) hT hx hb hml hown hts hK hA hP hD hS hl gg_192 hd_X9_no ⟨Nat.le_of_ble_eq_true rfl, Nat.le_of_ble_eq_true rfl⟩ rfl rfl (Nat.le_of_ble_eq_true rfl) dX9_count_26 (Nat.zero_le _) (Nat.zero_le _) (fun r2 S1 H locs hP hD hS hT => ?_)
      refine lv_i2l hx hb dX9_count_29 rfl ?_
      exact hret _ _ _ _ _ _ hP hD hS hT dX9_count_30
    · clear hP hD hS hl H locs ls
      intro S x3 hT
      unfold mT_count_38 at hT
      rw [hB38]
      intro H locs ls hP hD hS hl
      refine lv_iload_n hx hb dX9_count_38 rfl (lv_at hl 3 rfl) ?_
      refine lv_bipush (v := 8) hx hb dX9_count_39 (by decide) ?_
      refine lv_icmp_ge (tgt := 57) hx hb dX9_count_41 (by decide) (fun c3 => ?_) (fun c3 => ?_)
      · replace hT := hT.1 c3
        refine lv_iconst (v := 1) hx hb dX9_count_57 (by decide) ?_
        refine lv_istore_n (lv' := [(3, .int 1), (0, .ref (ad 0)), (1, .int a1), (2, .int a2)]) hx hb dX9_count_58 rfl hl (by decide) rfl (fun ls hl => ?_)
        rw [hB59] at hT
        exact hT _ _ _ hP hD hS (lv_sub hl [1, 2, 3, 0] rfl)
      · replace hT := hT.2 c3
        refine lv_aload_n hx hb dX9_count_44 rfl (lv_at hl 0 rfl) ?_
        refine mg_counts hx hb hts hown hK hP dX9_count_45 ?_
        refine lv_iload_n hx hb dX9_count_48 rfl (lv_at hl 3 rfl) ?_
        refine lv_lconst (v := 0) hx hb dX9_count_49 (by decide) ?_
        obtain ⟨hi4, hT⟩ := hT
        refine va_last (f := S.2.2 33) hx hb hK hP hD hS 33 2 mat_33 rfl hi4 dX9_count_50 (fun H locs hP hD hS => ?_)
        replace hP := msetP_33 hP
        replace hD := msetD_33 hD
        refine lv_iinc (v := x3 + 1) (lv' := [(3, .int (x3 + 1)), (0, .ref (ad 0)), (1, .int a1), (2, .int a2)]) hx hb dX9_count_51 hl (k := 3) rfl rfl (by decide) rfl (fun ls hl => ?_)
        refine lv_goto (tgt := 38) hx hb dX9_count_54 (by decide) ?_
        rw [hB38] at hT
        exact hT _ _ _ hP hD hS (lv_sub hl [1, 2, 3, 0] rfl)
    · clear hP hD hS hl H locs ls
      intro S x3 hT
      unfold mT_count_59 at hT
      rw [hB59]
      intro H locs ls hP hD hS hl
      refine lv_iload_n hx hb dX9_count_59 rfl (lv_at hl 3 rfl) ?_
      refine lv_iload_n hx hb dX9_count_60 rfl (lv_at hl 2 rfl) ?_
      refine lv_icmp_gt (tgt := 218) hx hb dX9_count_61 (by decide) (fun c5 => ?_) (fun c5 => ?_)
      · replace hT := hT.1 c5
        refine lv_aload_n hx hb dX9_count_218 rfl (lv_at hl 0 rfl) ?_
        refine mg_counts hx hb hts hown hK hP dX9_count_219 ?_
        refine lv_bipush (v := 8) hx hb dX9_count_222 (by decide) ?_
        refine lv_iload_n hx hb dX9_count_224 rfl (lv_at hl 2 rfl) ?_
        refine lv_imul hx hb dX9_count_225 ?_
        refine lv_iload_n hx hb dX9_count_226 rfl (lv_at hl 1 rfl) ?_
        refine lv_iadd hx hb dX9_count_227 ?_
        obtain ⟨hi6, hT⟩ := hT
        refine va_lald (f := S.2.2 33) hx hb hK hP 33 2 mat_33 rfl hi6 dX9_count_228 ?_
        exact hret _ _ _ _ _ _ hP hD hS hT dX9_count_229
      · replace hT := hT.2 c5
        refine lv_iconst (v := 0) hx hb dX9_count_64 (by decide) ?_
        refine lv_istore (lv' := [(4, .int 0), (0, .ref (ad 0)), (1, .int a1), (2, .int a2), (3, .int x3)]) hx hb dX9_count_65 hl (by decide) rfl (fun ls hl => ?_)
        rw [hB67] at hT
        exact hT _ _ _ hP hD hS (lv_sub hl [1, 2, 3, 4, 0] rfl)
    · clear hP hD hS hl H locs ls
      intro S x3 x4 hT
      unfold mT_count_67 at hT
      rw [hB67]
      intro H locs ls hP hD hS hl
      refine lv_iload hx hb dX9_count_67 (lv_at hl 4 rfl) ?_
      refine lv_aload_n hx hb dX9_count_69 rfl (lv_at hl 0 rfl) ?_
      refine mg_schemes (v := S.1 9) hx hb hts hown hK hP rfl dX9_count_70 ?_
      refine lv_icmp_ge (tgt := 212) hx hb dX9_count_73 (by decide) (fun c7 => ?_) (fun c7 => ?_)
      · replace hT := hT.1 c7
        refine lv_iinc (v := x3 + 1) (lv' := [(3, .int (x3 + 1)), (0, .ref (ad 0)), (1, .int a1), (2, .int a2), (4, .int x4)]) hx hb dX9_count_212 hl (k := 3) rfl rfl (by decide) rfl (fun ls hl => ?_)
        refine lv_goto (tgt := 59) hx hb dX9_count_215 (by decide) ?_
        rw [hB59] at hT
        exact hT _ _ _ hP hD hS (lv_sub hl [1, 2, 3, 0] rfl)
      · replace hT := hT.2 c7
        refine lv_lconst (v := 0) hx hb dX9_count_76 (by decide) ?_
        refine lv_lstore (lv' := [(5, .long 0), (0, .ref (ad 0)), (1, .int a1), (2, .int a2), (3, .int x3), (4, .int x4)]) hx hb dX9_count_77 hl (by decide) rfl (fun ls hl => ?_)
        refine lv_iconst (v := 0) hx hb dX9_count_79 (by decide) ?_
        refine lv_istore (lv' := [(7, .int 0), (5, .long 0), (0, .ref (ad 0)), (1, .int a1), (2, .int a2), (3, .int x3), (4, .int x4)]) hx hb dX9_count_80 hl (by decide) rfl (fun ls hl => ?_)
        rw [hB82] at hT
        exact hT _ _ _ hP hD hS (lv_sub hl [2, 3, 4, 5, 6, 1, 0] rfl)
    · clear hP hD hS hl H locs ls
      intro S x3 x4 x5 x7 hT
      unfold mT_count_82 at hT
      rw [hB82]
      intro H locs ls hP hD hS hl
      refine lv_iload hx hb dX9_count_82 (lv_at hl 6 rfl) ?_
      refine lv_aload_n hx hb dX9_count_84 rfl (lv_at hl 0 rfl) ?_
      refine mg_stepMany hx hb hts hown hK hP dX9_count_85 ?_
      refine lv_iload hx hb dX9_count_88 (lv_at hl 4 rfl) ?_
      obtain ⟨hi8, hT⟩ := hT
      refine va_iald (f := S.2.1 29) hx hb hK hP 29 0 mat_29 rfl hi8 dX9_count_90 ?_
      refine lv_icmp_ge (tgt := 192) hx hb dX9_count_91 (by decide) (fun c9 => ?_) (fun c9 => ?_)
      · replace hT := hT.1 c9
        refine lv_aload_n hx hb dX9_count_192 rfl (lv_at hl 0 rfl) ?_
        refine mg_counts hx hb hts hown hK hP dX9_count_193 ?_
        refine lv_bipush (v := 8) hx hb dX9_count_196 (by decide) ?_
        refine lv_iload_n hx hb dX9_count_198 rfl (lv_at hl 3 rfl) ?_
        refine lv_imul hx hb dX9_count_199 ?_
        refine lv_iload hx hb dX9_count_200 (lv_at hl 4 rfl) ?_
        refine lv_iadd hx hb dX9_count_202 ?_
        refine lv_lload hx hb dX9_count_203 (lv_at hl 5 rfl) ?_
        obtain ⟨hi10, hT⟩ := hT
        refine va_last (f := S.2.2 33) hx hb hK hP hD hS 33 2 mat_33 rfl hi10 dX9_count_205 (fun H locs hP hD hS => ?_)
        replace hP := msetP_33 hP
        replace hD := msetD_33 hD
        refine lv_iinc (v := x4 + 1) (lv' := [(4, .int (x4 + 1)), (0, .ref (ad 0)), (1, .int a1), (2, .int a2), (3, .int x3), (5, .long x5), (7, .int x7)]) hx hb dX9_count_206 hl (k := 4) rfl rfl (by decide) rfl (fun ls hl => ?_)
        refine lv_goto (tgt := 67) hx hb dX9_count_209 (by decide) ?_
        rw [hB67] at hT
        exact hT _ _ _ hP hD hS (lv_sub hl [1, 2, 3, 4, 0] rfl)
      · replace hT := hT.2 c9
        refine lv_bipush (v := 8) hx hb dX9_count_94 (by decide) ?_
        refine lv_iload hx hb dX9_count_96 (lv_at hl 4 rfl) ?_
        refine lv_imul hx hb dX9_count_98 ?_
        refine lv_iload hx hb dX9_count_99 (lv_at hl 6 rfl) ?_
        refine lv_iadd hx hb dX9_count_101 ?_
        refine lv_topi (fun v8_11 ev8_11 => ?_)
        replace hT := hT v8_11 ev8_11
        refine lv_istore (lv' := [(8, .int v8_11), (0, .ref (ad 0)), (1, .int a1), (2, .int a2), (3, .int x3), (4, .int x4), (5, .long x5), (7, .int x7)]) hx hb dX9_count_102 hl (by decide) rfl (fun ls hl => ?_)
        refine lv_aload_n hx hb dX9_count_104 rfl (lv_at hl 1 rfl) ?_
        refine mg_stepOf hx hb hts hown hK hP dX9_count_105 ?_
        refine lv_iload hx hb dX9_count_108 (lv_at hl 0 rfl) ?_
        obtain ⟨hi12, hT⟩ := hT
        refine va_iald (f := S.2.1 30) hx hb hK hP 30 0 mat_30 rfl hi12 dX9_count_110 ?_
        refine lv_iconst (v := (-1)) hx hb dX9_count_111 (by decide) ?_
        refine lv_icmp_ne (tgt := 119) hx hb dX9_count_112 (by decide) (fun c13 => ?_) (fun c13 => ?_)
        · replace hT := hT.1 c13
          refine lv_iload_n hx hb dX9_count_119 rfl (lv_at hl 4 rfl) ?_
          refine lv_aload_n hx hb dX9_count_120 rfl (lv_at hl 1 rfl) ?_
          refine mg_stepLess hx hb hts hown hK hP dX9_count_121 ?_
          refine lv_iload hx hb dX9_count_124 (lv_at hl 0 rfl) ?_
          obtain ⟨hi14, hT⟩ := hT
          refine va_iald (f := S.2.1 31) hx hb hK hP 31 0 mat_31 rfl hi14 dX9_count_126 ?_
          refine lv_icmp_le (tgt := 158) hx hb dX9_count_127 (by decide) (fun c15 => ?_) (fun c15 => ?_)
          · replace hT := hT.1 c15
            refine lv_lconst (v := 0) hx hb dX9_count_158 (by decide) ?_
            refine lv_lstore (lv' := [(9, .long 0), (8, .int v8_11), (0, .ref (ad 0)), (1, .int a1), (2, .int a2), (3, .int x3), (4, .int x4), (5, .long x5), (7, .int x7)]) hx hb dX9_count_159 hl (by decide) rfl (fun ls hl => ?_)
            refine lv_lload hx hb dX9_count_161 (lv_at hl 0 rfl) ?_
            refine lv_ldc2 (v := 1000000000000000000) hx hb hown (hts _ k_1182) dX9_count_163 ?_
            refine lv_lload hx hb dX9_count_166 (lv_at hl 7 rfl) ?_
            refine lv_lsub hx hb dX9_count_168 ?_
            refine W.lcmp hx hb dX9_count_169 ?_
            refine lv_if_le (tgt := 179) hx hb dX9_count_170 (by decide) (fun c16 => ?_) (fun c16 => ?_)
            · replace hT := hT.1 c16
              refine lv_lload hx hb dX9_count_179 (lv_at hl 7 rfl) ?_
              refine lv_lload hx hb dX9_count_181 (lv_at hl 0 rfl) ?_
              refine lv_ladd hx hb dX9_count_183 ?_
              refine lv_topl (fun v5_17 ev5_17 => ?_)
              replace hT := hT v5_17 ev5_17
              refine lv_lstore (lv' := [(5, .long v5_17), (9, .long 0), (8, .int v8_11), (0, .ref (ad 0)), (1, .int a1), (2, .int a2), (3, .int x3), (4, .int x4), (7, .int x7)]) hx hb dX9_count_184 hl (by decide) rfl (fun ls hl => ?_)
              refine lv_iinc (v := x7 + 1) (lv' := [(7, .int (x7 + 1)), (5, .long v5_17), (9, .long 0), (8, .int v8_11), (0, .ref (ad 0)), (1, .int a1), (2, .int a2), (3, .int x3), (4, .int x4)]) hx hb dX9_count_186 hl (k := 8) rfl rfl (by decide) rfl (fun ls hl => ?_)
              refine lv_goto (tgt := 82) hx hb dX9_count_189 (by decide) ?_
              rw [hB82] at hT
              exact hT _ _ _ hP hD hS (lv_sub hl [4, 5, 6, 7, 8, 1, 0] rfl)
            · replace hT := hT.2 c16
              refine lv_ldc2 (v := 1000000000000000000) hx hb hown (hts _ k_1182) dX9_count_173 ?_
              refine lv_goto (tgt := 184) hx hb dX9_count_176 (by decide) ?_
              refine lv_lstore (lv' := [(5, .long 1000000000000000000), (9, .long 0), (8, .int v8_11), (0, .ref (ad 0)), (1, .int a1), (2, .int a2), (3, .int x3), (4, .int x4), (7, .int x7)]) hx hb dX9_count_184 hl (by decide) rfl (fun ls hl => ?_)
              refine lv_iinc (v := x7 + 1) (lv' := [(7, .int (x7 + 1)), (5, .long 1000000000000000000), (9, .long 0), (8, .int v8_11), (0, .ref (ad 0)), (1, .int a1), (2, .int a2), (3, .int x3), (4, .int x4)]) hx hb dX9_count_186 hl (k := 8) rfl rfl (by decide) rfl (fun ls hl => ?_)
              refine lv_goto (tgt := 82) hx hb dX9_count_189 (by decide) ?_
              rw [hB82] at hT
              exact hT _ _ _ hP hD hS (lv_sub hl [4, 5, 6, 7, 8, 1, 0] rfl)
          · replace hT := hT.2 c15
            refine lv_aload_n hx hb dX9_count_130 rfl (lv_at hl 1 rfl) ?_
            refine mg_counts hx hb hts hown hK hP dX9_count_131 ?_
            refine lv_bipush (v := 8) hx hb dX9_count_134 (by decide) ?_
            refine lv_iload_n hx hb dX9_count_136 rfl (lv_at hl 4 rfl) ?_
            refine lv_aload_n hx hb dX9_count_137 rfl (lv_at hl 1 rfl) ?_
            refine mg_stepLess hx hb hts hown hK hP dX9_count_138 ?_
            refine lv_iload hx hb dX9_count_141 (lv_at hl 0 rfl) ?_
            obtain ⟨hi18, hT⟩ := hT
            refine va_iald (f := S.2.1 31) hx hb hK hP 31 0 mat_31 rfl hi18 dX9_count_143 ?_
            refine lv_isub hx hb dX9_count_144 ?_
            refine lv_imul hx hb dX9_count_145 ?_
            refine lv_aload_n hx hb dX9_count_146 rfl (lv_at hl 1 rfl) ?_
            refine mg_stepOf hx hb hts hown hK hP dX9_count_147 ?_
            refine lv_iload hx hb dX9_count_150 (lv_at hl 0 rfl) ?_
            obtain ⟨hi19, hT⟩ := hT
            refine va_iald (f := S.2.1 30) hx hb hK hP 30 0 mat_30 rfl hi19 dX9_count_152 ?_
            refine lv_iadd hx hb dX9_count_153 ?_
            obtain ⟨hi20, hT⟩ := hT
            refine va_lald (f := S.2.2 33) hx hb hK hP 33 2 mat_33 rfl hi20 dX9_count_154 ?_
            refine lv_goto (tgt := 159) hx hb dX9_count_155 (by decide) ?_
            refine lv_topl (fun v9_21 ev9_21 => ?_)
            replace hT := hT v9_21 ev9_21
            refine lv_lstore (lv' := [(9, .long v9_21), (8, .int v8_11), (0, .ref (ad 0)), (1, .int a1), (2, .int a2), (3, .int x3), (4, .int x4), (5, .long x5), (7, .int x7)]) hx hb dX9_count_159 hl (by decide) rfl (fun ls hl => ?_)
            refine lv_lload hx hb dX9_count_161 (lv_at hl 0 rfl) ?_
            refine lv_ldc2 (v := 1000000000000000000) hx hb hown (hts _ k_1182) dX9_count_163 ?_
            refine lv_lload hx hb dX9_count_166 (lv_at hl 7 rfl) ?_
            refine lv_lsub hx hb dX9_count_168 ?_
            refine W.lcmp hx hb dX9_count_169 ?_
            refine lv_if_le (tgt := 179) hx hb dX9_count_170 (by decide) (fun c22 => ?_) (fun c22 => ?_)
            · replace hT := hT.1 c22
              refine lv_lload hx hb dX9_count_179 (lv_at hl 7 rfl) ?_
              refine lv_lload hx hb dX9_count_181 (lv_at hl 0 rfl) ?_
              refine lv_ladd hx hb dX9_count_183 ?_
              refine lv_topl (fun v5_23 ev5_23 => ?_)
              replace hT := hT v5_23 ev5_23
              refine lv_lstore (lv' := [(5, .long v5_23), (9, .long v9_21), (8, .int v8_11), (0, .ref (ad 0)), (1, .int a1), (2, .int a2), (3, .int x3), (4, .int x4), (7, .int x7)]) hx hb dX9_count_184 hl (by decide) rfl (fun ls hl => ?_)
              refine lv_iinc (v := x7 + 1) (lv' := [(7, .int (x7 + 1)), (5, .long v5_23), (9, .long v9_21), (8, .int v8_11), (0, .ref (ad 0)), (1, .int a1), (2, .int a2), (3, .int x3), (4, .int x4)]) hx hb dX9_count_186 hl (k := 8) rfl rfl (by decide) rfl (fun ls hl => ?_)
              refine lv_goto (tgt := 82) hx hb dX9_count_189 (by decide) ?_
              rw [hB82] at hT
              exact hT _ _ _ hP hD hS (lv_sub hl [4, 5, 6, 7, 8, 1, 0] rfl)
            · replace hT := hT.2 c22
              refine lv_ldc2 (v := 1000000000000000000) hx hb hown (hts _ k_1182) dX9_count_173 ?_
              refine lv_goto (tgt := 184) hx hb dX9_count_176 (by decide) ?_
              refine lv_lstore (lv' := [(5, .long 1000000000000000000), (9, .long v9_21), (8, .int v8_11), (0, .ref (ad 0)), (1, .int a1), (2, .int a2), (3, .int x3), (4, .int x4), (7, .int x7)]) hx hb dX9_count_184 hl (by decide) rfl (fun ls hl => ?_)
              refine lv_iinc (v := x7 + 1) (lv' := [(7, .int (x7 + 1)), (5, .long 1000000000000000000), (9, .long v9_21), (8, .int v8_11), (0, .ref (ad 0)), (1, .int a1), (2, .int a2), (3, .int x3), (4, .int x4)]) hx hb dX9_count_186 hl (k := 8) rfl rfl (by decide) rfl (fun ls hl => ?_)
              refine lv_goto (tgt := 82) hx hb dX9_count_189 (by decide) ?_
              rw [hB82] at hT
              exact hT _ _ _ hP hD hS (lv_sub hl [4, 5, 6, 7, 8, 1, 0] rfl)
        · replace hT := hT.2 c13
          refine lv_lconst (v := 1) hx hb dX9_count_115 (by decide) ?_
          refine lv_goto (tgt := 159) hx hb dX9_count_116 (by decide) ?_
          refine lv_lstore (lv' := [(9, .long 1), (8, .int v8_11), (0, .ref (ad 0)), (1, .int a1), (2, .int a2), (3, .int x3), (4, .int x4), (5, .long x5), (7, .int x7)]) hx hb dX9_count_159 hl (by decide) rfl (fun ls hl => ?_)
          refine lv_lload hx hb dX9_count_161 (lv_at hl 0 rfl) ?_
          refine lv_ldc2 (v := 1000000000000000000) hx hb hown (hts _ k_1182) dX9_count_163 ?_
          refine lv_lload hx hb dX9_count_166 (lv_at hl 7 rfl) ?_
          refine lv_lsub hx hb dX9_count_168 ?_
          refine W.lcmp hx hb dX9_count_169 ?_
          refine lv_if_le (tgt := 179) hx hb dX9_count_170 (by decide) (fun c24 => ?_) (fun c24 => ?_)
          · replace hT := hT.1 c24
            refine lv_lload hx hb dX9_count_179 (lv_at hl 7 rfl) ?_
            refine lv_lload hx hb dX9_count_181 (lv_at hl 0 rfl) ?_
            refine lv_ladd hx hb dX9_count_183 ?_
            refine lv_topl (fun v5_25 ev5_25 => ?_)
            replace hT := hT v5_25 ev5_25
            refine lv_lstore (lv' := [(5, .long v5_25), (9, .long 1), (8, .int v8_11), (0, .ref (ad 0)), (1, .int a1), (2, .int a2), (3, .int x3), (4, .int x4), (7, .int x7)]) hx hb dX9_count_184 hl (by decide) rfl (fun ls hl => ?_)
            refine lv_iinc (v := x7 + 1) (lv' := [(7, .int (x7 + 1)), (5, .long v5_25), (9, .long 1), (8, .int v8_11), (0, .ref (ad 0)), (1, .int a1), (2, .int a2), (3, .int x3), (4, .int x4)]) hx hb dX9_count_186 hl (k := 8) rfl rfl (by decide) rfl (fun ls hl => ?_)
            refine lv_goto (tgt := 82) hx hb dX9_count_189 (by decide) ?_
            rw [hB82] at hT
            exact hT _ _ _ hP hD hS (lv_sub hl [4, 5, 6, 7, 8, 1, 0] rfl)
          · replace hT := hT.2 c24
            refine lv_ldc2 (v := 1000000000000000000) hx hb hown (hts _ k_1182) dX9_count_173 ?_
            refine lv_goto (tgt := 184) hx hb dX9_count_176 (by decide) ?_
            refine lv_lstore (lv' := [(5, .long 1000000000000000000), (9, .long 1), (8, .int v8_11), (0, .ref (ad 0)), (1, .int a1), (2, .int a2), (3, .int x3), (4, .int x4), (7, .int x7)]) hx hb dX9_count_184 hl (by decide) rfl (fun ls hl => ?_)
            refine lv_iinc (v := x7 + 1) (lv' := [(7, .int (x7 + 1)), (5, .long 1000000000000000000), (9, .long 1), (8, .int v8_11), (0, .ref (ad 0)), (1, .int a1), (2, .int a2), (3, .int x3), (4, .int x4)]) hx hb dX9_count_186 hl (k := 8) rfl rfl (by decide) rfl (fun ls hl => ?_)
            refine lv_goto (tgt := 82) hx hb dX9_count_189 (by decide) ?_
            rw [hB82] at hT
            exact hT _ _ _ hP hD hS (lv_sub hl [4, 5, 6, 7, 8, 1, 0] rfl)
  unfold mT_count_e at hT
  refine lv_aload_n hx hb dX9_count_0 rfl (lv_at hl 0 rfl) ?_
  refine lv_iconst (v := 0) hx hb dX9_count_1 (by decide) ?_
  refine mp_thrown hx hb hts hown hK hP hD hS dX9_count_2 (fun H locs hP hD hS => ?_)
  refine lv_aload_n hx hb dX9_count_5 rfl (lv_at hl 0 rfl) ?_
  refine lv_iload_n hx hb dX9_count_6 rfl (lv_at hl 1 rfl) ?_
  refine mcallZ (n := 1) (rest := []) hT hx hb hml hown hts hK hA hP hD hS hl gg_242 hd_X9_isScheme ⟨Nat.le_of_ble_eq_true rfl, Nat.le_of_ble_eq_true rfl⟩ rfl rfl (Nat.le_of_ble_eq_true rfl) dX9_count_7 (Nat.zero_le _) (Nat.zero_le _) (fun b27 S26 H locs hP hD hS hT => ?_)
  refine lv_if_eq (tgt := 24) hx hb dX9_count_10 (by decide) (fun c28 => ?_) (fun c28 => ?_)
  · replace hT := hT.1 c28
    rw [hB24] at hT
    exact hT _ _ _ hP hD hS (lv_sub hl [0] rfl)
  · replace hT := hT.2 c28
    refine lv_aload_n hx hb dX9_count_13 rfl (lv_at hl 0 rfl) ?_
    refine lv_iload_n hx hb dX9_count_14 rfl (lv_at hl 2 rfl) ?_
    refine lv_iconst (v := 0) hx hb dX9_count_15 (by decide) ?_
    refine lv_bipush (v := 60) hx hb dX9_count_16 (by decide) ?_
    refine mcallZ (n := 3) (rest := []) hT hx hb hml hown hts hK hA hP hD hS hl gg_139 hd_X9_in ⟨Nat.le_of_ble_eq_true rfl, Nat.le_of_ble_eq_true rfl⟩ rfl rfl (Nat.le_of_ble_eq_true rfl) dX9_count_18 (Nat.zero_le _) (Nat.zero_le _) (fun b30 S29 H locs hP hD hS hT => ?_)
    refine lv_if_ne (tgt := 31) hx hb dX9_count_21 (by decide) (fun c31 => ?_) (fun c31 => ?_)
    · replace hT := hT.1 c31
      refine lv_aload_n hx hb dX9_count_31 rfl (lv_at hl 0 rfl) ?_
      refine lv_iconst (v := 0) hx hb dX9_count_32 (by decide) ?_
      refine mp_trouble hx hb hts hown hK hP hD hS dX9_count_33 (fun H locs hP hD hS => ?_)
      refine lv_iconst (v := 0) hx hb dX9_count_36 (by decide) ?_
      refine lv_istore_n (lv' := [(3, .int 0), (0, .ref (ad 0)), (1, .int a1), (2, .int a2)]) hx hb dX9_count_37 rfl hl (by decide) rfl (fun ls hl => ?_)
      rw [hB38] at hT
      exact hT _ _ _ hP hD hS (lv_sub hl [1, 2, 3, 0] rfl)
    · replace hT := hT.2 c31
      rw [hB24] at hT
      exact hT _ _ _ hP hD hS (lv_sub hl [0] rfl)
abbrev mX_tried (l : Launch) (S : MS) (a1 : Int32) (a2 : Int32) (a3 : Int32) (a4 : Int32) (a5 : Int32) (a6 : Int32) (a7 : Int32) (post : Int32 → MS → Prop) : Prop := mCtI l yX9_tried cX9_tried 18 3 71 (fun ad => [.int a1, .int a2, .int a3, .int a4, .int a5, .int a6, .int a7]) S post
def mT_tried_42 (l : Launch) (a1 : Int32) (a2 : Int32) (a3 : Int32) (a4 : Int32) (a5 : Int32) (a6 : Int32) (a7 : Int32) (post : Int32 → MS → Prop) (B42 : MS → Prop) (B61 : MS → Int32 → Prop) (B121 : MS → Int32 → Int32 → Prop) (B169 : MS → Int32 → Int32 → Int32 → Int32 → Prop) (B274 : MS → Int32 → Int32 → Int32 → Int32 → Int32 → Int32 → Int32 → Prop) (B341 : MS → Int32 → Int32 → Int32 → Int32 → Int32 → Int32 → Int32 → Prop) (B504 : MS → Int32 → Int32 → Int32 → Int32 → Int32 → Int32 → Prop) (B541 : MS → Int32 → Int32 → Int32 → Prop) (S : MS) : Prop := mX_no l S 1 (fun r2 S1 => post r2 S1)
def mT_tried_61 (l : Launch) (a1 : Int32) (a2 : Int32) (a3 : Int32) (a4 : Int32) (a5 : Int32) (a6 : Int32) (a7 : Int32) (post : Int32 → MS → Prop) (B42 : MS → Prop) (B61 : MS → Int32 → Prop) (B121 : MS → Int32 → Int32 → Prop) (B169 : MS → Int32 → Int32 → Int32 → Int32 → Prop) (B274 : MS → Int32 → Int32 → Int32 → Int32 → Int32 → Int32 → Int32 → Prop) (B341 : MS → Int32 → Int32 → Int32 → Int32 → Int32 → Int32 → Int32 → Prop) (B504 : MS → Int32 → Int32 → Int32 → Int32 → Int32 → Int32 → Prop) (B541 : MS → Int32 → Int32 → Int32 → Prop) (S : MS) (x8 : Int32) : Prop := (S.1 1 ≤ x8 → vp_in 1 5 ∧ ∀ v8_5 : Int32, v8_5 = S.2.1 26 (1 : Int32).toNatClampNeg → vp_in 0 8 ∧ vp_in 0 8 ∧ vp_in 0 8 ∧ B121 (ma (ma (ma S 34 (upd (S.2.1 34) (0 : Int32).toNatClampNeg a1)) 35 (upd (S.2.1 35) (0 : Int32).toNatClampNeg a2)) 36 (upd (S.2.1 36) (0 : Int32).toNatClampNeg 0)) v8_5 0) ∧ (¬ S.1 1 ≤ x8 → vp_in 0 5 ∧ vp_in x8 7 ∧ B61 (ma S 8 (upd (S.2.1 8) x8.toNatClampNeg (S.2.1 26 (0 : Int32).toNatClampNeg))) (x8 + 1))
def mT_tried_121 (l : Launch) (a1 : Int32) (a2 : Int32) (a3 : Int32) (a4 : Int32) (a5 : Int32) (a6 : Int32) (a7 : Int32) (post : Int32 → MS → Prop) (B42 : MS → Prop) (B61 : MS → Int32 → Prop) (B121 : MS → Int32 → Int32 → Prop) (B169 : MS → Int32 → Int32 → Int32 → Int32 → Prop) (B274 : MS → Int32 → Int32 → Int32 → Int32 → Int32 → Int32 → Int32 → Prop) (B341 : MS → Int32 → Int32 → Int32 → Int32 → Int32 → Int32 → Int32 → Prop) (B504 : MS → Int32 → Int32 → Int32 → Int32 → Int32 → Int32 → Prop) (B541 : MS → Int32 → Int32 → Int32 → Prop) (S : MS) (x8 : Int32) (x9 : Int32) : Prop := (5 ≤ x9 → B169 S x8 1 1 0) ∧ (¬ 5 ≤ x9 → (S.1 0 ≤ x9 → vp_in x9 40 ∧ B121 (ma S 37 (upd (S.2.1 37) x9.toNatClampNeg (-1))) x8 (x9 + 1)) ∧ (¬ S.1 0 ≤ x9 → vp_in x9 5 ∧ vp_in x9 40 ∧ B121 (ma S 37 (upd (S.2.1 37) x9.toNatClampNeg (S.2.1 26 x9.toNatClampNeg))) x8 (x9 + 1)))
def mT_tried_169 (l : Launch) (a1 : Int32) (a2 : Int32) (a3 : Int32) (a4 : Int32) (a5 : Int32) (a6 : Int32) (a7 : Int32) (post : Int32 → MS → Prop) (B42 : MS → Prop) (B61 : MS → Int32 → Prop) (B121 : MS → Int32 → Int32 → Prop) (B169 : MS → Int32 → Int32 → Int32 → Int32 → Prop) (B274 : MS → Int32 → Int32 → Int32 → Int32 → Int32 → Int32 → Int32 → Prop) (B341 : MS → Int32 → Int32 → Int32 → Int32 → Int32 → Int32 → Int32 → Prop) (B504 : MS → Int32 → Int32 → Int32 → Int32 → Int32 → Int32 → Prop) (B541 : MS → Int32 → Int32 → Int32 → Prop) (S : MS) (x8 : Int32) (x9 : Int32) (x10 : Int32) (x11 : Int32) : Prop := (x9 ≤ 0 → B541 S x8 x11 0) ∧ (¬ x9 ≤ 0 → ∀ v12_17 : Int32, v12_17 = x9 - 1 → vp_in v12_17 8 ∧ vp_in v12_17 8 ∧ vp_in (S.2.1 34 v12_17.toNatClampNeg) 8 ∧ (¬ S.2.1 36 v12_17.toNatClampNeg = S.2.1 29 (S.2.1 34 v12_17.toNatClampNeg).toNatClampNeg → vp_in v12_17 8 ∧ vp_in v12_17 8 ∧ ∀ v13_24 : Int32, v13_24 = (8 * (S.2.1 34 v12_17.toNatClampNeg)) + (S.2.1 36 v12_17.toNatClampNeg) → vp_in v12_17 8 ∧ vp_in v12_17 8 ∧ vp_in v12_17 8 ∧ ∀ v14_28 : Int32, v14_28 = S.2.1 35 v12_17.toNatClampNeg → vp_in v13_24 64 ∧ (S.2.1 30 v13_24.toNatClampNeg = (-1) → B274 (ma S 36 (upd (S.2.1 36) v12_17.toNatClampNeg ((S.2.1 36 v12_17.toNatClampNeg) + 1))) x8 x9 x10 x11 v12_17 v13_24 v14_28) ∧ (¬ S.2.1 30 v13_24.toNatClampNeg = (-1) → vp_in v13_24 64 ∧ (S.2.1 31 v13_24.toNatClampNeg < v14_28 → B274 (ma S 36 (upd (S.2.1 36) v12_17.toNatClampNeg ((S.2.1 36 v12_17.toNatClampNeg) + 1))) x8 x9 x10 x11 v12_17 v13_24 v14_28) ∧ (¬ S.2.1 31 v13_24.toNatClampNeg < v14_28 → B169 (ma S 36 (upd (S.2.1 36) v12_17.toNatClampNeg ((S.2.1 36 v12_17.toNatClampNeg) + 1))) x8 x9 x10 x11))) ∧ (S.2.1 36 v12_17.toNatClampNeg = S.2.1 29 (S.2.1 34 v12_17.toNatClampNeg).toNatClampNeg → B169 S x8 (x9 + (-1)) x10 x11))
def mT_tried_274 (l : Launch) (a1 : Int32) (a2 : Int32) (a3 : Int32) (a4 : Int32) (a5 : Int32) (a6 : Int32) (a7 : Int32) (post : Int32 → MS → Prop) (B42 : MS → Prop) (B61 : MS → Int32 → Prop) (B121 : MS → Int32 → Int32 → Prop) (B169 : MS → Int32 → Int32 → Int32 → Int32 → Prop) (B274 : MS → Int32 → Int32 → Int32 → Int32 → Int32 → Int32 → Int32 → Prop) (B341 : MS → Int32 → Int32 → Int32 → Int32 → Int32 → Int32 → Int32 → Prop) (B504 : MS → Int32 → Int32 → Int32 → Int32 → Int32 → Int32 → Prop) (B541 : MS → Int32 → Int32 → Int32 → Prop) (S : MS) (x8 : Int32) (x9 : Int32) (x10 : Int32) (x11 : Int32) (x12 : Int32) (x13 : Int32) (x14 : Int32) : Prop := (¬ x10 = 5000 → vp_in x13 64 ∧ (S.2.1 30 x13.toNatClampNeg = (-1) → vp_in (5 * x13) 320 ∧ vp_in ((5 * x12) + (S.2.1 32 (5 * x13).toNatClampNeg)) 40 ∧ ∀ v15_38 : Int32, v15_38 = S.2.1 37 ((5 * x12) + (S.2.1 32 (5 * x13).toNatClampNeg)).toNatClampNeg → vp_in ((5 * x13) + 1) 320 ∧ vp_in ((5 * x12) + (S.2.1 32 ((5 * x13) + 1).toNatClampNeg)) 40 ∧ ∀ v16_41 : Int32, v16_41 = S.2.1 37 ((5 * x12) + (S.2.1 32 ((5 * x13) + 1).toNatClampNeg)).toNatClampNeg → (v15_38 = (-1) → B504 S x8 x9 (x10 + 1) x11 x14 v16_41) ∧ (¬ v15_38 = (-1) → (v16_41 = (-1) → B504 S x8 x9 (x10 + 1) x11 x14 v16_41) ∧ (¬ v16_41 = (-1) → mX_top l S 8 v15_38 (fun r45 S44 => (¬ r45 = x14 - 1 → B504 S44 x8 x9 (x10 + 1) x11 x14 v16_41) ∧ (r45 = x14 - 1 → mX_packOf l S44 8 (x14 - 1) (fun r48 S47 => (¬ r48 = x14 - 1 → B504 S47 x8 x9 (x10 + 1) x11 x14 v16_41) ∧ (r48 = x14 - 1 → mX_whyOf l S47 8 v15_38 v16_41 (fun r51 S50 => (¬ r51 = 0 → B504 S50 x8 x9 (x10 + 1) x11 x14 v16_41) ∧ (r51 = 0 → (¬ (1 : Int32) = 0 → vp_in (x14 - 1) 7 ∧ B169 (ma S50 8 (upd (S50.2.1 8) (x14 - 1).toNatClampNeg v16_41)) x8 x9 (x10 + 1) (x11 + 1)) ∧ ((1 : Int32) = 0 → post (-2) (mf S50 10 x11))))))))))) ∧ (¬ S.2.1 30 x13.toNatClampNeg = (-1) → vp_in x13 64 ∧ vp_in x9 8 ∧ vp_in x13 64 ∧ vp_in x9 8 ∧ vp_in x9 8 ∧ B341 (ma (ma (ma S 34 (upd (S.2.1 34) x9.toNatClampNeg (S.2.1 30 x13.toNatClampNeg))) 35 (upd (S.2.1 35) x9.toNatClampNeg (x14 - (S.2.1 31 x13.toNatClampNeg)))) 36 (upd (S.2.1 36) x9.toNatClampNeg 0)) x8 x9 (x10 + 1) x11 x12 x13 0)) ∧ (x10 = 5000 → post (-4) S)
def mT_tried_341 (l : Launch) (a1 : Int32) (a2 : Int32) (a3 : Int32) (a4 : Int32) (a5 : Int32) (a6 : Int32) (a7 : Int32) (post : Int32 → MS → Prop) (B42 : MS → Prop) (B61 : MS → Int32 → Prop) (B121 : MS → Int32 → Int32 → Prop) (B169 : MS → Int32 → Int32 → Int32 → Int32 → Prop) (B274 : MS → Int32 → Int32 → Int32 → Int32 → Int32 → Int32 → Int32 → Prop) (B341 : MS → Int32 → Int32 → Int32 → Int32 → Int32 → Int32 → Int32 → Prop) (B504 : MS → Int32 → Int32 → Int32 → Int32 → Int32 → Int32 → Prop) (B541 : MS → Int32 → Int32 → Int32 → Prop) (S : MS) (x8 : Int32) (x9 : Int32) (x10 : Int32) (x11 : Int32) (x12 : Int32) (x13 : Int32) (x15 : Int32) : Prop := (5 ≤ x15 → B169 S x8 (x9 + 1) x10 x11) ∧ (¬ 5 ≤ x15 → vp_in ((5 * x13) + x15) 320 ∧ vp_in ((5 * x12) + (S.2.1 32 ((5 * x13) + x15).toNatClampNeg)) 40 ∧ vp_in ((5 * x9) + x15) 40 ∧ B341 (ma S 37 (upd (S.2.1 37) ((5 * x9) + x15).toNatClampNeg (S.2.1 37 ((5 * x12) + (S.2.1 32 ((5 * x13) + x15).toNatClampNeg)).toNatClampNeg))) x8 x9 x10 x11 x12 x13 (x15 + 1))
def mT_tried_504 (l : Launch) (a1 : Int32) (a2 : Int32) (a3 : Int32) (a4 : Int32) (a5 : Int32) (a6 : Int32) (a7 : Int32) (post : Int32 → MS → Prop) (B42 : MS → Prop) (B61 : MS → Int32 → Prop) (B121 : MS → Int32 → Int32 → Prop) (B169 : MS → Int32 → Int32 → Int32 → Int32 → Prop) (B274 : MS → Int32 → Int32 → Int32 → Int32 → Int32 → Int32 → Int32 → Prop) (B341 : MS → Int32 → Int32 → Int32 → Int32 → Int32 → Int32 → Int32 → Prop) (B504 : MS → Int32 → Int32 → Int32 → Int32 → Int32 → Int32 → Prop) (B541 : MS → Int32 → Int32 → Int32 → Prop) (S : MS) (x8 : Int32) (x9 : Int32) (x10 : Int32) (x11 : Int32) (x14 : Int32) (x16 : Int32) : Prop := (¬ (0 : Int32) = 0 → vp_in (x14 - 1) 7 ∧ B169 (ma S 8 (upd (S.2.1 8) (x14 - 1).toNatClampNeg x16)) x8 x9 x10 (x11 + 1)) ∧ ((0 : Int32) = 0 → post (-2) (mf S 10 x11))
def mT_tried_541 (l : Launch) (a1 : Int32) (a2 : Int32) (a3 : Int32) (a4 : Int32) (a5 : Int32) (a6 : Int32) (a7 : Int32) (post : Int32 → MS → Prop) (B42 : MS → Prop) (B61 : MS → Int32 → Prop) (B121 : MS → Int32 → Int32 → Prop) (B169 : MS → Int32 → Int32 → Int32 → Int32 → Prop) (B274 : MS → Int32 → Int32 → Int32 → Int32 → Int32 → Int32 → Int32 → Prop) (B341 : MS → Int32 → Int32 → Int32 → Int32 → Int32 → Int32 → Int32 → Prop) (B504 : MS → Int32 → Int32 → Int32 → Int32 → Int32 → Int32 → Prop) (B541 : MS → Int32 → Int32 → Int32 → Prop) (S : MS) (x8 : Int32) (x11 : Int32) (x12 : Int32) : Prop := (a2 ≤ x12 → post x11 S) ∧ (¬ a2 ≤ x12 → vp_in x12 7 ∧ (S.2.1 8 x12.toNatClampNeg = x8 → B541 S x8 x11 (x12 + 1)) ∧ (¬ S.2.1 8 x12.toNatClampNeg = x8 → post (-3) S))
def mT_tried_e (l : Launch) (a1 : Int32) (a2 : Int32) (a3 : Int32) (a4 : Int32) (a5 : Int32) (a6 : Int32) (a7 : Int32) (post : Int32 → MS → Prop) (B42 : MS → Prop) (B61 : MS → Int32 → Prop) (B121 : MS → Int32 → Int32 → Prop) (B169 : MS → Int32 → Int32 → Int32 → Int32 → Prop) (B274 : MS → Int32 → Int32 → Int32 → Int32 → Int32 → Int32 → Int32 → Prop) (B341 : MS → Int32 → Int32 → Int32 → Int32 → Int32 → Int32 → Int32 → Prop) (B504 : MS → Int32 → Int32 → Int32 → Int32 → Int32 → Int32 → Prop) (B541 : MS → Int32 → Int32 → Int32 → Prop) (S0 : MS) : Prop := mX_isScheme l (mf S0 3 0) a1 (fun b70 S69 => (bI b70 = 0 → B42 S69) ∧ (¬ bI b70 = 0 → mX_in l S69 a2 1 (S69.1 1) (fun b73 S72 => (bI b73 = 0 → B42 S72) ∧ (¬ bI b73 = 0 → mX_areNames l S72 a3 a4 a5 a6 a7 (fun b76 S75 => (¬ bI b76 = 0 → B61 (mf (mf S75 2 0) 10 (-1)) 0) ∧ (bI b76 = 0 → B42 S75))))))
set_option maxHeartbeats 4000000 in
set_option maxRecDepth 100000 in
theorem m_tried (l : Launch) (S0 : MS) (a1 : Int32) (a2 : Int32) (a3 : Int32) (a4 : Int32) (a5 : Int32) (a6 : Int32) (a7 : Int32) (post : Int32 → MS → Prop) (h : ∀ (B42 : MS → Prop) (B61 : MS → Int32 → Prop) (B121 : MS → Int32 → Int32 → Prop) (B169 : MS → Int32 → Int32 → Int32 → Int32 → Prop) (B274 : MS → Int32 → Int32 → Int32 → Int32 → Int32 → Int32 → Int32 → Prop) (B341 : MS → Int32 → Int32 → Int32 → Int32 → Int32 → Int32 → Int32 → Prop) (B504 : MS → Int32 → Int32 → Int32 → Int32 → Int32 → Int32 → Prop) (B541 : MS → Int32 → Int32 → Int32 → Prop), (∀ (S : MS) , mT_tried_42 l a1 a2 a3 a4 a5 a6 a7 post B42 B61 B121 B169 B274 B341 B504 B541 S → B42 S ) → (∀ (S : MS) (x8 : Int32), mT_tried_61 l a1 a2 a3 a4 a5 a6 a7 post B42 B61 B121 B169 B274 B341 B504 B541 S x8 → B61 S x8) → (∀ (S : MS) (x8 : Int32) (x9 : Int32), mT_tried_121 l a1 a2 a3 a4 a5 a6 a7 post B42 B61 B121 B169 B274 B341 B504 B541 S x8 x9 → B121 S x8 x9) → (∀ (S : MS) (x8 : Int32) (x9 : Int32) (x10 : Int32) (x11 : Int32), mT_tried_169 l a1 a2 a3 a4 a5 a6 a7 post B42 B61 B121 B169 B274 B341 B504 B541 S x8 x9 x10 x11 → B169 S x8 x9 x10 x11) → (∀ (S : MS) (x8 : Int32) (x9 : Int32) (x10 : Int32) (x11 : Int32) (x12 : Int32) (x13 : Int32) (x14 : Int32), mT_tried_274 l a1 a2 a3 a4 a5 a6 a7 post B42 B61 B121 B169 B274 B341 B504 B541 S x8 x9 x10 x11 x12 x13 x14 → B274 S x8 x9 x10 x11 x12 x13 x14) → (∀ (S : MS) (x8 : Int32) (x9 : Int32) (x10 : Int32) (x11 : Int32) (x12 : Int32) (x13 : Int32) (x15 : Int32), mT_tried_341 l a1 a2 a3 a4 a5 a6 a7 post B42 B61 B121 B169 B274 B341 B504 B541 S x8 x9 x10 x11 x12 x13 x15 → B341 S x8 x9 x10 x11 x12 x13 x15) → (∀ (S : MS) (x8 : Int32) (x9 : Int32) (x10 : Int32) (x11 : Int32) (x14 : Int32) (x16 : Int32), mT_tried_504 l a1 a2 a3 a4 a5 a6 a7 post B42 B61 B121 B169 B274 B341 B504 B541 S x8 x9 x10 x11 x14 x16 → B504 S x8 x9 x10 x11 x14 x16) → (∀ (S : MS) (x8 : Int32) (x11 : Int32) (x12 : Int32), mT_tried_541 l a1 a2 a3 a4 a5 a6 a7 post B42 B61 B121 B169 B274 B341 B504 B541 S x8 x11 x12 → B541 S x8 x11 x12) → mT_tried_e l a1 a2 a3 a4 a5 a6 a7 post B42 B61 B121 B169 B274 B341 B504 B541 S0) : mX_tried l S0 a1 a2 a3 a4 a5 a6 a7 post := by
  refine msetI rfl (fun _ => Nat.le_of_ble_eq_true rfl) ?_
  intro p e s m args below meth c D ad cI cZ cL A Q hx hb hml hown hts hK hA hret H locs ls hP hD hS hl
  replace hl : lv_has ls 18 [(0, .ref (ad 0)), (1, .int a1), (2, .int a2), (3, .int a3), (4, .int a4), (5, .int a5), (6, .int a6), (7, .int a7)] := hl
  obtain ⟨B42, hB42⟩ : ∃ B : MS → Prop, B = (fun S => ∀ (H : Heap) (locs : List Loc) (ls : Array Slot), va_P D vwCl (mW ad cI cZ cL S) H → va_D A (mW ad cI cZ cL S) → va_S A s.heap H locs → lv_has ls 18 [(0, .ref (ad 0))] → W p l e (mrm 3 71) s m args below meth c H locs 0 0 Q (F0 m 42 ls [])) := ⟨_, rfl⟩
  obtain ⟨B61, hB61⟩ : ∃ B : MS → Int32 → Prop, B = (fun S x8 => ∀ (H : Heap) (locs : List Loc) (ls : Array Slot), va_P D vwCl (mW ad cI cZ cL S) H → va_D A (mW ad cI cZ cL S) → va_S A s.heap H locs → lv_has ls 18 [(0, .ref (ad 0)), (1, .int a1), (2, .int a2), (8, .int x8)] → W p l e (mrm 3 71) s m args below meth c H locs 0 0 Q (F0 m 61 ls [])) := ⟨_, rfl⟩
  obtain ⟨B121, hB121⟩ : ∃ B : MS → Int32 → Int32 → Prop, B = (fun S x8 x9 => ∀ (H : Heap) (locs : List Loc) (ls : Array Slot), va_P D vwCl (mW ad cI cZ cL S) H → va_D A (mW ad cI cZ cL S) → va_S A s.heap H locs → lv_has ls 18 [(0, .ref (ad 0)), (2, .int a2), (8, .int x8), (9, .int x9)] → W p l e (mrm 3 71) s m args below meth c H locs 0 0 Q (F0 m 121 ls [])) := ⟨_, rfl⟩
  obtain ⟨B169, hB169⟩ : ∃ B : MS → Int32 → Int32 → Int32 → Int32 → Prop, B = (fun S x8 x9 x10 x11 => ∀ (H : Heap) (locs : List Loc) (ls : Array Slot), va_P D vwCl (mW ad cI cZ cL S) H → va_D A (mW ad cI cZ cL S) → va_S A s.heap H locs → lv_has ls 18 [(0, .ref (ad 0)), (2, .int a2), (8, .int x8), (9, .int x9), (10, .int x10), (11, .int x11)] → W p l e (mrm 3 71) s m args below meth c H locs 0 0 Q (F0 m 169 ls [])) := ⟨_, rfl⟩
  obtain ⟨B274, hB274⟩ : ∃ B : MS → Int32 → Int32 → Int32 → Int32 → Int32 → Int32 → Int32 → Prop, B = (fun S x8 x9 x10 x11 x12 x13 x14 => ∀ (H : Heap) (locs : List Loc) (ls : Array Slot), va_P D vwCl (mW ad cI cZ cL S) H → va_D A (mW ad cI cZ cL S) → va_S A s.heap H locs → lv_has ls 18 [(0, .ref (ad 0)), (2, .int a2), (8, .int x8), (9, .int x9), (10, .int x10), (11, .int x11), (12, .int x12), (13, .int x13), (14, .int x14)] → W p l e (mrm 3 71) s m args below meth c H locs 0 0 Q (F0 m 274 ls [])) := ⟨_, rfl⟩
  obtain ⟨B341, hB341⟩ : ∃ B : MS → Int32 → Int32 → Int32 → Int32 → Int32 → Int32 → Int32 → Prop, B = (fun S x8 x9 x10 x11 x12 x13 x15 => ∀ (H : Heap) (locs : List Loc) (ls : Array Slot), va_P D vwCl (mW ad cI cZ cL S) H → va_D A (mW ad cI cZ cL S) → va_S A s.heap H locs → lv_has ls 18 [(0, .ref (ad 0)), (2, .int a2), (8, .int x8), (9, .int x9), (10, .int x10), (11, .int x11), (12, .int x12), (13, .int x13), (15, .int x15)] → W p l e (mrm 3 71) s m args below meth c H locs 0 0 Q (F0 m 341 ls [])) := ⟨_, rfl⟩
  obtain ⟨B504, hB504⟩ : ∃ B : MS → Int32 → Int32 → Int32 → Int32 → Int32 → Int32 → Prop, B = (fun S x8 x9 x10 x11 x14 x16 => ∀ (H : Heap) (locs : List Loc) (ls : Array Slot), va_P D vwCl (mW ad cI cZ cL S) H → va_D A (mW ad cI cZ cL S) → va_S A s.heap H locs → lv_has ls 18 [(0, .ref (ad 0)), (2, .int a2), (8, .int x8), (9, .int x9), (10, .int x10), (11, .int x11), (14, .int x14), (16, .int x16)] → W p l e (mrm 3 71) s m args below meth c H locs 0 0 Q (F0 m 504 ls [])) := ⟨_, rfl⟩
  obtain ⟨B541, hB541⟩ : ∃ B : MS → Int32 → Int32 → Int32 → Prop, B = (fun S x8 x11 x12 => ∀ (H : Heap) (locs : List Loc) (ls : Array Slot), va_P D vwCl (mW ad cI cZ cL S) H → va_D A (mW ad cI cZ cL S) → va_S A s.heap H locs → lv_has ls 18 [(0, .ref (ad 0)), (2, .int a2), (8, .int x8), (11, .int x11), (12, .int x12)] → W p l e (mrm 3 71) s m args below meth c H locs 0 0 Q (F0 m 541 ls [])) := ⟨_, rfl⟩
  have hT : mT_tried_e l a1 a2 a3 a4 a5 a6 a7 post B42 B61 B121 B169 B274 B341 B504 B541 S0 := by
    refine h B42 B61 B121 B169 B274 B341 B504 B541 ?_ ?_ ?_ ?_ ?_ ?_ ?_ ?_
    · clear hP hD hS hl H locs ls
      intro S hT
      unfold mT_tried_42 at hT
      rw [hB42]
      intro H locs ls hP hD hS hl
      refine lv_aload_n hx hb dX9_tried_42 rfl (lv_at hl 0 rfl) ?_
      refine lv_iconst (v := 1) hx hb dX9_tried_43 (by decide) ?_
      refine mcallI (n := 1) (rest := []) hT hx hb hml hown hts hK hA hP hD hS hl gg_192 hd_X9_no ⟨Nat.le_of_ble_eq_true rfl, Nat.le_of_ble_eq_true rfl⟩ rfl rfl (Nat.le_of_ble_eq_true rfl) dX9_tried_44 (Nat.zero_le _) (Nat.zero_le _) (fun r2 S1 H locs hP hD hS hT => ?_)
      exact hret _ _ _ _ _ _ hP hD hS hT dX9_tried_47
    · clear hP hD hS hl H locs ls
      intro S x8 hT
      unfold mT_tried_61 at hT
      rw [hB61]
      intro H locs ls hP hD hS hl
      refine lv_iload hx hb dX9_tried_61 (lv_at hl 3 rfl) ?_
      refine lv_aload_n hx hb dX9_tried_63 rfl (lv_at hl 0 rfl) ?_
      refine mg_discs (v := S.1 1) hx hb hts hown hK hP rfl dX9_tried_64 ?_
      refine lv_icmp_ge (tgt := 89) hx hb dX9_tried_67 (by decide) (fun c3 => ?_) (fun c3 => ?_)
      · replace hT := hT.1 c3
        refine lv_aload_n hx hb dX9_tried_89 rfl (lv_at hl 0 rfl) ?_
        refine mg_names hx hb hts hown hK hP dX9_tried_90 ?_
        refine lv_iconst (v := 1) hx hb dX9_tried_93 (by decide) ?_
        obtain ⟨hi4, hT⟩ := hT
        refine va_iald (f := S.2.1 26) hx hb hK hP 26 0 mat_26 rfl hi4 dX9_tried_94 ?_
        refine lv_topi (fun v8_5 ev8_5 => ?_)
        replace hT := hT v8_5 ev8_5
        refine lv_istore (lv' := [(8, .int v8_5), (0, .ref (ad 0)), (1, .int a1), (2, .int a2)]) hx hb dX9_tried_95 hl (by decide) rfl (fun ls hl => ?_)
        refine lv_aload_n hx hb dX9_tried_97 rfl (lv_at hl 1 rfl) ?_
        refine mg_openScheme hx hb hts hown hK hP dX9_tried_98 ?_
        refine lv_iconst (v := 0) hx hb dX9_tried_101 (by decide) ?_
        refine lv_iload_n hx hb dX9_tried_102 rfl (lv_at hl 2 rfl) ?_
        obtain ⟨hi6, hT⟩ := hT
        refine va_iast (f := S.2.1 34) hx hb hK hP hD hS 34 0 mat_34 rfl hi6 dX9_tried_103 (fun H locs hP hD hS => ?_)
        replace hP := msetP_34 hP
        replace hD := msetD_34 hD
        refine lv_aload_n hx hb dX9_tried_104 rfl (lv_at hl 1 rfl) ?_
        refine mg_openHeight hx hb hts hown hK hP dX9_tried_105 ?_
        refine lv_iconst (v := 0) hx hb dX9_tried_108 (by decide) ?_
        refine lv_iload_n hx hb dX9_tried_109 rfl (lv_at hl 3 rfl) ?_
        obtain ⟨hi7, hT⟩ := hT
        refine va_iast (f := S.2.1 35) hx hb hK hP hD hS 35 0 mat_35 rfl hi7 dX9_tried_110 (fun H locs hP hD hS => ?_)
        replace hP := msetP_35 hP
        replace hD := msetD_35 hD
        refine lv_aload_n hx hb dX9_tried_111 rfl (lv_at hl 1 rfl) ?_
        refine mg_openStep hx hb hts hown hK hP dX9_tried_112 ?_
        refine lv_iconst (v := 0) hx hb dX9_tried_115 (by decide) ?_
        refine lv_iconst (v := 0) hx hb dX9_tried_116 (by decide) ?_
        obtain ⟨hi8, hT⟩ := hT
        refine va_iast (f := S.2.1 36) hx hb hK hP hD hS 36 0 mat_36 rfl hi8 dX9_tried_117 (fun H locs hP hD hS => ?_)
        replace hP := msetP_36 hP
        replace hD := msetD_36 hD
        refine lv_iconst (v := 0) hx hb dX9_tried_118 (by decide) ?_
        refine lv_istore (lv' := [(9, .int 0), (8, .int v8_5), (0, .ref (ad 0)), (1, .int a1), (2, .int a2)]) hx hb dX9_tried_119 hl (by decide) rfl (fun ls hl => ?_)
        rw [hB121] at hT
        exact hT _ _ _ hP hD hS (lv_sub hl [2, 4, 1, 0] rfl)
      · replace hT := hT.2 c3
        refine lv_aload_n hx hb dX9_tried_70 rfl (lv_at hl 0 rfl) ?_
        refine mg_at hx hb hts hown hK hP dX9_tried_71 ?_
        refine lv_iload hx hb dX9_tried_74 (lv_at hl 3 rfl) ?_
        refine lv_aload_n hx hb dX9_tried_76 rfl (lv_at hl 0 rfl) ?_
        refine mg_names hx hb hts hown hK hP dX9_tried_77 ?_
        refine lv_iconst (v := 0) hx hb dX9_tried_80 (by decide) ?_
        obtain ⟨hi9, hT⟩ := hT
        refine va_iald (f := S.2.1 26) hx hb hK hP 26 0 mat_26 rfl hi9 dX9_tried_81 ?_
        obtain ⟨hi10, hT⟩ := hT
        refine va_iast (f := S.2.1 8) hx hb hK hP hD hS 8 0 mat_8 rfl hi10 dX9_tried_82 (fun H locs hP hD hS => ?_)
        replace hP := msetP_8 hP
        replace hD := msetD_8 hD
        refine lv_iinc (v := x8 + 1) (lv' := [(8, .int (x8 + 1)), (0, .ref (ad 0)), (1, .int a1), (2, .int a2)]) hx hb dX9_tried_83 hl (k := 3) rfl rfl (by decide) rfl (fun ls hl => ?_)
        refine lv_goto (tgt := 61) hx hb dX9_tried_86 (by decide) ?_
        rw [hB61] at hT
        exact hT _ _ _ hP hD hS (lv_sub hl [1, 2, 3, 0] rfl)
    · clear hP hD hS hl H locs ls
      intro S x8 x9 hT
      unfold mT_tried_121 at hT
      rw [hB121]
      intro H locs ls hP hD hS hl
      refine lv_iload hx hb dX9_tried_121 (lv_at hl 3 rfl) ?_
      refine lv_iconst (v := 5) hx hb dX9_tried_123 (by decide) ?_
      refine lv_icmp_ge (tgt := 160) hx hb dX9_tried_124 (by decide) (fun c11 => ?_) (fun c11 => ?_)
      · replace hT := hT.1 c11
        refine lv_iconst (v := 1) hx hb dX9_tried_160 (by decide) ?_
        refine lv_istore (lv' := [(9, .int 1), (0, .ref (ad 0)), (2, .int a2), (8, .int x8)]) hx hb dX9_tried_161 hl (by decide) rfl (fun ls hl => ?_)
        refine lv_iconst (v := 1) hx hb dX9_tried_163 (by decide) ?_
        refine lv_istore (lv' := [(10, .int 1), (9, .int 1), (0, .ref (ad 0)), (2, .int a2), (8, .int x8)]) hx hb dX9_tried_164 hl (by decide) rfl (fun ls hl => ?_)
        refine lv_iconst (v := 0) hx hb dX9_tried_166 (by decide) ?_
        refine lv_istore (lv' := [(11, .int 0), (10, .int 1), (9, .int 1), (0, .ref (ad 0)), (2, .int a2), (8, .int x8)]) hx hb dX9_tried_167 hl (by decide) rfl (fun ls hl => ?_)
        rw [hB169] at hT
        exact hT _ _ _ hP hD hS (lv_sub hl [3, 4, 5, 2, 1, 0] rfl)
      · replace hT := hT.2 c11
        refine lv_aload_n hx hb dX9_tried_127 rfl (lv_at hl 0 rfl) ?_
        refine mg_openPegs hx hb hts hown hK hP dX9_tried_128 ?_
        refine lv_iload hx hb dX9_tried_131 (lv_at hl 3 rfl) ?_
        refine lv_iload hx hb dX9_tried_133 (lv_at hl 3 rfl) ?_
        refine lv_aload_n hx hb dX9_tried_135 rfl (lv_at hl 0 rfl) ?_
        refine mg_pegs (v := S.1 0) hx hb hts hown hK hP rfl dX9_tried_136 ?_
        refine lv_icmp_ge (tgt := 152) hx hb dX9_tried_139 (by decide) (fun c12 => ?_) (fun c12 => ?_)
        · replace hT := hT.1 c12
          refine lv_iconst (v := (-1)) hx hb dX9_tried_152 (by decide) ?_
          obtain ⟨hi13, hT⟩ := hT
          refine va_iast (f := S.2.1 37) hx hb hK hP hD hS 37 0 mat_37 rfl hi13 dX9_tried_153 (fun H locs hP hD hS => ?_)
          replace hP := msetP_37 hP
          replace hD := msetD_37 hD
          refine lv_iinc (v := x9 + 1) (lv' := [(9, .int (x9 + 1)), (0, .ref (ad 0)), (2, .int a2), (8, .int x8)]) hx hb dX9_tried_154 hl (k := 3) rfl rfl (by decide) rfl (fun ls hl => ?_)
          refine lv_goto (tgt := 121) hx hb dX9_tried_157 (by decide) ?_
          rw [hB121] at hT
          exact hT _ _ _ hP hD hS (lv_sub hl [1, 2, 3, 0] rfl)
        · replace hT := hT.2 c12
          refine lv_aload_n hx hb dX9_tried_142 rfl (lv_at hl 0 rfl) ?_
          refine mg_names hx hb hts hown hK hP dX9_tried_143 ?_
          refine lv_iload hx hb dX9_tried_146 (lv_at hl 3 rfl) ?_
          obtain ⟨hi14, hT⟩ := hT
          refine va_iald (f := S.2.1 26) hx hb hK hP 26 0 mat_26 rfl hi14 dX9_tried_148 ?_
          refine lv_goto (tgt := 153) hx hb dX9_tried_149 (by decide) ?_
          obtain ⟨hi15, hT⟩ := hT
          refine va_iast (f := S.2.1 37) hx hb hK hP hD hS 37 0 mat_37 rfl hi15 dX9_tried_153 (fun H locs hP hD hS => ?_)
          replace hP := msetP_37 hP
          replace hD := msetD_37 hD
          refine lv_iinc (v := x9 + 1) (lv' := [(9, .int (x9 + 1)), (0, .ref (ad 0)), (2, .int a2), (8, .int x8)]) hx hb dX9_tried_154 hl (k := 3) rfl rfl (by decide) rfl (fun ls hl => ?_)
          refine lv_goto (tgt := 121) hx hb dX9_tried_157 (by decide) ?_
          rw [hB121] at hT
          exact hT _ _ _ hP hD hS (lv_sub hl [1, 2, 3, 0] rfl)
    · clear hP hD hS hl H locs ls
      intro S x8 x9 x10 x11 hT
      unfold mT_tried_169 at hT
      rw [hB169]
      intro H locs ls hP hD hS hl
      refine lv_iload hx hb dX9_tried_169 (lv_at hl 3 rfl) ?_
      refine lv_if_le (tgt := 538) hx hb dX9_tried_171 (by decide) (fun c16 => ?_) (fun c16 => ?_)
      · replace hT := hT.1 c16
        refine lv_iconst (v := 0) hx hb dX9_tried_538 (by decide) ?_
        refine lv_istore (lv' := [(12, .int 0), (0, .ref (ad 0)), (2, .int a2), (8, .int x8), (9, .int x9), (10, .int x10), (11, .int x11)]) hx hb dX9_tried_539 hl (by decide) rfl (fun ls hl => ?_)
        rw [hB541] at hT
        exact hT _ _ _ hP hD hS (lv_sub hl [1, 2, 3, 6, 0] rfl)
      · replace hT := hT.2 c16
        refine lv_iload hx hb dX9_tried_174 (lv_at hl 3 rfl) ?_
        refine lv_iconst (v := 1) hx hb dX9_tried_176 (by decide) ?_
        refine lv_isub hx hb dX9_tried_177 ?_
        refine lv_topi (fun v12_17 ev12_17 => ?_)
        replace hT := hT v12_17 ev12_17
        refine lv_istore (lv' := [(12, .int v12_17), (0, .ref (ad 0)), (2, .int a2), (8, .int x8), (9, .int x9), (10, .int x10), (11, .int x11)]) hx hb dX9_tried_178 hl (by decide) rfl (fun ls hl => ?_)
        refine lv_aload_n hx hb dX9_tried_180 rfl (lv_at hl 1 rfl) ?_
        refine mg_openStep hx hb hts hown hK hP dX9_tried_181 ?_
        refine lv_iload hx hb dX9_tried_184 (lv_at hl 0 rfl) ?_
        obtain ⟨hi18, hT⟩ := hT
        refine va_iald (f := S.2.1 36) hx hb hK hP 36 0 mat_36 rfl hi18 dX9_tried_186 ?_
        refine lv_aload_n hx hb dX9_tried_187 rfl (lv_at hl 1 rfl) ?_
        refine mg_stepMany hx hb hts hown hK hP dX9_tried_188 ?_
        refine lv_aload_n hx hb dX9_tried_191 rfl (lv_at hl 1 rfl) ?_
        refine mg_openScheme hx hb hts hown hK hP dX9_tried_192 ?_
        refine lv_iload hx hb dX9_tried_195 (lv_at hl 0 rfl) ?_
        obtain ⟨hi19, hT⟩ := hT
        refine va_iald (f := S.2.1 34) hx hb hK hP 34 0 mat_34 rfl hi19 dX9_tried_197 ?_
        obtain ⟨hi20, hT⟩ := hT
        refine va_iald (f := S.2.1 29) hx hb hK hP 29 0 mat_29 rfl hi20 dX9_tried_198 ?_
        refine lv_icmp_ne (tgt := 208) hx hb dX9_tried_199 (by decide) (fun c21 => ?_) (fun c21 => ?_)
        · replace hT := hT.1 c21
          refine lv_bipush (v := 8) hx hb dX9_tried_208 (by decide) ?_
          refine lv_aload_n hx hb dX9_tried_210 rfl (lv_at hl 1 rfl) ?_
          refine mg_openScheme hx hb hts hown hK hP dX9_tried_211 ?_
          refine lv_iload hx hb dX9_tried_214 (lv_at hl 0 rfl) ?_
          obtain ⟨hi22, hT⟩ := hT
          refine va_iald (f := S.2.1 34) hx hb hK hP 34 0 mat_34 rfl hi22 dX9_tried_216 ?_
          refine lv_imul hx hb dX9_tried_217 ?_
          refine lv_aload_n hx hb dX9_tried_218 rfl (lv_at hl 1 rfl) ?_
          refine mg_openStep hx hb hts hown hK hP dX9_tried_219 ?_
          refine lv_iload hx hb dX9_tried_222 (lv_at hl 0 rfl) ?_
          obtain ⟨hi23, hT⟩ := hT
          refine va_iald (f := S.2.1 36) hx hb hK hP 36 0 mat_36 rfl hi23 dX9_tried_224 ?_
          refine lv_iadd hx hb dX9_tried_225 ?_
          refine lv_topi (fun v13_24 ev13_24 => ?_)
          replace hT := hT v13_24 ev13_24
          refine lv_istore (lv' := [(13, .int v13_24), (12, .int v12_17), (0, .ref (ad 0)), (2, .int a2), (8, .int x8), (9, .int x9), (10, .int x10), (11, .int x11)]) hx hb dX9_tried_226 hl (by decide) rfl (fun ls hl => ?_)
          refine lv_aload_n hx hb dX9_tried_228 rfl (lv_at hl 2 rfl) ?_
          refine mg_openStep hx hb hts hown hK hP dX9_tried_229 ?_
          refine lv_iload hx hb dX9_tried_232 (lv_at hl 1 rfl) ?_
          refine lv_dup2_11 hx hb dX9_tried_234 rfl rfl ?_
          obtain ⟨hi25, hT⟩ := hT
          refine va_iald (f := S.2.1 36) hx hb hK hP 36 0 mat_36 rfl hi25 dX9_tried_235 ?_
          refine lv_iconst (v := 1) hx hb dX9_tried_236 (by decide) ?_
          refine lv_iadd hx hb dX9_tried_237 ?_
          obtain ⟨hi26, hT⟩ := hT
          refine va_iast (f := S.2.1 36) hx hb hK hP hD hS 36 0 mat_36 rfl hi26 dX9_tried_238 (fun H locs hP hD hS => ?_)
          replace hP := msetP_36 hP
          replace hD := msetD_36 hD
          refine lv_aload_n hx hb dX9_tried_239 rfl (lv_at hl 2 rfl) ?_
          refine mg_openHeight hx hb hts hown hK hP dX9_tried_240 ?_
          refine lv_iload hx hb dX9_tried_243 (lv_at hl 1 rfl) ?_
          obtain ⟨hi27, hT⟩ := hT
          refine va_iald (f := S.2.1 35) hx hb hK hP 35 0 mat_35 rfl hi27 dX9_tried_245 ?_
          refine lv_topi (fun v14_28 ev14_28 => ?_)
          replace hT := hT v14_28 ev14_28
          refine lv_istore (lv' := [(14, .int v14_28), (13, .int v13_24), (12, .int v12_17), (0, .ref (ad 0)), (2, .int a2), (8, .int x8), (9, .int x9), (10, .int x10), (11, .int x11)]) hx hb dX9_tried_246 hl (by decide) rfl (fun ls hl => ?_)
          refine lv_aload_n hx hb dX9_tried_248 rfl (lv_at hl 3 rfl) ?_
          refine mg_stepOf hx hb hts hown hK hP dX9_tried_249 ?_
          refine lv_iload hx hb dX9_tried_252 (lv_at hl 1 rfl) ?_
          obtain ⟨hi29, hT⟩ := hT
          refine va_iald (f := S.2.1 30) hx hb hK hP 30 0 mat_30 rfl hi29 dX9_tried_254 ?_
          refine lv_iconst (v := (-1)) hx hb dX9_tried_255 (by decide) ?_
          refine lv_icmp_eq (tgt := 274) hx hb dX9_tried_256 (by decide) (fun c30 => ?_) (fun c30 => ?_)
          · replace hT := hT.1 c30
            rw [hB274] at hT
            exact hT _ _ _ hP hD hS (lv_sub hl [3, 4, 5, 6, 7, 8, 2, 1, 0] rfl)
          · replace hT := hT.2 c30
            refine lv_iload hx hb dX9_tried_259 (lv_at hl 0 rfl) ?_
            refine lv_aload_n hx hb dX9_tried_261 rfl (lv_at hl 3 rfl) ?_
            refine mg_stepLess hx hb hts hown hK hP dX9_tried_262 ?_
            refine lv_iload hx hb dX9_tried_265 (lv_at hl 1 rfl) ?_
            obtain ⟨hi31, hT⟩ := hT
            refine va_iald (f := S.2.1 31) hx hb hK hP 31 0 mat_31 rfl hi31 dX9_tried_267 ?_
            refine lv_icmp_gt (tgt := 274) hx hb dX9_tried_268 (by decide) (fun c32 => ?_) (fun c32 => ?_)
            · replace hT := hT.1 c32
              rw [hB274] at hT
              exact hT _ _ _ hP hD hS (lv_sub hl [3, 4, 5, 6, 7, 8, 2, 1, 0] rfl)
            · replace hT := hT.2 c32
              refine lv_goto (tgt := 169) hx hb dX9_tried_271 (by decide) ?_
              rw [hB169] at hT
              exact hT _ _ _ hP hD hS (lv_sub hl [3, 4, 5, 6, 7, 8] rfl)
        · replace hT := hT.2 c21
          refine lv_iinc (v := x9 + (-1)) (lv' := [(9, .int (x9 + (-1))), (12, .int v12_17), (0, .ref (ad 0)), (2, .int a2), (8, .int x8), (10, .int x10), (11, .int x11)]) hx hb dX9_tried_202 hl (k := 4) rfl rfl (by decide) rfl (fun ls hl => ?_)
          refine lv_goto (tgt := 169) hx hb dX9_tried_205 (by decide) ?_
          rw [hB169] at hT
          exact hT _ _ _ hP hD hS (lv_sub hl [2, 3, 4, 0, 5, 6] rfl)
    · clear hP hD hS hl H locs ls
      intro S x8 x9 x10 x11 x12 x13 x14 hT
      unfold mT_tried_274 at hT
      rw [hB274]
      intro H locs ls hP hD hS hl
      refine lv_iload hx hb dX9_tried_274 (lv_at hl 4 rfl) ?_
      refine lv_sipush (v := 5000) hx hb dX9_tried_276 (by decide) ?_
      refine lv_icmp_ne (tgt := 285) hx hb dX9_tried_279 (by decide) (fun c33 => ?_) (fun c33 => ?_)
      · replace hT := hT.1 c33
        refine lv_iinc (v := x10 + 1) (lv' := [(10, .int (x10 + 1)), (0, .ref (ad 0)), (2, .int a2), (8, .int x8), (9, .int x9), (11, .int x11), (12, .int x12), (13, .int x13), (14, .int x14)]) hx hb dX9_tried_285 hl (k := 4) rfl rfl (by decide) rfl (fun ls hl => ?_)
        refine lv_aload_n hx hb dX9_tried_288 rfl (lv_at hl 1 rfl) ?_
        refine mg_stepOf hx hb hts hown hK hP dX9_tried_289 ?_
        refine lv_iload hx hb dX9_tried_292 (lv_at hl 7 rfl) ?_
        obtain ⟨hi34, hT⟩ := hT
        refine va_iald (f := S.2.1 30) hx hb hK hP 30 0 mat_30 rfl hi34 dX9_tried_294 ?_
        refine lv_iconst (v := (-1)) hx hb dX9_tried_295 (by decide) ?_
        refine lv_icmp_eq (tgt := 393) hx hb dX9_tried_296 (by decide) (fun c35 => ?_) (fun c35 => ?_)
        · replace hT := hT.1 c35
          refine lv_aload_n hx hb dX9_tried_393 rfl (lv_at hl 1 rfl) ?_
          refine mg_openPegs hx hb hts hown hK hP dX9_tried_394 ?_
          refine lv_iconst (v := 5) hx hb dX9_tried_397 (by decide) ?_
          refine lv_iload hx hb dX9_tried_398 (lv_at hl 6 rfl) ?_
          refine lv_imul hx hb dX9_tried_400 ?_
          refine lv_aload_n hx hb dX9_tried_401 rfl (lv_at hl 1 rfl) ?_
          refine mg_stepRoles hx hb hts hown hK hP dX9_tried_402 ?_
          refine lv_iconst (v := 5) hx hb dX9_tried_405 (by decide) ?_
          refine lv_iload hx hb dX9_tried_406 (lv_at hl 7 rfl) ?_
          refine lv_imul hx hb dX9_tried_408 ?_
          obtain ⟨hi36, hT⟩ := hT
          refine va_iald (f := S.2.1 32) hx hb hK hP 32 0 mat_32 rfl hi36 dX9_tried_409 ?_
          refine lv_iadd hx hb dX9_tried_410 ?_
          obtain ⟨hi37, hT⟩ := hT
          refine va_iald (f := S.2.1 37) hx hb hK hP 37 0 mat_37 rfl hi37 dX9_tried_411 ?_
          refine lv_topi (fun v15_38 ev15_38 => ?_)
          replace hT := hT v15_38 ev15_38
          refine lv_istore (lv' := [(15, .int v15_38), (10, .int (x10 + 1)), (0, .ref (ad 0)), (2, .int a2), (8, .int x8), (9, .int x9), (11, .int x11), (12, .int x12), (13, .int x13), (14, .int x14)]) hx hb dX9_tried_412 hl (by decide) rfl (fun ls hl => ?_)
          refine lv_aload_n hx hb dX9_tried_414 rfl (lv_at hl 2 rfl) ?_
          refine mg_openPegs hx hb hts hown hK hP dX9_tried_415 ?_
          refine lv_iconst (v := 5) hx hb dX9_tried_418 (by decide) ?_
          refine lv_iload hx hb dX9_tried_419 (lv_at hl 7 rfl) ?_
          refine lv_imul hx hb dX9_tried_421 ?_
          refine lv_aload_n hx hb dX9_tried_422 rfl (lv_at hl 2 rfl) ?_
          refine mg_stepRoles hx hb hts hown hK hP dX9_tried_423 ?_
          refine lv_iconst (v := 5) hx hb dX9_tried_426 (by decide) ?_
          refine lv_iload hx hb dX9_tried_427 (lv_at hl 8 rfl) ?_
          refine lv_imul hx hb dX9_tried_429 ?_
          refine lv_iconst (v := 1) hx hb dX9_tried_430 (by decide) ?_
          refine lv_iadd hx hb dX9_tried_431 ?_
          obtain ⟨hi39, hT⟩ := hT
          refine va_iald (f := S.2.1 32) hx hb hK hP 32 0 mat_32 rfl hi39 dX9_tried_432 ?_
          refine lv_iadd hx hb dX9_tried_433 ?_
          obtain ⟨hi40, hT⟩ := hT
          refine va_iald (f := S.2.1 37) hx hb hK hP 37 0 mat_37 rfl hi40 dX9_tried_434 ?_
          refine lv_topi (fun v16_41 ev16_41 => ?_)
          replace hT := hT v16_41 ev16_41
          refine lv_istore (lv' := [(16, .int v16_41), (15, .int v15_38), (10, .int (x10 + 1)), (0, .ref (ad 0)), (2, .int a2), (8, .int x8), (9, .int x9), (11, .int x11), (12, .int x12), (13, .int x13), (14, .int x14)]) hx hb dX9_tried_435 hl (by decide) rfl (fun ls hl => ?_)
          refine lv_iload hx hb dX9_tried_437 (lv_at hl 1 rfl) ?_
          refine lv_iconst (v := (-1)) hx hb dX9_tried_439 (by decide) ?_
          refine lv_icmp_eq (tgt := 504) hx hb dX9_tried_440 (by decide) (fun c42 => ?_) (fun c42 => ?_)
          · replace hT := hT.1 c42
            rw [hB504] at hT
            exact hT _ _ _ hP hD hS (lv_sub hl [3, 4, 5, 6, 2, 7, 10, 0] rfl)
          · replace hT := hT.2 c42
            refine lv_iload hx hb dX9_tried_443 (lv_at hl 0 rfl) ?_
            refine lv_iconst (v := (-1)) hx hb dX9_tried_445 (by decide) ?_
            refine lv_icmp_eq (tgt := 504) hx hb dX9_tried_446 (by decide) (fun c43 => ?_) (fun c43 => ?_)
            · replace hT := hT.1 c43
              rw [hB504] at hT
              exact hT _ _ _ hP hD hS (lv_sub hl [3, 4, 5, 6, 2, 7, 10, 0] rfl)
            · replace hT := hT.2 c43
              refine lv_aload_n hx hb dX9_tried_449 rfl (lv_at hl 3 rfl) ?_
              refine lv_aload_n hx hb dX9_tried_450 rfl (lv_at hl 3 rfl) ?_
              refine mg_at hx hb hts hown hK hP dX9_tried_451 ?_
              refine lv_iload hx hb dX9_tried_454 (lv_at hl 1 rfl) ?_
              refine mcallI (n := 2) (rest := []) hT hx hb hml hown hts hK hA hP hD hS hl gg_153 hd_X9_top ⟨Nat.le_of_ble_eq_true rfl, Nat.le_of_ble_eq_true rfl⟩ rfl rfl (Nat.le_of_ble_eq_true rfl) dX9_tried_456 (Nat.zero_le _) (Nat.zero_le _) (fun r45 S44 H locs hP hD hS hT => ?_)
              refine lv_iload hx hb dX9_tried_459 (lv_at hl 10 rfl) ?_
              refine lv_iconst (v := 1) hx hb dX9_tried_461 (by decide) ?_
              refine lv_isub hx hb dX9_tried_462 ?_
              refine lv_icmp_ne (tgt := 504) hx hb dX9_tried_463 (by decide) (fun c46 => ?_) (fun c46 => ?_)
              · replace hT := hT.1 c46
                rw [hB504] at hT
                exact hT _ _ _ hP hD hS (lv_sub hl [3, 4, 5, 6, 2, 7, 10, 0] rfl)
              · replace hT := hT.2 c46
                refine lv_aload_n hx hb dX9_tried_466 rfl (lv_at hl 3 rfl) ?_
                refine lv_aload_n hx hb dX9_tried_467 rfl (lv_at hl 3 rfl) ?_
                refine mg_at hx hb hts hown hK hP dX9_tried_468 ?_
                refine lv_iload hx hb dX9_tried_471 (lv_at hl 10 rfl) ?_
                refine lv_iconst (v := 1) hx hb dX9_tried_473 (by decide) ?_
                refine lv_isub hx hb dX9_tried_474 ?_
                refine mcallI (n := 2) (rest := []) hT hx hb hml hown hts hK hA hP hD hS hl gg_156 hd_X9_packOf ⟨Nat.le_of_ble_eq_true rfl, Nat.le_of_ble_eq_true rfl⟩ rfl rfl (Nat.le_of_ble_eq_true rfl) dX9_tried_475 (Nat.zero_le _) (Nat.zero_le _) (fun r48 S47 H locs hP hD hS hT => ?_)
                refine lv_iload hx hb dX9_tried_478 (lv_at hl 10 rfl) ?_
                refine lv_iconst (v := 1) hx hb dX9_tried_480 (by decide) ?_
                refine lv_isub hx hb dX9_tried_481 ?_
                refine lv_icmp_ne (tgt := 504) hx hb dX9_tried_482 (by decide) (fun c49 => ?_) (fun c49 => ?_)
                · replace hT := hT.1 c49
                  rw [hB504] at hT
                  exact hT _ _ _ hP hD hS (lv_sub hl [3, 4, 5, 6, 2, 7, 10, 0] rfl)
                · replace hT := hT.2 c49
                  refine lv_aload_n hx hb dX9_tried_485 rfl (lv_at hl 3 rfl) ?_
                  refine lv_aload_n hx hb dX9_tried_486 rfl (lv_at hl 3 rfl) ?_
                  refine mg_at hx hb hts hown hK hP dX9_tried_487 ?_
                  refine lv_iload hx hb dX9_tried_490 (lv_at hl 1 rfl) ?_
                  refine lv_iload hx hb dX9_tried_492 (lv_at hl 0 rfl) ?_
                  refine mcallI (n := 3) (rest := []) hT hx hb hml hown hts hK hA hP hD hS hl gg_188 hd_X9_whyOf ⟨Nat.le_of_ble_eq_true rfl, Nat.le_of_ble_eq_true rfl⟩ rfl rfl (Nat.le_of_ble_eq_true rfl) dX9_tried_494 (Nat.zero_le _) (Nat.zero_le _) (fun r51 S50 H locs hP hD hS hT => ?_)
                  refine lv_if_ne (tgt := 504) hx hb dX9_tried_497 (by decide) (fun c52 => ?_) (fun c52 => ?_)
                  · replace hT := hT.1 c52
                    rw [hB504] at hT
                    exact hT _ _ _ hP hD hS (lv_sub hl [3, 4, 5, 6, 2, 7, 10, 0] rfl)
                  · replace hT := hT.2 c52
                    refine lv_iconst (v := 1) hx hb dX9_tried_500 (by decide) ?_
                    refine lv_goto (tgt := 505) hx hb dX9_tried_501 (by decide) ?_
                    refine lv_istore (lv' := [(17, .int 1), (16, .int v16_41), (15, .int v15_38), (10, .int (x10 + 1)), (0, .ref (ad 0)), (2, .int a2), (8, .int x8), (9, .int x9), (11, .int x11), (12, .int x12), (13, .int x13), (14, .int x14)]) hx hb dX9_tried_505 hl (by decide) rfl (fun ls hl => ?_)
                    refine lv_iload hx hb dX9_tried_507 (lv_at hl 0 rfl) ?_
                    refine lv_if_ne (tgt := 521) hx hb dX9_tried_509 (by decide) (fun c53 => ?_) (fun c53 => ?_)
                    · replace hT := hT.1 c53
                      refine lv_aload_n hx hb dX9_tried_521 rfl (lv_at hl 4 rfl) ?_
                      refine mg_at hx hb hts hown hK hP dX9_tried_522 ?_
                      refine lv_iload hx hb dX9_tried_525 (lv_at hl 11 rfl) ?_
                      refine lv_iconst (v := 1) hx hb dX9_tried_527 (by decide) ?_
                      refine lv_isub hx hb dX9_tried_528 ?_
                      refine lv_iload hx hb dX9_tried_529 (lv_at hl 1 rfl) ?_
                      obtain ⟨hi54, hT⟩ := hT
                      refine va_iast (f := S50.2.1 8) hx hb hK hP hD hS 8 0 mat_8 rfl hi54 dX9_tried_531 (fun H locs hP hD hS => ?_)
                      replace hP := msetP_8 hP
                      replace hD := msetD_8 hD
                      refine lv_iinc (v := x11 + 1) (lv' := [(11, .int (x11 + 1)), (17, .int 1), (16, .int v16_41), (15, .int v15_38), (10, .int (x10 + 1)), (0, .ref (ad 0)), (2, .int a2), (8, .int x8), (9, .int x9), (12, .int x12), (13, .int x13), (14, .int x14)]) hx hb dX9_tried_532 hl (k := 8) rfl rfl (by decide) rfl (fun ls hl => ?_)
                      refine lv_goto (tgt := 169) hx hb dX9_tried_535 (by decide) ?_
                      rw [hB169] at hT
                      exact hT _ _ _ hP hD hS (lv_sub hl [5, 6, 7, 8, 4, 0] rfl)
                    · replace hT := hT.2 c53
                      refine lv_aload_n hx hb dX9_tried_512 rfl (lv_at hl 4 rfl) ?_
                      refine lv_iload hx hb dX9_tried_513 (lv_at hl 8 rfl) ?_
                      refine mp_failedMove hx hb hts hown hK hP hD hS dX9_tried_515 (fun H locs hP hD hS => ?_)
                      refine lv_bipush (v := (-2)) hx hb dX9_tried_518 (by decide) ?_
                      exact hret _ _ _ _ _ _ hP hD hS hT dX9_tried_520
        · replace hT := hT.2 c35
          refine lv_aload_n hx hb dX9_tried_299 rfl (lv_at hl 1 rfl) ?_
          refine mg_openScheme hx hb hts hown hK hP dX9_tried_300 ?_
          refine lv_iload hx hb dX9_tried_303 (lv_at hl 4 rfl) ?_
          refine lv_aload_n hx hb dX9_tried_305 rfl (lv_at hl 1 rfl) ?_
          refine mg_stepOf hx hb hts hown hK hP dX9_tried_306 ?_
          refine lv_iload hx hb dX9_tried_309 (lv_at hl 7 rfl) ?_
          obtain ⟨hi55, hT⟩ := hT
          refine va_iald (f := S.2.1 30) hx hb hK hP 30 0 mat_30 rfl hi55 dX9_tried_311 ?_
          obtain ⟨hi56, hT⟩ := hT
          refine va_iast (f := S.2.1 34) hx hb hK hP hD hS 34 0 mat_34 rfl hi56 dX9_tried_312 (fun H locs hP hD hS => ?_)
          replace hP := msetP_34 hP
          replace hD := msetD_34 hD
          refine lv_aload_n hx hb dX9_tried_313 rfl (lv_at hl 1 rfl) ?_
          refine mg_openHeight hx hb hts hown hK hP dX9_tried_314 ?_
          refine lv_iload hx hb dX9_tried_317 (lv_at hl 4 rfl) ?_
          refine lv_iload hx hb dX9_tried_319 (lv_at hl 8 rfl) ?_
          refine lv_aload_n hx hb dX9_tried_321 rfl (lv_at hl 1 rfl) ?_
          refine mg_stepLess hx hb hts hown hK hP dX9_tried_322 ?_
          refine lv_iload hx hb dX9_tried_325 (lv_at hl 7 rfl) ?_
          obtain ⟨hi57, hT⟩ := hT
          refine va_iald (f := S.2.1 31) hx hb hK hP 31 0 mat_31 rfl hi57 dX9_tried_327 ?_
          refine lv_isub hx hb dX9_tried_328 ?_
          obtain ⟨hi58, hT⟩ := hT
          refine va_iast (f := S.2.1 35) hx hb hK hP hD hS 35 0 mat_35 rfl hi58 dX9_tried_329 (fun H locs hP hD hS => ?_)
          replace hP := msetP_35 hP
          replace hD := msetD_35 hD
          refine lv_aload_n hx hb dX9_tried_330 rfl (lv_at hl 1 rfl) ?_
          refine mg_openStep hx hb hts hown hK hP dX9_tried_331 ?_
          refine lv_iload hx hb dX9_tried_334 (lv_at hl 4 rfl) ?_
          refine lv_iconst (v := 0) hx hb dX9_tried_336 (by decide) ?_
          obtain ⟨hi59, hT⟩ := hT
          refine va_iast (f := S.2.1 36) hx hb hK hP hD hS 36 0 mat_36 rfl hi59 dX9_tried_337 (fun H locs hP hD hS => ?_)
          replace hP := msetP_36 hP
          replace hD := msetD_36 hD
          refine lv_iconst (v := 0) hx hb dX9_tried_338 (by decide) ?_
          refine lv_istore (lv' := [(15, .int 0), (10, .int (x10 + 1)), (0, .ref (ad 0)), (2, .int a2), (8, .int x8), (9, .int x9), (11, .int x11), (12, .int x12), (13, .int x13), (14, .int x14)]) hx hb dX9_tried_339 hl (by decide) rfl (fun ls hl => ?_)
          rw [hB341] at hT
          exact hT _ _ _ hP hD hS (lv_sub hl [2, 3, 4, 5, 1, 6, 7, 8, 0] rfl)
      · replace hT := hT.2 c33
        refine lv_bipush (v := (-4)) hx hb dX9_tried_282 (by decide) ?_
        exact hret _ _ _ _ _ _ hP hD hS hT dX9_tried_284
    · clear hP hD hS hl H locs ls
      intro S x8 x9 x10 x11 x12 x13 x15 hT
      unfold mT_tried_341 at hT
      rw [hB341]
      intro H locs ls hP hD hS hl
      refine lv_iload hx hb dX9_tried_341 (lv_at hl 8 rfl) ?_
      refine lv_iconst (v := 5) hx hb dX9_tried_343 (by decide) ?_
      refine lv_icmp_ge (tgt := 387) hx hb dX9_tried_344 (by decide) (fun c60 => ?_) (fun c60 => ?_)
      · replace hT := hT.1 c60
        refine lv_iinc (v := x9 + 1) (lv' := [(9, .int (x9 + 1)), (0, .ref (ad 0)), (2, .int a2), (8, .int x8), (10, .int x10), (11, .int x11), (12, .int x12), (13, .int x13), (15, .int x15)]) hx hb dX9_tried_387 hl (k := 3) rfl rfl (by decide) rfl (fun ls hl => ?_)
        refine lv_goto (tgt := 169) hx hb dX9_tried_390 (by decide) ?_
        rw [hB169] at hT
        exact hT _ _ _ hP hD hS (lv_sub hl [1, 2, 3, 0, 4, 5] rfl)
      · replace hT := hT.2 c60
        refine lv_aload_n hx hb dX9_tried_347 rfl (lv_at hl 0 rfl) ?_
        refine mg_openPegs hx hb hts hown hK hP dX9_tried_348 ?_
        refine lv_iconst (v := 5) hx hb dX9_tried_351 (by decide) ?_
        refine lv_iload hx hb dX9_tried_352 (lv_at hl 3 rfl) ?_
        refine lv_imul hx hb dX9_tried_354 ?_
        refine lv_iload hx hb dX9_tried_355 (lv_at hl 8 rfl) ?_
        refine lv_iadd hx hb dX9_tried_357 ?_
        refine lv_aload_n hx hb dX9_tried_358 rfl (lv_at hl 0 rfl) ?_
        refine mg_openPegs hx hb hts hown hK hP dX9_tried_359 ?_
        refine lv_iconst (v := 5) hx hb dX9_tried_362 (by decide) ?_
        refine lv_iload hx hb dX9_tried_363 (lv_at hl 6 rfl) ?_
        refine lv_imul hx hb dX9_tried_365 ?_
        refine lv_aload_n hx hb dX9_tried_366 rfl (lv_at hl 0 rfl) ?_
        refine mg_stepRoles hx hb hts hown hK hP dX9_tried_367 ?_
        refine lv_iconst (v := 5) hx hb dX9_tried_370 (by decide) ?_
        refine lv_iload hx hb dX9_tried_371 (lv_at hl 7 rfl) ?_
        refine lv_imul hx hb dX9_tried_373 ?_
        refine lv_iload hx hb dX9_tried_374 (lv_at hl 8 rfl) ?_
        refine lv_iadd hx hb dX9_tried_376 ?_
        obtain ⟨hi61, hT⟩ := hT
        refine va_iald (f := S.2.1 32) hx hb hK hP 32 0 mat_32 rfl hi61 dX9_tried_377 ?_
        refine lv_iadd hx hb dX9_tried_378 ?_
        obtain ⟨hi62, hT⟩ := hT
        refine va_iald (f := S.2.1 37) hx hb hK hP 37 0 mat_37 rfl hi62 dX9_tried_379 ?_
        obtain ⟨hi63, hT⟩ := hT
        refine va_iast (f := S.2.1 37) hx hb hK hP hD hS 37 0 mat_37 rfl hi63 dX9_tried_380 (fun H locs hP hD hS => ?_)
        replace hP := msetP_37 hP
        replace hD := msetD_37 hD
        refine lv_iinc (v := x15 + 1) (lv' := [(15, .int (x15 + 1)), (0, .ref (ad 0)), (2, .int a2), (8, .int x8), (9, .int x9), (10, .int x10), (11, .int x11), (12, .int x12), (13, .int x13)]) hx hb dX9_tried_381 hl (k := 8) rfl rfl (by decide) rfl (fun ls hl => ?_)
        refine lv_goto (tgt := 341) hx hb dX9_tried_384 (by decide) ?_
        rw [hB341] at hT
        exact hT _ _ _ hP hD hS (lv_sub hl [1, 2, 3, 4, 5, 6, 7, 8, 0] rfl)
    · clear hP hD hS hl H locs ls
      intro S x8 x9 x10 x11 x14 x16 hT
      unfold mT_tried_504 at hT
      rw [hB504]
      intro H locs ls hP hD hS hl
      refine lv_iconst (v := 0) hx hb dX9_tried_504 (by decide) ?_
      refine lv_istore (lv' := [(17, .int 0), (0, .ref (ad 0)), (2, .int a2), (8, .int x8), (9, .int x9), (10, .int x10), (11, .int x11), (14, .int x14), (16, .int x16)]) hx hb dX9_tried_505 hl (by decide) rfl (fun ls hl => ?_)
      refine lv_iload hx hb dX9_tried_507 (lv_at hl 0 rfl) ?_
      refine lv_if_ne (tgt := 521) hx hb dX9_tried_509 (by decide) (fun c64 => ?_) (fun c64 => ?_)
      · replace hT := hT.1 c64
        refine lv_aload_n hx hb dX9_tried_521 rfl (lv_at hl 1 rfl) ?_
        refine mg_at hx hb hts hown hK hP dX9_tried_522 ?_
        refine lv_iload hx hb dX9_tried_525 (lv_at hl 7 rfl) ?_
        refine lv_iconst (v := 1) hx hb dX9_tried_527 (by decide) ?_
        refine lv_isub hx hb dX9_tried_528 ?_
        refine lv_iload hx hb dX9_tried_529 (lv_at hl 8 rfl) ?_
        obtain ⟨hi65, hT⟩ := hT
        refine va_iast (f := S.2.1 8) hx hb hK hP hD hS 8 0 mat_8 rfl hi65 dX9_tried_531 (fun H locs hP hD hS => ?_)
        replace hP := msetP_8 hP
        replace hD := msetD_8 hD
        refine lv_iinc (v := x11 + 1) (lv' := [(11, .int (x11 + 1)), (17, .int 0), (0, .ref (ad 0)), (2, .int a2), (8, .int x8), (9, .int x9), (10, .int x10), (14, .int x14), (16, .int x16)]) hx hb dX9_tried_532 hl (k := 6) rfl rfl (by decide) rfl (fun ls hl => ?_)
        refine lv_goto (tgt := 169) hx hb dX9_tried_535 (by decide) ?_
        rw [hB169] at hT
        exact hT _ _ _ hP hD hS (lv_sub hl [2, 3, 4, 5, 6, 0] rfl)
      · replace hT := hT.2 c64
        refine lv_aload_n hx hb dX9_tried_512 rfl (lv_at hl 1 rfl) ?_
        refine lv_iload hx hb dX9_tried_513 (lv_at hl 6 rfl) ?_
        refine mp_failedMove hx hb hts hown hK hP hD hS dX9_tried_515 (fun H locs hP hD hS => ?_)
        refine lv_bipush (v := (-2)) hx hb dX9_tried_518 (by decide) ?_
        exact hret _ _ _ _ _ _ hP hD hS hT dX9_tried_520
    · clear hP hD hS hl H locs ls
      intro S x8 x11 x12 hT
      unfold mT_tried_541 at hT
      rw [hB541]
      intro H locs ls hP hD hS hl
      refine lv_iload hx hb dX9_tried_541 (lv_at hl 4 rfl) ?_
      refine lv_iload_n hx hb dX9_tried_543 rfl (lv_at hl 1 rfl) ?_
      refine lv_icmp_ge (tgt := 568) hx hb dX9_tried_544 (by decide) (fun c66 => ?_) (fun c66 => ?_)
      · replace hT := hT.1 c66
        refine lv_iload hx hb dX9_tried_568 (lv_at hl 3 rfl) ?_
        exact hret _ _ _ _ _ _ hP hD hS hT dX9_tried_570
      · replace hT := hT.2 c66
        refine lv_aload_n hx hb dX9_tried_547 rfl (lv_at hl 0 rfl) ?_
        refine mg_at hx hb hts hown hK hP dX9_tried_548 ?_
        refine lv_iload hx hb dX9_tried_551 (lv_at hl 4 rfl) ?_
        obtain ⟨hi67, hT⟩ := hT
        refine va_iald (f := S.2.1 8) hx hb hK hP 8 0 mat_8 rfl hi67 dX9_tried_553 ?_
        refine lv_iload hx hb dX9_tried_554 (lv_at hl 2 rfl) ?_
        refine lv_icmp_eq (tgt := 562) hx hb dX9_tried_556 (by decide) (fun c68 => ?_) (fun c68 => ?_)
        · replace hT := hT.1 c68
          refine lv_iinc (v := x12 + 1) (lv' := [(12, .int (x12 + 1)), (0, .ref (ad 0)), (2, .int a2), (8, .int x8), (11, .int x11)]) hx hb dX9_tried_562 hl (k := 4) rfl rfl (by decide) rfl (fun ls hl => ?_)
          refine lv_goto (tgt := 541) hx hb dX9_tried_565 (by decide) ?_
          rw [hB541] at hT
          exact hT _ _ _ hP hD hS (lv_sub hl [1, 2, 3, 4, 0] rfl)
        · replace hT := hT.2 c68
          refine lv_bipush (v := (-3)) hx hb dX9_tried_559 (by decide) ?_
          exact hret _ _ _ _ _ _ hP hD hS hT dX9_tried_561
  unfold mT_tried_e at hT
  refine lv_aload_n hx hb dX9_tried_0 rfl (lv_at hl 0 rfl) ?_
  refine lv_iconst (v := 0) hx hb dX9_tried_1 (by decide) ?_
  refine mp_thrown hx hb hts hown hK hP hD hS dX9_tried_2 (fun H locs hP hD hS => ?_)
  refine lv_aload_n hx hb dX9_tried_5 rfl (lv_at hl 0 rfl) ?_
  refine lv_iload_n hx hb dX9_tried_6 rfl (lv_at hl 1 rfl) ?_
  refine mcallZ (n := 1) (rest := []) hT hx hb hml hown hts hK hA hP hD hS hl gg_242 hd_X9_isScheme ⟨Nat.le_of_ble_eq_true rfl, Nat.le_of_ble_eq_true rfl⟩ rfl rfl (Nat.le_of_ble_eq_true rfl) dX9_tried_7 (Nat.zero_le _) (Nat.zero_le _) (fun b70 S69 H locs hP hD hS hT => ?_)
  refine lv_if_eq (tgt := 42) hx hb dX9_tried_10 (by decide) (fun c71 => ?_) (fun c71 => ?_)
  · replace hT := hT.1 c71
    rw [hB42] at hT
    exact hT _ _ _ hP hD hS (lv_sub hl [0] rfl)
  · replace hT := hT.2 c71
    refine lv_aload_n hx hb dX9_tried_13 rfl (lv_at hl 0 rfl) ?_
    refine lv_iload_n hx hb dX9_tried_14 rfl (lv_at hl 2 rfl) ?_
    refine lv_iconst (v := 1) hx hb dX9_tried_15 (by decide) ?_
    refine lv_aload_n hx hb dX9_tried_16 rfl (lv_at hl 0 rfl) ?_
    refine mg_discs (v := S69.1 1) hx hb hts hown hK hP rfl dX9_tried_17 ?_
    refine mcallZ (n := 3) (rest := []) hT hx hb hml hown hts hK hA hP hD hS hl gg_139 hd_X9_in ⟨Nat.le_of_ble_eq_true rfl, Nat.le_of_ble_eq_true rfl⟩ rfl rfl (Nat.le_of_ble_eq_true rfl) dX9_tried_20 (Nat.zero_le _) (Nat.zero_le _) (fun b73 S72 H locs hP hD hS hT => ?_)
    refine lv_if_eq (tgt := 42) hx hb dX9_tried_23 (by decide) (fun c74 => ?_) (fun c74 => ?_)
    · replace hT := hT.1 c74
      rw [hB42] at hT
      exact hT _ _ _ hP hD hS (lv_sub hl [0] rfl)
    · replace hT := hT.2 c74
      refine lv_aload_n hx hb dX9_tried_26 rfl (lv_at hl 0 rfl) ?_
      refine lv_iload_n hx hb dX9_tried_27 rfl (lv_at hl 3 rfl) ?_
      refine lv_iload hx hb dX9_tried_28 (lv_at hl 4 rfl) ?_
      refine lv_iload hx hb dX9_tried_30 (lv_at hl 5 rfl) ?_
      refine lv_iload hx hb dX9_tried_32 (lv_at hl 6 rfl) ?_
      refine lv_iload hx hb dX9_tried_34 (lv_at hl 7 rfl) ?_
      refine mcallZ (n := 5) (rest := []) hT hx hb hml hown hts hK hA hP hD hS hl gg_235 hd_X9_areNames ⟨Nat.le_of_ble_eq_true rfl, Nat.le_of_ble_eq_true rfl⟩ rfl rfl (Nat.le_of_ble_eq_true rfl) dX9_tried_36 (Nat.zero_le _) (Nat.zero_le _) (fun b76 S75 H locs hP hD hS hT => ?_)
      refine lv_if_ne (tgt := 48) hx hb dX9_tried_39 (by decide) (fun c77 => ?_) (fun c77 => ?_)
      · replace hT := hT.1 c77
        refine lv_aload_n hx hb dX9_tried_48 rfl (lv_at hl 0 rfl) ?_
        refine lv_iconst (v := 0) hx hb dX9_tried_49 (by decide) ?_
        refine mp_trouble hx hb hts hown hK hP hD hS dX9_tried_50 (fun H locs hP hD hS => ?_)
        refine lv_aload_n hx hb dX9_tried_53 rfl (lv_at hl 0 rfl) ?_
        refine lv_iconst (v := (-1)) hx hb dX9_tried_54 (by decide) ?_
        refine mp_failedMove hx hb hts hown hK hP hD hS dX9_tried_55 (fun H locs hP hD hS => ?_)
        refine lv_iconst (v := 0) hx hb dX9_tried_58 (by decide) ?_
        refine lv_istore (lv' := [(8, .int 0), (0, .ref (ad 0)), (1, .int a1), (2, .int a2), (3, .int a3), (4, .int a4), (5, .int a5), (6, .int a6), (7, .int a7)]) hx hb dX9_tried_59 hl (by decide) rfl (fun ls hl => ?_)
        rw [hB61] at hT
        exact hT _ _ _ hP hD hS (lv_sub hl [1, 2, 3, 0] rfl)
      · replace hT := hT.2 c77
        rw [hB42] at hT
        exact hT _ _ _ hP hD hS (lv_sub hl [0] rfl)
