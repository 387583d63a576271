abbrev mX_whyOf (l : Launch) (S : MS) (k1 : Nat) (a2 : Int32) (a3 : Int32) (post : Int32 → MS → Prop) : Prop := mCtI l yX9_whyOf cX9_whyOf 7 1 23 (fun ad => [.ref (ad k1), .int a2, .int a3]) S post
def mT_whyOf_62 (l : Launch) (k1 : Nat) (a2 : Int32) (a3 : Int32) (post : Int32 → MS → Prop) (B62 : MS → Int32 → Prop) (B77 : MS → Int32 → Prop) (S : MS) (x5 : Int32) : Prop := vp_in ((5 * a2) + a3) 25 ∧ (¬ S.2.1 5 ((5 * a2) + a3).toNatClampNeg = 0 → B77 S x5) ∧ (S.2.1 5 ((5 * a2) + a3).toNatClampNeg = 0 → post 3 S)
def mT_whyOf_77 (l : Launch) (k1 : Nat) (a2 : Int32) (a3 : Int32) (post : Int32 → MS → Prop) (B62 : MS → Int32 → Prop) (B77 : MS → Int32 → Prop) (S : MS) (x5 : Int32) : Prop := mX_top l S k1 a3 (fun r4 S3 => (¬ r4 = (-1) → (x5 ≤ r4 → vp_in r4 7 ∧ (¬ S3.2.1 1 r4.toNatClampNeg = 2 → post 0 S3) ∧ (S3.2.1 1 r4.toNatClampNeg = 2 → vp_in x5 7 ∧ (S3.2.1 1 x5.toNatClampNeg = 2 → post 0 S3) ∧ (¬ S3.2.1 1 x5.toNatClampNeg = 2 → post 5 S3))) ∧ (¬ x5 ≤ r4 → post 4 S3)) ∧ (r4 = (-1) → post 0 S3))
def mT_whyOf_e (l : Launch) (k1 : Nat) (a2 : Int32) (a3 : Int32) (post : Int32 → MS → Prop) (B62 : MS → Int32 → Prop) (B77 : MS → Int32 → Prop) (S0 : MS) : Prop := vp_in ((5 * a2) + a3) 25 ∧ (¬ S0.2.1 4 ((5 * a2) + a3).toNatClampNeg = 0 → mX_top l S0 k1 a2 (fun r14 S13 => (¬ r14 = (-1) → mX_packOf l S13 k1 r14 (fun r17 S16 => vp_in r14 7 ∧ (S16.2.1 1 r14.toNatClampNeg = 1 → B62 S16 r17) ∧ (¬ S16.2.1 1 r14.toNatClampNeg = 1 → vp_in r14 7 ∧ (¬ S16.2.1 1 r14.toNatClampNeg = 2 → B77 S16 r17) ∧ (S16.2.1 1 r14.toNatClampNeg = 2 → B62 S16 r17)))) ∧ (r14 = (-1) → post 2 S13))) ∧ (S0.2.1 4 ((5 * a2) + a3).toNatClampNeg = 0 → post 1 S0)
set_option maxHeartbeats 4000000 in
set_option maxRecDepth 100000 in
theorem m_whyOf (l : Launch) (S0 : MS) (k1 : Nat) (a2 : Int32) (a3 : Int32) (hk1 : m7 k1) (post : Int32 → MS → Prop) (h : ∀ (B62 : MS → Int32 → Prop) (B77 : MS → Int32 → Prop), (∀ (S : MS) (x5 : Int32), mT_whyOf_62 l k1 a2 a3 post B62 B77 S x5 → B62 S x5) → (∀ (S : MS) (x5 : Int32), mT_whyOf_77 l k1 a2 a3 post B62 B77 S x5 → B77 S x5) → mT_whyOf_e l k1 a2 a3 post B62 B77 S0) : mX_whyOf l S0 k1 a2 a3 post := by
  refine msetI rfl (fun _ => Nat.le_of_ble_eq_true rfl) ?_
  intro p e s m args below meth c D ad cI cZ cL A Q hx hb hml hown hts hK hA hret H locs ls hP hD hS hl
  replace hl : lv_has ls 7 [(0, .ref (ad 0)), (1, .ref (ad k1)), (2, .int a2), (3, .int a3)] := hl
  obtain ⟨B62, hB62⟩ : ∃ B : MS → Int32 → Prop, B = (fun S x5 => ∀ (H : Heap) (locs : List Loc) (ls : Array Slot), va_P D vwCl (mW ad cI cZ cL S) H → va_D A (mW ad cI cZ cL S) → va_S A s.heap H locs → lv_has ls 7 [(0, .ref (ad 0)), (1, .ref (ad k1)), (2, .int a2), (3, .int a3), (5, .int x5)] → W p l e (mrm 1 23) s m args below meth c H locs 0 0 Q (F0 m 62 ls [])) := ⟨_, rfl⟩
  obtain ⟨B77, hB77⟩ : ∃ B : MS → Int32 → Prop, B = (fun S x5 => ∀ (H : Heap) (locs : List Loc) (ls : Array Slot), va_P D vwCl (mW ad cI cZ cL S) H → va_D A (mW ad cI cZ cL S) → va_S A s.heap H locs → lv_has ls 7 [(0, .ref (ad 0)), (1, .ref (ad k1)), (3, .int a3), (5, .int x5)] → W p l e (mrm 1 23) s m args below meth c H locs 0 0 Q (F0 m 77 ls [])) := ⟨_, rfl⟩
  have hT : mT_whyOf_e l k1 a2 a3 post B62 B77 S0 := by
    refine h B62 B77 ?_ ?_
    · clear hP hD hS hl H locs ls
      intro S x5 hT
      unfold mT_whyOf_62 at hT
      rw [hB62]
      intro H locs ls hP hD hS hl
      refine lv_aload_n hx hb dX9_whyOf_62 rfl (lv_at hl 0 rfl) ?_
      refine mg_isStrong hx hb hts hown hK hP dX9_whyOf_63 ?_
      refine lv_iconst (v := 5) hx hb dX9_whyOf_66 (by decide) ?_
      refine lv_iload_n hx hb dX9_whyOf_67 rfl (lv_at hl 2 rfl) ?_
      refine lv_imul hx hb dX9_whyOf_68 ?_
      refine lv_iload_n hx hb dX9_whyOf_69 rfl (lv_at hl 3 rfl) ?_
      refine lv_iadd hx hb dX9_whyOf_70 ?_
      obtain ⟨hi1, hT⟩ := hT
      refine va_zald (f := S.2.1 5) hx hb hK hP 5 1 mat_5 rfl hi1 dX9_whyOf_71 ?_
      refine lv_if_ne (tgt := 77) hx hb dX9_whyOf_72 (by decide) (fun c2 => ?_) (fun c2 => ?_)
      · replace hT := hT.1 c2
        rw [hB77] at hT
        exact hT _ _ _ hP hD hS (lv_sub hl [0, 1, 3, 4] rfl)
      · replace hT := hT.2 c2
        refine lv_iconst (v := 3) hx hb dX9_whyOf_75 (by decide) ?_
        exact hret _ _ _ _ _ _ hP hD hS hT dX9_whyOf_76
    · clear hP hD hS hl H locs ls
      intro S x5 hT
      unfold mT_whyOf_77 at hT
      rw [hB77]
      intro H locs ls hP hD hS hl
      refine lv_aload_n hx hb dX9_whyOf_77 rfl (lv_at hl 0 rfl) ?_
      refine lv_aload_n hx hb dX9_whyOf_78 rfl (lv_at hl 1 rfl) ?_
      refine lv_iload_n hx hb dX9_whyOf_79 rfl (lv_at hl 2 rfl) ?_
      refine mcallI (n := 2) (rest := []) hT hx hb hml hown hts hK hA hP hD hS hl gg_153 hd_X9_top ⟨Nat.le_of_ble_eq_true rfl, Nat.le_of_ble_eq_true rfl⟩ rfl rfl (Nat.le_of_ble_eq_true rfl) dX9_whyOf_80 (Nat.zero_le _) (Nat.zero_le _) (fun r4 S3 H locs hP hD hS hT => ?_)
      refine lv_istore (lv' := [(6, .int r4), (0, .ref (ad 0)), (1, .ref (ad k1)), (3, .int a3), (5, .int x5)]) hx hb dX9_whyOf_83 hl (by decide) rfl (fun ls hl => ?_)
      refine lv_iload hx hb dX9_whyOf_85 (lv_at hl 0 rfl) ?_
      refine lv_iconst (v := (-1)) hx hb dX9_whyOf_87 (by decide) ?_
      refine lv_icmp_ne (tgt := 93) hx hb dX9_whyOf_88 (by decide) (fun c5 => ?_) (fun c5 => ?_)
      · replace hT := hT.1 c5
        refine lv_iload hx hb dX9_whyOf_93 (lv_at hl 0 rfl) ?_
        refine lv_iload hx hb dX9_whyOf_95 (lv_at hl 4 rfl) ?_
        refine lv_icmp_ge (tgt := 102) hx hb dX9_whyOf_97 (by decide) (fun c6 => ?_) (fun c6 => ?_)
        · replace hT := hT.1 c6
          refine lv_aload_n hx hb dX9_whyOf_102 rfl (lv_at hl 1 rfl) ?_
          refine mg_kinds hx hb hts hown hK hP dX9_whyOf_103 ?_
          refine lv_iload hx hb dX9_whyOf_106 (lv_at hl 0 rfl) ?_
          obtain ⟨hi7, hT⟩ := hT
          refine va_iald (f := S3.2.1 1) hx hb hK hP 1 0 mat_1 rfl hi7 dX9_whyOf_108 ?_
          refine lv_iconst (v := 2) hx hb dX9_whyOf_109 (by decide) ?_
          refine lv_icmp_ne (tgt := 128) hx hb dX9_whyOf_110 (by decide) (fun c8 => ?_) (fun c8 => ?_)
          · replace hT := hT.1 c8
            refine lv_iconst (v := 0) hx hb dX9_whyOf_128 (by decide) ?_
            exact hret _ _ _ _ _ _ hP hD hS hT dX9_whyOf_129
          · replace hT := hT.2 c8
            refine lv_aload_n hx hb dX9_whyOf_113 rfl (lv_at hl 1 rfl) ?_
            refine mg_kinds hx hb hts hown hK hP dX9_whyOf_114 ?_
            refine lv_iload hx hb dX9_whyOf_117 (lv_at hl 4 rfl) ?_
            obtain ⟨hi9, hT⟩ := hT
            refine va_iald (f := S3.2.1 1) hx hb hK hP 1 0 mat_1 rfl hi9 dX9_whyOf_119 ?_
            refine lv_iconst (v := 2) hx hb dX9_whyOf_120 (by decide) ?_
            refine lv_icmp_eq (tgt := 128) hx hb dX9_whyOf_121 (by decide) (fun c10 => ?_) (fun c10 => ?_)
            · replace hT := hT.1 c10
              refine lv_iconst (v := 0) hx hb dX9_whyOf_128 (by decide) ?_
              exact hret _ _ _ _ _ _ hP hD hS hT dX9_whyOf_129
            · replace hT := hT.2 c10
              refine lv_iconst (v := 5) hx hb dX9_whyOf_124 (by decide) ?_
              refine lv_goto (tgt := 129) hx hb dX9_whyOf_125 (by decide) ?_
              exact hret _ _ _ _ _ _ hP hD hS hT dX9_whyOf_129
        · replace hT := hT.2 c6
          refine lv_iconst (v := 4) hx hb dX9_whyOf_100 (by decide) ?_
          exact hret _ _ _ _ _ _ hP hD hS hT dX9_whyOf_101
      · replace hT := hT.2 c5
        refine lv_iconst (v := 0) hx hb dX9_whyOf_91 (by decide) ?_
        exact hret _ _ _ _ _ _ hP hD hS hT dX9_whyOf_92
  unfold mT_whyOf_e at hT
  refine lv_aload_n hx hb dX9_whyOf_0 rfl (lv_at hl 0 rfl) ?_
  refine mg_costs hx hb hts hown hK hP dX9_whyOf_1 ?_
  refine lv_iconst (v := 5) hx hb dX9_whyOf_4 (by decide) ?_
  refine lv_iload_n hx hb dX9_whyOf_5 rfl (lv_at hl 2 rfl) ?_
  refine lv_imul hx hb dX9_whyOf_6 ?_
  refine lv_iload_n hx hb dX9_whyOf_7 rfl (lv_at hl 3 rfl) ?_
  refine lv_iadd hx hb dX9_whyOf_8 ?_
  obtain ⟨hi11, hT⟩ := hT
  refine va_iald (f := S0.2.1 4) hx hb hK hP 4 0 mat_4 rfl hi11 dX9_whyOf_9 ?_
  refine lv_if_ne (tgt := 15) hx hb dX9_whyOf_10 (by decide) (fun c12 => ?_) (fun c12 => ?_)
  · replace hT := hT.1 c12
    refine lv_aload_n hx hb dX9_whyOf_15 rfl (lv_at hl 0 rfl) ?_
    refine lv_aload_n hx hb dX9_whyOf_16 rfl (lv_at hl 1 rfl) ?_
    refine lv_iload_n hx hb dX9_whyOf_17 rfl (lv_at hl 2 rfl) ?_
    refine mcallI (n := 2) (rest := []) hT hx hb hml hown hts hK hA hP hD hS hl gg_153 hd_X9_top ⟨Nat.le_of_ble_eq_true rfl, Nat.le_of_ble_eq_true rfl⟩ rfl rfl (Nat.le_of_ble_eq_true rfl) dX9_whyOf_18 (Nat.zero_le _) (Nat.zero_le _) (fun r14 S13 H locs hP hD hS hT => ?_)
    refine lv_istore (lv' := [(4, .int r14), (0, .ref (ad 0)), (1, .ref (ad k1)), (2, .int a2), (3, .int a3)]) hx hb dX9_whyOf_21 hl (by decide) rfl (fun ls hl => ?_)
    refine lv_iload hx hb dX9_whyOf_23 (lv_at hl 0 rfl) ?_
    refine lv_iconst (v := (-1)) hx hb dX9_whyOf_25 (by decide) ?_
    refine lv_icmp_ne (tgt := 31) hx hb dX9_whyOf_26 (by decide) (fun c15 => ?_) (fun c15 => ?_)
    · replace hT := hT.1 c15
      refine lv_aload_n hx hb dX9_whyOf_31 rfl (lv_at hl 1 rfl) ?_
      refine lv_aload_n hx hb dX9_whyOf_32 rfl (lv_at hl 2 rfl) ?_
      refine lv_iload hx hb dX9_whyOf_33 (lv_at hl 0 rfl) ?_
      refine mcallI (n := 2) (rest := []) hT hx hb hml hown hts hK hA hP hD hS hl gg_156 hd_X9_packOf ⟨Nat.le_of_ble_eq_true rfl, Nat.le_of_ble_eq_true rfl⟩ rfl rfl (Nat.le_of_ble_eq_true rfl) dX9_whyOf_35 (Nat.zero_le _) (Nat.zero_le _) (fun r17 S16 H locs hP hD hS hT => ?_)
      refine lv_istore (lv' := [(5, .int r17), (4, .int r14), (0, .ref (ad 0)), (1, .ref (ad k1)), (2, .int a2), (3, .int a3)]) hx hb dX9_whyOf_38 hl (by decide) rfl (fun ls hl => ?_)
      refine lv_aload_n hx hb dX9_whyOf_40 rfl (lv_at hl 2 rfl) ?_
      refine mg_kinds hx hb hts hown hK hP dX9_whyOf_41 ?_
      refine lv_iload hx hb dX9_whyOf_44 (lv_at hl 1 rfl) ?_
      obtain ⟨hi18, hT⟩ := hT
      refine va_iald (f := S16.2.1 1) hx hb hK hP 1 0 mat_1 rfl hi18 dX9_whyOf_46 ?_
      refine lv_iconst (v := 1) hx hb dX9_whyOf_47 (by decide) ?_
      refine lv_icmp_eq (tgt := 62) hx hb dX9_whyOf_48 (by decide) (fun c19 => ?_) (fun c19 => ?_)
      · replace hT := hT.1 c19
        rw [hB62] at hT
        exact hT _ _ _ hP hD hS (lv_sub hl [2, 3, 4, 5, 0] rfl)
      · replace hT := hT.2 c19
        refine lv_aload_n hx hb dX9_whyOf_51 rfl (lv_at hl 2 rfl) ?_
        refine mg_kinds hx hb hts hown hK hP dX9_whyOf_52 ?_
        refine lv_iload hx hb dX9_whyOf_55 (lv_at hl 1 rfl) ?_
        obtain ⟨hi20, hT⟩ := hT
        refine va_iald (f := S16.2.1 1) hx hb hK hP 1 0 mat_1 rfl hi20 dX9_whyOf_57 ?_
        refine lv_iconst (v := 2) hx hb dX9_whyOf_58 (by decide) ?_
        refine lv_icmp_ne (tgt := 77) hx hb dX9_whyOf_59 (by decide) (fun c21 => ?_) (fun c21 => ?_)
        · replace hT := hT.1 c21
          rw [hB77] at hT
          exact hT _ _ _ hP hD hS (lv_sub hl [2, 3, 5, 0] rfl)
        · replace hT := hT.2 c21
          rw [hB62] at hT
          exact hT _ _ _ hP hD hS (lv_sub hl [2, 3, 4, 5, 0] rfl)
    · replace hT := hT.2 c15
      refine lv_iconst (v := 2) hx hb dX9_whyOf_29 (by decide) ?_
      exact hret _ _ _ _ _ _ hP hD hS hT dX9_whyOf_30
  · replace hT := hT.2 c12
    refine lv_iconst (v := 1) hx hb dX9_whyOf_13 (by decide) ?_
    exact hret _ _ _ _ _ _ hP hD hS hT dX9_whyOf_14
abbrev mX_moved (l : Launch) (S : MS) (k1 : Nat) (a2 : Int32) (a3 : Int32) (post : Int32 → MS → Prop) : Prop := mCtI l yX9_moved cX9_moved 7 1 23 (fun ad => [.ref (ad k1), .int a2, .int a3]) S post
def mT_moved_21 (l : Launch) (k1 : Nat) (a2 : Int32) (a3 : Int32) (post : Int32 → MS → Prop) (B21 : MS → Int32 → Int32 → Int32 → Prop) (S : MS) (x4 : Int32) (x5 : Int32) (x6 : Int32) : Prop := (x5 < x6 → post ((x5 - x4) + 1) S) ∧ (¬ x5 < x6 → vp_in x6 7 ∧ B21 (ma S k1 (upd (S.2.1 k1) x6.toNatClampNeg a3)) x4 x5 (x6 + 1))
def mT_moved_e (l : Launch) (k1 : Nat) (a2 : Int32) (a3 : Int32) (post : Int32 → MS → Prop) (B21 : MS → Int32 → Int32 → Int32 → Prop) (S0 : MS) : Prop := mX_top l S0 k1 a2 (fun r4 S3 => mX_packOf l S3 k1 r4 (fun r6 S5 => B21 S5 r4 r6 r4))
set_option maxHeartbeats 4000000 in
set_option maxRecDepth 100000 in
theorem m_moved (l : Launch) (S0 : MS) (k1 : Nat) (a2 : Int32) (a3 : Int32) (hk1 : m7 k1) (post : Int32 → MS → Prop) (h : ∀ (B21 : MS → Int32 → Int32 → Int32 → Prop), (∀ (S : MS) (x4 : Int32) (x5 : Int32) (x6 : Int32), mT_moved_21 l k1 a2 a3 post B21 S x4 x5 x6 → B21 S x4 x5 x6) → mT_moved_e l k1 a2 a3 post B21 S0) : mX_moved l S0 k1 a2 a3 post := by
  refine msetI rfl (fun _ => Nat.le_of_ble_eq_true rfl) ?_
  intro p e s m args below meth c D ad cI cZ cL A Q hx hb hml hown hts hK hA hret H locs ls hP hD hS hl
  replace hl : lv_has ls 7 [(0, .ref (ad 0)), (1, .ref (ad k1)), (2, .int a2), (3, .int a3)] := hl
  obtain ⟨B21, hB21⟩ : ∃ B : MS → Int32 → Int32 → Int32 → Prop, B = (fun S x4 x5 x6 => ∀ (H : Heap) (locs : List Loc) (ls : Array Slot), va_P D vwCl (mW ad cI cZ cL S) H → va_D A (mW ad cI cZ cL S) → va_S A s.heap H locs → lv_has ls 7 [(1, .ref (ad k1)), (3, .int a3), (4, .int x4), (5, .int x5), (6, .int x6)] → W p l e (mrm 1 23) s m args below meth c H locs 0 0 Q (F0 m 21 ls [])) := ⟨_, rfl⟩
  have hT : mT_moved_e l k1 a2 a3 post B21 S0 := by
    refine h B21 ?_
    · clear hP hD hS hl H locs ls
      intro S x4 x5 x6 hT
      unfold mT_moved_21 at hT
      rw [hB21]
      intro H locs ls hP hD hS hl
      refine lv_iload hx hb dX9_moved_21 (lv_at hl 4 rfl) ?_
      refine lv_iload hx hb dX9_moved_23 (lv_at hl 3 rfl) ?_
      refine lv_icmp_gt (tgt := 39) hx hb dX9_moved_25 (by decide) (fun c1 => ?_) (fun c1 => ?_)
      · replace hT := hT.1 c1
        refine lv_iload hx hb dX9_moved_39 (lv_at hl 3 rfl) ?_
        refine lv_iload hx hb dX9_moved_41 (lv_at hl 2 rfl) ?_
        refine lv_isub hx hb dX9_moved_43 ?_
        refine lv_iconst (v := 1) hx hb dX9_moved_44 (by decide) ?_
        refine lv_iadd hx hb dX9_moved_45 ?_
        exact hret _ _ _ _ _ _ hP hD hS hT dX9_moved_46
      · replace hT := hT.2 c1
        refine lv_aload_n hx hb dX9_moved_28 rfl (lv_at hl 0 rfl) ?_
        refine lv_iload hx hb dX9_moved_29 (lv_at hl 4 rfl) ?_
        refine lv_iload_n hx hb dX9_moved_31 rfl (lv_at hl 1 rfl) ?_
        obtain ⟨hi2, hT⟩ := hT
        refine va_iast (f := S.2.1 k1) hx hb hK hP hD hS k1 0 (mat_sym hk1) rfl hi2 dX9_moved_32 (fun H locs hP hD hS => ?_)
        replace hP := msetP_sym hk1 hP
        replace hD := msetD_sym hk1 hD
        refine lv_iinc (v := x6 + 1) (lv' := [(6, .int (x6 + 1)), (1, .ref (ad k1)), (3, .int a3), (4, .int x4), (5, .int x5)]) hx hb dX9_moved_33 hl (k := 4) rfl rfl (by decide) rfl (fun ls hl => ?_)
        refine lv_goto (tgt := 21) hx hb dX9_moved_36 (by decide) ?_
        rw [hB21] at hT
        exact hT _ _ _ hP hD hS (lv_sub hl [1, 2, 3, 4, 0] rfl)
  unfold mT_moved_e at hT
  refine lv_aload_n hx hb dX9_moved_0 rfl (lv_at hl 0 rfl) ?_
  refine lv_aload_n hx hb dX9_moved_1 rfl (lv_at hl 1 rfl) ?_
  refine lv_iload_n hx hb dX9_moved_2 rfl (lv_at hl 2 rfl) ?_
  refine mcallI (n := 2) (rest := []) hT hx hb hml hown hts hK hA hP hD hS hl gg_153 hd_X9_top ⟨Nat.le_of_ble_eq_true rfl, Nat.le_of_ble_eq_true rfl⟩ rfl rfl (Nat.le_of_ble_eq_true rfl) dX9_moved_3 (Nat.zero_le _) (Nat.zero_le _) (fun r4 S3 H locs hP hD hS hT => ?_)
  refine lv_istore (lv' := [(4, .int r4), (0, .ref (ad 0)), (1, .ref (ad k1)), (2, .int a2), (3, .int a3)]) hx hb dX9_moved_6 hl (by decide) rfl (fun ls hl => ?_)
  refine lv_aload_n hx hb dX9_moved_8 rfl (lv_at hl 1 rfl) ?_
  refine lv_aload_n hx hb dX9_moved_9 rfl (lv_at hl 2 rfl) ?_
  refine lv_iload hx hb dX9_moved_10 (lv_at hl 0 rfl) ?_
  refine mcallI (n := 2) (rest := []) hT hx hb hml hown hts hK hA hP hD hS hl gg_156 hd_X9_packOf ⟨Nat.le_of_ble_eq_true rfl, Nat.le_of_ble_eq_true rfl⟩ rfl rfl (Nat.le_of_ble_eq_true rfl) dX9_moved_12 (Nat.zero_le _) (Nat.zero_le _) (fun r6 S5 H locs hP hD hS hT => ?_)
  refine lv_istore (lv' := [(5, .int r6), (4, .int r4), (0, .ref (ad 0)), (1, .ref (ad k1)), (2, .int a2), (3, .int a3)]) hx hb dX9_moved_15 hl (by decide) rfl (fun ls hl => ?_)
  refine lv_iload hx hb dX9_moved_17 (lv_at hl 1 rfl) ?_
  refine lv_istore (lv' := [(6, .int r4), (5, .int r6), (4, .int r4), (0, .ref (ad 0)), (1, .ref (ad k1)), (2, .int a2), (3, .int a3)]) hx hb dX9_moved_19 hl (by decide) rfl (fun ls hl => ?_)
  rw [hB21] at hT
  exact hT _ _ _ hP hD hS (lv_sub hl [4, 6, 2, 1, 0] rfl)
abbrev mX_yard (l : Launch) (S : MS) (a1 : Int32) (a2 : Int32) (post : Bool → MS → Prop) : Prop := mCtZ l yX9_yard cX9_yard 4 1 23 (fun ad => [.int a1, .int a2]) S post
def mT_yard_26 (l : Launch) (a1 : Int32) (a2 : Int32) (post : Bool → MS → Prop) (B26 : MS → Prop) (B44 : MS → Int32 → Prop) (B79 : MS → Int32 → Prop) (S : MS) : Prop := mX_not l S 1 (fun b2 S1 => post b2 S1)
def mT_yard_44 (l : Launch) (a1 : Int32) (a2 : Int32) (post : Bool → MS → Prop) (B26 : MS → Prop) (B44 : MS → Int32 → Prop) (B79 : MS → Int32 → Prop) (S : MS) (x3 : Int32) : Prop := (7 ≤ x3 → B79 S 0) ∧ (¬ 7 ≤ x3 → vp_in x3 7 ∧ vp_in x3 7 ∧ vp_in x3 7 ∧ B44 (ma (ma (ma S 1 (upd (S.2.1 1) x3.toNatClampNeg 0)) 2 (upd (S.2.1 2) x3.toNatClampNeg 0)) 3 (upd (S.2.1 3) x3.toNatClampNeg 0)) (x3 + 1))
def mT_yard_79 (l : Launch) (a1 : Int32) (a2 : Int32) (post : Bool → MS → Prop) (B26 : MS → Prop) (B44 : MS → Int32 → Prop) (B79 : MS → Int32 → Prop) (S : MS) (x3 : Int32) : Prop := (25 ≤ x3 → mX_nothingUndone l S (fun S8 => post true S8)) ∧ (¬ 25 ≤ x3 → vp_in x3 25 ∧ vp_in x3 25 ∧ B79 (ma (ma S 4 (upd (S.2.1 4) x3.toNatClampNeg 0)) 5 (upd (S.2.1 5) x3.toNatClampNeg (vp_nar .boolean 0))) (x3 + 1))
def mT_yard_e (l : Launch) (a1 : Int32) (a2 : Int32) (post : Bool → MS → Prop) (B26 : MS → Prop) (B44 : MS → Int32 → Prop) (B79 : MS → Int32 → Prop) (S0 : MS) : Prop := mX_in l (mf S0 3 0) a1 2 5 (fun b12 S11 => (bI b12 = 0 → B26 S11) ∧ (¬ bI b12 = 0 → mX_in l S11 a2 1 7 (fun b15 S14 => (¬ bI b15 = 0 → B44 (mf (mf S14 0 a1) 1 a2) 0) ∧ (bI b15 = 0 → B26 S14))))
set_option maxHeartbeats 4000000 in
set_option maxRecDepth 100000 in
theorem m_yard (l : Launch) (S0 : MS) (a1 : Int32) (a2 : Int32) (post : Bool → MS → Prop) (h : ∀ (B26 : MS → Prop) (B44 : MS → Int32 → Prop) (B79 : MS → Int32 → Prop), (∀ (S : MS) , mT_yard_26 l a1 a2 post B26 B44 B79 S → B26 S ) → (∀ (S : MS) (x3 : Int32), mT_yard_44 l a1 a2 post B26 B44 B79 S x3 → B44 S x3) → (∀ (S : MS) (x3 : Int32), mT_yard_79 l a1 a2 post B26 B44 B79 S x3 → B79 S x3) → mT_yard_e l a1 a2 post B26 B44 B79 S0) : mX_yard l S0 a1 a2 post := by
  refine msetZ rfl (fun _ => Nat.le_of_ble_eq_true rfl) ?_
  intro p e s m args below meth c D ad cI cZ cL A Q hx hb hml hown hts hK hA hret H locs ls hP hD hS hl
  replace hl : lv_has ls 4 [(0, .ref (ad 0)), (1, .int a1), (2, .int a2)] := hl
  obtain ⟨B26, hB26⟩ : ∃ B : MS → Prop, B = (fun S => ∀ (H : Heap) (locs : List Loc) (ls : Array Slot), va_P D vwCl (mW ad cI cZ cL S) H → va_D A (mW ad cI cZ cL S) → va_S A s.heap H locs → lv_has ls 4 [(0, .ref (ad 0))] → W p l e (mrm 1 23) s m args below meth c H locs 0 0 Q (F0 m 26 ls [])) := ⟨_, rfl⟩
  obtain ⟨B44, hB44⟩ : ∃ B : MS → Int32 → Prop, B = (fun S x3 => ∀ (H : Heap) (locs : List Loc) (ls : Array Slot), va_P D vwCl (mW ad cI cZ cL S) H → va_D A (mW ad cI cZ cL S) → va_S A s.heap H locs → lv_has ls 4 [(0, .ref (ad 0)), (3, .int x3)] → W p l e (mrm 1 23) s m args below meth c H locs 0 0 Q (F0 m 44 ls [])) := ⟨_, rfl⟩
  obtain ⟨B79, hB79⟩ : ∃ B : MS → Int32 → Prop, B = (fun S x3 => ∀ (H : Heap) (locs : List Loc) (ls : Array Slot), va_P D vwCl (mW ad cI cZ cL S) H → va_D A (mW ad cI cZ cL S) → va_S A s.heap H locs → lv_has ls 4 [(0, .ref (ad 0)), (3, .int x3)] → W p l e (mrm 1 23) s m args below meth c H locs 0 0 Q (F0 m 79 ls [])) := ⟨_, rfl⟩
  have hT : mT_yard_e l a1 a2 post B26 B44 B79 S0 := by
    refine h B26 B44 B79 ?_ ?_ ?_
    · clear hP hD hS hl H locs ls
      intro S hT
      unfold mT_yard_26 at hT
      rw [hB26]
      intro H locs ls hP hD hS hl
      refine lv_aload_n hx hb dX9_yard_26 rfl (lv_at hl 0 rfl) ?_
      refine lv_iconst (v := 1) hx hb dX9_yard_27 (by decide) ?_
      refine mcallZ (n := 1) (rest := []) hT hx hb hml hown hts hK hA hP hD hS hl gg_159 hd_X9_not ⟨Nat.le_of_ble_eq_true rfl, Nat.le_of_ble_eq_true rfl⟩ rfl rfl (Nat.le_of_ble_eq_true rfl) dX9_yard_28 (Nat.zero_le _) (Nat.zero_le _) (fun b2 S1 H locs hP hD hS hT => ?_)
      exact hret b2 _ _ _ _ _ hP hD hS hT dX9_yard_31
    · clear hP hD hS hl H locs ls
      intro S x3 hT
      unfold mT_yard_44 at hT
      rw [hB44]
      intro H locs ls hP hD hS hl
      refine lv_iload_n hx hb dX9_yard_44 rfl (lv_at hl 1 rfl) ?_
      refine lv_bipush (v := 7) hx hb dX9_yard_45 (by decide) ?_
      refine lv_icmp_ge (tgt := 77) hx hb dX9_yard_47 (by decide) (fun c3 => ?_) (fun c3 => ?_)
      · replace hT := hT.1 c3
        refine lv_iconst (v := 0) hx hb dX9_yard_77 (by decide) ?_
        refine lv_istore_n (lv' := [(3, .int 0), (0, .ref (ad 0))]) hx hb dX9_yard_78 rfl hl (by decide) rfl (fun ls hl => ?_)
        rw [hB79] at hT
        exact hT _ _ _ hP hD hS (lv_sub hl [1, 0] rfl)
      · replace hT := hT.2 c3
        refine lv_aload_n hx hb dX9_yard_50 rfl (lv_at hl 0 rfl) ?_
        refine mg_kinds hx hb hts hown hK hP dX9_yard_51 ?_
        refine lv_iload_n hx hb dX9_yard_54 rfl (lv_at hl 1 rfl) ?_
        refine lv_iconst (v := 0) hx hb dX9_yard_55 (by decide) ?_
        obtain ⟨hi4, hT⟩ := hT
        refine va_iast (f := S.2.1 1) hx hb hK hP hD hS 1 0 mat_1 rfl hi4 dX9_yard_56 (fun H locs hP hD hS => ?_)
        replace hP := msetP_1 hP
        replace hD := msetD_1 hD
        refine lv_aload_n hx hb dX9_yard_57 rfl (lv_at hl 0 rfl) ?_
        refine mg_stand hx hb hts hown hK hP dX9_yard_58 ?_
        refine lv_iload_n hx hb dX9_yard_61 rfl (lv_at hl 1 rfl) ?_
        refine lv_iconst (v := 0) hx hb dX9_yard_62 (by decide) ?_
        obtain ⟨hi5, hT⟩ := hT
        refine va_iast (f := S.2.1 2) hx hb hK hP hD hS 2 0 mat_2 rfl hi5 dX9_yard_63 (fun H locs hP hD hS => ?_)
        replace hP := msetP_2 hP
        replace hD := msetD_2 hD
        refine lv_aload_n hx hb dX9_yard_64 rfl (lv_at hl 0 rfl) ?_
        refine mg_goal hx hb hts hown hK hP dX9_yard_65 ?_
        refine lv_iload_n hx hb dX9_yard_68 rfl (lv_at hl 1 rfl) ?_
        refine lv_iconst (v := 0) hx hb dX9_yard_69 (by decide) ?_
        obtain ⟨hi6, hT⟩ := hT
        refine va_iast (f := S.2.1 3) hx hb hK hP hD hS 3 0 mat_3 rfl hi6 dX9_yard_70 (fun H locs hP hD hS => ?_)
        replace hP := msetP_3 hP
        replace hD := msetD_3 hD
        refine lv_iinc (v := x3 + 1) (lv' := [(3, .int (x3 + 1)), (0, .ref (ad 0))]) hx hb dX9_yard_71 hl (k := 1) rfl rfl (by decide) rfl (fun ls hl => ?_)
        refine lv_goto (tgt := 44) hx hb dX9_yard_74 (by decide) ?_
        rw [hB44] at hT
        exact hT _ _ _ hP hD hS (lv_sub hl [1, 0] rfl)
    · clear hP hD hS hl H locs ls
      intro S x3 hT
      unfold mT_yard_79 at hT
      rw [hB79]
      intro H locs ls hP hD hS hl
      refine lv_iload_n hx hb dX9_yard_79 rfl (lv_at hl 1 rfl) ?_
      refine lv_bipush (v := 25) hx hb dX9_yard_80 (by decide) ?_
      refine lv_icmp_ge (tgt := 105) hx hb dX9_yard_82 (by decide) (fun c7 => ?_) (fun c7 => ?_)
      · replace hT := hT.1 c7
        refine lv_aload_n hx hb dX9_yard_105 rfl (lv_at hl 0 rfl) ?_
        refine mcallV (n := 0) (rest := []) hT hx hb hml hown hts hK hA hP hD hS hl gg_163 hd_X9_nothingUndone ⟨Nat.le_of_ble_eq_true rfl, Nat.le_of_ble_eq_true rfl⟩ rfl rfl (Nat.le_of_ble_eq_true rfl) dX9_yard_106 (Nat.zero_le _) (Nat.zero_le _) (fun S8 H locs hP hD hS hT => ?_)
        refine lv_iconst (v := 1) hx hb dX9_yard_109 (by decide) ?_
        exact hret true _ _ _ _ _ hP hD hS hT dX9_yard_110
      · replace hT := hT.2 c7
        refine lv_aload_n hx hb dX9_yard_85 rfl (lv_at hl 0 rfl) ?_
        refine mg_costs hx hb hts hown hK hP dX9_yard_86 ?_
        refine lv_iload_n hx hb dX9_yard_89 rfl (lv_at hl 1 rfl) ?_
        refine lv_iconst (v := 0) hx hb dX9_yard_90 (by decide) ?_
        obtain ⟨hi9, hT⟩ := hT
        refine va_iast (f := S.2.1 4) hx hb hK hP hD hS 4 0 mat_4 rfl hi9 dX9_yard_91 (fun H locs hP hD hS => ?_)
        replace hP := msetP_4 hP
        replace hD := msetD_4 hD
        refine lv_aload_n hx hb dX9_yard_92 rfl (lv_at hl 0 rfl) ?_
        refine mg_isStrong hx hb hts hown hK hP dX9_yard_93 ?_
        refine lv_iload_n hx hb dX9_yard_96 rfl (lv_at hl 1 rfl) ?_
        refine lv_iconst (v := 0) hx hb dX9_yard_97 (by decide) ?_
        obtain ⟨hi10, hT⟩ := hT
        refine va_zast (f := S.2.1 5) hx hb hK hP hD hS 5 1 mat_5 rfl hi10 dX9_yard_98 (fun H locs hP hD hS => ?_)
        replace hP := msetP_5 hP
        replace hD := msetD_5 hD
        refine lv_iinc (v := x3 + 1) (lv' := [(3, .int (x3 + 1)), (0, .ref (ad 0))]) hx hb dX9_yard_99 hl (k := 1) rfl rfl (by decide) rfl (fun ls hl => ?_)
        refine lv_goto (tgt := 79) hx hb dX9_yard_102 (by decide) ?_
        rw [hB79] at hT
        exact hT _ _ _ hP hD hS (lv_sub hl [1, 0] rfl)
  unfold mT_yard_e at hT
  refine lv_aload_n hx hb dX9_yard_0 rfl (lv_at hl 0 rfl) ?_
  refine lv_iconst (v := 0) hx hb dX9_yard_1 (by decide) ?_
  refine mp_thrown hx hb hts hown hK hP hD hS dX9_yard_2 (fun H locs hP hD hS => ?_)
  refine lv_aload_n hx hb dX9_yard_5 rfl (lv_at hl 0 rfl) ?_
  refine lv_iload_n hx hb dX9_yard_6 rfl (lv_at hl 1 rfl) ?_
  refine lv_iconst (v := 2) hx hb dX9_yard_7 (by decide) ?_
  refine lv_iconst (v := 5) hx hb dX9_yard_8 (by decide) ?_
  refine mcallZ (n := 3) (rest := []) hT hx hb hml hown hts hK hA hP hD hS hl gg_139 hd_X9_in ⟨Nat.le_of_ble_eq_true rfl, Nat.le_of_ble_eq_true rfl⟩ rfl rfl (Nat.le_of_ble_eq_true rfl) dX9_yard_9 (Nat.zero_le _) (Nat.zero_le _) (fun b12 S11 H locs hP hD hS hT => ?_)
  refine lv_if_eq (tgt := 26) hx hb dX9_yard_12 (by decide) (fun c13 => ?_) (fun c13 => ?_)
  · replace hT := hT.1 c13
    rw [hB26] at hT
    exact hT _ _ _ hP hD hS (lv_sub hl [0] rfl)
  · replace hT := hT.2 c13
    refine lv_aload_n hx hb dX9_yard_15 rfl (lv_at hl 0 rfl) ?_
    refine lv_iload_n hx hb dX9_yard_16 rfl (lv_at hl 2 rfl) ?_
    refine lv_iconst (v := 1) hx hb dX9_yard_17 (by decide) ?_
    refine lv_bipush (v := 7) hx hb dX9_yard_18 (by decide) ?_
    refine mcallZ (n := 3) (rest := []) hT hx hb hml hown hts hK hA hP hD hS hl gg_139 hd_X9_in ⟨Nat.le_of_ble_eq_true rfl, Nat.le_of_ble_eq_true rfl⟩ rfl rfl (Nat.le_of_ble_eq_true rfl) dX9_yard_20 (Nat.zero_le _) (Nat.zero_le _) (fun b15 S14 H locs hP hD hS hT => ?_)
    refine lv_if_ne (tgt := 32) hx hb dX9_yard_23 (by decide) (fun c16 => ?_) (fun c16 => ?_)
    · replace hT := hT.1 c16
      refine lv_aload_n hx hb dX9_yard_32 rfl (lv_at hl 0 rfl) ?_
      refine lv_iload_n hx hb dX9_yard_33 rfl (lv_at hl 1 rfl) ?_
      refine mp_pegs hx hb hts hown hK hP hD hS dX9_yard_34 (fun H locs hP hD hS => ?_)
      refine lv_aload_n hx hb dX9_yard_37 rfl (lv_at hl 0 rfl) ?_
      refine lv_iload_n hx hb dX9_yard_38 rfl (lv_at hl 2 rfl) ?_
      refine mp_discs hx hb hts hown hK hP hD hS dX9_yard_39 (fun H locs hP hD hS => ?_)
      refine lv_iconst (v := 0) hx hb dX9_yard_42 (by decide) ?_
      refine lv_istore_n (lv' := [(3, .int 0), (0, .ref (ad 0)), (1, .int a1), (2, .int a2)]) hx hb dX9_yard_43 rfl hl (by decide) rfl (fun ls hl => ?_)
      rw [hB44] at hT
      exact hT _ _ _ hP hD hS (lv_sub hl [1, 0] rfl)
    · replace hT := hT.2 c16
      rw [hB26] at hT
      exact hT _ _ _ hP hD hS (lv_sub hl [0] rfl)
abbrev mX_kind (l : Launch) (S : MS) (a1 : Int32) (a2 : Int32) (post : Bool → MS → Prop) : Prop := mCtZ l yX9_kind cX9_kind 4 2 46 (fun ad => [.int a1, .int a2]) S post
def mT_kind_30 (l : Launch) (a1 : Int32) (a2 : Int32) (post : Bool → MS → Prop) (B30 : MS → Prop) (B72 : MS → Int32 → Prop) (S : MS) : Prop := mX_not l S 1 (fun b2 S1 => post b2 S1)
def mT_kind_72 (l : Launch) (a1 : Int32) (a2 : Int32) (post : Bool → MS → Prop) (B30 : MS → Prop) (B72 : MS → Int32 → Prop) (S : MS) (x3 : Int32) : Prop := vp_in a1 7 ∧ mX_not l (ma S 1 (upd (S.2.1 1) a1.toNatClampNeg x3)) 3 (fun b5 S4 => post b5 S4)
def mT_kind_e (l : Launch) (a1 : Int32) (a2 : Int32) (post : Bool → MS → Prop) (B30 : MS → Prop) (B72 : MS → Int32 → Prop) (S0 : MS) : Prop := mX_in l (mf S0 3 0) a1 0 ((S0.1 1) - 1) (fun b7 S6 => (bI b7 = 0 → B30 S6) ∧ (¬ bI b7 = 0 → mX_in l S6 a2 0 3 (fun b10 S9 => (¬ bI b10 = 0 → vp_in a1 7 ∧ ∀ v3_13 : Int32, v3_13 = S9.2.1 1 a1.toNatClampNeg → vp_in a1 7 ∧ mX_isRight l (ma S9 1 (upd (S9.2.1 1) a1.toNatClampNeg a2)) 2 (fun b16 S15 => (bI b16 = 0 → B72 S15 v3_13) ∧ (¬ bI b16 = 0 → mX_isRight l S15 3 (fun b19 S18 => (¬ bI b19 = 0 → mX_nothingUndone l S18 (fun S21 => post true S21)) ∧ (bI b19 = 0 → B72 S18 v3_13))))) ∧ (bI b10 = 0 → B30 S9))))
set_option maxHeartbeats 4000000 in
set_option maxRecDepth 100000 in
theorem m_kind (l : Launch) (S0 : MS) (a1 : Int32) (a2 : Int32) (post : Bool → MS → Prop) (h : ∀ (B30 : MS → Prop) (B72 : MS → Int32 → Prop), (∀ (S : MS) , mT_kind_30 l a1 a2 post B30 B72 S → B30 S ) → (∀ (S : MS) (x3 : Int32), mT_kind_72 l a1 a2 post B30 B72 S x3 → B72 S x3) → mT_kind_e l a1 a2 post B30 B72 S0) : mX_kind l S0 a1 a2 post := by
  refine msetZ rfl (fun _ => Nat.le_of_ble_eq_true rfl) ?_
  intro p e s m args below meth c D ad cI cZ cL A Q hx hb hml hown hts hK hA hret H locs ls hP hD hS hl
  replace hl : lv_has ls 4 [(0, .ref (ad 0)), (1, .int a1), (2, .int a2)] := hl
  obtain ⟨B30, hB30⟩ : ∃ B : MS → Prop, B = (fun S => ∀ (H : Heap) (locs : List Loc) (ls : Array Slot), va_P D vwCl (mW ad cI cZ cL S) H → va_D A (mW ad cI cZ cL S) → va_S A s.heap H locs → lv_has ls 4 [(0, .ref (ad 0))] → W p l e (mrm 2 46) s m args below meth c H locs 0 0 Q (F0 m 30 ls [])) := ⟨_, rfl⟩
  obtain ⟨B72, hB72⟩ : ∃ B : MS → Int32 → Prop, B = (fun S x3 => ∀ (H : Heap) (locs : List Loc) (ls : Array Slot), va_P D vwCl (mW ad cI cZ cL S) H → va_D A (mW ad cI cZ cL S) → va_S A s.heap H locs → lv_has ls 4 [(0, .ref (ad 0)), (1, .int a1), (3, .int x3)] → W p l e (mrm 2 46) s m args below meth c H locs 0 0 Q (F0 m 72 ls [])) := ⟨_, rfl⟩
  have hT : mT_kind_e l a1 a2 post B30 B72 S0 := by
    refine h B30 B72 ?_ ?_
    · clear hP hD hS hl H locs ls
      intro S hT
      unfold mT_kind_30 at hT
      rw [hB30]
      intro H locs ls hP hD hS hl
      refine lv_aload_n hx hb dX9_kind_30 rfl (lv_at hl 0 rfl) ?_
      refine lv_iconst (v := 1) hx hb dX9_kind_31 (by decide) ?_
      refine mcallZ (n := 1) (rest := []) hT hx hb hml hown hts hK hA hP hD hS hl gg_159 hd_X9_not ⟨Nat.le_of_ble_eq_true rfl, Nat.le_of_ble_eq_true rfl⟩ rfl rfl (Nat.le_of_ble_eq_true rfl) dX9_kind_32 (Nat.zero_le _) (Nat.zero_le _) (fun b2 S1 H locs hP hD hS hT => ?_)
      exact hret b2 _ _ _ _ _ hP hD hS hT dX9_kind_35
    · clear hP hD hS hl H locs ls
      intro S x3 hT
      unfold mT_kind_72 at hT
      rw [hB72]
      intro H locs ls hP hD hS hl
      refine lv_aload_n hx hb dX9_kind_72 rfl (lv_at hl 0 rfl) ?_
      refine mg_kinds hx hb hts hown hK hP dX9_kind_73 ?_
      refine lv_iload_n hx hb dX9_kind_76 rfl (lv_at hl 1 rfl) ?_
      refine lv_iload_n hx hb dX9_kind_77 rfl (lv_at hl 2 rfl) ?_
      obtain ⟨hi3, hT⟩ := hT
      refine va_iast (f := S.2.1 1) hx hb hK hP hD hS 1 0 mat_1 rfl hi3 dX9_kind_78 (fun H locs hP hD hS => ?_)
      replace hP := msetP_1 hP
      replace hD := msetD_1 hD
      refine lv_aload_n hx hb dX9_kind_79 rfl (lv_at hl 0 rfl) ?_
      refine lv_iconst (v := 3) hx hb dX9_kind_80 (by decide) ?_
      refine mcallZ (n := 1) (rest := []) hT hx hb hml hown hts hK hA hP hD hS hl gg_159 hd_X9_not ⟨Nat.le_of_ble_eq_true rfl, Nat.le_of_ble_eq_true rfl⟩ rfl rfl (Nat.le_of_ble_eq_true rfl) dX9_kind_81 (Nat.zero_le _) (Nat.zero_le _) (fun b5 S4 H locs hP hD hS hT => ?_)
      exact hret b5 _ _ _ _ _ hP hD hS hT dX9_kind_84
  unfold mT_kind_e at hT
  refine lv_aload_n hx hb dX9_kind_0 rfl (lv_at hl 0 rfl) ?_
  refine lv_iconst (v := 0) hx hb dX9_kind_1 (by decide) ?_
  refine mp_thrown hx hb hts hown hK hP hD hS dX9_kind_2 (fun H locs hP hD hS => ?_)
  refine lv_aload_n hx hb dX9_kind_5 rfl (lv_at hl 0 rfl) ?_
  refine lv_iload_n hx hb dX9_kind_6 rfl (lv_at hl 1 rfl) ?_
  refine lv_iconst (v := 0) hx hb dX9_kind_7 (by decide) ?_
  refine lv_aload_n hx hb dX9_kind_8 rfl (lv_at hl 0 rfl) ?_
  refine mg_discs (v := S0.1 1) hx hb hts hown hK hP rfl dX9_kind_9 ?_
  refine lv_iconst (v := 1) hx hb dX9_kind_12 (by decide) ?_
  refine lv_isub hx hb dX9_kind_13 ?_
  refine mcallZ (n := 3) (rest := []) hT hx hb hml hown hts hK hA hP hD hS hl gg_139 hd_X9_in ⟨Nat.le_of_ble_eq_true rfl, Nat.le_of_ble_eq_true rfl⟩ rfl rfl (Nat.le_of_ble_eq_true rfl) dX9_kind_14 (Nat.zero_le _) (Nat.zero_le _) (fun b7 S6 H locs hP hD hS hT => ?_)
  refine lv_if_eq (tgt := 30) hx hb dX9_kind_17 (by decide) (fun c8 => ?_) (fun c8 => ?_)
  · replace hT := hT.1 c8
    rw [hB30] at hT
    exact hT _ _ _ hP hD hS (lv_sub hl [0] rfl)
  · replace hT := hT.2 c8
    refine lv_aload_n hx hb dX9_kind_20 rfl (lv_at hl 0 rfl) ?_
    refine lv_iload_n hx hb dX9_kind_21 rfl (lv_at hl 2 rfl) ?_
    refine lv_iconst (v := 0) hx hb dX9_kind_22 (by decide) ?_
    refine lv_iconst (v := 3) hx hb dX9_kind_23 (by decide) ?_
    refine mcallZ (n := 3) (rest := []) hT hx hb hml hown hts hK hA hP hD hS hl gg_139 hd_X9_in ⟨Nat.le_of_ble_eq_true rfl, Nat.le_of_ble_eq_true rfl⟩ rfl rfl (Nat.le_of_ble_eq_true rfl) dX9_kind_24 (Nat.zero_le _) (Nat.zero_le _) (fun b10 S9 H locs hP hD hS hT => ?_)
    refine lv_if_ne (tgt := 36) hx hb dX9_kind_27 (by decide) (fun c11 => ?_) (fun c11 => ?_)
    · replace hT := hT.1 c11
      refine lv_aload_n hx hb dX9_kind_36 rfl (lv_at hl 0 rfl) ?_
      refine mg_kinds hx hb hts hown hK hP dX9_kind_37 ?_
      refine lv_iload_n hx hb dX9_kind_40 rfl (lv_at hl 1 rfl) ?_
      obtain ⟨hi12, hT⟩ := hT
      refine va_iald (f := S9.2.1 1) hx hb hK hP 1 0 mat_1 rfl hi12 dX9_kind_41 ?_
      refine lv_topi (fun v3_13 ev3_13 => ?_)
      replace hT := hT v3_13 ev3_13
      refine lv_istore_n (lv' := [(3, .int v3_13), (0, .ref (ad 0)), (1, .int a1), (2, .int a2)]) hx hb dX9_kind_42 rfl hl (by decide) rfl (fun ls hl => ?_)
      refine lv_aload_n hx hb dX9_kind_43 rfl (lv_at hl 1 rfl) ?_
      refine mg_kinds hx hb hts hown hK hP dX9_kind_44 ?_
      refine lv_iload_n hx hb dX9_kind_47 rfl (lv_at hl 2 rfl) ?_
      refine lv_iload_n hx hb dX9_kind_48 rfl (lv_at hl 3 rfl) ?_
      obtain ⟨hi14, hT⟩ := hT
      refine va_iast (f := S9.2.1 1) hx hb hK hP hD hS 1 0 mat_1 rfl hi14 dX9_kind_49 (fun H locs hP hD hS => ?_)
      replace hP := msetP_1 hP
      replace hD := msetD_1 hD
      refine lv_aload_n hx hb dX9_kind_50 rfl (lv_at hl 1 rfl) ?_
      refine lv_aload_n hx hb dX9_kind_51 rfl (lv_at hl 1 rfl) ?_
      refine mg_stand hx hb hts hown hK hP dX9_kind_52 ?_
      refine mcallZ (n := 1) (rest := []) hT hx hb hml hown hts hK hA hP hD hS hl gg_166 hd_X9_isRight ⟨Nat.le_of_ble_eq_true rfl, Nat.le_of_ble_eq_true rfl⟩ rfl rfl (Nat.le_of_ble_eq_true rfl) dX9_kind_55 (Nat.zero_le _) (Nat.zero_le _) (fun b16 S15 H locs hP hD hS hT => ?_)
      refine lv_if_eq (tgt := 72) hx hb dX9_kind_58 (by decide) (fun c17 => ?_) (fun c17 => ?_)
      · replace hT := hT.1 c17
        rw [hB72] at hT
        exact hT _ _ _ hP hD hS (lv_sub hl [1, 2, 0] rfl)
      · replace hT := hT.2 c17
        refine lv_aload_n hx hb dX9_kind_61 rfl (lv_at hl 1 rfl) ?_
        refine lv_aload_n hx hb dX9_kind_62 rfl (lv_at hl 1 rfl) ?_
        refine mg_goal hx hb hts hown hK hP dX9_kind_63 ?_
        refine mcallZ (n := 1) (rest := []) hT hx hb hml hown hts hK hA hP hD hS hl gg_166 hd_X9_isRight ⟨Nat.le_of_ble_eq_true rfl, Nat.le_of_ble_eq_true rfl⟩ rfl rfl (Nat.le_of_ble_eq_true rfl) dX9_kind_66 (Nat.zero_le _) (Nat.zero_le _) (fun b19 S18 H locs hP hD hS hT => ?_)
        refine lv_if_ne (tgt := 85) hx hb dX9_kind_69 (by decide) (fun c20 => ?_) (fun c20 => ?_)
        · replace hT := hT.1 c20
          refine lv_aload_n hx hb dX9_kind_85 rfl (lv_at hl 1 rfl) ?_
          refine mcallV (n := 0) (rest := []) hT hx hb hml hown hts hK hA hP hD hS hl gg_163 hd_X9_nothingUndone ⟨Nat.le_of_ble_eq_true rfl, Nat.le_of_ble_eq_true rfl⟩ rfl rfl (Nat.le_of_ble_eq_true rfl) dX9_kind_86 (Nat.zero_le _) (Nat.zero_le _) (fun S21 H locs hP hD hS hT => ?_)
          refine lv_iconst (v := 1) hx hb dX9_kind_89 (by decide) ?_
          exact hret true _ _ _ _ _ hP hD hS hT dX9_kind_90
        · replace hT := hT.2 c20
          rw [hB72] at hT
          exact hT _ _ _ hP hD hS (lv_sub hl [1, 2, 0] rfl)
    · replace hT := hT.2 c11
      rw [hB30] at hT
      exact hT _ _ _ hP hD hS (lv_sub hl [0] rfl)
abbrev mX_lane (l : Launch) (S : MS) (a1 : Int32) (a2 : Int32) (a3 : Int32) (a4 : Bool) (post : Bool → MS → Prop) : Prop := mCtZ l yX9_lane cX9_lane 5 2 44 (fun ad => [.int a1, .int a2, .int a3, .int (bI a4)]) S post
def mT_lane_37 (l : Launch) (a1 : Int32) (a2 : Int32) (a3 : Int32) (a4 : Bool) (post : Bool → MS → Prop) (B37 : MS → Prop) (S : MS) : Prop := mX_not l S 1 (fun b2 S1 => post b2 S1)
def mT_lane_e (l : Launch) (a1 : Int32) (a2 : Int32) (a3 : Int32) (a4 : Bool) (post : Bool → MS → Prop) (B37 : MS → Prop) (S0 : MS) : Prop := mX_isPeg l (mf S0 3 0) a1 (fun b4 S3 => (bI b4 = 0 → B37 S3) ∧ (¬ bI b4 = 0 → mX_isPeg l S3 a2 (fun b7 S6 => (bI b7 = 0 → B37 S6) ∧ (¬ bI b7 = 0 → (a1 = a2 → B37 S6) ∧ (¬ a1 = a2 → mX_in l S6 a3 0 100 (fun b11 S10 => (¬ bI b11 = 0 → vp_in ((5 * a1) + a2) 25 ∧ vp_in ((5 * a1) + a2) 25 ∧ mX_nothingUndone l (ma (ma S10 4 (upd (S10.2.1 4) ((5 * a1) + a2).toNatClampNeg a3)) 5 (upd (S10.2.1 5) ((5 * a1) + a2).toNatClampNeg (vp_nar .boolean (bI a4)))) (fun S15 => post true S15)) ∧ (bI b11 = 0 → B37 S10)))))))
set_option maxHeartbeats 4000000 in
set_option maxRecDepth 100000 in
theorem m_lane (l : Launch) (S0 : MS) (a1 : Int32) (a2 : Int32) (a3 : Int32) (a4 : Bool) (post : Bool → MS → Prop) (h : ∀ (B37 : MS → Prop), (∀ (S : MS) , mT_lane_37 l a1 a2 a3 a4 post B37 S → B37 S ) → mT_lane_e l a1 a2 a3 a4 post B37 S0) : mX_lane l S0 a1 a2 a3 a4 post := by
  refine msetZ rfl (fun _ => Nat.le_of_ble_eq_true rfl) ?_
  intro p e s m args below meth c D ad cI cZ cL A Q hx hb hml hown hts hK hA hret H locs ls hP hD hS hl
  replace hl : lv_has ls 5 [(0, .ref (ad 0)), (1, .int a1), (2, .int a2), (3, .int a3), (4, .int (bI a4))] := hl
  obtain ⟨B37, hB37⟩ : ∃ B : MS → Prop, B = (fun S => ∀ (H : Heap) (locs : List Loc) (ls : Array Slot), va_P D vwCl (mW ad cI cZ cL S) H → va_D A (mW ad cI cZ cL S) → va_S A s.heap H locs → lv_has ls 5 [(0, .ref (ad 0))] → W p l e (mrm 2 44) s m args below meth c H locs 0 0 Q (F0 m 37 ls [])) := ⟨_, rfl⟩
  have hT : mT_lane_e l a1 a2 a3 a4 post B37 S0 := by
    refine h B37 ?_
    · clear hP hD hS hl H locs ls
      intro S hT
      unfold mT_lane_37 at hT
      rw [hB37]
      intro H locs ls hP hD hS hl
      refine lv_aload_n hx hb dX9_lane_37 rfl (lv_at hl 0 rfl) ?_
      refine lv_iconst (v := 1) hx hb dX9_lane_38 (by decide) ?_
      refine mcallZ (n := 1) (rest := []) hT hx hb hml hown hts hK hA hP hD hS hl gg_159 hd_X9_not ⟨Nat.le_of_ble_eq_true rfl, Nat.le_of_ble_eq_true rfl⟩ rfl rfl (Nat.le_of_ble_eq_true rfl) dX9_lane_39 (Nat.zero_le _) (Nat.zero_le _) (fun b2 S1 H locs hP hD hS hT => ?_)
      exact hret b2 _ _ _ _ _ hP hD hS hT dX9_lane_42
  unfold mT_lane_e at hT
  refine lv_aload_n hx hb dX9_lane_0 rfl (lv_at hl 0 rfl) ?_
  refine lv_iconst (v := 0) hx hb dX9_lane_1 (by decide) ?_
  refine mp_thrown hx hb hts hown hK hP hD hS dX9_lane_2 (fun H locs hP hD hS => ?_)
  refine lv_aload_n hx hb dX9_lane_5 rfl (lv_at hl 0 rfl) ?_
  refine lv_iload_n hx hb dX9_lane_6 rfl (lv_at hl 1 rfl) ?_
  refine mcallZ (n := 1) (rest := []) hT hx hb hml hown hts hK hA hP hD hS hl gg_170 hd_X9_isPeg ⟨Nat.le_of_ble_eq_true rfl, Nat.le_of_ble_eq_true rfl⟩ rfl rfl (Nat.le_of_ble_eq_true rfl) dX9_lane_7 (Nat.zero_le _) (Nat.zero_le _) (fun b4 S3 H locs hP hD hS hT => ?_)
  refine lv_if_eq (tgt := 37) hx hb dX9_lane_10 (by decide) (fun c5 => ?_) (fun c5 => ?_)
  · replace hT := hT.1 c5
    rw [hB37] at hT
    exact hT _ _ _ hP hD hS (lv_sub hl [0] rfl)
  · replace hT := hT.2 c5
    refine lv_aload_n hx hb dX9_lane_13 rfl (lv_at hl 0 rfl) ?_
    refine lv_iload_n hx hb dX9_lane_14 rfl (lv_at hl 2 rfl) ?_
    refine mcallZ (n := 1) (rest := []) hT hx hb hml hown hts hK hA hP hD hS hl gg_170 hd_X9_isPeg ⟨Nat.le_of_ble_eq_true rfl, Nat.le_of_ble_eq_true rfl⟩ rfl rfl (Nat.le_of_ble_eq_true rfl) dX9_lane_15 (Nat.zero_le _) (Nat.zero_le _) (fun b7 S6 H locs hP hD hS hT => ?_)
    refine lv_if_eq (tgt := 37) hx hb dX9_lane_18 (by decide) (fun c8 => ?_) (fun c8 => ?_)
    · replace hT := hT.1 c8
      rw [hB37] at hT
      exact hT _ _ _ hP hD hS (lv_sub hl [0] rfl)
    · replace hT := hT.2 c8
      refine lv_iload_n hx hb dX9_lane_21 rfl (lv_at hl 1 rfl) ?_
      refine lv_iload_n hx hb dX9_lane_22 rfl (lv_at hl 2 rfl) ?_
      refine lv_icmp_eq (tgt := 37) hx hb dX9_lane_23 (by decide) (fun c9 => ?_) (fun c9 => ?_)
      · replace hT := hT.1 c9
        rw [hB37] at hT
        exact hT _ _ _ hP hD hS (lv_sub hl [0] rfl)
      · replace hT := hT.2 c9
        refine lv_aload_n hx hb dX9_lane_26 rfl (lv_at hl 0 rfl) ?_
        refine lv_iload_n hx hb dX9_lane_27 rfl (lv_at hl 3 rfl) ?_
        refine lv_iconst (v := 0) hx hb dX9_lane_28 (by decide) ?_
        refine lv_bipush (v := 100) hx hb dX9_lane_29 (by decide) ?_
        refine mcallZ (n := 3) (rest := []) hT hx hb hml hown hts hK hA hP hD hS hl gg_139 hd_X9_in ⟨Nat.le_of_ble_eq_true rfl, Nat.le_of_ble_eq_true rfl⟩ rfl rfl (Nat.le_of_ble_eq_true rfl) dX9_lane_31 (Nat.zero_le _) (Nat.zero_le _) (fun b11 S10 H locs hP hD hS hT => ?_)
        refine lv_if_ne (tgt := 43) hx hb dX9_lane_34 (by decide) (fun c12 => ?_) (fun c12 => ?_)
        · replace hT := hT.1 c12
          refine lv_aload_n hx hb dX9_lane_43 rfl (lv_at hl 0 rfl) ?_
          refine mg_costs hx hb hts hown hK hP dX9_lane_44 ?_
          refine lv_iconst (v := 5) hx hb dX9_lane_47 (by decide) ?_
          refine lv_iload_n hx hb dX9_lane_48 rfl (lv_at hl 1 rfl) ?_
          refine lv_imul hx hb dX9_lane_49 ?_
          refine lv_iload_n hx hb dX9_lane_50 rfl (lv_at hl 2 rfl) ?_
          refine lv_iadd hx hb dX9_lane_51 ?_
          refine lv_iload_n hx hb dX9_lane_52 rfl (lv_at hl 3 rfl) ?_
          obtain ⟨hi13, hT⟩ := hT
          refine va_iast (f := S10.2.1 4) hx hb hK hP hD hS 4 0 mat_4 rfl hi13 dX9_lane_53 (fun H locs hP hD hS => ?_)
          replace hP := msetP_4 hP
          replace hD := msetD_4 hD
          refine lv_aload_n hx hb dX9_lane_54 rfl (lv_at hl 0 rfl) ?_
          refine mg_isStrong hx hb hts hown hK hP dX9_lane_55 ?_
          refine lv_iconst (v := 5) hx hb dX9_lane_58 (by decide) ?_
          refine lv_iload_n hx hb dX9_lane_59 rfl (lv_at hl 1 rfl) ?_
          refine lv_imul hx hb dX9_lane_60 ?_
          refine lv_iload_n hx hb dX9_lane_61 rfl (lv_at hl 2 rfl) ?_
          refine lv_iadd hx hb dX9_lane_62 ?_
          refine lv_iload hx hb dX9_lane_63 (lv_at hl 4 rfl) ?_
          obtain ⟨hi14, hT⟩ := hT
          refine va_zast (f := S10.2.1 5) hx hb hK hP hD hS 5 1 mat_5 rfl hi14 dX9_lane_65 (fun H locs hP hD hS => ?_)
          replace hP := msetP_5 hP
          replace hD := msetD_5 hD
          refine lv_aload_n hx hb dX9_lane_66 rfl (lv_at hl 0 rfl) ?_
          refine mcallV (n := 0) (rest := []) hT hx hb hml hown hts hK hA hP hD hS hl gg_163 hd_X9_nothingUndone ⟨Nat.le_of_ble_eq_true rfl, Nat.le_of_ble_eq_true rfl⟩ rfl rfl (Nat.le_of_ble_eq_true rfl) dX9_lane_67 (Nat.zero_le _) (Nat.zero_le _) (fun S15 H locs hP hD hS hT => ?_)
          refine lv_iconst (v := 1) hx hb dX9_lane_70 (by decide) ?_
          exact hret true _ _ _ _ _ hP hD hS hT dX9_lane_71
        · replace hT := hT.2 c12
          rw [hB37] at hT
          exact hT _ _ _ hP hD hS (lv_sub hl [0] rfl)
