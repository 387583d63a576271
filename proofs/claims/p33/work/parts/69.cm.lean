abbrev cX_X8_call (l : Launch) (mc ms : Nat) (S : CS) (a1 : Int32) (a2 : Int32) (a3 : Int32) (a4 : Int32) (a5 : Int32) (a6 : Int32) (a7 : Int32) (a8 : Int32) (post : Int32 → CS → Prop) : Prop := cCtI l yX8_call cX8_call 10 2 50 mc ms (fun ad => [.ref (ad 0), .int a1, .int a2, .int a3, .int a4, .int a5, .int a6, .int a7, .int a8]) S post
def cT_X8_call_71 (l : Launch) (mc ms : Nat) (a1 : Int32) (a2 : Int32) (a3 : Int32) (a4 : Int32) (a5 : Int32) (a6 : Int32) (a7 : Int32) (a8 : Int32) (post : Int32 → CS → Prop) (B71 : Nat → Nat → CS → (Nat → Int32) → Prop) (kc ks : Nat) (S : CS) (yo : (Nat → Int32)) : Prop := kc ≤ mc ∧ ks ≤ ms ∧ cX_X8_none l S 1 (fun r2 S1 => kc ≤ mc ∧ ks ≤ ms ∧ post r2 S1)
def cT_X8_call_e (l : Launch) (mc ms : Nat) (a1 : Int32) (a2 : Int32) (a3 : Int32) (a4 : Int32) (a5 : Int32) (a6 : Int32) (a7 : Int32) (a8 : Int32) (post : Int32 → CS → Prop) (B71 : Nat → Nat → CS → (Nat → Int32) → Prop) (S0 : CS) : Prop := 0 + 1 ≤ mc ∧ 0 + 5 ≤ ms ∧ 0 + 1 ≤ mc ∧ 0 + 5 ≤ ms ∧ cX_X1_has l S0 a1 (fun b13 S12 => (bI b13 = 0 → B71 (0 + 1) (0 + 5) S12 (upd (upd (upd (upd (upd (fun _ => 0) (0 : Int32).toNatClampNeg a4) (1 : Int32).toNatClampNeg a5) (2 : Int32).toNatClampNeg a6) (3 : Int32).toNatClampNeg a7) (4 : Int32).toNatClampNeg a8)) ∧ (¬ bI b13 = 0 → 0 + 1 ≤ mc ∧ 0 + 5 ≤ ms ∧ cX_X1_has l S12 a2 (fun b18 S17 => (bI b18 = 0 → B71 (0 + 1) (0 + 5) S17 (upd (upd (upd (upd (upd (fun _ => 0) (0 : Int32).toNatClampNeg a4) (1 : Int32).toNatClampNeg a5) (2 : Int32).toNatClampNeg a6) (3 : Int32).toNatClampNeg a7) (4 : Int32).toNatClampNeg a8)) ∧ (¬ bI b18 = 0 → (a3 < 1 → B71 (0 + 1) (0 + 5) S17 (upd (upd (upd (upd (upd (fun _ => 0) (0 : Int32).toNatClampNeg a4) (1 : Int32).toNatClampNeg a5) (2 : Int32).toNatClampNeg a6) (3 : Int32).toNatClampNeg a7) (4 : Int32).toNatClampNeg a8)) ∧ (¬ a3 < 1 → (4 < a3 → B71 (0 + 1) (0 + 5) S17 (upd (upd (upd (upd (upd (fun _ => 0) (0 : Int32).toNatClampNeg a4) (1 : Int32).toNatClampNeg a5) (2 : Int32).toNatClampNeg a6) (3 : Int32).toNatClampNeg a7) (4 : Int32).toNatClampNeg a8)) ∧ (¬ 4 < a3 → 0 + 1 ≤ mc ∧ 0 + 5 ≤ ms ∧ cX_X8_isRearrangement l S17 5 (upd (upd (upd (upd (upd (fun _ => 0) (0 : Int32).toNatClampNeg a4) (1 : Int32).toNatClampNeg a5) (2 : Int32).toNatClampNeg a6) (3 : Int32).toNatClampNeg a7) (4 : Int32).toNatClampNeg a8) 5 (fun b25 S24 => (¬ bI b25 = 0 → 0 + 1 ≤ mc ∧ 0 + 5 ≤ ms ∧ cX_X8_addStep l S24 a1 a2 a3 5 (upd (upd (upd (upd (upd (fun _ => 0) (0 : Int32).toNatClampNeg a4) (1 : Int32).toNatClampNeg a5) (2 : Int32).toNatClampNeg a6) (3 : Int32).toNatClampNeg a7) (4 : Int32).toNatClampNeg a8) (fun r30 S29 => 0 + 1 ≤ mc ∧ 0 + 5 ≤ ms ∧ post r30 S29)) ∧ (bI b25 = 0 → B71 (0 + 1) (0 + 5) S24 (upd (upd (upd (upd (upd (fun _ => 0) (0 : Int32).toNatClampNeg a4) (1 : Int32).toNatClampNeg a5) (2 : Int32).toNatClampNeg a6) (3 : Int32).toNatClampNeg a7) (4 : Int32).toNatClampNeg a8)))))))))
set_option maxHeartbeats 4000000 in
set_option maxRecDepth 100000 in
theorem c_X8_call (l : Launch) (mc ms : Nat) (S0 : CS) (a1 : Int32) (a2 : Int32) (a3 : Int32) (a4 : Int32) (a5 : Int32) (a6 : Int32) (a7 : Int32) (a8 : Int32) (post : Int32 → CS → Prop) (h : ∀ (B71 : Nat → Nat → CS → (Nat → Int32) → Prop), (∀ (kc ks : Nat) (S : CS) (yo : (Nat → Int32)), cT_X8_call_71 l mc ms a1 a2 a3 a4 a5 a6 a7 a8 post B71 kc ks S yo → B71 kc ks S yo) → cT_X8_call_e l mc ms a1 a2 a3 a4 a5 a6 a7 a8 post B71 S0) : cX_X8_call l mc ms S0 a1 a2 a3 a4 a5 a6 a7 a8 post := by
  refine csetI rfl (fun _ => Nat.le_of_ble_eq_true rfl) ?_
  intro p e s m args below meth c D ad vd cI cZ cL cG X A Q hx hb hml hown hts hK hZ hA hret H locs ls hP hD hS hl
  replace hl : lv_has ls 10 [(0, .ref (ad 0)), (1, .int a1), (2, .int a2), (3, .int a3), (4, .int a4), (5, .int a5), (6, .int a6), (7, .int a7), (8, .int a8)] := hl
  obtain ⟨B71, hB71⟩ : ∃ B : Nat → Nat → CS → (Nat → Int32) → Prop, B = (fun kc ks S yo => ∀ (vd : Nat → Nat) (qo : Nat) (H : Heap) (locs : List Loc) (ls : Array Slot), va_P D vwCl (cW ad vd cI cZ cL cG S ++ (X ++ [(qo, .inl (cI, 5, .inl yo))])) H → va_D A (cW ad vd cI cZ cL cG S ++ (X ++ [(qo, .inl (cI, 5, .inl yo))])) → va_S A s.heap H locs → lv_has ls 10 [(0, .ref (ad 0))] → W p l e (crm 2 50 mc ms) s m args below meth c H locs kc ks Q (F0 m 71 ls [])) := ⟨_, rfl⟩
  have hT : cT_X8_call_e l mc ms a1 a2 a3 a4 a5 a6 a7 a8 post B71 S0 := by
    refine h B71 ?_
    · clear hP hD hS hl H locs ls vd
      intro kc ks S yo hT
      unfold cT_X8_call_71 at hT
      rw [hB71]
      intro vd qo H locs ls hP hD hS hl
      refine lv_aload_n hx hb dX8_call_71 rfl (lv_at hl 0 rfl) ?_
      refine lv_iconst (v := 1) hx hb dX8_call_72 (by decide) ?_
      obtain ⟨hk3, hk4, hT⟩ := hT
      refine ccallVI (n := 1) (b := ad 0) (C := RX8) (As := [.int 1]) (rest := []) hT hx hb hml hown hts hK hZ hA hP hD hS hl gc_X8_138 hdc_X8_none (va_recv hK hP rfl cob_0) ⟨Nat.le_of_ble_eq_true rfl, Nat.le_of_ble_eq_true rfl⟩ rfl rfl rfl (Nat.le_of_ble_eq_true rfl) dX8_call_73 hk3 hk4 (fun r2 S1 vd H locs hP hD hS hT => ?_)
      obtain ⟨hkc, hks, hT⟩ := hT
      replace hP := hP.dropR
      replace hD := hD.dropR
      exact hret _ _ _ _ _ _ _ _ _ hP hD hS hkc hks hT dX8_call_76
  unfold cT_X8_call_e at hT
  refine lv_iconst (v := 5) hx hb dX8_call_0 (by decide) ?_
  obtain ⟨hk5, hk6, hT⟩ := hT
  refine cnewX (N := 5) hx hb hts hK hP hD hS hA rfl (by decide) (by decide) hk5 hk6 dX8_call_1 (fun qo H hP hD hS => ?_)
  refine lv_dup hx hb dX8_call_3 rfl ?_
  refine lv_iconst (v := 0) hx hb dX8_call_4 (by decide) ?_
  refine lv_iload hx hb dX8_call_5 (lv_at hl 4 rfl) ?_
  have hi7 : vp_in (0 : Int32) 5 := by unfold vp_in; decide
  refine cstX hx hb hK hP hD hS hi7 dX8_call_7 (fun H locs hP hD hS => ?_)
  refine lv_dup hx hb dX8_call_8 rfl ?_
  refine lv_iconst (v := 1) hx hb dX8_call_9 (by decide) ?_
  refine lv_iload hx hb dX8_call_10 (lv_at hl 5 rfl) ?_
  have hi8 : vp_in (1 : Int32) 5 := by unfold vp_in; decide
  refine cstX hx hb hK hP hD hS hi8 dX8_call_12 (fun H locs hP hD hS => ?_)
  refine lv_dup hx hb dX8_call_13 rfl ?_
  refine lv_iconst (v := 2) hx hb dX8_call_14 (by decide) ?_
  refine lv_iload hx hb dX8_call_15 (lv_at hl 6 rfl) ?_
  have hi9 : vp_in (2 : Int32) 5 := by unfold vp_in; decide
  refine cstX hx hb hK hP hD hS hi9 dX8_call_17 (fun H locs hP hD hS => ?_)
  refine lv_dup hx hb dX8_call_18 rfl ?_
  refine lv_iconst (v := 3) hx hb dX8_call_19 (by decide) ?_
  refine lv_iload hx hb dX8_call_20 (lv_at hl 7 rfl) ?_
  have hi10 : vp_in (3 : Int32) 5 := by unfold vp_in; decide
  refine cstX hx hb hK hP hD hS hi10 dX8_call_22 (fun H locs hP hD hS => ?_)
  refine lv_dup hx hb dX8_call_23 rfl ?_
  refine lv_iconst (v := 4) hx hb dX8_call_24 (by decide) ?_
  refine lv_iload hx hb dX8_call_25 (lv_at hl 8 rfl) ?_
  have hi11 : vp_in (4 : Int32) 5 := by unfold vp_in; decide
  refine cstX hx hb hK hP hD hS hi11 dX8_call_27 (fun H locs hP hD hS => ?_)
  refine lv_astore (lv' := [(9, .ref qo), (0, .ref (ad 0)), (1, .int a1), (2, .int a2), (3, .int a3), (4, .int a4), (5, .int a5), (6, .int a6), (7, .int a7), (8, .int a8)]) hx hb dX8_call_28 hl (by decide) rfl (fun ls hl => ?_)
  refine lv_aload_n hx hb dX8_call_30 rfl (lv_at hl 1 rfl) ?_
  refine cg_X8_54 hx hb hts hown hK hP dX8_call_31 ?_
  refine lv_iload_n hx hb dX8_call_34 rfl (lv_at hl 2 rfl) ?_
  obtain ⟨hk14, hk15, hT⟩ := hT
  refine ccallVZ (n := 1) (b := ad 7) (C := RX1) (As := [.int a1]) (rest := []) hT hx hb hml hown hts hK hZ hA hP hD hS hl gc_X8_245 hdc_X1_has (va_recv hK hP rfl cob_7) ⟨Nat.le_of_ble_eq_true rfl, Nat.le_of_ble_eq_true rfl⟩ rfl rfl rfl (Nat.le_of_ble_eq_true rfl) dX8_call_35 hk14 hk15 (fun b13 S12 vd H locs hP hD hS hT => ?_)
  refine lv_if_eq (tgt := 71) hx hb dX8_call_38 (by decide) (fun c16 => ?_) (fun c16 => ?_)
  · replace hT := hT.1 c16
    rw [hB71] at hT
    exact hT _ _ _ _ _ hP hD hS (lv_sub hl [1] rfl)
  · replace hT := hT.2 c16
    refine lv_aload_n hx hb dX8_call_41 rfl (lv_at hl 1 rfl) ?_
    refine cg_X8_54 hx hb hts hown hK hP dX8_call_42 ?_
    refine lv_iload_n hx hb dX8_call_45 rfl (lv_at hl 3 rfl) ?_
    obtain ⟨hk19, hk20, hT⟩ := hT
    refine ccallVZ (n := 1) (b := ad 7) (C := RX1) (As := [.int a2]) (rest := []) hT hx hb hml hown hts hK hZ hA hP hD hS hl gc_X8_245 hdc_X1_has (va_recv hK hP rfl cob_7) ⟨Nat.le_of_ble_eq_true rfl, Nat.le_of_ble_eq_true rfl⟩ rfl rfl rfl (Nat.le_of_ble_eq_true rfl) dX8_call_46 hk19 hk20 (fun b18 S17 vd H locs hP hD hS hT => ?_)
    refine lv_if_eq (tgt := 71) hx hb dX8_call_49 (by decide) (fun c21 => ?_) (fun c21 => ?_)
    · replace hT := hT.1 c21
      rw [hB71] at hT
      exact hT _ _ _ _ _ hP hD hS (lv_sub hl [1] rfl)
    · replace hT := hT.2 c21
      refine lv_iload_n hx hb dX8_call_52 rfl (lv_at hl 4 rfl) ?_
      refine lv_iconst (v := 1) hx hb dX8_call_53 (by decide) ?_
      refine lv_icmp_lt (tgt := 71) hx hb dX8_call_54 (by decide) (fun c22 => ?_) (fun c22 => ?_)
      · replace hT := hT.1 c22
        rw [hB71] at hT
        exact hT _ _ _ _ _ hP hD hS (lv_sub hl [1] rfl)
      · replace hT := hT.2 c22
        refine lv_iload_n hx hb dX8_call_57 rfl (lv_at hl 4 rfl) ?_
        refine lv_iconst (v := 4) hx hb dX8_call_58 (by decide) ?_
        refine lv_icmp_gt (tgt := 71) hx hb dX8_call_59 (by decide) (fun c23 => ?_) (fun c23 => ?_)
        · replace hT := hT.1 c23
          rw [hB71] at hT
          exact hT _ _ _ _ _ hP hD hS (lv_sub hl [1] rfl)
        · replace hT := hT.2 c23
          refine lv_aload hx hb dX8_call_62 (lv_at hl 0 rfl) ?_
          refine lv_iconst (v := 5) hx hb dX8_call_64 (by decide) ?_
          obtain ⟨hk26, hk27, hT⟩ := hT
          refine ccallSZx (n := 2) (qx := qo) (As := [.ref qo, .int 5]) (rest := []) hT hx hb hml hown hts hK hZ hA hP hD hS hl (cXt.own (X := X) (cI := cI) (q := qo) (n := 5) (f := upd (upd (upd (upd (upd (fun _ => 0) (0 : Int32).toNatClampNeg a4) (1 : Int32).toNatClampNeg a5) (2 : Int32).toNatClampNeg a6) (3 : Int32).toNatClampNeg a7) (4 : Int32).toNatClampNeg a8)) gc_X8_224 hdc_X8_isRearrangement ⟨Nat.le_of_ble_eq_true rfl, Nat.le_of_ble_eq_true rfl⟩ rfl rfl rfl (Nat.le_of_ble_eq_true rfl) dX8_call_65 hk26 hk27 (fun b25 S24 vd H locs hP hD hS hT => ?_)
          refine lv_if_ne (tgt := 77) hx hb dX8_call_68 (by decide) (fun c28 => ?_) (fun c28 => ?_)
          · replace hT := hT.1 c28
            refine lv_aload_n hx hb dX8_call_77 rfl (lv_at hl 1 rfl) ?_
            refine lv_iload_n hx hb dX8_call_78 rfl (lv_at hl 2 rfl) ?_
            refine lv_iload_n hx hb dX8_call_79 rfl (lv_at hl 3 rfl) ?_
            refine lv_iload_n hx hb dX8_call_80 rfl (lv_at hl 4 rfl) ?_
            refine lv_aload hx hb dX8_call_81 (lv_at hl 0 rfl) ?_
            obtain ⟨hk31, hk32, hT⟩ := hT
            refine ccallVIx (n := 4) (qx := qo) (b := ad 0) (C := RX8) (As := [.int a1, .int a2, .int a3, .ref qo]) (rest := []) hT hx hb hml hown hts hK hZ hA hP hD hS hl (cXt.own (X := X) (cI := cI) (q := qo) (n := 5) (f := upd (upd (upd (upd (upd (fun _ => 0) (0 : Int32).toNatClampNeg a4) (1 : Int32).toNatClampNeg a5) (2 : Int32).toNatClampNeg a6) (3 : Int32).toNatClampNeg a7) (4 : Int32).toNatClampNeg a8)) gc_X8_251 hdc_X8_addStep (va_recv hK hP rfl cob_0) ⟨Nat.le_of_ble_eq_true rfl, Nat.le_of_ble_eq_true rfl⟩ rfl rfl rfl (Nat.le_of_ble_eq_true rfl) dX8_call_83 hk31 hk32 (fun r30 S29 vd H locs hP hD hS hT => ?_)
            obtain ⟨hkc, hks, hT⟩ := hT
            replace hP := hP.dropR
            replace hD := hD.dropR
            exact hret _ _ _ _ _ _ _ _ _ hP hD hS hkc hks hT dX8_call_86
          · replace hT := hT.2 c28
            rw [hB71] at hT
            exact hT _ _ _ _ _ hP hD hS (lv_sub hl [1] rfl)
abbrev cX_X1_sumOfSteps (l : Launch) (S : CS) (a1 : Int32) (a2 : Int32) (post : Int64 → CS → Prop) : Prop := cCtJ l yX1_sumOfSteps cX1_sumOfSteps 7 2 60 0 0 (fun ad => [.ref (ad 7), .int a1, .int a2]) S post
def cT_X1_sumOfSteps_5 (l : Launch) (a1 : Int32) (a2 : Int32) (post : Int64 → CS → Prop) (B5 : CS → Int64 → Int32 → Prop) (B82 : CS → Int64 → Int32 → Prop) (S : CS) (x3 : Int64) (x5 : Int32) : Prop := vp_in a1 8 ∧ (S.2.1 38 a1.toNatClampNeg ≤ x5 → post (if 1000000000000000000 < x3 then 1000000000000000000 else x3) S) ∧ (¬ S.2.1 38 a1.toNatClampNeg ≤ x5 → ∀ v6_3 : Int32, v6_3 = (a1 * 8) + x5 → vp_in v6_3 64 ∧ (¬ S.2.1 39 v6_3.toNatClampNeg = (-1) → vp_in v6_3 64 ∧ (a2 ≤ S.2.1 40 v6_3.toNatClampNeg → B82 S x3 x5) ∧ (¬ a2 ≤ S.2.1 40 v6_3.toNatClampNeg → vp_in v6_3 64 ∧ vp_in v6_3 64 ∧ vp_in (((a2 - (S.2.1 40 v6_3.toNatClampNeg)) * 8) + (S.2.1 39 v6_3.toNatClampNeg)) 488 ∧ ∀ v3_11 : Int64, v3_11 = x3 + (S.2.2.1 42 (((a2 - (S.2.1 40 v6_3.toNatClampNeg)) * 8) + (S.2.1 39 v6_3.toNatClampNeg)).toNatClampNeg) → B82 S v3_11 x5)) ∧ (S.2.1 39 v6_3.toNatClampNeg = (-1) → ∀ v3_12 : Int64, v3_12 = x3 + 1 → B82 S v3_12 x5))
def cT_X1_sumOfSteps_82 (l : Launch) (a1 : Int32) (a2 : Int32) (post : Int64 → CS → Prop) (B5 : CS → Int64 → Int32 → Prop) (B82 : CS → Int64 → Int32 → Prop) (S : CS) (x3 : Int64) (x5 : Int32) : Prop := B5 S x3 (x5 + 1)
def cT_X1_sumOfSteps_e (l : Launch) (a1 : Int32) (a2 : Int32) (post : Int64 → CS → Prop) (B5 : CS → Int64 → Int32 → Prop) (B82 : CS → Int64 → Int32 → Prop) (S0 : CS) : Prop := B5 S0 0 0
set_option maxHeartbeats 4000000 in
set_option maxRecDepth 100000 in
theorem c_X1_sumOfSteps (l : Launch) (S0 : CS) (a1 : Int32) (a2 : Int32) (post : Int64 → CS → Prop) (h : ∀ (B5 : CS → Int64 → Int32 → Prop) (B82 : CS → Int64 → Int32 → Prop), (∀ (S : CS) (x3 : Int64) (x5 : Int32), cT_X1_sumOfSteps_5 l a1 a2 post B5 B82 S x3 x5 → B5 S x3 x5) → (∀ (S : CS) (x3 : Int64) (x5 : Int32), cT_X1_sumOfSteps_82 l a1 a2 post B5 B82 S x3 x5 → B82 S x3 x5) → cT_X1_sumOfSteps_e l a1 a2 post B5 B82 S0) : cX_X1_sumOfSteps l S0 a1 a2 post := by
  refine csetJ rfl (fun _ => Nat.le_of_ble_eq_true rfl) ?_
  intro p e s m args below meth c D ad vd cI cZ cL cG X A Q hx hb hml hown hts hK hZ hA hret H locs ls hP hD hS hl
  replace hl : lv_has ls 7 [(0, .ref (ad 7)), (1, .int a1), (2, .int a2)] := hl
  obtain ⟨B5, hB5⟩ : ∃ B : CS → Int64 → Int32 → Prop, B = (fun S x3 x5 => ∀ (vd : Nat → Nat) (H : Heap) (locs : List Loc) (ls : Array Slot), va_P D vwCl (cW ad vd cI cZ cL cG S ++ X) H → va_D A (cW ad vd cI cZ cL cG S ++ X) → va_S A s.heap H locs → lv_has ls 7 [(0, .ref (ad 7)), (1, .int a1), (2, .int a2), (3, .long x3), (5, .int x5)] → W p l e (crm 2 60 0 0) s m args below meth c H locs 0 0 Q (F0 m 5 ls [])) := ⟨_, rfl⟩
  obtain ⟨B82, hB82⟩ : ∃ B : CS → Int64 → Int32 → Prop, B = (fun S x3 x5 => ∀ (vd : Nat → Nat) (H : Heap) (locs : List Loc) (ls : Array Slot), va_P D vwCl (cW ad vd cI cZ cL cG S ++ X) H → va_D A (cW ad vd cI cZ cL cG S ++ X) → va_S A s.heap H locs → lv_has ls 7 [(0, .ref (ad 7)), (1, .int a1), (2, .int a2), (3, .long x3), (5, .int x5)] → W p l e (crm 2 60 0 0) s m args below meth c H locs 0 0 Q (F0 m 82 ls [])) := ⟨_, rfl⟩
  have hT : cT_X1_sumOfSteps_e l a1 a2 post B5 B82 S0 := by
    refine h B5 B82 ?_ ?_
    · clear hP hD hS hl H locs ls vd
      intro S x3 x5 hT
      unfold cT_X1_sumOfSteps_5 at hT
      rw [hB5]
      intro vd H locs ls hP hD hS hl
      refine lv_iload hx hb dX1_sumOfSteps_5 (lv_at hl 4 rfl) ?_
      refine lv_aload_n hx hb dX1_sumOfSteps_7 rfl (lv_at hl 0 rfl) ?_
      refine cg_X1_9 hx hb hts hown hK hP dX1_sumOfSteps_8 ?_
      refine lv_iload_n hx hb dX1_sumOfSteps_11 rfl (lv_at hl 1 rfl) ?_
      obtain ⟨hi1, hT⟩ := hT
      refine va_iald (f := S.2.1 38) hx hb hK hP 38 0 cat_38 rfl hi1 dX1_sumOfSteps_12 ?_
      refine lv_icmp_ge (tgt := 88) hx hb dX1_sumOfSteps_13 (by decide) (fun c2 => ?_) (fun c2 => ?_)
      · replace hT := hT.1 c2
        refine lv_lload_n hx hb dX1_sumOfSteps_88 rfl (lv_at hl 3 rfl) ?_
        refine lv_ldc2 (v := 1000000000000000000) hx hb hown (hts _ kc_774) dX1_sumOfSteps_89 ?_
        refine va_mmin_long (x := x3) (y := 1000000000000000000) hx hb (hml.trans hl.1.symm) hown (hts _ kc_775) (hts _ kc_776) (hts _ kc_63) (hts _ kc_777) (Nat.le_of_ble_eq_true rfl) (Nat.le_of_ble_eq_true rfl) (Nat.zero_le _) (Nat.zero_le _) dX1_sumOfSteps_92 ?_
        exact hret _ _ _ _ _ _ _ _ _ hP hD hS (Nat.le_refl _) (Nat.le_refl _) hT dX1_sumOfSteps_95
      · replace hT := hT.2 c2
        refine lv_iload_n hx hb dX1_sumOfSteps_16 rfl (lv_at hl 1 rfl) ?_
        refine lv_bipush (v := 8) hx hb dX1_sumOfSteps_17 (by decide) ?_
        refine lv_imul hx hb dX1_sumOfSteps_19 ?_
        refine lv_iload hx hb dX1_sumOfSteps_20 (lv_at hl 4 rfl) ?_
        refine lv_iadd hx hb dX1_sumOfSteps_22 ?_
        refine lv_topi (fun v6_3 ev6_3 => ?_)
        replace hT := hT v6_3 ev6_3
        refine lv_istore (lv' := [(6, .int v6_3), (0, .ref (ad 7)), (1, .int a1), (2, .int a2), (3, .long x3), (5, .int x5)]) hx hb dX1_sumOfSteps_23 hl (by decide) rfl (fun ls hl => ?_)
        refine lv_aload_n hx hb dX1_sumOfSteps_25 rfl (lv_at hl 1 rfl) ?_
        refine cg_X1_15 hx hb hts hown hK hP dX1_sumOfSteps_26 ?_
        refine lv_iload hx hb dX1_sumOfSteps_29 (lv_at hl 0 rfl) ?_
        obtain ⟨hi4, hT⟩ := hT
        refine va_iald (f := S.2.1 39) hx hb hK hP 39 0 cat_39 rfl hi4 dX1_sumOfSteps_31 ?_
        refine lv_iconst (v := (-1)) hx hb dX1_sumOfSteps_32 (by decide) ?_
        refine lv_icmp_ne (tgt := 43) hx hb dX1_sumOfSteps_33 (by decide) (fun c5 => ?_) (fun c5 => ?_)
        · replace hT := hT.1 c5
          refine lv_aload_n hx hb dX1_sumOfSteps_43 rfl (lv_at hl 1 rfl) ?_
          refine cg_X1_18 hx hb hts hown hK hP dX1_sumOfSteps_44 ?_
          refine lv_iload hx hb dX1_sumOfSteps_47 (lv_at hl 0 rfl) ?_
          obtain ⟨hi6, hT⟩ := hT
          refine va_iald (f := S.2.1 40) hx hb hK hP 40 0 cat_40 rfl hi6 dX1_sumOfSteps_49 ?_
          refine lv_iload_n hx hb dX1_sumOfSteps_50 rfl (lv_at hl 3 rfl) ?_
          refine lv_icmp_ge (tgt := 82) hx hb dX1_sumOfSteps_51 (by decide) (fun c7 => ?_) (fun c7 => ?_)
          · replace hT := hT.1 c7
            rw [hB82] at hT
            exact hT _ _ _ _ hP hD hS (lv_sub hl [1, 2, 3, 4, 5] rfl)
          · replace hT := hT.2 c7
            refine lv_lload_n hx hb dX1_sumOfSteps_54 rfl (lv_at hl 4 rfl) ?_
            refine lv_aload_n hx hb dX1_sumOfSteps_55 rfl (lv_at hl 1 rfl) ?_
            refine cg_X1_24 hx hb hts hown hK hP dX1_sumOfSteps_56 ?_
            refine lv_iload_n hx hb dX1_sumOfSteps_59 rfl (lv_at hl 3 rfl) ?_
            refine lv_aload_n hx hb dX1_sumOfSteps_60 rfl (lv_at hl 1 rfl) ?_
            refine cg_X1_18 hx hb hts hown hK hP dX1_sumOfSteps_61 ?_
            refine lv_iload hx hb dX1_sumOfSteps_64 (lv_at hl 0 rfl) ?_
            obtain ⟨hi8, hT⟩ := hT
            refine va_iald (f := S.2.1 40) hx hb hK hP 40 0 cat_40 rfl hi8 dX1_sumOfSteps_66 ?_
            refine lv_isub hx hb dX1_sumOfSteps_67 ?_
            refine lv_bipush (v := 8) hx hb dX1_sumOfSteps_68 (by decide) ?_
            refine lv_imul hx hb dX1_sumOfSteps_70 ?_
            refine lv_aload_n hx hb dX1_sumOfSteps_71 rfl (lv_at hl 1 rfl) ?_
            refine cg_X1_15 hx hb hts hown hK hP dX1_sumOfSteps_72 ?_
            refine lv_iload hx hb dX1_sumOfSteps_75 (lv_at hl 0 rfl) ?_
            obtain ⟨hi9, hT⟩ := hT
            refine va_iald (f := S.2.1 39) hx hb hK hP 39 0 cat_39 rfl hi9 dX1_sumOfSteps_77 ?_
            refine lv_iadd hx hb dX1_sumOfSteps_78 ?_
            obtain ⟨hi10, hT⟩ := hT
            refine va_lald (f := S.2.2.1 42) hx hb hK hP 42 2 cat_42 rfl hi10 dX1_sumOfSteps_79 ?_
            refine lv_ladd hx hb dX1_sumOfSteps_80 ?_
            refine lv_topl (fun v3_11 ev3_11 => ?_)
            replace hT := hT v3_11 ev3_11
            refine lv_lstore_n (lv' := [(3, .long v3_11), (6, .int v6_3), (0, .ref (ad 7)), (1, .int a1), (2, .int a2), (5, .int x5)]) hx hb dX1_sumOfSteps_81 rfl hl (by decide) rfl (fun ls hl => ?_)
            rw [hB82] at hT
            exact hT _ _ _ _ hP hD hS (lv_sub hl [2, 3, 4, 0, 5] rfl)
        · replace hT := hT.2 c5
          refine lv_lload_n hx hb dX1_sumOfSteps_36 rfl (lv_at hl 4 rfl) ?_
          refine lv_lconst (v := 1) hx hb dX1_sumOfSteps_37 (by decide) ?_
          refine lv_ladd hx hb dX1_sumOfSteps_38 ?_
          refine lv_topl (fun v3_12 ev3_12 => ?_)
          replace hT := hT v3_12 ev3_12
          refine lv_lstore_n (lv' := [(3, .long v3_12), (6, .int v6_3), (0, .ref (ad 7)), (1, .int a1), (2, .int a2), (5, .int x5)]) hx hb dX1_sumOfSteps_39 rfl hl (by decide) rfl (fun ls hl => ?_)
          refine lv_goto (tgt := 82) hx hb dX1_sumOfSteps_40 (by decide) ?_
          rw [hB82] at hT
          exact hT _ _ _ _ hP hD hS (lv_sub hl [2, 3, 4, 0, 5] rfl)
    · clear hP hD hS hl H locs ls vd
      intro S x3 x5 hT
      unfold cT_X1_sumOfSteps_82 at hT
      rw [hB82]
      intro vd H locs ls hP hD hS hl
      refine lv_iinc (v := x5 + 1) (lv' := [(5, .int (x5 + 1)), (0, .ref (ad 7)), (1, .int a1), (2, .int a2), (3, .long x3)]) hx hb dX1_sumOfSteps_82 hl (k := 4) rfl rfl (by decide) rfl (fun ls hl => ?_)
      refine lv_goto (tgt := 5) hx hb dX1_sumOfSteps_85 (by decide) ?_
      rw [hB5] at hT
      exact hT _ _ _ _ hP hD hS (lv_sub hl [1, 2, 3, 4, 0] rfl)
  unfold cT_X1_sumOfSteps_e at hT
  refine lv_lconst (v := 0) hx hb dX1_sumOfSteps_0 (by decide) ?_
  refine lv_lstore_n (lv' := [(3, .long 0), (0, .ref (ad 7)), (1, .int a1), (2, .int a2)]) hx hb dX1_sumOfSteps_1 rfl hl (by decide) rfl (fun ls hl => ?_)
  refine lv_iconst (v := 0) hx hb dX1_sumOfSteps_2 (by decide) ?_
  refine lv_istore (lv' := [(5, .int 0), (3, .long 0), (0, .ref (ad 7)), (1, .int a1), (2, .int a2)]) hx hb dX1_sumOfSteps_3 hl (by decide) rfl (fun ls hl => ?_)
  rw [hB5] at hT
  exact hT _ _ _ _ hP hD hS (lv_sub hl [2, 3, 4, 1, 0] rfl)
abbrev cX_X1_tally (l : Launch) (S : CS) (a1 : Int32) (a2 : Int32) (post : Int64 → CS → Prop) : Prop := cCtJ l yX1_tally cX1_tally 5 3 86 0 0 (fun ad => [.ref (ad 7), .int a1, .int a2]) S post
def cT_X1_tally_2 (l : Launch) (a1 : Int32) (a2 : Int32) (post : Int64 → CS → Prop) (B2 : CS → Int32 → Prop) (B10 : CS → Int32 → Int32 → Prop) (S : CS) (x3 : Int32) : Prop := (a2 < x3 → vp_in ((a2 * 8) + a1) 488 ∧ post (S.2.2.1 42 ((a2 * 8) + a1).toNatClampNeg) S) ∧ (¬ a2 < x3 → B10 S x3 0)
def cT_X1_tally_10 (l : Launch) (a1 : Int32) (a2 : Int32) (post : Int64 → CS → Prop) (B2 : CS → Int32 → Prop) (B10 : CS → Int32 → Int32 → Prop) (S : CS) (x3 : Int32) (x4 : Int32) : Prop := (S.1 19 ≤ x4 → B2 S (x3 + 1)) ∧ (¬ S.1 19 ≤ x4 → cX_X1_sumOfSteps l S x4 x3 (fun r5 S4 => vp_in ((x3 * 8) + x4) 488 ∧ B10 (cj S4 42 (vp_updL (S4.2.2.1 42) ((x3 * 8) + x4).toNatClampNeg r5)) x3 (x4 + 1)))
def cT_X1_tally_e (l : Launch) (a1 : Int32) (a2 : Int32) (post : Int64 → CS → Prop) (B2 : CS → Int32 → Prop) (B10 : CS → Int32 → Int32 → Prop) (S0 : CS) : Prop := B2 S0 1
set_option maxHeartbeats 4000000 in
set_option maxRecDepth 100000 in
theorem c_X1_tally (l : Launch) (S0 : CS) (a1 : Int32) (a2 : Int32) (post : Int64 → CS → Prop) (h : ∀ (B2 : CS → Int32 → Prop) (B10 : CS → Int32 → Int32 → Prop), (∀ (S : CS) (x3 : Int32), cT_X1_tally_2 l a1 a2 post B2 B10 S x3 → B2 S x3) → (∀ (S : CS) (x3 : Int32) (x4 : Int32), cT_X1_tally_10 l a1 a2 post B2 B10 S x3 x4 → B10 S x3 x4) → cT_X1_tally_e l a1 a2 post B2 B10 S0) : cX_X1_tally l S0 a1 a2 post := by
  refine csetJ rfl (fun _ => Nat.le_of_ble_eq_true rfl) ?_
  intro p e s m args below meth c D ad vd cI cZ cL cG X A Q hx hb hml hown hts hK hZ hA hret H locs ls hP hD hS hl
  replace hl : lv_has ls 5 [(0, .ref (ad 7)), (1, .int a1), (2, .int a2)] := hl
  obtain ⟨B2, hB2⟩ : ∃ B : CS → Int32 → Prop, B = (fun S x3 => ∀ (vd : Nat → Nat) (H : Heap) (locs : List Loc) (ls : Array Slot), va_P D vwCl (cW ad vd cI cZ cL cG S ++ X) H → va_D A (cW ad vd cI cZ cL cG S ++ X) → va_S A s.heap H locs → lv_has ls 5 [(0, .ref (ad 7)), (1, .int a1), (2, .int a2), (3, .int x3)] → W p l e (crm 3 86 0 0) s m args below meth c H locs 0 0 Q (F0 m 2 ls [])) := ⟨_, rfl⟩
  obtain ⟨B10, hB10⟩ : ∃ B : CS → Int32 → Int32 → Prop, B = (fun S x3 x4 => ∀ (vd : Nat → Nat) (H : Heap) (locs : List Loc) (ls : Array Slot), va_P D vwCl (cW ad vd cI cZ cL cG S ++ X) H → va_D A (cW ad vd cI cZ cL cG S ++ X) → va_S A s.heap H locs → lv_has ls 5 [(0, .ref (ad 7)), (1, .int a1), (2, .int a2), (3, .int x3), (4, .int x4)] → W p l e (crm 3 86 0 0) s m args below meth c H locs 0 0 Q (F0 m 10 ls [])) := ⟨_, rfl⟩
  have hT : cT_X1_tally_e l a1 a2 post B2 B10 S0 := by
    refine h B2 B10 ?_ ?_
    · clear hP hD hS hl H locs ls vd
      intro S x3 hT
      unfold cT_X1_tally_2 at hT
      rw [hB2]
      intro vd H locs ls hP hD hS hl
      refine lv_iload_n hx hb dX1_tally_2 rfl (lv_at hl 3 rfl) ?_
      refine lv_iload_n hx hb dX1_tally_3 rfl (lv_at hl 2 rfl) ?_
      refine lv_icmp_gt (tgt := 50) hx hb dX1_tally_4 (by decide) (fun c1 => ?_) (fun c1 => ?_)
      · replace hT := hT.1 c1
        refine lv_aload_n hx hb dX1_tally_50 rfl (lv_at hl 0 rfl) ?_
        refine cg_X1_24 hx hb hts hown hK hP dX1_tally_51 ?_
        refine lv_iload_n hx hb dX1_tally_54 rfl (lv_at hl 2 rfl) ?_
        refine lv_bipush (v := 8) hx hb dX1_tally_55 (by decide) ?_
        refine lv_imul hx hb dX1_tally_57 ?_
        refine lv_iload_n hx hb dX1_tally_58 rfl (lv_at hl 1 rfl) ?_
        refine lv_iadd hx hb dX1_tally_59 ?_
        obtain ⟨hi2, hT⟩ := hT
        refine va_lald (f := S.2.2.1 42) hx hb hK hP 42 2 cat_42 rfl hi2 dX1_tally_60 ?_
        exact hret _ _ _ _ _ _ _ _ _ hP hD hS (Nat.le_refl _) (Nat.le_refl _) hT dX1_tally_61
      · replace hT := hT.2 c1
        refine lv_iconst (v := 0) hx hb dX1_tally_7 (by decide) ?_
        refine lv_istore (lv' := [(4, .int 0), (0, .ref (ad 7)), (1, .int a1), (2, .int a2), (3, .int x3)]) hx hb dX1_tally_8 hl (by decide) rfl (fun ls hl => ?_)
        rw [hB10] at hT
        exact hT _ _ _ _ hP hD hS (lv_sub hl [1, 2, 3, 4, 0] rfl)
    · clear hP hD hS hl H locs ls vd
      intro S x3 x4 hT
      unfold cT_X1_tally_10 at hT
      rw [hB10]
      intro vd H locs ls hP hD hS hl
      refine lv_iload hx hb dX1_tally_10 (lv_at hl 4 rfl) ?_
      refine lv_aload_n hx hb dX1_tally_12 rfl (lv_at hl 0 rfl) ?_
      refine cg_X1_28 (v := S.1 19) hx hb hts hown hK hP rfl dX1_tally_13 ?_
      refine lv_icmp_ge (tgt := 44) hx hb dX1_tally_16 (by decide) (fun c3 => ?_) (fun c3 => ?_)
      · replace hT := hT.1 c3
        refine lv_iinc (v := x3 + 1) (lv' := [(3, .int (x3 + 1)), (0, .ref (ad 7)), (1, .int a1), (2, .int a2), (4, .int x4)]) hx hb dX1_tally_44 hl (k := 3) rfl rfl (by decide) rfl (fun ls hl => ?_)
        refine lv_goto (tgt := 2) hx hb dX1_tally_47 (by decide) ?_
        rw [hB2] at hT
        exact hT _ _ _ _ hP hD hS (lv_sub hl [1, 2, 3, 0] rfl)
      · replace hT := hT.2 c3
        refine lv_aload_n hx hb dX1_tally_19 rfl (lv_at hl 0 rfl) ?_
        refine cg_X1_24 hx hb hts hown hK hP dX1_tally_20 ?_
        refine lv_iload_n hx hb dX1_tally_23 rfl (lv_at hl 3 rfl) ?_
        refine lv_bipush (v := 8) hx hb dX1_tally_24 (by decide) ?_
        refine lv_imul hx hb dX1_tally_26 ?_
        refine lv_iload hx hb dX1_tally_27 (lv_at hl 4 rfl) ?_
        refine lv_iadd hx hb dX1_tally_29 ?_
        refine lv_aload_n hx hb dX1_tally_30 rfl (lv_at hl 0 rfl) ?_
        refine lv_iload hx hb dX1_tally_31 (lv_at hl 4 rfl) ?_
        refine lv_iload_n hx hb dX1_tally_33 rfl (lv_at hl 3 rfl) ?_
        refine ccallVJ (n := 2) (b := ad 7) (C := RX1) (As := [.int x4, .int x3]) (rest := [.int ((x3 * 8) + x4), .ref (ad 42)]) hT hx hb hml hown hts hK hZ hA hP hD hS hl gc_X1_32 hdc_X1_sumOfSteps (va_recv hK hP rfl cob_7) ⟨Nat.le_of_ble_eq_true rfl, Nat.le_of_ble_eq_true rfl⟩ rfl rfl rfl (Nat.le_of_ble_eq_true rfl) dX1_tally_34 (Nat.le_refl _) (Nat.le_refl _) (fun r5 S4 vd H locs hP hD hS hT => ?_)
        obtain ⟨hi6, hT⟩ := hT
        refine va_last (f := S4.2.2.1 42) hx hb hK hP hD hS 42 2 cat_42 rfl hi6 dX1_tally_37 (fun H locs hP hD hS => ?_)
        replace hP := csetP_42 hP
        replace hD := csetD_42 hD
        refine lv_iinc (v := x4 + 1) (lv' := [(4, .int (x4 + 1)), (0, .ref (ad 7)), (1, .int a1), (2, .int a2), (3, .int x3)]) hx hb dX1_tally_38 hl (k := 4) rfl rfl (by decide) rfl (fun ls hl => ?_)
        refine lv_goto (tgt := 10) hx hb dX1_tally_41 (by decide) ?_
        rw [hB10] at hT
        exact hT _ _ _ _ hP hD hS (lv_sub hl [1, 2, 3, 4, 0] rfl)
  unfold cT_X1_tally_e at hT
  refine lv_iconst (v := 1) hx hb dX1_tally_0 (by decide) ?_
  refine lv_istore_n (lv' := [(3, .int 1), (0, .ref (ad 7)), (1, .int a1), (2, .int a2)]) hx hb dX1_tally_1 rfl hl (by decide) rfl (fun ls hl => ?_)
  rw [hB2] at hT
  exact hT _ _ _ _ hP hD hS (lv_sub hl [1, 2, 3, 0] rfl)
abbrev cX_X8_count (l : Launch) (S : CS) (a1 : Int32) (a2 : Int32) (post : Int64 → CS → Prop) : Prop := cCtJ l yX8_count cX8_count 3 4 110 0 0 (fun ad => [.ref (ad 0), .int a1, .int a2]) S post
def cT_X8_count_21 (l : Launch) (a1 : Int32) (a2 : Int32) (post : Int64 → CS → Prop) (B21 : CS → Prop) (S : CS) : Prop := cX_X8_none l S 1 (fun r2 S1 => post r2.toInt64 S1)
def cT_X8_count_e (l : Launch) (a1 : Int32) (a2 : Int32) (post : Int64 → CS → Prop) (B21 : CS → Prop) (S0 : CS) : Prop := cX_X1_has l S0 a1 (fun b4 S3 => (bI b4 = 0 → B21 S3) ∧ (¬ bI b4 = 0 → (a2 < 0 → B21 S3) ∧ (¬ a2 < 0 → (a2 ≤ 60 → cX_X1_tally l (cf S3 2 0) a1 a2 (fun r9 S8 => post r9 S8)) ∧ (¬ a2 ≤ 60 → B21 S3))))
set_option maxHeartbeats 4000000 in
set_option maxRecDepth 100000 in
theorem c_X8_count (l : Launch) (S0 : CS) (a1 : Int32) (a2 : Int32) (post : Int64 → CS → Prop) (h : ∀ (B21 : CS → Prop), (∀ (S : CS) , cT_X8_count_21 l a1 a2 post B21 S → B21 S ) → cT_X8_count_e l a1 a2 post B21 S0) : cX_X8_count l S0 a1 a2 post := by
  refine csetJ rfl (fun _ => Nat.le_of_ble_eq_true rfl) ?_
  intro p e s m args below meth c D ad vd cI cZ cL cG X A Q hx hb hml hown hts hK hZ hA hret H locs ls hP hD hS hl
  replace hl : lv_has ls 3 [(0, .ref (ad 0)), (1, .int a1), (2, .int a2)] := hl
  obtain ⟨B21, hB21⟩ : ∃ B : CS → Prop, B = (fun S => ∀ (vd : Nat → Nat) (H : Heap) (locs : List Loc) (ls : Array Slot), va_P D vwCl (cW ad vd cI cZ cL cG S ++ X) H → va_D A (cW ad vd cI cZ cL cG S ++ X) → va_S A s.heap H locs → lv_has ls 3 [(0, .ref (ad 0))] → W p l e (crm 4 110 0 0) s m args below meth c H locs 0 0 Q (F0 m 21 ls [])) := ⟨_, rfl⟩
  have hT : cT_X8_count_e l a1 a2 post B21 S0 := by
    refine h B21 ?_
    · clear hP hD hS hl H locs ls vd
      intro S hT
      unfold cT_X8_count_21 at hT
      rw [hB21]
      intro vd H locs ls hP hD hS hl
      refine lv_aload_n hx hb dX8_count_21 rfl (lv_at hl 0 rfl) ?_
      refine lv_iconst (v := 1) hx hb dX8_count_22 (by decide) ?_
      refine ccallVI (n := 1) (b := ad 0) (C := RX8) (As := [.int 1]) (rest := []) hT hx hb hml hown hts hK hZ hA hP hD hS hl gc_X8_138 hdc_X8_none (va_recv hK hP rfl cob_0) ⟨Nat.le_of_ble_eq_true rfl, Nat.le_of_ble_eq_true rfl⟩ rfl rfl rfl (Nat.le_of_ble_eq_true rfl) dX8_count_23 (Nat.le_refl _) (Nat.le_refl _) (fun r2 S1 vd H locs hP hD hS hT => ?_)
      refine lv_i2l hx hb dX8_count_26 rfl ?_
      exact hret _ _ _ _ _ _ _ _ _ hP hD hS (Nat.le_refl _) (Nat.le_refl _) hT dX8_count_27
  unfold cT_X8_count_e at hT
  refine lv_aload_n hx hb dX8_count_0 rfl (lv_at hl 0 rfl) ?_
  refine cg_X8_54 hx hb hts hown hK hP dX8_count_1 ?_
  refine lv_iload_n hx hb dX8_count_4 rfl (lv_at hl 1 rfl) ?_
  refine ccallVZ (n := 1) (b := ad 7) (C := RX1) (As := [.int a1]) (rest := []) hT hx hb hml hown hts hK hZ hA hP hD hS hl gc_X8_245 hdc_X1_has (va_recv hK hP rfl cob_7) ⟨Nat.le_of_ble_eq_true rfl, Nat.le_of_ble_eq_true rfl⟩ rfl rfl rfl (Nat.le_of_ble_eq_true rfl) dX8_count_5 (Nat.le_refl _) (Nat.le_refl _) (fun b4 S3 vd H locs hP hD hS hT => ?_)
  refine lv_if_eq (tgt := 21) hx hb dX8_count_8 (by decide) (fun c5 => ?_) (fun c5 => ?_)
  · replace hT := hT.1 c5
    rw [hB21] at hT
    exact hT _ _ _ _ hP hD hS (lv_sub hl [0] rfl)
  · replace hT := hT.2 c5
    refine lv_iload_n hx hb dX8_count_11 rfl (lv_at hl 2 rfl) ?_
    refine lv_if_lt (tgt := 21) hx hb dX8_count_12 (by decide) (fun c6 => ?_) (fun c6 => ?_)
    · replace hT := hT.1 c6
      rw [hB21] at hT
      exact hT _ _ _ _ hP hD hS (lv_sub hl [0] rfl)
    · replace hT := hT.2 c6
      refine lv_iload_n hx hb dX8_count_15 rfl (lv_at hl 2 rfl) ?_
      refine lv_bipush (v := 60) hx hb dX8_count_16 (by decide) ?_
      refine lv_icmp_le (tgt := 28) hx hb dX8_count_18 (by decide) (fun c7 => ?_) (fun c7 => ?_)
      · replace hT := hT.1 c7
        refine lv_aload_n hx hb dX8_count_28 rfl (lv_at hl 0 rfl) ?_
        refine lv_iconst (v := 0) hx hb dX8_count_29 (by decide) ?_
        refine cp_X8_149 hx hb hts hown hK hP hD hS dX8_count_30 (fun H locs hP hD hS => ?_)
        refine lv_aload_n hx hb dX8_count_33 rfl (lv_at hl 0 rfl) ?_
        refine cg_X8_54 hx hb hts hown hK hP dX8_count_34 ?_
        refine lv_iload_n hx hb dX8_count_37 rfl (lv_at hl 1 rfl) ?_
        refine lv_iload_n hx hb dX8_count_38 rfl (lv_at hl 2 rfl) ?_
        refine ccallVJ (n := 2) (b := ad 7) (C := RX1) (As := [.int a1, .int a2]) (rest := []) hT hx hb hml hown hts hK hZ hA hP hD hS hl gc_X8_255 hdc_X1_tally (va_recv hK hP rfl cob_7) ⟨Nat.le_of_ble_eq_true rfl, Nat.le_of_ble_eq_true rfl⟩ rfl rfl rfl (Nat.le_of_ble_eq_true rfl) dX8_count_39 (Nat.le_refl _) (Nat.le_refl _) (fun r9 S8 vd H locs hP hD hS hT => ?_)
        exact hret _ _ _ _ _ _ _ _ _ hP hD hS (Nat.le_refl _) (Nat.le_refl _) hT dX8_count_42
      · replace hT := hT.2 c7
        rw [hB21] at hT
        exact hT _ _ _ _ hP hD hS (lv_sub hl [0] rfl)
abbrev cX_X7_prepare (l : Launch) (S : CS) (n2 : Nat) (f2 : Nat → Int32) (post : CS → Prop) : Prop := cCtVx l yX7_prepare cX7_prepare 4 0 0 0 0 n2 f2 (fun ad qx => [.ref (ad 8), .ref (ad 1), .ref qx]) S post
def cT_X7_prepare_17 (l : Launch) (n2 : Nat) (f2 : Nat → Int32) (post : CS → Prop) (B17 : CS → Int32 → Prop) (B53 : CS → Int32 → Prop) (S : CS) (x3 : Int32) : Prop := (5 ≤ x3 → B53 S 0) ∧ (¬ 5 ≤ x3 → vp_in 0 7 ∧ (S.1 3 ≤ x3 → vp_in x3 5 ∧ B17 (ca S (44 + (0 : Int32).toNatClampNeg) (upd (S.2.1 (44 + (0 : Int32).toNatClampNeg)) x3.toNatClampNeg (-1))) (x3 + 1)) ∧ (¬ S.1 3 ≤ x3 → vp_in x3 n2 ∧ vp_in x3 5 ∧ B17 (ca S (44 + (0 : Int32).toNatClampNeg) (upd (S.2.1 (44 + (0 : Int32).toNatClampNeg)) x3.toNatClampNeg (f2 x3.toNatClampNeg))) (x3 + 1)))
def cT_X7_prepare_53 (l : Launch) (n2 : Nat) (f2 : Nat → Int32) (post : CS → Prop) (B17 : CS → Int32 → Prop) (B53 : CS → Int32 → Prop) (S : CS) (x3 : Int32) : Prop := (S.1 4 ≤ x3 → post S) ∧ (¬ S.1 4 ≤ x3 → vp_in 0 7 ∧ vp_in 0 5 ∧ vp_in x3 7 ∧ B53 (cf S 22 ((S.1 22) + ((S.2.1 (44 + (0 : Int32).toNatClampNeg) (0 : Int32).toNatClampNeg) * (S.2.1 9 x3.toNatClampNeg)))) (x3 + 1))
def cT_X7_prepare_e (l : Launch) (n2 : Nat) (f2 : Nat → Int32) (post : CS → Prop) (B17 : CS → Int32 → Prop) (B53 : CS → Int32 → Prop) (S0 : CS) : Prop := B17 (cf (cf (cf S0 20 0) 21 0) 22 0) 0
set_option maxHeartbeats 4000000 in
set_option maxRecDepth 100000 in
theorem c_X7_prepare (l : Launch) (S0 : CS) (n2 : Nat) (f2 : Nat → Int32) (post : CS → Prop) (h : ∀ (B17 : CS → Int32 → Prop) (B53 : CS → Int32 → Prop), (∀ (S : CS) (x3 : Int32), cT_X7_prepare_17 l n2 f2 post B17 B53 S x3 → B17 S x3) → (∀ (S : CS) (x3 : Int32), cT_X7_prepare_53 l n2 f2 post B17 B53 S x3 → B53 S x3) → cT_X7_prepare_e l n2 f2 post B17 B53 S0) : cX_X7_prepare l S0 n2 f2 post := by
  refine csetVx rfl (fun _ _ => Nat.le_of_ble_eq_true rfl) ?_
  intro p e s m args below meth c D ad vd cI cZ cL cG X q2 A Q hx hb hml hown hts hK hZ hA hX2 hret H locs ls hP hD hS hl
  replace hl : lv_has ls 4 [(0, .ref (ad 8)), (1, .ref (ad 1)), (2, .ref q2)] := hl
  obtain ⟨B17, hB17⟩ : ∃ B : CS → Int32 → Prop, B = (fun S x3 => ∀ (vd : Nat → Nat) (H : Heap) (locs : List Loc) (ls : Array Slot), va_P D vwCl (cW ad vd cI cZ cL cG S ++ X) H → va_D A (cW ad vd cI cZ cL cG S ++ X) → va_S A s.heap H locs → lv_has ls 4 [(0, .ref (ad 8)), (1, .ref (ad 1)), (2, .ref q2), (3, .int x3)] → W p l e (crm 0 0 0 0) s m args below meth c H locs 0 0 Q (F0 m 17 ls [])) := ⟨_, rfl⟩
  obtain ⟨B53, hB53⟩ : ∃ B : CS → Int32 → Prop, B = (fun S x3 => ∀ (vd : Nat → Nat) (H : Heap) (locs : List Loc) (ls : Array Slot), va_P D vwCl (cW ad vd cI cZ cL cG S ++ X) H → va_D A (cW ad vd cI cZ cL cG S ++ X) → va_S A s.heap H locs → lv_has ls 4 [(0, .ref (ad 8)), (1, .ref (ad 1)), (3, .int x3)] → W p l e (crm 0 0 0 0) s m args below meth c H locs 0 0 Q (F0 m 53 ls [])) := ⟨_, rfl⟩
  have hT : cT_X7_prepare_e l n2 f2 post B17 B53 S0 := by
    refine h B17 B53 ?_ ?_
    · clear hP hD hS hl H locs ls vd
      intro S x3 hT
      unfold cT_X7_prepare_17 at hT
      rw [hB17]
      intro vd H locs ls hP hD hS hl
      refine lv_iload_n hx hb dX7_prepare_17 rfl (lv_at hl 3 rfl) ?_
      refine lv_iconst (v := 5) hx hb dX7_prepare_18 (by decide) ?_
      refine lv_icmp_ge (tgt := 51) hx hb dX7_prepare_19 (by decide) (fun c1 => ?_) (fun c1 => ?_)
      · replace hT := hT.1 c1
        refine lv_iconst (v := 0) hx hb dX7_prepare_51 (by decide) ?_
        refine lv_istore_n (lv' := [(3, .int 0), (0, .ref (ad 8)), (1, .ref (ad 1)), (2, .ref q2)]) hx hb dX7_prepare_52 rfl hl (by decide) rfl (fun ls hl => ?_)
        rw [hB53] at hT
        exact hT _ _ _ _ hP hD hS (lv_sub hl [1, 2, 0] rfl)
      · replace hT := hT.2 c1
        refine lv_aload_n hx hb dX7_prepare_22 rfl (lv_at hl 0 rfl) ?_
        refine cg_X7_11 hx hb hts hown hK hP dX7_prepare_23 ?_
        refine lv_iconst (v := 0) hx hb dX7_prepare_26 (by decide) ?_
        obtain ⟨hi2, hT⟩ := hT
        refine calda hx hb hK hP hi2 dX7_prepare_27 ?_
        refine lv_iload_n hx hb dX7_prepare_28 rfl (lv_at hl 3 rfl) ?_
        refine lv_iload_n hx hb dX7_prepare_29 rfl (lv_at hl 3 rfl) ?_
        refine lv_aload_n hx hb dX7_prepare_30 rfl (lv_at hl 1 rfl) ?_
        refine cg_X7_29 (v := S.1 3) hx hb hts hown hK hP rfl dX7_prepare_31 ?_
        refine lv_icmp_ge (tgt := 43) hx hb dX7_prepare_34 (by decide) (fun c3 => ?_) (fun c3 => ?_)
        · replace hT := hT.1 c3
          refine lv_iconst (v := (-1)) hx hb dX7_prepare_43 (by decide) ?_
          obtain ⟨hi4, hT⟩ := hT
          refine va_iast (f := S.2.1 (44 + (0 : Int32).toNatClampNeg)) hx hb hK hP hD hS (44 + (0 : Int32).toNatClampNeg) 0 (cat_row hi2) rfl hi4 dX7_prepare_44 (fun H locs hP hD hS => ?_)
          replace hP := csetP_row hi2 hP
          replace hD := csetD_row hi2 hD
          refine lv_iinc (v := x3 + 1) (lv' := [(3, .int (x3 + 1)), (0, .ref (ad 8)), (1, .ref (ad 1)), (2, .ref q2)]) hx hb dX7_prepare_45 hl (k := 3) rfl rfl (by decide) rfl (fun ls hl => ?_)
          refine lv_goto (tgt := 17) hx hb dX7_prepare_48 (by decide) ?_
          rw [hB17] at hT
          exact hT _ _ _ _ hP hD hS (lv_sub hl [1, 2, 3, 0] rfl)
        · replace hT := hT.2 c3
          refine lv_aload_n hx hb dX7_prepare_37 rfl (lv_at hl 2 rfl) ?_
          refine lv_iload_n hx hb dX7_prepare_38 rfl (lv_at hl 3 rfl) ?_
          obtain ⟨hi5, hT⟩ := hT
          obtain ⟨jx, hjx⟩ := (id hX2)
          refine va_iald (f := f2) hx hb hK hP (51 + jx) 0 (cWX hjx) rfl hi5 dX7_prepare_39 ?_
          refine lv_goto (tgt := 44) hx hb dX7_prepare_40 (by decide) ?_
          obtain ⟨hi6, hT⟩ := hT
          refine va_iast (f := S.2.1 (44 + (0 : Int32).toNatClampNeg)) hx hb hK hP hD hS (44 + (0 : Int32).toNatClampNeg) 0 (cat_row hi2) rfl hi6 dX7_prepare_44 (fun H locs hP hD hS => ?_)
          replace hP := csetP_row hi2 hP
          replace hD := csetD_row hi2 hD
          refine lv_iinc (v := x3 + 1) (lv' := [(3, .int (x3 + 1)), (0, .ref (ad 8)), (1, .ref (ad 1)), (2, .ref q2)]) hx hb dX7_prepare_45 hl (k := 3) rfl rfl (by decide) rfl (fun ls hl => ?_)
          refine lv_goto (tgt := 17) hx hb dX7_prepare_48 (by decide) ?_
          rw [hB17] at hT
          exact hT _ _ _ _ hP hD hS (lv_sub hl [1, 2, 3, 0] rfl)
    · clear hP hD hS hl H locs ls vd
      intro S x3 hT
      unfold cT_X7_prepare_53 at hT
      rw [hB53]
      intro vd H locs ls hP hD hS hl
      refine lv_iload_n hx hb dX7_prepare_53 rfl (lv_at hl 2 rfl) ?_
      refine lv_aload_n hx hb dX7_prepare_54 rfl (lv_at hl 1 rfl) ?_
      refine cg_X7_33 (v := S.1 4) hx hb hts hown hK hP rfl dX7_prepare_55 ?_
      refine lv_icmp_ge (tgt := 91) hx hb dX7_prepare_58 (by decide) (fun c7 => ?_) (fun c7 => ?_)
      · replace hT := hT.1 c7
        exact hret _ _ _ _ _ _ _ _ hP hD hS (Nat.le_refl _) (Nat.le_refl _) hT dX7_prepare_91
      · replace hT := hT.2 c7
        refine lv_aload_n hx hb dX7_prepare_61 rfl (lv_at hl 0 rfl) ?_
        refine lv_dup hx hb dX7_prepare_62 rfl ?_
        refine cg_X7_26 (v := S.1 22) hx hb hts hown hK hP rfl dX7_prepare_63 ?_
        refine lv_aload_n hx hb dX7_prepare_66 rfl (lv_at hl 0 rfl) ?_
        refine cg_X7_11 hx hb hts hown hK hP dX7_prepare_67 ?_
        refine lv_iconst (v := 0) hx hb dX7_prepare_70 (by decide) ?_
        obtain ⟨hi8, hT⟩ := hT
        refine calda hx hb hK hP hi8 dX7_prepare_71 ?_
        refine lv_iconst (v := 0) hx hb dX7_prepare_72 (by decide) ?_
        obtain ⟨hi9, hT⟩ := hT
        refine va_iald (f := S.2.1 (44 + (0 : Int32).toNatClampNeg)) hx hb hK hP (44 + (0 : Int32).toNatClampNeg) 0 (cat_row hi8) rfl hi9 dX7_prepare_73 ?_
        refine lv_aload_n hx hb dX7_prepare_74 rfl (lv_at hl 1 rfl) ?_
        refine cg_X7_36 hx hb hts hown hK hP dX7_prepare_75 ?_
        refine lv_iload_n hx hb dX7_prepare_78 rfl (lv_at hl 2 rfl) ?_
        obtain ⟨hi10, hT⟩ := hT
        refine va_iald (f := S.2.1 9) hx hb hK hP 9 0 cat_9 rfl hi10 dX7_prepare_79 ?_
        refine lv_imul hx hb dX7_prepare_80 ?_
        refine lv_iadd hx hb dX7_prepare_81 ?_
        refine cp_X7_26 hx hb hts hown hK hP hD hS dX7_prepare_82 (fun H locs hP hD hS => ?_)
        refine lv_iinc (v := x3 + 1) (lv' := [(3, .int (x3 + 1)), (0, .ref (ad 8)), (1, .ref (ad 1))]) hx hb dX7_prepare_85 hl (k := 2) rfl rfl (by decide) rfl (fun ls hl => ?_)
        refine lv_goto (tgt := 53) hx hb dX7_prepare_88 (by decide) ?_
        rw [hB53] at hT
        exact hT _ _ _ _ hP hD hS (lv_sub hl [1, 2, 0] rfl)
  unfold cT_X7_prepare_e at hT
  refine lv_aload_n hx hb dX7_prepare_0 rfl (lv_at hl 0 rfl) ?_
  refine lv_iconst (v := 0) hx hb dX7_prepare_1 (by decide) ?_
  refine cp_X7_20 hx hb hts hown hK hP hD hS dX7_prepare_2 (fun H locs hP hD hS => ?_)
  refine lv_aload_n hx hb dX7_prepare_5 rfl (lv_at hl 0 rfl) ?_
  refine lv_iconst (v := 0) hx hb dX7_prepare_6 (by decide) ?_
  refine cp_X7_23 hx hb hts hown hK hP hD hS dX7_prepare_7 (fun H locs hP hD hS => ?_)
  refine lv_aload_n hx hb dX7_prepare_10 rfl (lv_at hl 0 rfl) ?_
  refine lv_iconst (v := 0) hx hb dX7_prepare_11 (by decide) ?_
  refine cp_X7_26 hx hb hts hown hK hP hD hS dX7_prepare_12 (fun H locs hP hD hS => ?_)
  refine lv_iconst (v := 0) hx hb dX7_prepare_15 (by decide) ?_
  refine lv_istore_n (lv' := [(3, .int 0), (0, .ref (ad 8)), (1, .ref (ad 1)), (2, .ref q2)]) hx hb dX7_prepare_16 rfl hl (by decide) rfl (fun ls hl => ?_)
  rw [hB17] at hT
  exact hT _ _ _ _ hP hD hS (lv_sub hl [1, 2, 3, 0] rfl)
abbrev cX_X7_shift (l : Launch) (S : CS) (a3 : Int32) (a4 : Int32) (a5 : Int32) (post : Int32 → CS → Prop) : Prop := cCtI l yX7_shift cX7_shift 6 3 86 0 0 (fun ad => [.ref (ad 8), .ref (ad 1), .ref (ad 2), .int a3, .int a4, .int a5]) S post
def cT_X7_shift_e (l : Launch) (a3 : Int32) (a4 : Int32) (a5 : Int32) (post : Int32 → CS → Prop) (S0 : CS) : Prop := ((S0.1 20) + 1 ≤ 5000 → (a4 = (-1) → post (-2) (cf S0 20 ((S0.1 20) + 1))) ∧ (¬ a4 = (-1) → (¬ a5 = (-1) → cX_X3_read l (cf S0 20 ((S0.1 20) + 1)) (S0.1 22) (fun S4 => vp_in a4 5 ∧ (¬ S4.2.1 14 a4.toNatClampNeg = a3 → post (-2) S4) ∧ (S4.2.1 14 a4.toNatClampNeg = a3 → cX_X3_packSize l S4 a4 (fun r8 S7 => (¬ r8 = 1 → post (-2) S7) ∧ (r8 = 1 → cX_X3_hindrance l S7 a4 a5 (fun r11 S10 => (r11 = 0 → cX_X3_landing l S10 a4 a5 (fun r14 S13 => post 0 (cf (cf S13 22 r14) 21 ((S13.1 21) + 1)))) ∧ (¬ r11 = 0 → post (-2) S10))))))) ∧ (a5 = (-1) → post (-2) (cf S0 20 ((S0.1 20) + 1))))) ∧ (¬ (S0.1 20) + 1 ≤ 5000 → post (-4) (cf S0 20 ((S0.1 20) + 1)))
set_option maxHeartbeats 4000000 in
set_option maxRecDepth 100000 in
theorem c_X7_shift (l : Launch) (S0 : CS) (a3 : Int32) (a4 : Int32) (a5 : Int32) (post : Int32 → CS → Prop) (h : cT_X7_shift_e l a3 a4 a5 post S0) : cX_X7_shift l S0 a3 a4 a5 post := by
  refine csetI rfl (fun _ => Nat.le_of_ble_eq_true rfl) ?_
  intro p e s m args below meth c D ad vd cI cZ cL cG X A Q hx hb hml hown hts hK hZ hA hret H locs ls hP hD hS hl
  replace hl : lv_has ls 6 [(0, .ref (ad 8)), (1, .ref (ad 1)), (2, .ref (ad 2)), (3, .int a3), (4, .int a4), (5, .int a5)] := hl
  have hT := h
  unfold cT_X7_shift_e at hT
  refine lv_aload_n hx hb dX7_shift_0 rfl (lv_at hl 0 rfl) ?_
  refine lv_dup hx hb dX7_shift_1 rfl ?_
  refine cg_X7_20 (v := S0.1 20) hx hb hts hown hK hP rfl dX7_shift_2 ?_
  refine lv_iconst (v := 1) hx hb dX7_shift_5 (by decide) ?_
  refine lv_iadd hx hb dX7_shift_6 ?_
  refine cp_X7_20 hx hb hts hown hK hP hD hS dX7_shift_7 (fun H locs hP hD hS => ?_)
  refine lv_aload_n hx hb dX7_shift_10 rfl (lv_at hl 0 rfl) ?_
  refine cg_X7_20 (v := (S0.1 20) + 1) hx hb hts hown hK hP rfl dX7_shift_11 ?_
  refine lv_sipush (v := 5000) hx hb dX7_shift_14 (by decide) ?_
  refine lv_icmp_le (tgt := 23) hx hb dX7_shift_17 (by decide) (fun c1 => ?_) (fun c1 => ?_)
  · replace hT := hT.1 c1
    refine lv_iload hx hb dX7_shift_23 (lv_at hl 4 rfl) ?_
    refine lv_iconst (v := (-1)) hx hb dX7_shift_25 (by decide) ?_
    refine lv_icmp_eq (tgt := 35) hx hb dX7_shift_26 (by decide) (fun c2 => ?_) (fun c2 => ?_)
    · replace hT := hT.1 c2
      refine lv_bipush (v := (-2)) hx hb dX7_shift_35 (by decide) ?_
      exact hret _ _ _ _ _ _ _ _ _ hP hD hS (Nat.le_refl _) (Nat.le_refl _) hT dX7_shift_37
    · replace hT := hT.2 c2
      refine lv_iload hx hb dX7_shift_29 (lv_at hl 5 rfl) ?_
      refine lv_iconst (v := (-1)) hx hb dX7_shift_31 (by decide) ?_
      refine lv_icmp_ne (tgt := 38) hx hb dX7_shift_32 (by decide) (fun c3 => ?_) (fun c3 => ?_)
      · replace hT := hT.1 c3
        refine lv_aload_n hx hb dX7_shift_38 rfl (lv_at hl 2 rfl) ?_
        refine lv_aload_n hx hb dX7_shift_39 rfl (lv_at hl 1 rfl) ?_
        refine lv_aload_n hx hb dX7_shift_40 rfl (lv_at hl 0 rfl) ?_
        refine cg_X7_26 (v := S0.1 22) hx hb hts hown hK hP rfl dX7_shift_41 ?_
        refine ccallVV (n := 2) (b := ad 2) (C := RX3) (As := [.ref (ad 1), .int (S0.1 22)]) (rest := []) hT hx hb hml hown hts hK hZ hA hP hD hS hl gc_X7_44 hdc_X3_read (va_recv hK hP rfl cob_2) ⟨Nat.le_of_ble_eq_true rfl, Nat.le_of_ble_eq_true rfl⟩ rfl rfl rfl (Nat.le_of_ble_eq_true rfl) dX7_shift_44 (Nat.le_refl _) (Nat.le_refl _) (fun S4 vd H locs hP hD hS hT => ?_)
        refine lv_aload_n hx hb dX7_shift_47 rfl (lv_at hl 2 rfl) ?_
        refine cg_X7_75 hx hb hts hown hK hP dX7_shift_48 ?_
        refine lv_iload hx hb dX7_shift_51 (lv_at hl 4 rfl) ?_
        obtain ⟨hi5, hT⟩ := hT
        refine va_iald (f := S4.2.1 14) hx hb hK hP 14 0 cat_14 rfl hi5 dX7_shift_53 ?_
        refine lv_iload_n hx hb dX7_shift_54 rfl (lv_at hl 3 rfl) ?_
        refine lv_icmp_ne (tgt := 80) hx hb dX7_shift_55 (by decide) (fun c6 => ?_) (fun c6 => ?_)
        · replace hT := hT.1 c6
          refine lv_bipush (v := (-2)) hx hb dX7_shift_80 (by decide) ?_
          exact hret _ _ _ _ _ _ _ _ _ hP hD hS (Nat.le_refl _) (Nat.le_refl _) hT dX7_shift_82
        · replace hT := hT.2 c6
          refine lv_aload_n hx hb dX7_shift_58 rfl (lv_at hl 2 rfl) ?_
          refine lv_iload hx hb dX7_shift_59 (lv_at hl 4 rfl) ?_
          refine ccallVI (n := 1) (b := ad 2) (C := RX3) (As := [.int a4]) (rest := []) hT hx hb hml hown hts hK hZ hA hP hD hS hl gc_X7_78 hdc_X3_packSize (va_recv hK hP rfl cob_2) ⟨Nat.le_of_ble_eq_true rfl, Nat.le_of_ble_eq_true rfl⟩ rfl rfl rfl (Nat.le_of_ble_eq_true rfl) dX7_shift_61 (Nat.le_refl _) (Nat.le_refl _) (fun r8 S7 vd H locs hP hD hS hT => ?_)
          refine lv_iconst (v := 1) hx hb dX7_shift_64 (by decide) ?_
          refine lv_icmp_ne (tgt := 80) hx hb dX7_shift_65 (by decide) (fun c9 => ?_) (fun c9 => ?_)
          · replace hT := hT.1 c9
            refine lv_bipush (v := (-2)) hx hb dX7_shift_80 (by decide) ?_
            exact hret _ _ _ _ _ _ _ _ _ hP hD hS (Nat.le_refl _) (Nat.le_refl _) hT dX7_shift_82
          · replace hT := hT.2 c9
            refine lv_aload_n hx hb dX7_shift_68 rfl (lv_at hl 2 rfl) ?_
            refine lv_aload_n hx hb dX7_shift_69 rfl (lv_at hl 1 rfl) ?_
            refine lv_iload hx hb dX7_shift_70 (lv_at hl 4 rfl) ?_
            refine lv_iload hx hb dX7_shift_72 (lv_at hl 5 rfl) ?_
            refine ccallVI (n := 3) (b := ad 2) (C := RX3) (As := [.ref (ad 1), .int a4, .int a5]) (rest := []) hT hx hb hml hown hts hK hZ hA hP hD hS hl gc_X7_82 hdc_X3_hindrance (va_recv hK hP rfl cob_2) ⟨Nat.le_of_ble_eq_true rfl, Nat.le_of_ble_eq_true rfl⟩ rfl rfl rfl (Nat.le_of_ble_eq_true rfl) dX7_shift_74 (Nat.le_refl _) (Nat.le_refl _) (fun r11 S10 vd H locs hP hD hS hT => ?_)
            refine lv_if_eq (tgt := 83) hx hb dX7_shift_77 (by decide) (fun c12 => ?_) (fun c12 => ?_)
            · replace hT := hT.1 c12
              refine lv_aload_n hx hb dX7_shift_83 rfl (lv_at hl 0 rfl) ?_
              refine lv_aload_n hx hb dX7_shift_84 rfl (lv_at hl 2 rfl) ?_
              refine lv_iload hx hb dX7_shift_85 (lv_at hl 4 rfl) ?_
              refine lv_iload hx hb dX7_shift_87 (lv_at hl 5 rfl) ?_
              refine ccallVI (n := 2) (b := ad 2) (C := RX3) (As := [.int a4, .int a5]) (rest := [.ref (ad 8)]) hT hx hb hml hown hts hK hZ hA hP hD hS hl gc_X7_86 hdc_X3_landing (va_recv hK hP rfl cob_2) ⟨Nat.le_of_ble_eq_true rfl, Nat.le_of_ble_eq_true rfl⟩ rfl rfl rfl (Nat.le_of_ble_eq_true rfl) dX7_shift_89 (Nat.le_refl _) (Nat.le_refl _) (fun r14 S13 vd H locs hP hD hS hT => ?_)
              refine cp_X7_26 hx hb hts hown hK hP hD hS dX7_shift_92 (fun H locs hP hD hS => ?_)
              refine lv_aload_n hx hb dX7_shift_95 rfl (lv_at hl 0 rfl) ?_
              refine lv_dup hx hb dX7_shift_96 rfl ?_
              refine cg_X7_23 (v := S13.1 21) hx hb hts hown hK hP rfl dX7_shift_97 ?_
              refine lv_iconst (v := 1) hx hb dX7_shift_100 (by decide) ?_
              refine lv_iadd hx hb dX7_shift_101 ?_
              refine cp_X7_23 hx hb hts hown hK hP hD hS dX7_shift_102 (fun H locs hP hD hS => ?_)
              refine lv_iconst (v := 0) hx hb dX7_shift_105 (by decide) ?_
              exact hret _ _ _ _ _ _ _ _ _ hP hD hS (Nat.le_refl _) (Nat.le_refl _) hT dX7_shift_106
            · replace hT := hT.2 c12
              refine lv_bipush (v := (-2)) hx hb dX7_shift_80 (by decide) ?_
              exact hret _ _ _ _ _ _ _ _ _ hP hD hS (Nat.le_refl _) (Nat.le_refl _) hT dX7_shift_82
      · replace hT := hT.2 c3
        refine lv_bipush (v := (-2)) hx hb dX7_shift_35 (by decide) ?_
        exact hret _ _ _ _ _ _ _ _ _ hP hD hS (Nat.le_refl _) (Nat.le_refl _) hT dX7_shift_37
  · replace hT := hT.2 c1
    refine lv_bipush (v := (-4)) hx hb dX7_shift_20 (by decide) ?_
    exact hret _ _ _ _ _ _ _ _ _ hP hD hS (Nat.le_refl _) (Nat.le_refl _) hT dX7_shift_22
