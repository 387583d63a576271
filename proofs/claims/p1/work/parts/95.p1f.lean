-- the class's state: small laws
theorem cf_get (S : CS) (k : Nat) (v : Int32) : (cf S k v).1 k = v := va_up_same _ _ _
theorem cf_get_ne (S : CS) {k j : Nat} (v : Int32) (h : j ≠ k) : (cf S k v).1 j = S.1 j := va_up_other _ _ h
theorem ca_get (S : CS) (k : Nat) (f : Nat → Int32) : (ca S k f).2.1 k = f := va_up_same _ _ _
theorem ca_get_ne (S : CS) {k j : Nat} (f : Nat → Int32) (h : j ≠ k) : (ca S k f).2.1 j = S.2.1 j := va_up_other _ _ h
theorem cj_get (S : CS) (k : Nat) (f : Nat → Int64) : (cj S k f).2.2.1 k = f := va_up_same _ _ _
theorem cj_get_ne (S : CS) {k j : Nat} (f : Nat → Int64) (h : j ≠ k) : (cj S k f).2.2.1 j = S.2.2.1 j := va_up_other _ _ h
theorem cn_get (S : CS) (k n : Nat) : (cn S k n).2.2.2 k = n := va_up_same _ _ _
theorem cn_get_ne (S : CS) {k j : Nat} (n : Nat) (h : j ≠ k) : (cn S k n).2.2.2 j = S.2.2.2 j := va_up_other _ _ h
/-- the yard of a new object, seen in the class's state -/
def CF (S : CS) : Prop := (S.1 3 = nI 3 ∧ S.1 4 = nI 1 ∧ S.1 5 = nI 3 ∧ S.1 0 = nI 0 ∧ S.1 1 = nI 0) ∧ S.2.1 9 0 = nI 1 ∧ ∀ j, j < 25 → S.2.1 11 j = 0
theorem CF0 : CF cS0 := ⟨⟨rfl, rfl, rfl, rfl, rfl⟩, rfl, fun _ _ => rfl⟩
theorem CF.cf {S : CS} (h : CF S) {k : Nat} (v : Int32) (hk : 5 < k ∨ k = 2) : CF (cf S k v) := by
  obtain ⟨⟨h1, h2, h3, h4, h5⟩, h6, h7⟩ := h
  refine ⟨⟨?_, ?_, ?_, ?_, ?_⟩, h6, h7⟩
  · rw [cf_get_ne _ _ (by omega)]; exact h1
  · rw [cf_get_ne _ _ (by omega)]; exact h2
  · rw [cf_get_ne _ _ (by omega)]; exact h3
  · rw [cf_get_ne _ _ (by omega)]; exact h4
  · rw [cf_get_ne _ _ (by omega)]; exact h5
theorem CF.ca {S : CS} (h : CF S) {k : Nat} (f : Nat → Int32) (h9 : k ≠ 9) (h11 : k ≠ 11) : CF (ca S k f) := by
  refine ⟨h.1, ?_, fun j hj => ?_⟩
  · rw [ca_get_ne _ _ (Ne.symm h9)]; exact h.2.1
  · rw [ca_get_ne _ _ (Ne.symm h11)]; exact h.2.2 j hj
theorem CF.cj {S : CS} (h : CF S) (k : Nat) (f : Nat → Int64) : CF (cj S k f) := h
theorem CF.cn {S : CS} (h : CF S) (k n : Nat) : CF (cn S k n) := h
theorem c_refuse (l : Launch) (S : CS) (a : Int32) (post : Bool → CS → Prop) (h : post false (cf S 2 a)) : cX_X8_refuse l S a post := c_X8_refuse l S a post h
theorem c_accept (l : Launch) (S : CS) (post : Bool → CS → Prop) (h : post true (cf S 2 0)) : cX_X8_accept l S post := c_X8_accept l S post h
theorem c_none (l : Launch) (S : CS) (a : Int32) (post : Int32 → CS → Prop) (h : post (-1) (cf S 2 a)) : cX_X8_none l S a post := c_X8_none l S a post h
theorem c_forgetAll (l : Launch) (S : CS) (post : CS → Prop) (h : post (cf (cf (cf (cf S 9 0) 10 0) 12 (-1)) 17 0)) : cX_X8_forgetAll l S post := by
  refine c_X8_forgetAll l S post ?_
  unfold cT_X8_forgetAll_e
  exact c_X4_forget l _ _ (c_X6_forget l _ _ (c_X2_forget l _ _ h))
theorem ix5 {a b : Nat} (ha : a < 5) (hb : b < 5) : nI a * 5 + nI b = nI (5 * a + b) := by
  rw [show nI a * 5 = 5 * nI a from Int32.mul_comm _ _]
  exact ix25 ha hb
theorem c_pg (l : Launch) {S : CS} (hp : S.1 3 = nI 3) (a : Int32) (post : Bool → CS → Prop) (h : post (p3 a) S) : cX_X0_isPeg l S a post := by
  refine c_X0_isPeg l S a post ?_
  unfold cT_X0_isPeg_e
  rw [hp]
  refine ⟨fun c => ?_, fun c => ⟨fun c2 => ?_, fun c2 => ?_⟩⟩
  · rw [show p3 a = false from decide_eq_false fun q => absurd c (Int32.not_lt.mpr q.1)] at h; exact h
  · rw [show p3 a = false from decide_eq_false fun q => absurd (Int32.le_trans c2 q.2) (by decide)] at h; exact h
  · have q1 := Int32.not_lt.mp c
    have q2 : a < nI 3 := Int32.not_le.mp c2
    rw [show p3 a = true from decide_eq_true ⟨q1, by
      have w := Int32.lt_iff_toInt_lt.mp q2
      have w3 : (nI 3).toInt = 3 := by decide
      have w2 : (2 : Int32).toInt = 2 := by decide
      exact Int32.le_iff_toInt_le.mpr (by omega)⟩] at h
    exact h
theorem c_isDisc1 (l : Launch) {S : CS} (hd : S.1 4 = nI 1) (a : Int32) (post : Bool → CS → Prop) (h : post (decide (a = 0)) S) : cX_X0_isDisc l S a post := by
  refine c_X0_isDisc l S a post ?_
  unfold cT_X0_isDisc_e
  rw [hd]
  refine ⟨fun c => ?_, fun c => ⟨fun c2 => ?_, fun c2 => ?_⟩⟩
  · rw [show decide (a = 0) = false from decide_eq_false fun q => by rw [q] at c; exact absurd c (by decide)] at h; exact h
  · rw [show decide (a = 0) = false from decide_eq_false fun q => by rw [q] at c2; exact absurd c2 (by decide)] at h; exact h
  · have q1 := Int32.le_iff_toInt_le.mp (Int32.not_lt.mp c)
    have q2 := Int32.lt_iff_toInt_lt.mp (Int32.not_le.mp c2)
    have w3 : (nI 1).toInt = 1 := by decide
    have w2 : (0 : Int32).toInt = 0 := by decide
    rw [show decide (a = 0) = true from decide_eq_true (Int32.toInt_inj.mp (by omega))] at h
    exact h
/-- behind read() of the stand m -/
def RD (S T : CS) (m : Nat) : Prop := CF T ∧ T.1 8 = 1 ∧ T.2.1 13 0 = nI m ∧ (∀ k, k ≠ 7 → k ≠ 8 → T.1 k = S.1 k) ∧ (∀ k, k < 13 ∨ 16 < k → T.2.1 k = S.2.1 k) ∧ T.2.2 = S.2.2
theorem c_lay0 (l : Launch) (S : CS) (m : Nat) (hm : m < 3) (ht : S.2.1 14 m = -1) (post : CS → Prop) (h : ∀ f15 f16 f14 : Nat → Int32, post (ca (ca (ca S 15 f15) 16 f16) 14 f14)) : cX_X3_lay l S (nI 0) (nI m) post := by
  refine c_X3_lay l S (nI 0) (nI m) post ?_
  intro B73 B92 h73 h92
  unfold cT_X3_lay_e
  refine ⟨by unfold vp_in; decide, fun v4 _ => ⟨vp_in_nI (by omega) (by omega), fun v5 hv5 => ?_⟩⟩
  rw [nI_clamp (show m < 2 ^ 31 by omega), ht] at hv5
  subst hv5
  refine ⟨fun q => absurd rfl q, fun _ => ⟨fun _ => h73 _ _ _ ?_, fun q => absurd q (by decide)⟩⟩
  unfold cT_X3_lay_73
  refine ⟨vp_in_nI (by omega) (by omega), by unfold vp_in; decide, vp_in_nI (by omega) (by omega), h92 _ _ _ ?_⟩
  unfold cT_X3_lay_92
  exact ⟨fun _ => ⟨vp_in_nI (by omega) (by omega), h _ _ _⟩, fun q => absurd q (by decide)⟩
theorem c_read0 (l : Launch) {S : CS} (hp : S.1 3 = nI 3) (hd : S.1 4 = nI 1) (hw : S.2.1 9 0 = nI 1) (m : Nat) (hm : m < 3) (post : CS → Prop)
    (h : ∀ T : CS, T.1 8 = 1 → T.2.1 13 0 = nI m → (∀ k, k ≠ 7 → k ≠ 8 → T.1 k = S.1 k) → (∀ k, k < 13 ∨ 16 < k → T.2.1 k = S.2.1 k) → T.2.2 = S.2.2 → post T) : cX_X3_read l S (nI m) post := by
  refine c_X3_read l S (nI m) post ?_
  intro B28 B45 B73 h28 h45 h73
  unfold cT_X3_read_e
  intro v hv
  rw [hd] at hv
  have hv0 : v = nI 0 := hv.trans (by decide)
  subst hv0
  obtain ⟨U, hU⟩ : ∃ U : CS, U = ca (cf (cf S 7 (nI m)) 8 1) 14 (filI (S.2.1 14) 5 (-1)) := ⟨_, rfl⟩
  rw [← hU]
  have u3 : U.1 3 = nI 3 := by rw [hU]; exact hp
  have u9 : U.2.1 9 0 = nI 1 := by rw [hU, ca_get_ne _ _ (by decide)]; exact hw
  -- the end
  have e73 : B73 U (nI 0) (nI 0) (nI m) := by
    refine h73 _ _ _ _ ?_
    unfold cT_X3_read_73
    refine ⟨by unfold vp_in; decide, ?_⟩
    refine c_lay0 l _ m hm ?_ _ (fun f15 f16 f14 => h28 _ _ _ ?_)
    · rw [ca_get_ne _ _ (by decide), hU, ca_get]
      unfold filI
      rw [if_pos (by omega)]
    · unfold cT_X3_read_28
      refine ⟨fun _ => h _ ?_ ?_ (fun k k7 k8 => ?_) (fun k hk => ?_) ?_, fun q => absurd (by decide) q⟩
      · show U.1 8 = 1
        rw [hU]
        show va_up (va_up S.1 7 (nI m)) 8 1 8 = 1
        exact va_up_same _ _ _
      · rw [ca_get_ne _ _ (by decide), ca_get_ne _ _ (by decide), ca_get_ne _ _ (by decide), ca_get]
        show upd _ (nI 0).toNatClampNeg _ 0 = _
        rw [show (nI 0).toNatClampNeg = 0 by decide]
        exact upd_same _ _ _
      · show U.1 k = S.1 k
        rw [hU]
        show va_up (va_up S.1 7 (nI m)) 8 1 k = S.1 k
        rw [va_up_other _ _ k8, va_up_other _ _ k7]
      · rw [ca_get_ne _ _ (by omega), ca_get_ne _ _ (by omega), ca_get_ne _ _ (by omega), ca_get_ne _ _ (by omega), hU, ca_get_ne _ _ (by omega)]
        rfl
      · show U.2.2 = S.2.2
        rw [hU]; rfl
  -- the pegs
  have e45 : ∀ d k, k + d = m → B45 U (nI d) (nI 0) (nI 1) (nI k) := by
    intro d
    induction d with
    | zero =>
      intro k hk
      have : k = m := by omega
      subst this
      refine h45 _ _ _ _ _ ?_
      unfold cT_X3_read_45
      exact ⟨fun _ => e73, fun _ => ⟨fun _ => e73, fun q => absurd (by decide) q⟩⟩
    | succ d ih =>
      intro k hk
      refine h45 _ _ _ _ _ ?_
      unfold cT_X3_read_45
      rw [u3, show nI 3 - 1 = nI 2 by decide]
      refine ⟨fun q => absurd q (nI_ge (by omega) (by omega)), fun _ => ⟨fun q => absurd q (nI_nlt (by omega) (by omega)), fun _ v hv => ?_⟩⟩
      rw [show nI (d + 1) - nI 1 = nI d from nI_pred d] at hv
      subst hv
      rw [← nI_succ]
      exact ih (k + 1) (by omega)
  refine h28 _ _ _ ?_
  unfold cT_X3_read_28
  refine ⟨fun q => absurd q (by decide), fun _ => ⟨by unfold vp_in; decide, fun v hv => ?_⟩⟩
  rw [show (nI 0).toNatClampNeg = 0 by decide, u9] at hv
  subst hv
  exact e45 m 0 (by omega)
theorem c_read (l : Launch) {S : CS} (hc : CF S) (m : Nat) (hm : m < 3) (post : CS → Prop) (h : ∀ T, RD S T m → post T) : cX_X3_read l S (nI m) post := by
  refine c_read0 l hc.1.1 hc.1.2.1 hc.2.1 m hm post (fun T t1 t2 t3 t4 t5 => h T ⟨?_, t1, t2, t3, t4, t5⟩)
  refine ⟨⟨?_, ?_, ?_, ?_, ?_⟩, ?_, fun j hj => ?_⟩
  · rw [t3 3 (by decide) (by decide)]; exact hc.1.1
  · rw [t3 4 (by decide) (by decide)]; exact hc.1.2.1
  · rw [t3 5 (by decide) (by decide)]; exact hc.1.2.2.1
  · rw [t3 0 (by decide) (by decide)]; exact hc.1.2.2.2.1
  · rw [t3 1 (by decide) (by decide)]; exact hc.1.2.2.2.2
  · rw [t4 9 (Or.inl (by decide))]; exact hc.2.1
  · rw [t4 11 (Or.inl (by decide))]; exact hc.2.2 j hj
theorem c_hind (l : Launch) {S : CS} (hc : CF S) (a b : Nat) (ha : a < 3) (hb : b < 3) (post : Int32 → CS → Prop) (h : post 1 S) : cX_X3_hindrance l S (nI a) (nI b) post := by
  refine c_X3_hindrance l S (nI a) (nI b) post ?_
  intro B52 B67 _ _
  unfold cT_X3_hindrance_e
  rw [ix5 (by omega) (by omega), nI_clamp (show 5 * a + b < 2 ^ 31 by omega)]
  exact ⟨vp_in_nI (by omega) (by omega), fun q => absurd (hc.2.2 _ (by omega)) q, fun _ => h⟩
theorem c_spread (l : Launch) {S : CS} (hc : CF S) (post : CS → Prop) (h : post (cf S 6 0)) : cX_X3_spread l S post := by
  refine c_X3_spread l S post ?_
  intro B7 B30 B107 B113 h7 h30 h107 h113
  unfold cT_X3_spread_e
  have hT : CF (cf S 6 0) := hc.cf _ (Or.inl (by decide))
  generalize cf S 6 0 = T at hT h ⊢
  have e7 : ∀ d a, a + d = 3 → B7 T (nI a) := by
    intro d
    induction d with
    | zero =>
      intro a ha
      have : a = 3 := by omega
      subst this
      refine h7 _ _ ?_
      unfold cT_X3_spread_7
      rw [hT.1.1]
      exact ⟨fun _ => h, fun q => absurd (nI_le (Nat.le_refl 3) (by omega)) q⟩
    | succ d ih =>
      intro a ha
      have e113 : B113 T (nI a) := by
        refine h113 _ _ ?_
        unfold cT_X3_spread_113
        rw [← nI_succ]
        exact ih (a + 1) (by omega)
      have e30 : ∀ d2 b, b + d2 = 3 → B30 T (nI a) (nI b) := by
        intro d2
        induction d2 with
        | zero =>
          intro b hb
          have : b = 3 := by omega
          subst this
          refine h30 _ _ _ ?_
          unfold cT_X3_spread_30
          rw [hT.1.1]
          exact ⟨fun _ => e113, fun q => absurd (nI_le (Nat.le_refl 3) (by omega)) q⟩
        | succ d2 ih2 =>
          intro b hb
          refine h30 _ _ _ ?_
          unfold cT_X3_spread_30
          rw [hT.1.1]
          refine ⟨fun q => absurd q (nI_ge (by omega) (by omega)), fun _ => c_hind l hT a b (by omega) (by omega) _ ⟨fun _ => h107 _ _ _ ?_, fun q => absurd q (by decide)⟩⟩
          unfold cT_X3_spread_107
          rw [← nI_succ]
          exact ih2 (b + 1) (by omega)
      refine h7 _ _ ?_
      unfold cT_X3_spread_7
      rw [hT.1.1]
      exact ⟨fun q => absurd q (nI_ge (by omega) (by omega)), fun _ => ⟨vp_in_nI (by omega) (by omega), fun _ => e30 3 0 (by omega), fun _ => e113⟩⟩
  exact e7 3 0 (by omega)
