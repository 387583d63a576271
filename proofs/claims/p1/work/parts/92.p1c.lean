-- the reference's answers on a new object: the sets
theorem d5 : ∀ m, m < 25 → nI m / 5 = nI (m / 5) ∧ nI m - nI m / 5 * 5 = nI (m % 5) := by decide
/-- k sets of one stand each are told -/
def FJ (k : Nat) (S : MS) : Prop := FY S ∧ S.1 8 = nI k ∧ (∀ i, i < k → S.2.1 20 i = nI i ∧ S.2.1 24 i = nI 1) ∧ (∀ i, k ≤ i → i < 3 → S.2.1 18 i = -1 ∧ S.2.1 20 i = -1) 
/-- the walk from the stand k, at its m-th pair of pegs -/
def FV (k m : Nat) (o : Int32) (S : MS) : Prop := FY S ∧ S.1 8 = nI k ∧ (∀ i, i < k → S.2.1 20 i = nI i ∧ S.2.1 24 i = nI 1) ∧ (∀ i, k < i → i < 3 → S.2.1 18 i = -1 ∧ S.2.1 20 i = -1) ∧ S.2.1 21 0 = nI k ∧ S.2.1 22 0 = nI k ∧ S.2.1 23 k = nI m ∧ S.2.1 18 k = o ∧ S.2.1 19 k = o
theorem FVma {k m : Nat} {o : Int32} {S : MS} (h : FV k m o S) {j : Nat} (f : Nat → Int32) (hj : j = 8 ∨ j = 9) : FV k m o (ma S j f) := by
  obtain ⟨h1, h2, h3, h4, h5, h6, h7, h8, h9⟩ := h
  refine ⟨h1.ma f (by omega) (by omega) (by omega) (by omega) (by omega), h2, fun i hi => ?_, fun i hi hi2 => ?_, ?_, ?_, ?_, ?_, ?_⟩
  · rw [ma_get_ne _ _ (by omega), ma_get_ne _ _ (by omega)]; exact h3 i hi
  · rw [ma_get_ne _ _ (by omega), ma_get_ne _ _ (by omega)]; exact h4 i hi hi2
  · rw [ma_get_ne _ _ (by omega)]; exact h5
  · rw [ma_get_ne _ _ (by omega)]; exact h6
  · rw [ma_get_ne _ _ (by omega)]; exact h7
  · rw [ma_get_ne _ _ (by omega)]; exact h8
  · rw [ma_get_ne _ _ (by omega)]; exact h9
theorem FV.step {k m : Nat} {o : Int32} {S : MS} (h : FV k m o S) : FV k (m + 1) o (ma S 23 (upd (S.2.1 23) (nI k).toNatClampNeg (S.2.1 23 (nI k).toNatClampNeg + 1))) ∨ 3 ≤ k := by
  by_cases hk : k < 3
  · left
    obtain ⟨h1, h2, h3, h4, h5, h6, h7, h8, h9⟩ := h
    refine ⟨h1.ma _ (by decide) (by decide) (by decide) (by decide) (by decide), h2, fun i hi => ?_, fun i hi hi2 => ?_, ?_, ?_, ?_, ?_, ?_⟩
    · rw [ma_get_ne _ _ (by decide), ma_get_ne _ _ (by decide)]; exact h3 i hi
    · rw [ma_get_ne _ _ (by decide), ma_get_ne _ _ (by decide)]; exact h4 i hi hi2
    · rw [ma_get_ne _ _ (by decide)]; exact h5
    · rw [ma_get_ne _ _ (by decide)]; exact h6
    · rw [ma_get, nI_clamp (by omega), upd_same, h7, nI_succ]
    · rw [ma_get_ne _ _ (by decide)]; exact h8
    · rw [ma_get_ne _ _ (by decide)]; exact h9
  · right; omega
theorem fy_below (l : Launch) {S : MS} (hd : S.1 1 = nI 1) (k : Nat) (hk : m7 k) (post : Int32 → MS → Prop) (h : post (-1) S) : mX_below l S k (nI 0) post := by
  refine m_below l S k (nI 0) hk post ?_
  intro B4 B27 h4 h27
  unfold mT_below_e
  intro v hv
  have hv0 : v = nI 1 := hv.trans (by decide)
  subst hv0
  refine h4 _ _ ?_
  unfold mT_below_4
  rw [hd]
  refine ⟨fun _ => h27 _ _ ?_, fun q => absurd (nI_le (Nat.le_refl 1) (by omega)) q⟩
  unfold mT_below_27
  rw [hd]
  exact ⟨fun _ => h, fun q => absurd (nI_le (Nat.le_refl 1) (by omega)) q⟩
theorem fy_isRight (l : Launch) {S : MS} (hd : S.1 1 = nI 1) (k : Nat) (hk : m7 k) (post : Bool → MS → Prop) (h : post true S) : mX_isRight l S k post := by
  refine m_isRight l S k hk post ?_
  intro B2 B44 h2 h44
  unfold mT_isRight_e
  refine h2 _ _ ?_
  unfold mT_isRight_2
  rw [hd]
  refine ⟨fun q => absurd q (by decide), fun _ => fy_below l hd k hk _ ⟨fun _ => h44 _ _ ?_, fun q => absurd rfl q⟩⟩
  unfold mT_isRight_44
  refine h2 _ _ ?_
  unfold mT_isRight_2
  rw [hd]
  exact ⟨fun _ => h, fun q => absurd (by decide) q⟩
theorem fy_joinAll (l : Launch) {S : MS} (hf : FY S) (post : MS → Prop) (h : ∀ T, FJ 3 T → post T) : mX_joinAll l S post := by
  refine m_joinAll l S post ?_
  intro B7 B41 B129 B398 B431 B502 h7 h41 h129 h398 h431 h502
  unfold mT_joinAll_e
  -- the walk of one stand
  have eV : ∀ k, k < 3 → ∀ (o x2 : Int32), (∀ T, FJ (k + 1) T → B502 T (nI 3) x2 (nI k)) → ∀ d m, m + d = 25 → ∀ T, FV k m o T → B129 T (nI 3) x2 (nI k) 1 1 := by
    intro k hk o x2 hnext d
    have end0 : ∀ T, FJ (k + 1) T → B129 T (nI 3) x2 (nI k) 0 0 := by
      intro T hT
      refine h129 _ _ _ _ _ _ ?_
      unfold mT_joinAll_129
      exact ⟨fun _ => hnext T hT, fun q => absurd (by decide) q⟩
    induction d with
    | zero =>
      intro m hm T hT
      have : m = 25 := by omega
      subst this
      have hT0 := hT
      obtain ⟨t1, t2, t3, t4, t5, t6, t7, t8, t9⟩ := hT
      refine h129 _ _ _ _ _ _ ?_
      unfold mT_joinAll_129
      rw [show ((1 : Int32) - 1).toNatClampNeg = 0 by decide]
      refine ⟨fun q => absurd q (by decide), fun _ => ⟨by unfold vp_in; decide, fun v hv => ?_⟩⟩
      rw [t5] at hv
      subst hv
      rw [nI_clamp (show k < 2 ^ 31 by omega), t7]
      refine ⟨vp_in_nI (by omega) (by omega), fun _ => ⟨fun _ => ?_, fun q => absurd (by decide) q⟩, fun q => absurd (show (25 : Int32) ≤ nI 25 by decide) q⟩
      rw [show (1 : Int32) + (-1) = 0 by decide]
      refine h398 _ _ _ _ _ _ _ ?_
      unfold mT_joinAll_398
      rw [nI_clamp (show k < 2 ^ 31 by omega), t8, t9, t2]
      refine ⟨vp_in_nI (by omega) (by omega), vp_in_nI (by omega) (by omega), fun _ => ⟨vp_in_nI (by omega) (by omega), ?_⟩, fun q => absurd rfl q⟩
      refine h431 _ _ _ _ _ _ _ _ ?_
      unfold mT_joinAll_431
      rw [show ((1 : Int32) + (-1)).toNatClampNeg = 0 by decide]
      refine ⟨fun q => absurd q (by decide), fun _ => ⟨by unfold vp_in; decide, fun v hv => ?_⟩⟩
      rw [ma_get_ne _ _ (by decide), t6] at hv
      subst hv
      have u8 : (ma T 24 (upd (T.2.1 24) (nI k).toNatClampNeg 0)).1 8 = nI k := t2
      rw [u8, nI_clamp (show k < 2 ^ 31 by omega)]
      refine ⟨vp_in_nI (by omega) (by omega), vp_in_nI (by omega) (by omega), vp_in_nI (by omega) (by omega), fun _ => ?_, fun q => absurd rfl q⟩
      rw [show (1 : Int32) + (-1) = 0 by decide]
      refine h431 _ _ _ _ _ _ _ _ ?_
      unfold mT_joinAll_431
      refine ⟨fun _ => end0 _ ?_, fun q => absurd rfl q⟩
      refine ⟨?_, ?_, fun i hi => ?_, fun i hi hi2 => ?_⟩
      · exact (((t1.ma _ (by decide) (by decide) (by decide) (by decide) (by decide)).ma _ (by decide) (by decide) (by decide) (by decide) (by decide)).ma _ (by decide) (by decide) (by decide) (by decide) (by decide)).mf _ (by decide) (by decide)
      · rw [mf_get]
        show T.1 8 + 1 = _
        rw [t2, nI_succ]
      · show (ma (ma (ma T 24 _) 20 _) 24 _).2.1 20 i = _ ∧ (ma (ma (ma T 24 _) 20 _) 24 _).2.1 24 i = _
        rw [ma_get_ne _ _ (by decide), ma_get, ma_get_ne _ _ (by decide), ma_get, ma_get]
        by_cases e : i = k
        · subst e
          rw [upd_same, upd_same, upd_same]
          exact ⟨rfl, rfl⟩
        · rw [upd_other _ _ e, upd_other _ _ e, upd_other _ _ e]
          exact t3 i (by omega)
      · show (ma (ma (ma T 24 _) 20 _) 24 _).2.1 18 i = _ ∧ (ma (ma (ma T 24 _) 20 _) 24 _).2.1 20 i = _
        rw [ma_get_ne _ _ (by decide), ma_get_ne _ _ (by decide), ma_get_ne _ _ (by decide), ma_get_ne _ _ (by decide), ma_get, ma_get_ne _ _ (by decide), upd_other _ _ (show i ≠ k by omega)]
        exact t4 i (by omega) hi2
    | succ d ih =>
      intro m hm T hT
      have hst := hT.step.resolve_right (by omega)
      have hn := ih (m + 1) (by omega) _ hst
      have hT0 := hT
      obtain ⟨t1, t2, t3, t4, t5, t6, t7, t8, t9⟩ := hT
      refine h129 _ _ _ _ _ _ ?_
      unfold mT_joinAll_129
      rw [show ((1 : Int32) - 1).toNatClampNeg = 0 by decide]
      refine ⟨fun q => absurd q (by decide), fun _ => ⟨by unfold vp_in; decide, fun v hv => ?_⟩⟩
      rw [t5] at hv
      subst hv
      refine ⟨vp_in_nI (by omega) (by omega), fun q => absurd q (by rw [nI_clamp (show k < 2 ^ 31 by omega), t7]; exact nI_ge (a := m) (b := 25) (by omega) (by omega)), fun _ => ⟨vp_in_nI (by omega) (by omega), fun w hw => ?_⟩⟩
      have hw0 : w = nI m := hw.trans (by rw [nI_clamp (show k < 2 ^ 31 by omega), t7])
      subst hw0
      refine ⟨vp_in_nI (by omega) (by omega), vp_in_nI (by omega) (by omega), ?_⟩
      rw [(d5 m (by omega)).1, t1.p]
      refine ⟨fun _ => hn, fun c1 => ⟨fun c2 => ?_, fun _ => hn⟩⟩
      have e2 : nI m - nI (m / 5) * 5 = nI (m % 5) := by rw [← (d5 m (by omega)).1]; exact (d5 m (by omega)).2
      rw [e2] at c2 ⊢
      have c3 : m / 5 < 3 := by
        rcases Nat.lt_or_ge (m / 5) 3 with q | q
        · exact q
        · exact absurd (nI_le q (by omega)) c1
      have c4 : m % 5 < 3 := by
        rcases Nat.lt_or_ge (m % 5) 3 with q | q
        · exact q
        · exact absurd c2 (nI_nlt q (by omega))
      refine fy_unpack l hst.1 k hk _ (fun g => ?_)
      refine fy_leads l (hst.1.ma _ (by decide) (by decide) (by decide) (by decide) (by decide)) (m / 5) (m % 5) c3 c4 _ ⟨fun q => absurd rfl q, fun _ => ?_⟩
      exact ih (m + 1) (by omega) _ (FVma hst _ (Or.inl rfl))
  have e41 : ∀ d k, k + d = 3 → ∀ (x2 : Int32) (T : MS), FJ k T → B41 T (nI 3) x2 (nI k) := by
    intro d
    induction d with
    | zero =>
      intro k hk x2 T hT
      have : k = 3 := by omega
      subst this
      refine h41 _ _ _ _ ?_
      unfold mT_joinAll_41
      exact ⟨fun _ => h T hT, fun q => absurd (nI_le (Nat.le_refl 3) (by omega)) q⟩
    | succ d ih =>
      intro k hk x2 T hT
      refine h41 _ _ _ _ ?_
      unfold mT_joinAll_41
      refine ⟨fun q => absurd q (nI_ge (by omega) (by omega)), fun _ => ?_⟩
      refine fy_unpack l hT.1 k (by omega) _ (fun g => ?_)
      have o18 : (ma T 8 g).2.1 18 (nI k).toNatClampNeg = -1 := by rw [nI_clamp (by omega), ma_get_ne _ _ (by decide)]; exact (hT.2.2.2 k (Nat.le_refl k) (by omega)).1
      refine ⟨vp_in_nI (by omega) (by omega), fun q => absurd o18 q, fun _ => ?_⟩
      refine fy_isRight l (S := ma T 8 g) hT.1.d 8 m7_8 _ ?_
      refine ⟨fun _ => ⟨by unfold vp_in; decide, vp_in_nI (by omega) (by omega), vp_in_nI (by omega) (by omega), vp_in_nI (by omega) (by omega), by unfold vp_in; decide, ?_⟩, fun q => absurd q (by decide)⟩
      refine eV k (by omega) x2 (x2 + 1) (fun T hT => h502 _ _ _ _ ?_) 25 0 (by omega) _ ?_
      · unfold mT_joinAll_502
        rw [← nI_succ]
        exact ih (k + 1) (by omega) _ T hT
      · rw [z0, nI_clamp (show k < 2 ^ 31 by omega)]
        refine ⟨?_, hT.2.1, fun i hi => ?_, fun i hi hi2 => ?_, ?_, ?_, ?_, ?_, ?_⟩
        · exact ((((hT.1.ma _ (by decide) (by decide) (by decide) (by decide) (by decide)).ma _ (by decide) (by decide) (by decide) (by decide) (by decide)).ma _ (by decide) (by decide) (by decide) (by decide) (by decide)).ma _ (by decide) (by decide) (by decide) (by decide) (by decide) |>.ma _ (by decide) (by decide) (by decide) (by decide) (by decide)).ma _ (by decide) (by decide) (by decide) (by decide) (by decide)
        · simp only [ma_get_ne _ _ (show (20 : Nat) ≠ 22 by decide), ma_get_ne _ _ (show (20 : Nat) ≠ 19 by decide), ma_get_ne _ _ (show (20 : Nat) ≠ 18 by decide), ma_get_ne _ _ (show (20 : Nat) ≠ 23 by decide), ma_get_ne _ _ (show (20 : Nat) ≠ 21 by decide), ma_get_ne _ _ (show (20 : Nat) ≠ 8 by decide), ma_get_ne _ _ (show (24 : Nat) ≠ 22 by decide), ma_get_ne _ _ (show (24 : Nat) ≠ 19 by decide), ma_get_ne _ _ (show (24 : Nat) ≠ 18 by decide), ma_get_ne _ _ (show (24 : Nat) ≠ 23 by decide), ma_get_ne _ _ (show (24 : Nat) ≠ 21 by decide), ma_get_ne _ _ (show (24 : Nat) ≠ 8 by decide)]
          exact hT.2.2.1 i hi
        · simp only [ma_get_ne _ _ (show (20 : Nat) ≠ 22 by decide), ma_get_ne _ _ (show (20 : Nat) ≠ 19 by decide), ma_get_ne _ _ (show (20 : Nat) ≠ 18 by decide), ma_get_ne _ _ (show (20 : Nat) ≠ 23 by decide), ma_get_ne _ _ (show (20 : Nat) ≠ 21 by decide), ma_get_ne _ _ (show (20 : Nat) ≠ 8 by decide), ma_get_ne _ _ (show (18 : Nat) ≠ 22 by decide), ma_get_ne _ _ (show (18 : Nat) ≠ 19 by decide), ma_get, ma_get_ne _ _ (show (18 : Nat) ≠ 23 by decide), ma_get_ne _ _ (show (18 : Nat) ≠ 21 by decide), ma_get_ne _ _ (show (18 : Nat) ≠ 8 by decide), upd_other _ _ (show i ≠ k by omega)]
          exact hT.2.2.2 i (by omega) hi2
        · simp only [ma_get_ne _ _ (show (21 : Nat) ≠ 22 by decide), ma_get_ne _ _ (show (21 : Nat) ≠ 19 by decide), ma_get_ne _ _ (show (21 : Nat) ≠ 18 by decide), ma_get_ne _ _ (show (21 : Nat) ≠ 23 by decide), ma_get, upd_same]
        · simp only [ma_get, upd_same]
        · simp only [ma_get_ne _ _ (show (23 : Nat) ≠ 22 by decide), ma_get_ne _ _ (show (23 : Nat) ≠ 19 by decide), ma_get_ne _ _ (show (23 : Nat) ≠ 18 by decide), ma_get, upd_same]
          rfl
        · simp only [ma_get_ne _ _ (show (18 : Nat) ≠ 22 by decide), ma_get_ne _ _ (show (18 : Nat) ≠ 19 by decide), ma_get, upd_same]
        · simp only [ma_get_ne _ _ (show (19 : Nat) ≠ 22 by decide), ma_get, upd_same]
  have e7 : ∀ d k, k + d = 3 → ∀ T, FY T → (∀ i, i < k → T.2.1 18 i = -1 ∧ T.2.1 20 i = -1) → B7 T (nI 3) (nI k) := by
    intro d
    induction d with
    | zero =>
      intro k hk T hT hh
      have : k = 3 := by omega
      subst this
      refine h7 _ _ _ ?_
      unfold mT_joinAll_7
      refine ⟨fun _ => e41 3 0 (by omega) 0 _ ⟨hT.mf _ (by decide) (by decide), mf_get _ _ _, fun i hi => absurd hi (by omega), fun i _ hi => hh i hi⟩, fun q => absurd (nI_le (Nat.le_refl 3) (by omega)) q⟩
    | succ d ih =>
      intro k hk T hT hh
      refine h7 _ _ _ ?_
      unfold mT_joinAll_7
      refine ⟨fun q => absurd q (nI_ge (by omega) (by omega)), fun _ => ⟨vp_in_nI (by omega) (by omega), vp_in_nI (by omega) (by omega), ?_⟩⟩
      rw [← nI_succ, nI_clamp (by omega)]
      refine ih (k + 1) (by omega) _ ((hT.ma _ (by decide) (by decide) (by decide) (by decide) (by decide)).ma _ (by decide) (by decide) (by decide) (by decide) (by decide)) (fun i hi => ?_)
      rw [ma_get_ne _ _ (by decide), ma_get, ma_get]
      by_cases e : i = k
      · subst e; exact ⟨upd_same _ _ _, upd_same _ _ _⟩
      · rw [upd_other _ _ e, upd_other _ _ e]; exact hh i (by omega)
  refine fy_stands l hf _ ?_
  exact e7 3 0 (by omega) _ hf (fun i hi => absurd hi (by omega))
theorem p1m_21 (l : Launch) (a : Int32) (post : Int32 → MS → Prop) (h : ∀ M, post (if a = 0 then 3 else if a = 1 then 1 else if a = 2 then 3 else if a = 3 then 1 else -1) M) : mX_joined l mS0 a post := by
  refine m_joined l mS0 a post ?_
  intro B80 B137 B170 B182 B237 B249 B261 h80 h137 h170 h182 h237 h249 h261
  unfold mT_joined_e
  have hf : FY (mf mS0 3 0) := FY0.mf _ (by decide) (by decide)
  refine fy_fits l hf _ ⟨fun _ => ?_, fun q => absurd q (by decide)⟩
  refine s_in l _ a 0 3 _ ⟨fun c => ?_, fun c => ?_⟩
  · have c1 : (0 : Int32) ≤ a ∧ a ≤ 3 := of_decide_eq_true (bI_n0.mp c)
    refine fy_joinAll l (hf.mf _ (by decide) (by decide)) _ (fun T hT => ?_)
    refine ⟨fun n0 => ⟨fun n1 => ?_, fun e1 => ?_⟩, fun e0 => ?_⟩
    · -- the sets' sizes, then the leaves
      have a23 : a = 2 ∨ a = 3 := by
        have b1 := Int32.le_iff_toInt_le.mp c1.1
        have b2 := Int32.le_iff_toInt_le.mp c1.2
        have b3 : (0 : Int32).toInt = 0 := by decide
        have b4 : (3 : Int32).toInt = 3 := by decide
        have b5 : a.toInt ≠ 0 := fun q => n0 (Int32.toInt_inj.mp (by rw [q]; rfl))
        have b6 : a.toInt ≠ 1 := fun q => n1 (Int32.toInt_inj.mp (by rw [q]; rfl))
        rcases (show a.toInt = 2 ∨ a.toInt = 3 by omega) with q | q
        · left; exact Int32.toInt_inj.mp (by rw [q]; rfl)
        · right; exact Int32.toInt_inj.mp (by rw [q]; rfl)
      -- the third count
      have e261 : ∀ d k, k + d = 3 → ∀ T, FJ 3 T → (∀ i, i < 3 → T.2.1 25 i = 0) → a = 2 → B261 T (nI k) (nI k) := by
        intro d
        induction d with
        | zero =>
          intro k hk T hT hz ha
          have : k = 3 := by omega
          subst this
          refine h261 _ _ _ ?_
          unfold mT_joined_261
          rw [hT.2.1]
          refine ⟨fun _ => ?_, fun q => absurd (nI_le (Nat.le_refl 3) (by omega)) q⟩
          have := h T
          rw [ha] at this
          exact this
        | succ d ih =>
          intro k hk T hT hz ha
          refine h261 _ _ _ ?_
          unfold mT_joined_261
          rw [hT.2.1, nI_clamp (show k < 2 ^ 31 by omega)]
          refine ⟨fun q => absurd q (nI_ge (by omega) (by omega)), fun _ => ⟨vp_in_nI (by omega) (by omega), fun _ v hv => ?_, fun q => absurd (hz k (by omega)) q⟩⟩
          rw [← nI_succ] at hv ⊢
          subst hv
          exact ih (k + 1) (by omega) T hT hz ha
      have e137 : ∀ d k, k + d = 3 → ∀ T, FJ 3 T → (∀ i, i < 3 → T.2.1 25 i = 0) → a = 2 → B137 T (nI 3) (nI k) := by
        intro d
        induction d with
        | zero =>
          intro k hk T hT hz ha
          have : k = 3 := by omega
          subst this
          refine h137 _ _ _ ?_
          unfold mT_joined_137
          exact ⟨fun _ => e261 3 0 (by omega) T hT hz ha, fun q => absurd (nI_le (Nat.le_refl 3) (by omega)) q⟩
        | succ d ih =>
          intro k hk T hT hz ha
          have e249 : ∀ T, FJ 3 T → (∀ i, i < 3 → T.2.1 25 i = 0) → B249 T (nI 3) (nI k) := by
            intro T hT hz
            refine h249 _ _ _ ?_
            unfold mT_joined_249
            rw [← nI_succ]
            exact ih (k + 1) (by omega) T hT hz ha
          refine h137 _ _ _ ?_
          unfold mT_joined_137
          rw [nI_clamp (show k < 2 ^ 31 by omega)]
          refine ⟨fun q => absurd q (nI_ge (by omega) (by omega)), fun _ => ⟨vp_in_nI (by omega) (by omega), fun _ => ?_, fun _ => e249 T hT hz⟩⟩
          refine fy_unpack l hT.1 k (by omega) _ (fun g => ?_)
          have hT2 : FJ 3 (ma T 8 g) := by
            refine ⟨hT.1.ma _ (by decide) (by decide) (by decide) (by decide) (by decide), hT.2.1, fun i hi => ?_, fun i h1 h2 => absurd h1 (by omega)⟩
            rw [ma_get_ne _ _ (by decide), ma_get_ne _ _ (by decide)]
            exact hT.2.2.1 i hi
          have hz2 : ∀ i, i < 3 → (ma T 8 g).2.1 25 i = 0 := fun i hi => by rw [ma_get_ne _ _ (by decide)]; exact hz i hi
          generalize ma T 8 g = T at hT2 hz2 ⊢
          have e170 : ∀ d a1, a1 + d = 3 → B170 T (nI 3) (nI k) (nI a1) := by
            intro d
            induction d with
            | zero =>
              intro a1 ha1
              have : a1 = 3 := by omega
              subst this
              refine h170 _ _ _ _ ?_
              unfold mT_joined_170
              rw [hT2.1.p]
              exact ⟨fun _ => e249 T hT2 hz2, fun q => absurd (nI_le (Nat.le_refl 3) (by omega)) q⟩
            | succ d ihd =>
              intro a1 ha1
              refine h170 _ _ _ _ ?_
              unfold mT_joined_170
              rw [hT2.1.p]
              refine ⟨fun q => absurd q (nI_ge (by omega) (by omega)), fun _ => ?_⟩
              have e182 : ∀ d2 b, b + d2 = 3 → B182 T (nI 3) (nI k) (nI a1) (nI b) := by
                intro d2
                induction d2 with
                | zero =>
                  intro b hb
                  have : b = 3 := by omega
                  subst this
                  refine h182 _ _ _ _ _ ?_
                  unfold mT_joined_182
                  rw [hT2.1.p]
                  exact ⟨fun _ => by rw [← nI_succ]; exact ihd (a1 + 1) (by omega), fun q => absurd (nI_le (Nat.le_refl 3) (by omega)) q⟩
                | succ d2 ih2 =>
                  intro b hb
                  refine h182 _ _ _ _ _ ?_
                  unfold mT_joined_182
                  rw [hT2.1.p]
                  refine ⟨fun q => absurd q (nI_ge (by omega) (by omega)), fun _ => fy_leads l hT2.1 a1 b (by omega) (by omega) _ ⟨fun _ => h237 _ _ _ _ _ ?_, fun q => absurd rfl q⟩⟩
                  unfold mT_joined_237
                  rw [← nI_succ]
                  exact ih2 (b + 1) (by omega)
              exact e182 3 0 (by omega)
          exact e170 3 0 (by omega)
      have e80 : ∀ d k, k + d = 3 → ∀ T, FJ 3 T → (∀ i, i < k → T.2.1 25 i = 0) → B80 T (if k = 0 then 0 else nI 1) (nI k) := by
        intro d
        induction d with
        | zero =>
          intro k hk T hT hz
          have : k = 3 := by omega
          subst this
          refine h80 _ _ _ ?_
          unfold mT_joined_80
          rw [hT.2.1]
          refine ⟨fun _ => ⟨fun n3 => ?_, fun e3 => ?_⟩, fun q => absurd (nI_le (Nat.le_refl 3) (by omega)) q⟩
          · refine fy_stands l hT.1 _ ?_
            exact e137 3 0 (by omega) T hT hz (a23.resolve_right n3)
          · have := h T
            rw [e3] at this
            exact this
        | succ d ih =>
          intro k hk T hT hz
          have hT2 : ∀ f : Nat → Int32, FJ 3 (ma T 25 f) := by
            intro f
            refine ⟨hT.1.ma _ (by decide) (by decide) (by decide) (by decide) (by decide), hT.2.1, fun i hi => ?_, fun i h1 h2 => absurd h1 (by omega)⟩
            rw [ma_get_ne _ _ (by decide), ma_get_ne _ _ (by decide)]
            exact hT.2.2.1 i hi
          have hz2 : ∀ i, i < k + 1 → (ma T 25 (upd (T.2.1 25) k (vp_nar .boolean 0))).2.1 25 i = 0 := by
            intro i hi
            rw [ma_get]
            by_cases e : i = k
            · subst e; rw [upd_same]; rfl
            · rw [upd_other _ _ e]; exact hz i (by omega)
          have hn := ih (k + 1) (by omega) _ (hT2 _) hz2
          rw [if_neg (by omega)] at hn
          refine h80 _ _ _ ?_
          unfold mT_joined_80
          rw [hT.2.1, nI_clamp (show k < 2 ^ 31 by omega), (hT.2.2.1 k (by omega)).2]
          refine ⟨fun q => absurd q (nI_ge (by omega) (by omega)), fun _ => ⟨vp_in_nI (by omega) (by omega), fun c5 => ⟨vp_in_nI (by omega) (by omega), ?_⟩, fun c5 => ⟨vp_in_nI (by omega) (by omega), fun v hv => ⟨vp_in_nI (by omega) (by omega), ?_⟩⟩⟩⟩
          · rw [← nI_succ]
            by_cases e : k = 0
            · rw [if_pos e] at c5; exact absurd c5 (by decide)
            · rw [if_neg e]; exact hn
          · rw [← nI_succ]
            subst hv
            exact hn
      exact e80 3 0 (by omega) T hT (fun i hi => absurd hi (by omega))
    · refine fy_pack l hT.1 2 (Or.inl rfl) _ ?_
      rw [show (nI 0).toNatClampNeg = 0 by decide, (hT.2.2.1 0 (by decide)).1, show (nI 0).toNatClampNeg = 0 by decide, (hT.2.2.1 0 (by decide)).2]
      refine ⟨by unfold vp_in; decide, by unfold vp_in; decide, ?_⟩
      have := h T
      rw [e1] at this
      exact this
    · rw [hT.2.1]
      have := h T
      rw [e0] at this
      exact this
  · have c1 : ¬ ((0 : Int32) ≤ a ∧ a ≤ 3) := of_decide_eq_false (bI_0.mp c)
    refine s_no l _ 1 _ ?_
    have := h (mf (mf mS0 3 0) 2 1)
    rw [if_neg (fun q => c1 (by rw [q]; decide)), if_neg (fun q => c1 (by rw [q]; decide)), if_neg (fun q => c1 (by rw [q]; decide)), if_neg (fun q => c1 (by rw [q]; decide))] at this
    exact this
