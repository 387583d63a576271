-- the fresh states
def nZ : Nat → Nat := fun _ => 0
/-- the yard of a new object, seen in the reference's state: three pegs, one disc, no lane -/
def FY (S : MS) : Prop := MY S 1 3 nZ nZ nZ ∧ MA S 2 nZ ∧ MA S 3 nZ
theorem FY0 : FY mS0 := ⟨⟨rfl, rfl, by decide, by decide, fun _ _ => ⟨rfl, Nat.zero_le _⟩, fun _ _ => ⟨rfl, Nat.zero_le _⟩, fun _ _ => ⟨rfl, Nat.zero_le _⟩⟩, fun _ _ => ⟨rfl, Nat.zero_lt_succ _⟩, fun _ _ => ⟨rfl, Nat.zero_lt_succ _⟩⟩
theorem FY.mf {S : MS} (h : FY S) {k : Nat} (v : Int32) (h0 : k ≠ 0) (h1 : k ≠ 1) : FY (mf S k v) := ⟨h.1.mf v h0 h1, h.2.1, h.2.2⟩
theorem FY.ma {S : MS} (h : FY S) {k : Nat} (f : Nat → Int32) (h1 : k ≠ 1) (h2 : k ≠ 2) (h3 : k ≠ 3) (h4 : k ≠ 4) (h5 : k ≠ 5) : FY (ma S k f) := by
  refine ⟨h.1.ma f h1 h4 h5, ?_, ?_⟩
  · intro j hj; rw [ma_get_ne _ _ (Ne.symm h2)]; exact h.2.1 j hj
  · intro j hj; rw [ma_get_ne _ _ (Ne.symm h3)]; exact h.2.2 j hj
theorem FY.ml {S : MS} (h : FY S) {k : Nat} (f : Nat → Int64) : FY (ml S k f) := h
theorem FY.p {S : MS} (h : FY S) : S.1 0 = nI 3 := h.1.1
theorem FY.d {S : MS} (h : FY S) : S.1 1 = nI 1 := h.1.2.1
theorem FY.c {S : MS} (h : FY S) {j : Nat} (hj : j < 25) : S.2.1 4 j = 0 := ((h.1.2.2.2.2.2.1 j hj).1).trans rfl
theorem nI3 : (3 : Int32) = nI 3 := rfl
theorem fy_stands (l : Launch) {S : MS} (hf : FY S) (post : Int32 → MS → Prop) (h : post (nI 3) S) : mX_stands l S post := s_stands l S post hf.d hf.p (by decide) h
theorem fy_fits (l : Launch) {S : MS} (hf : FY S) (post : Bool → MS → Prop) (h : post true S) : mX_fits l S post := s_fits l S post hf.d hf.p (by decide) (by decide) h
theorem fy_pack (l : Launch) {S : MS} (hf : FY S) (k : Nat) (hk : k = 2 ∨ k = 3) (post : Int32 → MS → Prop) (h : post (nI 0) S) : mX_pack l S k post := by
  rcases hk with rfl | rfl
  · exact s_pack l S 2 (by unfold m7; decide) post hf.d hf.p (by decide) (fun j hj => (hf.2.1 j (by omega)).1) h
  · exact s_pack l S 3 (by unfold m7; decide) post hf.d hf.p (by decide) (fun j hj => (hf.2.2 j (by omega)).1) h
/-- behind unpack() into 'at' -/
theorem fy_unpack (l : Launch) {S : MS} (hf : FY S) (m : Nat) (hm : m < 3) (post : MS → Prop) (h : ∀ g : Nat → Int32, post (ma S 8 g)) : mX_unpack l S (nI m) 8 post :=
  s_unpack l S m 8 (by unfold m7; decide) post hf.d hf.p (by decide) (by decide) (by omega) (h _)
theorem z0 : (0 : Int32).toNatClampNeg = 0 := by decide
theorem m7_8 : m7 8 := by unfold m7; decide
theorem fy_whyOf (l : Launch) {S : MS} (hf : FY S) (k a b : Nat) (hk : m7 k) (ha : a < 3) (hb : b < 3) (post : Int32 → MS → Prop) (h : post (nI 1) S) : mX_whyOf l S k (nI a) (nI b) post := by
  refine m_whyOf l S k (nI a) (nI b) hk post ?_
  intro B62 B77 _ _
  unfold mT_whyOf_e
  rw [ix25 (by omega) (by omega), nI_clamp (by omega)]
  exact ⟨vp_in_nI (by omega) (by omega), fun q => absurd (hf.c (by omega)) q, fun _ => h⟩
theorem fy_leads (l : Launch) {S : MS} (hf : FY S) (a b : Nat) (ha : a < 3) (hb : b < 3) (post : Int32 → MS → Prop) (h : post (-1) S) : mX_leads l S (nI a) (nI b) post := by
  refine m_leads l S (nI a) (nI b) post ?_
  intro B22 _
  unfold mT_leads_e
  exact ⟨fun _ => h, fun _ => fy_whyOf l hf 8 a b m7_8 ha hb _ ⟨fun q => absurd q (by decide), fun _ => h⟩⟩
theorem fy_isNear (l : Launch) (S : MS) (a c d : Int32) (post : Bool → MS → Prop) (h : post false S) : mX_isNear l S a (-1) c d post := by
  refine m_isNear l S a (-1) c d post ?_
  unfold mT_isNear_e
  exact ⟨fun _ => h, fun q => absurd rfl q⟩
/-- behind measure() in a yard without lanes: the start alone is met -/
def FG (T : MS) : Prop := FY T ∧ T.1 7 = nI 1 ∧ T.2.1 14 0 = nI 0 ∧ T.2.1 13 0 = -1 ∧ T.2.1 10 0 = nI 0
theorem FG.mf {S : MS} (h : FG S) {k : Nat} (v : Int32) (h0 : k ≠ 0) (h1 : k ≠ 1) (h7 : k ≠ 7) : FG (mf S k v) := ⟨h.1.mf v h0 h1, by rw [mf_get_ne _ _ (Ne.symm h7)]; exact h.2.1, h.2.2.1, h.2.2.2.1, h.2.2.2.2⟩
theorem FG.ma {S : MS} (h : FG S) {k : Nat} (f : Nat → Int32) (hk : k = 8 ∨ k = 16 ∨ k = 7) : FG (ma S k f) := by
  obtain ⟨h1, h2, h3, h4, h5⟩ := h
  refine ⟨h1.ma f (by omega) (by omega) (by omega) (by omega) (by omega), h2, ?_, ?_, ?_⟩
  · rw [ma_get_ne _ _ (by omega)]; exact h3
  · rw [ma_get_ne _ _ (by omega)]; exact h4
  · rw [ma_get_ne _ _ (by omega)]; exact h5
theorem ulS_1 (S : MS) (s b : Nat) : (ulS S s b).1 = S.1 := by unfold ulS; split <;> rfl
theorem fy_measure (l : Launch) {S : MS} (hf : FY S) (post : MS → Prop) (h : ∀ T, FG T → post T) : mX_measure l S post := by
  refine m_measure l S post ?_
  intro B7 B35 B76 B86 B157 B169 B255 B275 h7 h35 h76 h86 h157 h169 h255 h275
  unfold mT_measure_e
  have e86 : ∀ T, FG T → B86 T 0 0 0 := by
    intro T hT
    refine h86 _ _ _ _ ?_
    unfold mT_measure_86
    rw [z0]
    refine ⟨by unfold vp_in; decide, fun _ => h76 _ _ _ ?_, fun q => absurd hT.2.2.2.1 q⟩
    unfold mT_measure_76
    exact ⟨fun _ => h T hT, fun q => absurd (by decide) q⟩
  have e157 : ∀ d a, a + d = 3 → ∀ T, FG T → B157 T 0 0 0 (nI a) := by
    intro d
    induction d with
    | zero =>
      intro a ha T hT
      have : a = 3 := by omega
      subst this
      refine h157 _ _ _ _ _ ?_
      unfold mT_measure_157
      rw [hT.1.p]
      exact ⟨fun _ => e86 T hT, fun q => absurd (nI_le (Nat.le_refl 3) (by omega)) q⟩
    | succ d ih =>
      intro a ha T hT
      refine h157 _ _ _ _ _ ?_
      unfold mT_measure_157
      rw [hT.1.p]
      refine ⟨fun q => absurd q (nI_ge (by omega) (by omega)), fun _ => ?_⟩
      have e169 : ∀ d2 b, b + d2 = 3 → B169 T 0 0 0 (nI a) (nI b) := by
        intro d2
        induction d2 with
        | zero =>
          intro b hb
          have : b = 3 := by omega
          subst this
          refine h169 _ _ _ _ _ _ ?_
          unfold mT_measure_169
          rw [hT.1.p]
          exact ⟨fun _ => by rw [← nI_succ]; exact ih (a + 1) (by omega) T hT, fun q => absurd (nI_le (Nat.le_refl 3) (by omega)) q⟩
        | succ d2 ih2 =>
          intro b hb
          refine h169 _ _ _ _ _ _ ?_
          unfold mT_measure_169
          rw [hT.1.p]
          refine ⟨fun q => absurd q (nI_ge (by omega) (by omega)), fun _ => fy_leads l hT.1 a b (by omega) (by omega) _ ⟨fun _ => h275 _ _ _ _ _ _ ?_, fun q => absurd rfl q⟩⟩
          unfold mT_measure_275
          rw [← nI_succ]
          exact ih2 (b + 1) (by omega)
      exact e169 3 0 (by omega)
  have e76 : ∀ T, FY T → T.1 7 = nI 0 → T.2.1 10 0 = nI 0 → T.2.1 11 0 = -1 → T.2.1 12 0 = -1 → T.2.1 13 0 = nI 0 → B76 T 1 0 := by
    intro T hT t7 t10 t11 t12 t13
    refine h76 _ _ _ ?_
    unfold mT_measure_76
    refine ⟨fun q => absurd q (by decide), fun _ v hv => ?_⟩
    have hv0 : v = 0 := hv.trans (by decide)
    subst hv0
    refine h86 _ _ _ _ ?_
    unfold mT_measure_86
    rw [z0]
    refine ⟨by unfold vp_in; decide, fun q => absurd q (by rw [t13]; decide), fun _ => ⟨by unfold vp_in; decide, fun w hw => ?_⟩⟩
    rw [t13] at hw
    subst hw
    refine s_unlink l T 0 0 _ (by decide) (by decide) t10 (Or.inl t11) (Or.inl t12) ?_
    have hU : FY (ulS T 0 (0 % 101)) := by
      unfold ulS
      rw [if_pos t12]
      exact (hT.ma _ (by decide) (by decide) (by decide) (by decide) (by decide)).ma _ (by decide) (by decide) (by decide) (by decide) (by decide)
    have u7 : (ulS T 0 (0 % 101)).1 7 = nI 0 := by rw [ulS_1]; exact t7
    have u13 : (ulS T 0 (0 % 101)).2.1 13 0 = -1 := by
      unfold ulS
      rw [if_pos t12, ma_get_ne _ _ (by decide), ma_get, upd_same]
      exact t11
    have u10 : (ulS T 0 (0 % 101)).2.1 10 0 = nI 0 := by
      unfold ulS
      rw [if_pos t12, ma_get_ne _ _ (by decide), ma_get_ne _ _ (by decide)]
      exact t10
    generalize ulS T 0 (0 % 101) = U at hU u7 u13 u10 ⊢
    refine ⟨by unfold vp_in; decide, by rw [u7]; unfold vp_in; decide, ?_⟩
    refine fy_unpack l ?_ 0 (by decide) _ (fun g => ?_)
    · exact ((hU.ma _ (by decide) (by decide) (by decide) (by decide) (by decide)).ma _ (by decide) (by decide) (by decide) (by decide) (by decide)).mf _ (by decide) (by decide)
    · rw [show (1 : Int32) + (-1) = 0 by decide]
      refine e157 3 0 rfl _ ⟨?_, ?_, ?_, ?_, ?_⟩
      · exact (((hU.ma _ (by decide) (by decide) (by decide) (by decide) (by decide)).ma _ (by decide) (by decide) (by decide) (by decide) (by decide)).mf _ (by decide) (by decide)).ma _ (by decide) (by decide) (by decide) (by decide) (by decide)
      · show va_up U.1 7 (U.1 7 + 1) 7 = _
        rw [va_up_same, u7]; rfl
      · rw [ma_get_ne _ _ (by decide)]
        show (ma (ma U 17 _) 14 _).2.1 14 0 = _
        rw [ma_get, u7]
        exact upd_same _ _ _
      · rw [ma_get_ne _ _ (by decide)]
        show (ma (ma U 17 _) 14 _).2.1 13 0 = _
        rw [ma_get_ne _ _ (by decide), ma_get_ne _ _ (by decide)]
        exact u13
      · rw [ma_get_ne _ _ (by decide)]
        show (ma (ma U 17 _) 14 _).2.1 10 0 = _
        rw [ma_get_ne _ _ (by decide), ma_get_ne _ _ (by decide)]
        exact u10
  have e35 : ∀ d k, k + d = 101 → ∀ T, FY T → (∀ i, i < k → T.2.1 13 i = -1) → B35 T (nI k) := by
    intro d
    induction d with
    | zero =>
      intro k hk T hT hh
      have : k = 101 := by omega
      subst this
      refine h35 _ _ ?_
      unfold mT_measure_35
      refine ⟨fun _ => ?_, fun q => absurd (show (101 : Int32) ≤ nI 101 by decide) q⟩
      refine fy_pack l (hT.mf _ (by decide) (by decide)) 2 (Or.inl rfl) _ ?_
      refine s_link l (mf T 7 0) 0 0 _ (by decide) (by decide) (Or.inl (hh 0 (by decide))) ?_
      have t13 : (mf T 7 0).2.1 13 (0 % 101) = -1 := hh 0 (by decide)
      unfold lkS
      rw [t13]
      refine e76 _ ?_ ?_ ?_ ?_ ?_ ?_
      · exact ((((hT.mf _ (by decide) (by decide)).ma _ (by decide) (by decide) (by decide) (by decide) (by decide)).ma _ (by decide) (by decide) (by decide) (by decide) (by decide)).ma _ (by decide) (by decide) (by decide) (by decide) (by decide)).ma _ (by decide) (by decide) (by decide) (by decide) (by decide)
      · show (mf T 7 0).1 7 = _
        exact mf_get _ _ _
      · rw [ma_get_ne _ _ (by decide), ma_get_ne _ _ (by decide), ma_get_ne _ _ (by decide), ma_get]
        exact upd_same _ _ _
      · rw [ma_get_ne _ _ (by decide), ma_get]
        exact upd_same _ _ _
      · rw [ma_get_ne _ _ (by decide), ma_get_ne _ _ (by decide), ma_get]
        unfold rePrev
        rw [if_pos rfl]
        exact upd_same _ _ _
      · rw [ma_get]
        exact upd_same _ _ _
    | succ d ih =>
      intro k hk T hT hh
      refine h35 _ _ ?_
      unfold mT_measure_35
      refine ⟨fun q => absurd q (nI_ge (a := k) (b := 101) (by omega) (by omega)), fun _ => ⟨vp_in_nI (by omega) (by omega), ?_⟩⟩
      rw [← nI_succ, nI_clamp (by omega)]
      refine ih (k + 1) (by omega) _ (hT.ma _ (by decide) (by decide) (by decide) (by decide) (by decide)) (fun i hi => ?_)
      rw [ma_get]
      by_cases e : i = k
      · subst e; exact upd_same _ _ _
      · rw [upd_other _ _ e]; exact hh i (by omega)
  refine fy_stands l hf _ ?_
  have e7 : ∀ d k, k + d = 3 → ∀ T, FY T → B7 T (nI 3) (nI k) := by
    intro d
    induction d with
    | zero =>
      intro k hk T hT
      have : k = 3 := by omega
      subst this
      refine h7 _ _ _ ?_
      unfold mT_measure_7
      exact ⟨fun _ => e35 101 0 (by omega) T hT (fun i hi => absurd hi (by omega)), fun q => absurd (nI_le (Nat.le_refl 3) (by omega)) q⟩
    | succ d ih =>
      intro k hk T hT
      refine h7 _ _ _ ?_
      unfold mT_measure_7
      refine ⟨fun q => absurd q (nI_ge (by omega) (by omega)), fun _ => ⟨vp_in_nI (by omega) (by omega), vp_in_nI (by omega) (by omega), ?_⟩⟩
      rw [← nI_succ]
      exact ih (k + 1) (by omega) _ ((hT.ma _ (by decide) (by decide) (by decide) (by decide) (by decide)).ma _ (by decide) (by decide) (by decide) (by decide) (by decide))
  exact e7 3 0 (by omega) _ hf
