-- the reference's answers on a new object: pegs renamed, lanes turned about
def aRen (a b c : Int32) : Bool := p3 a && p3 b && p3 c && !decide (a = b) && !decide (a = c) && !decide (b = c)
theorem s_areNames3 (l : Launch) (S : MS) (hp : S.1 0 = nI 3) (a b c d e : Int32) (post : Bool → MS → Prop) (h0 : aRen a b c = false → ∀ T, post false T)
    (h1 : aRen a b c = true → ∀ T : MS, T.1 = S.1 → (∀ j, j ≠ 26 → T.2.1 j = S.2.1 j) → T.2.1 26 0 = a → T.2.1 26 1 = b → T.2.1 26 2 = c → post true T) : mX_areNames l S a b c d e post := by
  refine m_areNames l S a b c d e post ?_
  intro B40 B68 h40 h68
  unfold mT_areNames_e
  refine ⟨by unfold vp_in; decide, by unfold vp_in; decide, by unfold vp_in; decide, by unfold vp_in; decide, by unfold vp_in; decide, ?_⟩
  rw [z0, show (1 : Int32).toNatClampNeg = 1 by decide, show (2 : Int32).toNatClampNeg = 2 by decide, show (3 : Int32).toNatClampNeg = 3 by decide, show (4 : Int32).toNatClampNeg = 4 by decide]
  rw [ma_ma, ma_ma, ma_ma, ma_ma]
  have t1 : (ma S 26 (upd (upd (upd (upd (upd (S.2.1 26) 0 a) 1 b) 2 c) 3 d) 4 e)).1 = S.1 := rfl
  have t2 : ∀ j, j ≠ 26 → (ma S 26 (upd (upd (upd (upd (upd (S.2.1 26) 0 a) 1 b) 2 c) 3 d) 4 e)).2.1 j = S.2.1 j := fun j hj => ma_get_ne _ _ hj
  have t3 : (ma S 26 (upd (upd (upd (upd (upd (S.2.1 26) 0 a) 1 b) 2 c) 3 d) 4 e)).2.1 26 0 = a := by rw [ma_get]; simp [upd]
  have t4 : (ma S 26 (upd (upd (upd (upd (upd (S.2.1 26) 0 a) 1 b) 2 c) 3 d) 4 e)).2.1 26 1 = b := by rw [ma_get]; simp [upd]
  have t5 : (ma S 26 (upd (upd (upd (upd (upd (S.2.1 26) 0 a) 1 b) 2 c) 3 d) 4 e)).2.1 26 2 = c := by rw [ma_get]; simp [upd]
  generalize ma S 26 (upd (upd (upd (upd (upd (S.2.1 26) 0 a) 1 b) 2 c) 3 d) 4 e) = T at t1 t2 t3 t4 t5 ⊢
  have tp : T.1 0 = nI 3 := by rw [t1]; exact hp
  -- the end of an inner loop
  have eN : ∀ k, k < 3 → B40 T (nI (k + 1)) → B68 T (nI k) (nI k) := by
    intro k hk hn
    refine h68 _ _ _ ?_
    unfold mT_areNames_68
    exact ⟨fun _ => by rw [← nI_succ]; exact hn, fun q => absurd (nI_le (Nat.le_refl k) (by omega)) q⟩
  -- one comparison
  have eC : ∀ k m, m < k → k < 3 → (T.2.1 26 m = T.2.1 26 k → aRen a b c = false) → (¬ T.2.1 26 m = T.2.1 26 k → B68 T (nI k) (nI (m + 1))) → B68 T (nI k) (nI m) := by
    intro k m hm hk hf hn
    refine h68 _ _ _ ?_
    unfold mT_areNames_68
    rw [nI_clamp (show m < 2 ^ 31 by omega), nI_clamp (show k < 2 ^ 31 by omega)]
    refine ⟨fun q => absurd q (nI_ge (by omega) (by omega)), fun _ => ⟨vp_in_nI (by omega) (by omega), vp_in_nI (by omega) (by omega), fun q => by rw [← nI_succ]; exact hn q, fun q => h0 (hf q) _⟩⟩
  -- one name
  have eK : ∀ k, k < 3 → (p3 (T.2.1 26 k) = false → aRen a b c = false) → (p3 (T.2.1 26 k) = true → B68 T (nI k) (nI 0)) → B40 T (nI k) := by
    intro k hk hf hn
    refine h40 _ _ ?_
    unfold mT_areNames_40
    rw [tp, nI_clamp (show k < 2 ^ 31 by omega)]
    refine ⟨fun q => absurd q (nI_ge (by omega) (by omega)), fun _ => ⟨vp_in_nI (by omega) (by omega), s_pg l tp _ _ ⟨fun q => hn (bI_n0.mp q), fun q => h0 (hf (bI_0.mp q)) _⟩⟩⟩
  refine eK 0 (by decide) (fun q => by rw [t3] at q; simp [aRen, q]) (fun qa => eN 0 (by decide) ?_)
  rw [t3] at qa
  refine eK 1 (by decide) (fun q => by rw [t4] at q; simp [aRen, q]) (fun qb => eC 1 0 (by decide) (by decide) (fun q => by rw [t3, t4] at q; simp [aRen, q]) (fun qab => eN 1 (by decide) ?_))
  rw [t4] at qb
  rw [t3, t4] at qab
  refine eK 2 (by decide) (fun q => by rw [t5] at q; simp [aRen, q]) (fun qc => eC 2 0 (by decide) (by decide) (fun q => by rw [t3, t5] at q; simp [aRen, q]) (fun qac => eC 2 1 (by decide) (by decide) (fun q => by rw [t4, t5] at q; simp [aRen, q]) (fun qbc => eN 2 (by decide) ?_)))
  rw [t5] at qc
  rw [t3, t5] at qac
  rw [t4, t5] at qbc
  refine h40 _ _ ?_
  unfold mT_areNames_40
  rw [tp]
  exact ⟨fun _ => h1 (by simp [aRen, qa, qb, qc, qab, qac, qbc]) T t1 t2 t3 t4 t5, fun q => absurd (nI_le (Nat.le_refl 3) (by omega)) q⟩
theorem p1m_22 (l : Launch) (a b c d e : Int32) (post : Bool → MS → Prop) (h : ∀ M, post (aRen a b c) M) : mX_rename l mS0 a b c d e post := by
  refine m_rename l mS0 a b c d e post ?_
  intro B28 B72 B84 B176 h28 h72 h84 h176
  unfold mT_rename_e
  refine s_areNames3 l _ rfl a b c d e _ (fun hv T => ⟨fun q => absurd rfl q, fun _ => s_not l _ 1 _ (by rw [← hv]; exact h _)⟩) (fun hv T u1 u2 u3 u4 u5 => ⟨fun _ => ?_, fun q => absurd q (by decide)⟩)
  have hv2 := hv
  simp only [aRen, Bool.and_eq_true] at hv2
  obtain ⟨⟨⟨⟨⟨qa, qb⟩, qc⟩, -⟩, -⟩, -⟩ := hv2
  have nm : ∀ k, k < 3 → ∃ i, i < 3 ∧ T.2.1 26 k = nI i := by
    intro k hk
    rcases (show k = 0 ∨ k = 1 ∨ k = 2 by omega) with rfl | rfl | rfl
    · rw [u3]; exact p3_iff.mp qa
    · rw [u4]; exact p3_iff.mp qb
    · rw [u5]; exact p3_iff.mp qc
  have tp : T.1 0 = nI 3 := by rw [u1]; rfl
  have td : T.1 1 = nI 1 := by rw [u1]; rfl
  have ts : T.2.1 2 0 = nI 0 := by rw [u2 2 (by decide)]; rfl
  have tg : T.2.1 3 0 = nI 0 := by rw [u2 3 (by decide)]; rfl
  have e176 : ∀ T : MS, T.1 1 = nI 1 → T.2.1 2 0 = nI 0 → T.2.1 3 0 = nI 0 → B176 T 0 := by
    intro T td ts tg
    refine h176 _ _ ?_
    unfold mT_rename_176
    rw [td, z0, ts, tg]
    refine ⟨fun q => absurd q (by decide), fun _ => ⟨by unfold vp_in; decide, by unfold vp_in; decide, by unfold vp_in; decide, by unfold vp_in; decide, by unfold vp_in; decide, by unfold vp_in; decide, h176 _ _ ?_⟩⟩
    unfold mT_rename_176
    refine ⟨fun _ => s_nothingUndone l _ _ (by rw [← hv]; exact h _), fun q => absurd (show T.1 1 ≤ 0 + 1 by rw [td]; decide) q⟩
  have e72 : ∀ d a1, a1 + d = 3 → ∀ T : MS, T.1 0 = nI 3 → T.1 1 = nI 1 → T.2.1 2 0 = nI 0 → T.2.1 3 0 = nI 0 → (∀ k, k < 3 → ∃ i, i < 3 ∧ T.2.1 26 k = nI i) → B72 T (nI a1) := by
    intro d
    induction d with
    | zero =>
      intro a1 ha1 T tp td ts tg nm
      have : a1 = 3 := by omega
      subst this
      refine h72 _ _ ?_
      unfold mT_rename_72
      rw [tp]
      exact ⟨fun _ => e176 T td ts tg, fun q => absurd (nI_le (Nat.le_refl 3) (by omega)) q⟩
    | succ d ih =>
      intro a1 ha1 T tp td ts tg nm
      refine h72 _ _ ?_
      unfold mT_rename_72
      rw [tp]
      refine ⟨fun q => absurd q (nI_ge (by omega) (by omega)), fun _ => ?_⟩
      have e84 : ∀ d2 b1, b1 + d2 = 3 → ∀ T : MS, T.1 0 = nI 3 → T.1 1 = nI 1 → T.2.1 2 0 = nI 0 → T.2.1 3 0 = nI 0 → (∀ k, k < 3 → ∃ i, i < 3 ∧ T.2.1 26 k = nI i) → B84 T (nI a1) (nI b1) := by
        intro d2
        induction d2 with
        | zero =>
          intro b1 hb1 T tp td ts tg nm
          have : b1 = 3 := by omega
          subst this
          refine h84 _ _ _ ?_
          unfold mT_rename_84
          rw [tp]
          exact ⟨fun _ => by rw [← nI_succ]; exact ih (a1 + 1) (by omega) T tp td ts tg nm, fun q => absurd (nI_le (Nat.le_refl 3) (by omega)) q⟩
        | succ d2 ih2 =>
          intro b1 hb1 T tp td ts tg nm
          obtain ⟨i, hi, ei⟩ := nm a1 (by omega)
          obtain ⟨j, hj, ej⟩ := nm b1 (by omega)
          refine h84 _ _ _ ?_
          unfold mT_rename_84
          rw [tp, ix25 (show a1 < 5 by omega) (show b1 < 5 by omega), nI_clamp (show a1 < 2 ^ 31 by omega), nI_clamp (show b1 < 2 ^ 31 by omega), ei, ej, ix25 (show i < 5 by omega) (show j < 5 by omega)]
          refine ⟨fun q => absurd q (nI_ge (by omega) (by omega)), fun _ => ⟨vp_in_nI (by omega) (by omega), vp_in_nI (by omega) (by omega), vp_in_nI (by omega) (by omega), vp_in_nI (by omega) (by omega), vp_in_nI (by omega) (by omega), vp_in_nI (by omega) (by omega), vp_in_nI (by omega) (by omega), vp_in_nI (by omega) (by omega), ?_⟩⟩
          rw [← nI_succ]
          refine ih2 (b1 + 1) (by omega) _ tp td ?_ ?_ ?_
          · rw [ma_get_ne _ _ (by decide), ma_get_ne _ _ (by decide)]; exact ts
          · rw [ma_get_ne _ _ (by decide), ma_get_ne _ _ (by decide)]; exact tg
          · intro k hk
            rw [ma_get_ne _ _ (by decide), ma_get_ne _ _ (by decide)]
            exact nm k hk
      exact e84 3 0 (by omega) T tp td ts tg nm
  have e28 : ∀ d k, k + d = 25 → ∀ T : MS, T.1 0 = nI 3 → T.1 1 = nI 1 → T.2.1 2 0 = nI 0 → T.2.1 3 0 = nI 0 → (∀ k, k < 3 → ∃ i, i < 3 ∧ T.2.1 26 k = nI i) → B28 T (nI k) := by
    intro d
    induction d with
    | zero =>
      intro k hk T tp td ts tg nm
      have : k = 25 := by omega
      subst this
      refine h28 _ _ ?_
      unfold mT_rename_28
      exact ⟨fun _ => e72 3 0 (by omega) T tp td ts tg nm, fun q => absurd (show (25 : Int32) ≤ nI 25 by decide) q⟩
    | succ d ih =>
      intro k hk T tp td ts tg nm
      refine h28 _ _ ?_
      unfold mT_rename_28
      refine ⟨fun q => absurd q (nI_ge (a := k) (b := 25) (by omega) (by omega)), fun _ => ⟨vp_in_nI (by omega) (by omega), vp_in_nI (by omega) (by omega), vp_in_nI (by omega) (by omega), vp_in_nI (by omega) (by omega), ?_⟩⟩
      rw [← nI_succ]
      refine ih (k + 1) (by omega) _ tp td ?_ ?_ ?_
      · rw [ma_get_ne _ _ (by decide), ma_get_ne _ _ (by decide)]; exact ts
      · rw [ma_get_ne _ _ (by decide), ma_get_ne _ _ (by decide)]; exact tg
      · intro k hk
        rw [ma_get_ne _ _ (by decide), ma_get_ne _ _ (by decide)]
        exact nm k hk
  exact e28 25 0 (by omega) T tp td ts tg nm
theorem p1m_23 (l : Launch) (post : Int32 → MS → Prop) (h : ∀ M, post 0 M) : mX_about l mS0 post := by
  refine m_about l mS0 post ?_
  intro B7 B16 B121 h7 h16 h121
  unfold mT_about_e
  have e121 : ∀ T : MS, T.1 1 = nI 1 → (∀ j, j < 25 → T.2.1 4 j = 0) → B121 T 0 := by
    intro T td hz
    refine h121 _ _ ?_
    unfold mT_about_121
    rw [td]
    refine ⟨fun q => absurd q (by decide), fun _ => ⟨by unfold vp_in; decide, fun v _ => ⟨by unfold vp_in; decide, by unfold vp_in; decide, by unfold vp_in; decide, h121 _ _ ?_⟩⟩⟩
    unfold mT_about_121
    refine ⟨fun _ => s_lanesThere l _ _ ?_, fun q => absurd (show T.1 1 ≤ 0 + 1 by rw [td]; decide) q⟩
    rw [cnN_zero 25 (fun j hj => by
      show (ma (ma T 2 _) 3 _).2.1 4 j = 0
      rw [ma_get_ne _ _ (by decide), ma_get_ne _ _ (by decide)]
      exact hz j hj)]
    exact h _
  have e7 : ∀ d a, a + d = 5 → ∀ T : MS, T.1 1 = nI 1 → (∀ j, j < 25 → T.2.1 4 j = 0) → B7 T (nI a) := by
    intro d
    induction d with
    | zero =>
      intro a ha T td hz
      have : a = 5 := by omega
      subst this
      refine h7 _ _ ?_
      unfold mT_about_7
      exact ⟨fun _ => e121 T td hz, fun q => absurd (show (5 : Int32) ≤ nI 5 by decide) q⟩
    | succ d ih =>
      intro a ha T td hz
      refine h7 _ _ ?_
      unfold mT_about_7
      refine ⟨fun q => absurd q (nI_ge (a := a) (b := 5) (by omega) (by omega)), fun _ v hv => ?_⟩
      rw [← nI_succ] at hv
      subst hv
      have e16 : ∀ d2 b, b + d2 = 5 → ∀ T : MS, T.1 1 = nI 1 → (∀ j, j < 25 → T.2.1 4 j = 0) → B16 T (nI a) (nI b) := by
        intro d2
        induction d2 with
        | zero =>
          intro b hb T td hz
          have : b = 5 := by omega
          subst this
          refine h16 _ _ _ ?_
          unfold mT_about_16
          exact ⟨fun _ => by rw [← nI_succ]; exact ih (a + 1) (by omega) T td hz, fun q => absurd (show (5 : Int32) ≤ nI 5 by decide) q⟩
        | succ d2 ih2 =>
          intro b hb T td hz
          refine h16 _ _ _ ?_
          unfold mT_about_16
          rw [ix25 (show a < 5 by omega) (show b < 5 by omega), ix25 (show b < 5 by omega) (show a < 5 by omega), nI_clamp (show 5 * a + b < 2 ^ 31 by omega), nI_clamp (show 5 * b + a < 2 ^ 31 by omega)]
          refine ⟨fun q => absurd q (nI_ge (a := b) (b := 5) (by omega) (by omega)), fun _ => ⟨vp_in_nI (by omega) (by omega), fun v3 hv3 => ⟨vp_in_nI (by omega) (by omega), fun v4 hv4 => ⟨vp_in_nI (by omega) (by omega), vp_in_nI (by omega) (by omega), vp_in_nI (by omega) (by omega), vp_in_nI (by omega) (by omega), vp_in_nI (by omega) (by omega), vp_in_nI (by omega) (by omega), ?_⟩⟩⟩⟩
          rw [← nI_succ]
          refine ih2 (b + 1) (by omega) _ td (fun j hj => ?_)
          rw [ma_get_ne _ _ (by decide), ma_get]
          have z1 := hz (5 * b + a) (by omega)
          have z2 := hz (5 * a + b) (by omega)
          rw [z2] at hv3
          rw [z1, hv3]
          unfold upd
          split
          · rfl
          · split
            · rfl
            · exact hz j hj
      exact e16 (5 - (a + 1)) (a + 1) (by omega) T td hz
  exact e7 5 0 (by omega) _ rfl (fun _ _ => rfl)
