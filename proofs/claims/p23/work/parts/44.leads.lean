-- what lies below n alone counts
theorem tpN_congr {σ τ : Nat → Nat} {p N : Nat} (h : ∀ j, j < N → σ j = τ j) : ∀ d j, j + d ≤ N → tpN σ p d j = tpN τ p d j := by
  intro d
  induction d with
  | zero => intro j _; rfl
  | succ d ih =>
    intro j hj
    unfold tpN
    rw [h j (by omega), ih (j + 1) (by omega)]
theorem topN_congr {σ τ : Nat → Nat} {p n : Nat} (h : ∀ j, j < n → σ j = τ j) : topN σ p n = topN τ p n := tpN_congr h n 0 (by omega)
theorem pkN_congr {kd σ τ : Nat → Nat} {n d0 : Nat} (h : ∀ j, j < n → σ j = τ j) (hd : d0 < n) : ∀ t g, pkN kd σ n d0 t g = pkN kd τ n d0 t g := by
  intro t
  induction t with
  | zero => intro g; rfl
  | succ t ih =>
    intro g
    unfold pkN
    rw [ih (g + 1)]
    by_cases c : g + 1 < n
    · rw [h (g + 1) c, h d0 hd]
    · rw [if_neg (fun q => c q.2.1), if_neg (fun q => c q.2.1)]
theorem pkE_congr {kd σ τ : Nat → Nat} {n d : Nat} (h : ∀ j, j < n → σ j = τ j) (hd : d < n) : pkE kd σ n d = pkE kd τ n d := pkN_congr h hd n d
theorem packN_congr {σ τ : Nat → Nat} {P : Nat} : ∀ d acc, (∀ j, j < d → σ j = τ j) → packN σ P d acc = packN τ P d acc := by
  intro d
  induction d with
  | zero => intro acc _; rfl
  | succ d ih =>
    intro acc h
    unfold packN
    rw [h d (by omega)]
    exact ih _ (fun j hj => h j (by omega))
theorem whyN_top {n : Nat} {kd ct sg σ : Nat → Nat} {a b : Nat} (h : whyN n kd ct sg σ a b = 0) : topN σ a n < n := by
  have hle := topN_le σ a n
  rcases Nat.lt_or_ge (topN σ a n) n with q | q
  · exact q
  · have e : topN σ a n = n := by omega
    unfold whyN at h
    by_cases c : ct (5 * a + b) = 0
    · rw [if_pos c] at h; omega
    · rw [if_neg c, if_pos e] at h; omega
/-- the first n of g, then those of f -/
def cpF (f g : Nat → Int32) (n : Nat) : Nat → Int32 := fun j => if j < n then g j else f j
theorem cpF_0 (f g : Nat → Int32) : cpF f g 0 = f := by funext j; simp [cpF]
theorem cpF_s (f g : Nat → Int32) (n : Nat) : upd (cpF f g n) n (g n) = cpF f g (n + 1) := by
  funext j
  unfold upd cpF
  by_cases c : j = n
  · subst c; rw [if_pos rfl, if_pos (by omega)]
  · rw [if_neg c]
    by_cases c2 : j < n
    · rw [if_pos c2, if_pos (by omega)]
    · rw [if_neg c2, if_neg (by omega)]
theorem MY.ma {S : MS} {n P : Nat} {kd ct sg : Nat → Nat} (h : MY S n P kd ct sg) {k : Nat} (f : Nat → Int32) (h1 : k ≠ 1) (h4 : k ≠ 4) (h5 : k ≠ 5) : MY (ma S k f) n P kd ct sg := by
  unfold MY
  rw [ma_get_ne S f (Ne.symm h1), ma_get_ne S f (Ne.symm h4), ma_get_ne S f (Ne.symm h5)]
  exact h
theorem s_leads (l : Launch) (S : MS) (a b : Nat) (post : Int32 → MS → Prop) {n P : Nat} {kd ct sg σ τ : Nat → Nat} (hy : MY S n P kd ct sg) (hσ : MA S 8 σ) (hτ : MA S 9 τ) (ha : a < 5) (hb : b < 5)
    (h0 : (a = b ∨ whyN n kd ct sg σ a b ≠ 0) → post (-1) S)
    (h1 : ¬ (a = b ∨ whyN n kd ct sg σ a b ≠ 0) → ∀ (g : Nat → Int32) (ρ : Nat → Nat), (∀ j, j < 7 → g j = nI (ρ j) ∧ ρ j < 5) → post (nI (packN (movN n kd σ a b) P n 0)) (ma S 9 g)) : mX_leads l S (nI a) (nI b) post := by
  have hy0 := hy
  obtain ⟨hP, hn, hP2, hn2, hkd, hct, hsg⟩ := hy
  refine m_leads l S (nI a) (nI b) post ?_
  intro B22 h22
  unfold mT_leads_e
  refine ⟨fun c => h0 (Or.inl ((nI_eq (by omega) (by omega)).mp c)), fun c => ?_⟩
  have hab : a ≠ b := fun q => c (by rw [q])
  refine s_whyOf l S 8 a b (by decide) _ hy0 hσ ha hb ?_
  have hwl : whyN n kd ct sg σ a b < 6 := by
    unfold whyN
    repeat' split
    all_goals omega
  refine ⟨fun c2 => ?_, fun c2 => h0 (Or.inr fun q => c2 (by rw [q]; decide))⟩
  have hw : whyN n kd ct sg σ a b = 0 := by
    rcases Nat.eq_zero_or_pos (whyN n kd ct sg σ a b) with q | q
    · exact q
    · exact absurd c2 (nI_nle q (by omega))
  have hd := whyN_top hw
  have key : ∀ d j, j + d = n → B22 (ma S 9 (cpF (S.2.1 9) (S.2.1 8) j)) (nI j) := by
    intro d
    induction d with
    | succ d ih =>
      intro j hj
      refine h22 _ _ ?_
      unfold mT_leads_22
      rw [show (ma S 9 (cpF (S.2.1 9) (S.2.1 8) j)).1 = S.1 from rfl, hn]
      refine ⟨fun c => absurd c (nI_ge (by omega) (by omega)), fun _ => ⟨vp_in_nI (by omega) (by omega), vp_in_nI (by omega) (by omega), ?_⟩⟩
      rw [ma_get, ma_get_ne S _ (by decide), ma_ma, nI_clamp (by omega), cpF_s, ← nI_succ]
      exact ih (j + 1) (by omega)
    | zero =>
      intro j hj
      have hjn : j = n := by omega
      subst hjn
      refine h22 _ _ ?_
      unfold mT_leads_22
      rw [show (ma S 9 (cpF (S.2.1 9) (S.2.1 8) j)).1 = S.1 from rfl, hn]
      refine ⟨fun _ => ?_, fun c => absurd (nI_le (Nat.le_refl j) (by omega)) c⟩
      generalize hN : ma S 9 (cpF (S.2.1 9) (S.2.1 8) j) = N
      have hyN : MY N j P kd ct sg := by rw [← hN]; exact hy0.ma _ (by decide) (by decide) (by decide)
      have hρ : MA N 9 (fun i => if i < j then σ i else τ i) := by
        intro i hi
        rw [← hN, ma_get]
        unfold cpF
        by_cases c : i < j
        · simp only [c, if_true]; exact hσ i hi
        · simp only [c, if_false]; exact hτ i hi
      generalize hρe : (fun i => if i < j then σ i else τ i) = ρ at hρ
      have hcg : ∀ i, i < j → ρ i = σ i := fun i hi => by rw [← hρe]; simp [hi]
      have ht : topN ρ a j = topN σ a j := topN_congr hcg
      have hpk : pkE kd ρ j (topN σ a j) = pkE kd σ j (topN σ a j) := pkE_congr hcg hd
      have hg := pkE_lt (kd := kd) (σ := σ) hd
      refine s_moved l N 9 a b (by decide) (by decide) _ hyN hρ ha (by rw [ht]; exact hd) ?_
      rw [ht, hpk]
      refine ⟨fun c => absurd c (nI_nle (by omega) (by omega)), fun _ => ?_⟩
      have hM : ∀ i, i < 7 → movF (N.2.1 9) (topN σ a j) (pkE kd σ j (topN σ a j) + 1) (nI b) i = nI (if topN σ a j ≤ i ∧ i ≤ pkE kd σ j (topN σ a j) then b else ρ i) ∧ (if topN σ a j ≤ i ∧ i ≤ pkE kd σ j (topN σ a j) then b else ρ i) < 5 := by
        intro i hi
        unfold movF
        by_cases c : topN σ a j ≤ i ∧ i ≤ pkE kd σ j (topN σ a j)
        · rw [if_pos (show topN σ a j ≤ i ∧ i < pkE kd σ j (topN σ a j) + 1 by omega), if_pos c]
          exact ⟨rfl, hb⟩
        · rw [if_neg (show ¬ (topN σ a j ≤ i ∧ i < pkE kd σ j (topN σ a j) + 1) by omega), if_neg c]
          exact hρ i hi
      refine s_pack l _ 9 (by decide) _ (n := j) (P := P) (σ := fun i => if topN σ a j ≤ i ∧ i ≤ pkE kd σ j (topN σ a j) then b else ρ i) hyN.2.1 hyN.1 (by omega) (fun i hi => by rw [ma_get]; exact (hM i (by omega)).1) ?_
      have e : packN (fun i => if topN σ a j ≤ i ∧ i ≤ pkE kd σ j (topN σ a j) then b else ρ i) P j 0 = packN (movN j kd σ a b) P j 0 := packN_congr j 0 (fun i hi => by unfold movN; rw [hcg i hi])
      rw [e, ← hN, ma_ma, hN]
      exact h1 (fun q => q.elim hab (fun q => q hw)) _ _ hM
  have := key n 0 (by omega)
  rw [cpF_0, ma_id] at this
  exact this
