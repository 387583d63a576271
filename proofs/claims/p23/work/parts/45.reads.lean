theorem MY.mf {S : MS} {n P : Nat} {kd ct sg : Nat → Nat} (h : MY S n P kd ct sg) {k : Nat} (v : Int32) (h0 : k ≠ 0) (h1 : k ≠ 1) : MY (mf S k v) n P kd ct sg := by
  unfold MY
  rw [mf_get_ne S v (Ne.symm h0), mf_get_ne S v (Ne.symm h1)]
  exact h
theorem bI_n0 {b : Bool} : ¬ bI b = 0 ↔ b = true := by cases b <;> decide
/-- a number between 0 and N - 1 -/
theorem in_iff {a : Int32} {N : Nat} (h1 : 1 ≤ N) (h2 : N < 2 ^ 31) : (0 ≤ a ∧ a ≤ nI N - 1) ↔ ∃ i, i < N ∧ a = nI i := by
  obtain ⟨M, rfl⟩ : ∃ M, N = M + 1 := ⟨N - 1, by omega⟩
  rw [nI_pred]
  constructor
  · rintro ⟨q1, q2⟩
    obtain ⟨j, hj, e⟩ := nI_of2 (n := M) (nI_toInt (by omega)) (Int32.not_lt.mpr q1) q2
    exact ⟨j, by omega, e⟩
  · rintro ⟨i, hi, rfl⟩
    exact ⟨nI_pos' (by omega), nI_le (by omega) (by omega)⟩
/-- isPeg, by cases -/
theorem s_isPegC (l : Launch) (S : MS) (a : Int32) (post : Bool → MS → Prop) {P : Nat} (hP : S.1 0 = nI P) (hP2 : 2 ≤ P ∧ P ≤ 5) (h0 : (¬ ∃ i, i < P ∧ a = nI i) → post false S) (h1 : ∀ i, i < P → a = nI i → post true S) : mX_isPeg l S a post := by
  refine s_isPeg l S a post ?_
  rw [hP]
  by_cases c : ∃ i, i < P ∧ a = nI i
  · rw [decide_eq_true ((in_iff (by omega) (by omega)).mpr c)]
    obtain ⟨i, hi, e⟩ := c
    exact h1 i hi e
  · rw [decide_eq_false (fun q => c ((in_iff (by omega) (by omega)).mp q))]
    exact h0 c
theorem s_fits (l : Launch) (S : MS) (post : Bool → MS → Prop) {n P : Nat} (hn : S.1 1 = nI n) (hP : S.1 0 = nI P) (h7 : n ≤ 7) (hP2 : 2 ≤ P ∧ P ≤ 5) (h : post (decide (P ^ n ≤ 20000)) S) : mX_fits l S post := by
  refine m_fits l S post ?_
  unfold mT_fits_e
  refine s_stands l S _ hn hP h7 ?_
  have hb : P ^ n ≤ 5 ^ 7 := Nat.le_trans (Nat.pow_le_pow_left hP2.2 n) (Nat.pow_le_pow_right (by omega) h7)
  have h57 : (5 : Nat) ^ 7 = 78125 := rfl
  rw [show (20000 : Int32) = nI 20000 from rfl]
  refine ⟨fun c => ?_, fun c => ?_⟩
  · have c : 20000 < P ^ n := (nI_ltI (by omega) (by omega)).mp c
    rw [decide_eq_false (by omega)] at h; exact h
  · have c : ¬ 20000 < P ^ n := fun q => c (nI_lt q (by omega))
    rw [decide_eq_true (by omega)] at h; exact h
theorem s_why (l : Launch) (S : MS) (a b : Int32) (post : Int32 → MS → Prop) {n P : Nat} {kd ct sg σ : Nat → Nat} (hy : MY S n P kd ct sg) (hσ : MA S 2 σ)
    (h0 : (¬ ((∃ i, i < P ∧ a = nI i) ∧ ∃ j, j < P ∧ b = nI j)) → post (-1) (mf S 3 0))
    (h1 : ∀ i j, i < P → j < P → a = nI i → b = nI j → post (nI (whyN n kd ct sg σ i j)) (mf S 3 0)) : mX_why l S a b post := by
  have hy3 := hy.mf (k := 3) 0 (by decide) (by decide)
  have hp := hy3.2.2.1
  refine m_why l S a b post ?_
  unfold mT_why_e
  refine s_isPegC l _ a _ hy3.1 hp (fun c => ⟨fun _ => h0 (fun q => c q.1), fun q => absurd rfl q⟩) (fun i hi ea => ⟨fun q => absurd q (by decide), fun _ => ?_⟩)
  refine s_isPegC l _ b _ hy3.1 hp (fun c => ⟨fun _ => h0 (fun q => c q.2), fun q => absurd rfl q⟩) (fun j hj eb => ⟨fun q => absurd q (by decide), fun _ => ?_⟩)
  rw [ea, eb]
  exact s_whyOf l _ 2 i j (by decide) _ hy3 hσ (by omega) (by omega) (h1 i j hi hj ea eb)
theorem s_cost (l : Launch) (S : MS) (a b : Int32) (post : Int32 → MS → Prop) {n P : Nat} {kd ct sg : Nat → Nat} (hy : MY S n P kd ct sg)
    (h0 : (¬ ((∃ i, i < P ∧ a = nI i) ∧ ∃ j, j < P ∧ b = nI j)) → post (-1) (mf S 3 0))
    (h1 : ∀ i j, i < P → j < P → a = nI i → b = nI j → post (nI (ct (5 * i + j))) (mf S 3 0)) : mX_cost l S a b post := by
  have hy3 := hy.mf (k := 3) 0 (by decide) (by decide)
  have hp := hy3.2.2.1
  refine m_cost l S a b post ?_
  unfold mT_cost_e
  refine s_isPegC l _ a _ hy3.1 hp (fun c => ⟨fun _ => h0 (fun q => c q.1), fun q => absurd rfl q⟩) (fun i hi ea => ⟨fun q => absurd q (by decide), fun _ => ?_⟩)
  refine s_isPegC l _ b _ hy3.1 hp (fun c => ⟨fun _ => h0 (fun q => c q.2), fun q => absurd rfl q⟩) (fun j hj eb => ⟨fun q => absurd q (by decide), fun _ => ?_⟩)
  rw [ea, eb, ix25 (by omega) (by omega), nI_clamp (by omega), (hy3.2.2.2.2.2.1 (5 * i + j) (by omega)).1]
  exact ⟨vp_in_nI (by omega) (by omega), h1 i j hi hj ea eb⟩
theorem s_peg (l : Launch) (S : MS) (a : Int32) (post : Int32 → MS → Prop) {n P : Nat} {kd ct sg σ : Nat → Nat} (hy : MY S n P kd ct sg) (hσ : MA S 2 σ)
    (h0 : (¬ ∃ i, i < n ∧ a = nI i) → post (-1) (mf S 3 0)) (h1 : ∀ i, i < n → a = nI i → post (nI (σ i)) (mf S 3 0)) : mX_peg l S a post := by
  have hn := hy.2.2.2.1
  refine m_peg l S a post ?_
  unfold mT_peg_e
  refine s_in l _ a _ _ _ ?_
  rw [hy.2.1]
  by_cases c : ∃ i, i < n ∧ a = nI i
  · rw [decide_eq_true ((in_iff (by omega) (by omega)).mpr c)]
    obtain ⟨i, hi, e⟩ := c
    refine ⟨fun q => absurd q (by decide), fun _ => ?_⟩
    rw [e, nI_clamp (by omega)]
    refine ⟨vp_in_nI (by omega) (by omega), ?_⟩
    show post (S.2.1 2 i) _
    rw [(hσ i (by omega)).1]
    exact h1 i hi e
  · rw [decide_eq_false (fun q => c ((in_iff (by omega) (by omega)).mp q))]
    exact ⟨fun _ => h0 c, fun q => absurd rfl q⟩
theorem s_number (l : Launch) (S : MS) (g : Bool) (post : Int32 → MS → Prop) {n P : Nat} {kd ct sg σ γ : Nat → Nat} (hy : MY S n P kd ct sg) (hσ : MA S 2 σ) (hγ : MA S 3 γ) (h : post (nI (packN (if g then γ else σ) P n 0)) (mf S 3 0)) : mX_number l S g post := by
  have hy3 := hy.mf (k := 3) 0 (by decide) (by decide)
  refine m_number l S g post ?_
  unfold mT_number_e
  refine ⟨fun c => ?_, fun c => ?_⟩
  · rw [bI_0] at c
    subst c
    exact s_pack l _ 2 (by decide) _ hy3.2.1 hy3.1 (by have := hy.2.2.2.1; omega) (fun j hj => (hσ j (by have := hy.2.2.2.1; omega)).1) h
  · rw [bI_n0] at c
    subst c
    exact s_pack l _ 3 (by decide) _ hy3.2.1 hy3.1 (by have := hy.2.2.2.1; omega) (fun j hj => (hγ j (by have := hy.2.2.2.1; omega)).1) h
