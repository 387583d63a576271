-- numbers of stands
def numN (σ : Nat → Nat) (P : Nat) : Nat → Nat
  | 0 => 0
  | n + 1 => numN σ P n + σ n * P ^ n
theorem packN_num (σ : Nat → Nat) (P : Nat) : ∀ d acc, packN σ P d acc = acc * P ^ d + numN σ P d := by
  intro d
  induction d with
  | zero => intro acc; simp [packN, numN]
  | succ d ih =>
    intro acc
    unfold packN numN
    rw [ih, Nat.pow_succ, Nat.add_mul, Nat.mul_assoc, Nat.mul_comm P (P ^ d), Nat.add_assoc, Nat.add_comm (σ d * P ^ d)]
theorem packN0 (σ : Nat → Nat) (P n : Nat) : packN σ P n 0 = numN σ P n := by rw [packN_num]; simp
theorem numN_congr {σ τ : Nat → Nat} {P : Nat} : ∀ n, (∀ j, j < n → σ j = τ j) → numN σ P n = numN τ P n := by
  intro n
  induction n with
  | zero => intro _; rfl
  | succ n ih => intro h; unfold numN; rw [ih (fun j hj => h j (by omega)), h n (by omega)]
theorem numN_lt {σ : Nat → Nat} {P : Nat} : ∀ n, (∀ j, j < n → σ j < P) → numN σ P n < P ^ n := by
  intro n
  induction n with
  | zero => intro _; simp [numN]
  | succ n ih =>
    intro h
    unfold numN
    have h1 := ih (fun j hj => h j (by omega))
    have h2 : σ n * P ^ n + P ^ n ≤ P * P ^ n := by
      rw [← Nat.succ_mul]
      exact Nat.mul_le_mul_right _ (h n (by omega))
    rw [Nat.pow_succ, Nat.mul_comm (P ^ n) P]
    omega
theorem numN_dgs (P x : Nat) : ∀ n, numN (dgs P x) P n = x % P ^ n := by
  intro n
  induction n with
  | zero => simp [numN, Nat.mod_one]
  | succ n ih =>
    unfold numN
    rw [ih, Nat.mod_pow_succ]
    unfold dgs
    rw [Nat.mul_comm (P ^ n)]
theorem dgs_pack {P x n : Nat} (h : x < P ^ n) : packN (dgs P x) P n 0 = x := by rw [packN0, numN_dgs, Nat.mod_eq_of_lt h]
theorem dgs_num {σ : Nat → Nat} {P : Nat} (hP : 0 < P) : ∀ n, (∀ j, j < n → σ j < P) → ∀ j, j < n → dgs P (numN σ P n) j = σ j := by
  intro n
  induction n with
  | zero => intro _ j hj; exact absurd hj (Nat.not_lt_zero _)
  | succ n ih =>
    intro h j hj
    have h1 := numN_lt (P := P) n (fun j hj => h j (by omega))
    by_cases e : j = n
    · subst e
      unfold dgs numN
      rw [Nat.add_mul_div_right _ _ (Nat.pow_pos hP), Nat.div_eq_of_lt h1, Nat.zero_add, Nat.mod_eq_of_lt (h j hj)]
    · have hjn : j < n := by omega
      have h2 := ih (fun j hj => h j (by omega)) j hjn
      unfold dgs at h2 ⊢
      unfold numN
      obtain ⟨k, rfl⟩ : ∃ k, n = j + (k + 1) := ⟨n - j - 1, by omega⟩
      have e2 : σ (j + (k + 1)) * P ^ (j + (k + 1)) = P ^ j * (σ (j + (k + 1)) * P ^ k * P) := by
        rw [Nat.pow_add, Nat.pow_succ]
        simp only [Nat.mul_assoc, Nat.mul_left_comm, Nat.mul_comm]
      rw [e2, Nat.add_mul_div_left _ _ (Nat.pow_pos hP), Nat.add_mul_mod_self_right, h2]
theorem dgs_zero {P x n j : Nat} (hP : 0 < P) (h : x < P ^ n) (hj : n ≤ j) : dgs P x j = 0 := by
  unfold dgs
  rw [Nat.div_eq_of_lt (Nat.lt_of_lt_of_le h (Nat.pow_le_pow_right hP hj)), Nat.zero_mod]
theorem pow_b {P n : Nat} (hP : 2 ≤ P ∧ P ≤ 5) (hn : n ≤ 7) : P ^ n ≤ 78125 := by
  have h1 : P ^ n ≤ 5 ^ n := Nat.pow_le_pow_left hP.2 n
  have h2 : 5 ^ n ≤ 5 ^ 7 := Nat.pow_le_pow_right (by decide) hn
  have h3 : (5 : Nat) ^ 7 = 78125 := rfl
  omega
-- the weights of a run of discs
def ldF (P : Nat) : Nat → Nat → Nat
  | _, 0 => 0
  | a, k + 1 => P ^ a + ldF P (a + 1) k
/-- a run of discs goes from peg a to peg b -/
theorem numN_run {σ : Nat → Nat} {P a b : Nat} : ∀ k d n, d + k ≤ n → (∀ j, d ≤ j → j < d + k → σ j = a) → numN (fun j => if d ≤ j ∧ j < d + k then b else σ j) P n + a * ldF P d k = numN σ P n + b * ldF P d k := by
  intro k
  induction k with
  | zero =>
    intro d n _ _
    have e : (fun j => if d ≤ j ∧ j < d + 0 then b else σ j) = σ := by
      funext j; rw [if_neg (by omega)]
    rw [e]; simp [ldF]
  | succ k ih =>
    intro d n hn hσ
    have h1 := ih (d + 1) n (by omega) (fun j h2 h3 => hσ j (by omega) (by omega))
    -- one disc more
    have key : ∀ m, d + 1 ≤ m → m ≤ n → numN (fun j => if d ≤ j ∧ j < d + (k + 1) then b else σ j) P m + a * P ^ d = numN (fun j => if d + 1 ≤ j ∧ j < d + 1 + k then b else σ j) P m + b * P ^ d := by
      intro m
      induction m with
      | zero => intro q; omega
      | succ m ihm =>
        intro q1 q2
        unfold numN
        by_cases e : m = d
        · subst e
          have e1 : numN (fun j => if m ≤ j ∧ j < m + (k + 1) then b else σ j) P m = numN σ P m := numN_congr m (fun j hj => if_neg (by omega))
          have e2 : numN (fun j => if m + 1 ≤ j ∧ j < m + 1 + k then b else σ j) P m = numN σ P m := numN_congr m (fun j hj => if_neg (by omega))
          rw [e1, e2, if_pos (by omega), if_neg (by omega), hσ m (Nat.le_refl m) (by omega)]
          omega
        · have h3 := ihm (by omega) (by omega)
          have e3 : (if d ≤ m ∧ m < d + (k + 1) then b else σ m) = (if d + 1 ≤ m ∧ m < d + 1 + k then b else σ m) := by
            by_cases c : d + 1 ≤ m ∧ m < d + 1 + k
            · rw [if_pos c, if_pos (by omega)]
            · rw [if_neg c, if_neg (by omega)]
          rw [e3]
          omega
    have h2 := key n (by omega) (Nat.le_refl n)
    unfold ldF
    rw [Nat.mul_add, Nat.mul_add]
    omega
-- the first disc of a peg, from a disc on
theorem tpN_at {σ : Nat → Nat} {p n d : Nat} (h : d < n) : tpN σ p (n - d) d = if σ d = p then d else tpN σ p (n - (d + 1)) (d + 1) := by
  rw [show n - d = (n - (d + 1)) + 1 by omega]
  rfl
/-- no disc of the peg ahead of the first -/
theorem tpN_no {σ : Nat → Nat} {p : Nat} : ∀ t j i, j ≤ i → i < tpN σ p t j → σ i ≠ p := by
  intro t
  induction t with
  | zero => intro j i h1 h2; simp [tpN] at h2; omega
  | succ t ih =>
    intro j i h1 h2
    unfold tpN at h2
    split at h2
    · omega
    · next c =>
      by_cases e : i = j
      · rw [e]; exact c
      · exact ih (j + 1) i (by omega) h2
-- packs
theorem pkN_fuel {kd σ : Nat → Nat} {n d0 : Nat} : ∀ t u g, n ≤ g + t + 1 → n ≤ g + u + 1 → pkN kd σ n d0 t g = pkN kd σ n d0 u g := by
  intro t
  induction t with
  | zero =>
    intro u g h1 h2
    cases u with
    | zero => rfl
    | succ u =>
      show g = _
      unfold pkN
      rw [if_neg (fun q => by omega)]
  | succ t ih =>
    intro u g h1 h2
    cases u with
    | zero =>
      show _ = g
      unfold pkN
      rw [if_neg (fun q => by omega)]
    | succ u =>
      unfold pkN
      by_cases c : kd g = 3 ∧ g + 1 < n ∧ kd (g + 1) = 3 ∧ σ (g + 1) = σ d0
      · rw [if_pos c, if_pos c]; exact ih u (g + 1) (by omega) (by omega)
      · rw [if_neg c, if_neg c]
theorem pkN_d0 {kd σ : Nat → Nat} {n d0 d1 : Nat} (h : σ d0 = σ d1) : ∀ t g, pkN kd σ n d0 t g = pkN kd σ n d1 t g := by
  intro t
  induction t with
  | zero => intro g; rfl
  | succ t ih => intro g; unfold pkN; rw [h, ih]
theorem pkE_step {kd σ : Nat → Nat} {n d : Nat} (h1 : kd d = 3) (h2 : d + 1 < n) (h3 : kd (d + 1) = 3) (h4 : σ (d + 1) = σ d) : pkE kd σ n d = pkE kd σ n (d + 1) := by
  unfold pkE
  rw [pkN_fuel n (n - 1 + 1) d (by omega) (by omega)]
  conv => lhs; unfold pkN
  rw [if_pos ⟨h1, h2, h3, h4⟩, pkN_d0 h4.symm, pkN_fuel (n - 1) n (d + 1) (by omega) (by omega)]
theorem pkE_stop {kd σ : Nat → Nat} {n d : Nat} (hd : d < n) (h : ¬ (kd d = 3 ∧ d + 1 < n ∧ kd (d + 1) = 3 ∧ σ (d + 1) = σ d)) : pkE kd σ n d = d := by
  unfold pkE
  obtain ⟨m, rfl⟩ : ∃ m, n = m + 1 := ⟨n - 1, by omega⟩
  unfold pkN
  rw [if_neg h]
/-- all discs of a pack lie on one peg, and are of one kind -/
theorem pkN_run {kd σ : Nat → Nat} {n d0 : Nat} : ∀ t g, σ g = σ d0 → ∀ j, g ≤ j → j ≤ pkN kd σ n d0 t g → σ j = σ d0 ∧ kd j = kd g := by
  intro t
  induction t with
  | zero =>
    intro g hg j h1 h2
    have h2 : j ≤ g := h2
    have : j = g := by omega
    subst this
    exact ⟨hg, rfl⟩
  | succ t ih =>
    intro g hg j h1 h2
    unfold pkN at h2
    split at h2
    · next c =>
      by_cases e : j = g
      · subst e; exact ⟨hg, rfl⟩
      · have := ih (g + 1) c.2.2.2 j (by omega) h2
        exact ⟨this.1, by rw [this.2, c.2.2.1, c.1]⟩
    · have : j = g := by omega
      subst this
      exact ⟨hg, rfl⟩
theorem pkE_run {kd σ : Nat → Nat} {n d j : Nat} (h1 : d ≤ j) (h2 : j ≤ pkE kd σ n d) : σ j = σ d ∧ kd j = kd d := pkN_run n d rfl j h1 h2
theorem pkE_kd {kd σ : Nat → Nat} {n d : Nat} (hd : d < n) : kd (pkE kd σ n d) = kd d := (pkE_run (pkE_lt hd).1 (Nat.le_refl _)).2
/-- the number behind a move -/
theorem mov_num {n P : Nat} {kd : Nat → Nat} {x a b : Nat} (hx : x < P ^ n) (ht : topN (dgs P x) a n < n) : packN (movN n kd (dgs P x) a b) P n 0 + a * ldF P (topN (dgs P x) a n) (pkE kd (dgs P x) n (topN (dgs P x) a n) + 1 - topN (dgs P x) a n) = x + b * ldF P (topN (dgs P x) a n) (pkE kd (dgs P x) n (topN (dgs P x) a n) + 1 - topN (dgs P x) a n) := by
  have hg := pkE_lt (kd := kd) (σ := dgs P x) ht
  have hs : dgs P x (topN (dgs P x) a n) = a := tpN_hit (dgs P x) a n 0 (by unfold topN at ht; omega)
  rw [packN0]
  have h1 := numN_run (σ := dgs P x) (P := P) (a := a) (b := b) (pkE kd (dgs P x) n (topN (dgs P x) a n) + 1 - topN (dgs P x) a n) (topN (dgs P x) a n) n (by omega) (fun j h2 h3 => by
    rw [(pkE_run (kd := kd) (σ := dgs P x) (n := n) (d := topN (dgs P x) a n) h2 (by omega)).1]; exact hs)
  rw [numN_dgs, Nat.mod_eq_of_lt hx] at h1
  rw [← h1]
  congr 1
  refine numN_congr n (fun j hj => ?_)
  unfold movN
  by_cases c : topN (dgs P x) a n ≤ j ∧ j ≤ pkE kd (dgs P x) n (topN (dgs P x) a n)
  · rw [if_pos c, if_pos (by omega)]
  · rw [if_neg c, if_neg (by omega)]
