-- the graph of stands by their numbers
def dgs (P s : Nat) : Nat → Nat := fun j => s / P ^ j % P
def tgN (n P : Nat) (kd ct sg : Nat → Nat) (s a b : Nat) : Option Nat := if a < P ∧ b < P ∧ a ≠ b ∧ whyN n kd ct sg (dgs P s) a b = 0 then some (packN (movN n kd (dgs P s) a b) P n 0) else none
theorem dgs_lt {P : Nat} (hP : 0 < P) (s j : Nat) : dgs P s j < P := Nat.mod_lt _ hP
theorem whyN_congr {n : Nat} {kd ct sg σ τ : Nat → Nat} {a b : Nat} (h : ∀ j, j < n → σ j = τ j) : whyN n kd ct sg σ a b = whyN n kd ct sg τ a b := by
  unfold whyN
  rw [topN_congr (p := a) h, topN_congr (p := b) h]
  by_cases e : topN τ a n = n
  · rw [if_pos e, if_pos e]
  · have hl : topN τ a n < n := by have := topN_le τ a n; omega
    rw [pkE_congr h hl]
theorem movN_congr {n : Nat} {kd σ τ : Nat → Nat} {a b j : Nat} (h : ∀ j, j < n → σ j = τ j) (ht : topN σ a n < n) (hj : j < n) : movN n kd σ a b j = movN n kd τ a b j := by
  unfold movN
  rw [← topN_congr (p := a) h, pkE_congr h ht, h j hj]
theorem packN_lt {σ : Nat → Nat} {P : Nat} : ∀ d acc B, acc < B → (∀ j, j < d → σ j < P) → packN σ P d acc < B * P ^ d := by
  intro d
  induction d with
  | zero => intro acc B h _; simpa [packN] using h
  | succ d ih =>
    intro acc B h hσ
    unfold packN
    have h1 := ih (acc * P + σ d) (B * P) (by
      have q := hσ d (by omega)
      calc acc * P + σ d < acc * P + P := by omega
        _ = (acc + 1) * P := by rw [Nat.add_mul, Nat.one_mul]
        _ ≤ B * P := Nat.mul_le_mul_right P h) (fun j hj => hσ j (by omega))
    rw [Nat.pow_succ, Nat.mul_comm (P ^ d) P, ← Nat.mul_assoc]
    exact h1
theorem tgN_lt {n P : Nat} {kd ct sg : Nat → Nat} {s a b t : Nat} (hP : 0 < P) (h : tgN n P kd ct sg s a b = some t) : t < P ^ n := by
  unfold tgN at h
  split at h
  · next q =>
    cases h
    have h1 := packN_lt (σ := movN n kd (dgs P s) a b) (P := P) n 0 1 (by decide) (fun j _ => by
      unfold movN
      split
      · exact q.2.1
      · exact dgs_lt hP s j)
    rwa [Nat.one_mul] at h1
  · cases h
theorem s_lead (l : Launch) (S : MS) (s a b : Nat) (post : Int32 → MS → Prop) {n P : Nat} {kd ct sg σ τ : Nat → Nat} (hy : MY S n P kd ct sg) (hσ : MA S 8 σ) (hs : ∀ j, j < n → σ j = dgs P s j) (hτ : MA S 9 τ) (ha : a < P) (hb : b < P)
    (h0 : tgN n P kd ct sg s a b = none → post (-1) S) (h1 : ∀ t, tgN n P kd ct sg s a b = some t → ∀ (g : Nat → Int32) (ρ : Nat → Nat), (∀ j, j < 7 → g j = nI (ρ j) ∧ ρ j < 5) → post (nI t) (ma S 9 g)) : mX_leads l S (nI a) (nI b) post := by
  have hP5 := hy.2.2.1.2
  refine s_leads l S a b post hy hσ hτ (by omega) (by omega) (fun q => ?_) (fun q g ρ hg => ?_)
  · refine h0 ?_
    unfold tgN
    rw [if_neg]
    rintro ⟨-, -, w1, w2⟩
    rcases q with q | q
    · exact w1 q
    · exact q (by rw [whyN_congr hs]; exact w2)
  · have w1 : a ≠ b := fun e => q (Or.inl e)
    have w0 : whyN n kd ct sg σ a b = 0 := by
      by_cases e : whyN n kd ct sg σ a b = 0
      · exact e
      · exact absurd (Or.inr e) q
    have w2 : whyN n kd ct sg (dgs P s) a b = 0 := by rw [← whyN_congr hs]; exact w0
    have e : packN (movN n kd σ a b) P n 0 = packN (movN n kd (dgs P s) a b) P n 0 := packN_congr n 0 (fun j hj => movN_congr hs (whyN_top w0) hj)
    rw [e]
    refine h1 _ ?_ g ρ hg
    unfold tgN
    rw [if_pos ⟨ha, hb, w1, w2⟩]
/-- a move's cost -/
theorem tgN_cost {n P : Nat} {kd ct sg : Nat → Nat} {s a b t : Nat} (h : tgN n P kd ct sg s a b = some t) : ct (5 * a + b) ≠ 0 := by
  unfold tgN at h
  split at h
  · next q =>
    intro e
    have w := q.2.2.2
    unfold whyN at w
    rw [if_pos e] at w
    exact absurd w (by decide)
  · cases h
