-- cheapest rows, seen as numbers alone: labels fr, the settled stands mt in their order, the cost d that is looked at, pairs P that wait
def MI (N st : Nat) (tg : Nat → Nat → Nat → Option Nat) (c : Nat → Nat → Nat) (fr : Nat → Option Nat) (mt : List Nat) (d : Nat) (P : Nat → Nat → Nat → Prop) : Prop :=
  (mt.Nodup ∧ ∀ x, x ∈ mt → x < N) ∧ (∀ x, fr x ≠ none → x < N) ∧ (∀ x, x ∈ mt → ∃ m, fr x = some m ∧ m ≤ d) ∧ (∀ x m, x ∉ mt → fr x = some m → d ≤ m ∧ m ≤ d + 100) ∧
  (mt.Pairwise fun x y => ∀ m k, fr x = some m → fr y = some k → m ≤ k) ∧
  (∀ x m, fr x = some m → (x = st ∧ m = 0) ∨ ∃ s a b k, s ∈ mt ∧ tg s a b = some x ∧ fr s = some k ∧ m = k + c a b) ∧
  (∀ s, s ∈ mt → ∀ a b t, tg s a b = some t → ¬ P s a b → ∃ k m, fr s = some k ∧ fr t = some m ∧ m ≤ k + c a b) ∧
  (∀ x m, fr x = some m → m ≤ 100 * mt.length) ∧ fr st = some 0
section MIS
variable {N st : Nat} {tg : Nat → Nat → Nat → Option Nat} {c : Nat → Nat → Nat} {fr : Nat → Option Nat} {mt : List Nat} {d : Nat} {P P' : Nat → Nat → Nat → Prop}
theorem MI.shrink (h : MI N st tg c fr mt d P) (hp : ∀ s a b, s ∈ mt → P s a b → P' s a b ∨ ∀ t, tg s a b = some t → ∃ k m, fr s = some k ∧ fr t = some m ∧ m ≤ k + c a b) : MI N st tg c fr mt d P' := by
  obtain ⟨h1, h2, h3, h4, h5, h6, h7, h8, h9⟩ := h
  refine ⟨h1, h2, h3, h4, h5, h6, fun s hs a b t ht hn => ?_, h8, h9⟩
  by_cases q : P s a b
  · rcases hp s a b hs q with w | w
    · exact absurd w hn
    · exact w t ht
  · exact h7 s hs a b t ht q
theorem MI.begin (hst : st < N) : MI N st tg c (va_up (fun _ => none) st (some 0)) [] 0 (fun _ _ _ => False) := by
  have key : ∀ x m, va_up (fun _ => (none : Option Nat)) st (some 0) x = some m → x = st ∧ m = 0 := by
    intro x m h
    by_cases e : x = st
    · subst e; rw [va_up_same] at h; cases h; exact ⟨rfl, rfl⟩
    · rw [va_up_other _ _ e] at h; cases h
  refine ⟨⟨List.nodup_nil, fun x hx => by cases hx⟩, fun x hx => ?_, fun x hx => (by cases hx), fun x m _ hm => ?_, List.Pairwise.nil, fun x m hm => Or.inl (key x m hm), fun s hs => (by cases hs), fun x m hm => by rw [(key x m hm).2]; exact Nat.zero_le _, va_up_same _ _ _⟩
  · by_cases e : x = st
    · rw [e]; exact hst
    · exact absurd (va_up_other _ _ e) hx
  · rw [(key x m hm).2]; exact ⟨Nat.le_refl 0, by omega⟩
theorem MI.advance (h : MI N st tg c fr mt d P) (hn : ∀ x, x ∉ mt → fr x ≠ some d) : MI N st tg c fr mt (d + 1) P := by
  obtain ⟨h1, h2, h3, h4, h5, h6, h7, h8, h9⟩ := h
  refine ⟨h1, h2, fun x hx => ?_, fun x m hx hm => ?_, h5, h6, h7, h8, h9⟩
  · obtain ⟨m, e, hm⟩ := h3 x hx
    exact ⟨m, e, by omega⟩
  · have q := h4 x m hx hm
    have : m ≠ d := fun e => hn x hx (by rw [hm, e])
    omega
theorem MI.pop (h : MI N st tg c fr mt d (fun _ _ _ => False)) {s : Nat} (hs : s ∉ mt) (hf : fr s = some d) : MI N st tg c fr (mt ++ [s]) d (fun x _ _ => x = s) := by
  obtain ⟨h1, h2, h3, h4, h5, h6, h7, h8, h9⟩ := h
  have hm : ∀ x, x ∈ mt ++ [s] ↔ x ∈ mt ∨ x = s := fun x => by simp
  refine ⟨⟨?_, fun x hx => ?_⟩, h2, fun x hx => ?_, fun x m hx hfx => ?_, ?_, fun x m hfx => ?_, fun x hx a b t ht hn => ?_, fun x m hfx => ?_, h9⟩
  · rw [List.nodup_append]
    refine ⟨h1.1, List.nodup_cons.mpr ⟨List.not_mem_nil, List.nodup_nil⟩, fun x hx y hy => ?_⟩
    have : y = s := by simpa using hy
    subst this
    exact fun e => hs (by rw [← e]; exact hx)
  · rcases (hm x).mp hx with q | q
    · exact h1.2 x q
    · rw [q]; exact h2 s (by rw [hf]; simp)
  · rcases (hm x).mp hx with q | q
    · exact h3 x q
    · rw [q]; exact ⟨d, hf, Nat.le_refl d⟩
  · exact h4 x m (fun q => hx ((hm x).mpr (Or.inl q))) hfx
  · rw [List.pairwise_append]
    refine ⟨h5, List.pairwise_singleton _ _, fun x hx y hy m k e1 e2 => ?_⟩
    have : y = s := by simpa using hy
    subst this
    obtain ⟨m', e', hm'⟩ := h3 x hx
    rw [e1] at e'
    rw [hf] at e2
    cases e'
    cases e2
    exact hm'
  · rcases h6 x m hfx with q | ⟨s', a, b, k, q1, q2⟩
    · exact Or.inl q
    · exact Or.inr ⟨s', a, b, k, (hm s').mpr (Or.inl q1), q2⟩
  · rcases (hm x).mp hx with q | q
    · exact h7 x q a b t ht (fun w => w)
    · exact absurd q hn
  · have := h8 x m hfx
    rw [List.length_append, List.length_singleton]
    omega
theorem MI.label (h : MI N st tg c fr mt d P) {s a b t : Nat} (hs : s ∈ mt) (hf : fr s = some d) (ht : tg s a b = some t) (htn : t ∉ mt) (htN : t < N) (hc : c a b ≤ 100) (hb : d + c a b ≤ 100 * mt.length) (ho : ∀ m, fr t = some m → d + c a b < m) (hp : ∀ s' a' b', P s' a' b' → P' s' a' b' ∨ (s' = s ∧ a' = a ∧ b' = b)) : MI N st tg c (va_up fr t (some (d + c a b))) mt d P' := by
  obtain ⟨h1, h2, h3, h4, h5, h6, h7, h8, h9⟩ := h
  have old : ∀ x, x ≠ t → va_up fr t (some (d + c a b)) x = fr x := fun x hx => va_up_other _ _ hx
  have inn : ∀ x, x ∈ mt → va_up fr t (some (d + c a b)) x = fr x := fun x hx => old x (fun e => htn (by rw [← e]; exact hx))
  have hts : t ≠ st := fun e => absurd (ho 0 (by rw [e]; exact h9)) (Nat.not_lt_zero _)
  refine ⟨h1, fun x hx => ?_, fun x hx => ?_, fun x m hx hfx => ?_, ?_, fun x m hfx => ?_, fun x hx a' b' t' ht' hn => ?_, fun x m hfx => ?_, ?_⟩
  · by_cases e : x = t
    · rw [e]; exact htN
    · rw [old x e] at hx; exact h2 x hx
  · rw [inn x hx]; exact h3 x hx
  · by_cases e : x = t
    · subst e; rw [va_up_same] at hfx; cases hfx; exact ⟨by omega, by omega⟩
    · rw [old x e] at hfx; exact h4 x m hx hfx
  · refine List.Pairwise.imp_of_mem (fun {x y} hx hy q m k e1 e2 => ?_) h5
    rw [inn x hx] at e1
    rw [inn y hy] at e2
    exact q m k e1 e2
  · by_cases e : x = t
    · subst e; rw [va_up_same] at hfx; cases hfx
      exact Or.inr ⟨s, a, b, d, hs, ht, by rw [inn s hs]; exact hf, rfl⟩
    · rw [old x e] at hfx
      rcases h6 x m hfx with q | ⟨s', a', b', k, q1, q2, q3, q4⟩
      · exact Or.inl q
      · exact Or.inr ⟨s', a', b', k, q1, q2, by rw [inn s' q1]; exact q3, q4⟩
  · rw [inn x hx]
    by_cases q : P x a' b'
    · rcases hp x a' b' q with w | ⟨w1, w2, w3⟩
      · exact absurd w hn
      · subst w1; subst w2; subst w3
        rw [ht] at ht'
        cases ht'
        exact ⟨d, d + c a' b', hf, va_up_same _ _ _, Nat.le_refl _⟩
    · obtain ⟨k, m, e1, e2, e3⟩ := h7 x hx a' b' t' ht' q
      by_cases e : t' = t
      · subst e
        exact ⟨k, d + c a b, e1, va_up_same _ _ _, by have := ho m e2; omega⟩
      · exact ⟨k, m, e1, by rw [old t' e]; exact e2, e3⟩
  · by_cases e : x = t
    · subst e; rw [va_up_same] at hfx; cases hfx; exact hb
    · rw [old x e] at hfx; exact h8 x m hfx
  · rw [old st (Ne.symm hts)]; exact h9
end MIS
-- how many of the first stands are of a kind
def cntP (p : Nat → Bool) : Nat → Nat
  | 0 => 0
  | k + 1 => cntP p k + (if p k then 1 else 0)
theorem cntP_le (p : Nat → Bool) : ∀ k, cntP p k ≤ k := by
  intro k
  induction k with
  | zero => exact Nat.le_refl 0
  | succ k ih => unfold cntP; split <;> omega
theorem cntP_congr {p q : Nat → Bool} : ∀ k, (∀ x, x < k → p x = q x) → cntP p k = cntP q k := by
  intro k
  induction k with
  | zero => intro _; rfl
  | succ k ih => intro h; unfold cntP; rw [ih (fun x hx => h x (by omega)), h k (by omega)]
theorem cntP_up {p q : Nat → Bool} {x : Nat} (hp : p x = false) (hq : q x = true) (h : ∀ y, y ≠ x → q y = p y) : ∀ k, x < k → cntP q k = cntP p k + 1 := by
  intro k
  induction k with
  | zero => intro hx; exact absurd hx (Nat.not_lt_zero _)
  | succ k ih =>
    intro hx
    unfold cntP
    by_cases e : x = k
    · subst e
      rw [hp, hq, cntP_congr x (fun y hy => h y (by omega))]
      simp
    · rw [ih (by omega), h k (fun q => e q.symm)]
      omega
theorem cntP_pos {p : Nat → Bool} : ∀ k, cntP p k ≠ 0 → ∃ x, x < k ∧ p x = true := by
  intro k
  induction k with
  | zero => intro h; exact absurd rfl h
  | succ k ih =>
    intro h
    cases e : p k with
    | true => exact ⟨k, by omega, e⟩
    | false =>
      unfold cntP at h
      rw [e] at h
      obtain ⟨x, hx, hp⟩ := ih (by simpa using h)
      exact ⟨x, by omega, hp⟩
theorem cntP_zero {p : Nat → Bool} : ∀ k, cntP p k = 0 → ∀ x, x < k → p x = false := by
  intro k
  induction k with
  | zero => intro _ x hx; exact absurd hx (Nat.not_lt_zero _)
  | succ k ih =>
    intro h x hx
    unfold cntP at h
    cases e : p k with
    | true => rw [e] at h; simp at h
    | false =>
      rw [e] at h
      by_cases q : x = k
      · rw [q]; exact e
      · exact ih (by simpa using h) x (by omega)
/-- a list without repeats below N is no longer than N -/
theorem nodup_len : ∀ (N : Nat) (l : List Nat), l.Nodup → (∀ x, x ∈ l → x < N) → l.length ≤ N := by
  intro N
  induction N with
  | zero =>
    intro l _ h
    cases l with
    | nil => exact Nat.le_refl 0
    | cons x xs => exact absurd (h x List.mem_cons_self) (Nat.not_lt_zero _)
  | succ N ih =>
    intro l hn h
    have h1 := ih (l.erase N) (hn.erase N) (fun x hx => by
      have a := h x (List.mem_of_mem_erase hx)
      have b : x ≠ N := fun e => by
        rw [e] at hx
        exact absurd hx (by rw [List.Nodup.mem_erase_iff hn]; exact fun q => q.1 rfl)
      omega)
    have h2 : l.length ≤ (l.erase N).length + 1 := by
      rw [List.length_erase]
      split <;> omega
    omega
