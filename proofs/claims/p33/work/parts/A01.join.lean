section
-- cheapest rows, seen as numbers alone: labels fr, the settled stands mt in their order, the cost d that is looked at, pairs P that wait
def MI (N st : Nat) (tg : Nat → Nat → Nat → Option Nat) (c : Nat → Nat → Nat) (fr : Nat → Option Nat) (mt : List Nat) (d : Nat) (P : Nat → Nat → Nat → Prop) : Prop :=
  (mt.Nodup ∧ ∀ x, x ∈ mt → x < N) ∧ (∀ x, fr x ≠ none → x < N) ∧ (∀ x, x ∈ mt → ∃ m, fr x = some m ∧ m ≤ d) ∧ (∀ x m, x ∉ mt → fr x = some m → d ≤ m ∧ m ≤ d + 100) ∧
  (mt.Pairwise fun x y => ∀ m k, fr x = some m → fr y = some k → m ≤ k) ∧
  (∀ x m, fr x = some m → (x = st ∧ m = 0) ∨ ∃ s a b k, s ∈ mt ∧ tg s a b = some x ∧ fr s = some k ∧ m = k + c a b) ∧
  (∀ s, s ∈ mt → ∀ a b t, tg s a b = some t → ¬ P s a b → ∃ k m, fr s = some k ∧ fr t = some m ∧ m ≤ k + c a b) ∧
  (∀ x m, fr x = some m → m ≤ 100 * mt.length) ∧ fr st = some 0
section MIS
variable {N st : Nat} {tg : Nat → Nat → Nat → Option Nat} {c : Nat → Nat → Nat} {fr : Nat → Option Nat} {mt : List Nat} {d : Nat} {P P' : Nat → Nat → Nat → Prop}
theorem MI.shrink (h : MI N st tg c fr mt d P) (hp : ∀ s a b, s ∈ mt → P s a b → P' s a b ∨ ∀ t, tg s a b = some t → ∃ k m, fr s = some k ∧ fr t = some m ∧ m ≤ k + c a b) : MI N st tg c fr mt d P' := by
  obtain ⟨h1, h2, h3, h4, h5, h6, h7, h8, h9⟩ := h
  refine ⟨h1, h2, h3, h4, h5, h6, fun s hs a b t ht hn => ?_, h8, h9⟩
  by_cases q : P s a b
  · rcases hp s a b hs q with w | w
    · exact absurd w hn
    · exact w t ht
  · exact h7 s hs a b t ht q
theorem MI.begin (hst : st < N) : MI N st tg c (va_up (fun _ => none) st (some 0)) [] 0 (fun _ _ _ => False) := by
  have key : ∀ x m, va_up (fun _ => (none : Option Nat)) st (some 0) x = some m → x = st ∧ m = 0 := by
    intro x m h
    by_cases e : x = st
    · subst e; rw [va_up_same] at h; cases h; exact ⟨rfl, rfl⟩
    · rw [va_up_other _ _ e] at h; cases h
  refine ⟨⟨List.nodup_nil, fun x hx => by cases hx⟩, fun x hx => ?_, fun x hx => (by cases hx), fun x m _ hm => ?_, List.Pairwise.nil, fun x m hm => Or.inl (key x m hm), fun s hs => (by cases hs), fun x m hm => by rw [(key x m hm).2]; exact Nat.zero_le _, va_up_same _ _ _⟩
  · by_cases e : x = st
    · rw [e]; exact hst
    · exact absurd (va_up_other _ _ e) hx
  · rw [(key x m hm).2]; exact ⟨Nat.le_refl 0, by omega⟩
theorem MI.advance (h : MI N st tg c fr mt d P) (hn : ∀ x, x ∉ mt → fr x ≠ some d) : MI N st tg c fr mt (d + 1) P := by
  obtain ⟨h1, h2, h3, h4, h5, h6, h7, h8, h9⟩ := h
  refine ⟨h1, h2, fun x hx => ?_, fun x m hx hm => ?_, h5, h6, h7, h8, h9⟩
  · obtain ⟨m, e, hm⟩ := h3 x hx
    exact ⟨m, e, by omega⟩
  · have q := h4 x m hx hm
    have : m ≠ d := fun e => hn x hx (by rw [hm, e])
    omega
theorem MI.pop (h : MI N st tg c fr mt d (fun _ _ _ => False)) {s : Nat} (hs : s ∉ mt) (hf : fr s = some d) : MI N st tg c fr (mt ++ [s]) d (fun x _ _ => x = s) := by
  obtain ⟨h1, h2, h3, h4, h5, h6, h7, h8, h9⟩ := h
  have hm : ∀ x, x ∈ mt ++ [s] ↔ x ∈ mt ∨ x = s := fun x => by simp
  refine ⟨⟨?_, fun x hx => ?_⟩, h2, fun x hx => ?_, fun x m hx hfx => ?_, ?_, fun x m hfx => ?_, fun x hx a b t ht hn => ?_, fun x m hfx => ?_, h9⟩
  · rw [List.nodup_append]
    refine ⟨h1.1, List.nodup_cons.mpr ⟨List.not_mem_nil, List.nodup_nil⟩, fun x hx y hy => ?_⟩
    have : y = s := by simpa using hy
    subst this
    exact fun e => hs (by rw [← e]; exact hx)
  · rcases (hm x).mp hx with q | q
    · exact h1.2 x q
    · rw [q]; exact h2 s (by rw [hf]; simp)
  · rcases (hm x).mp hx with q | q
    · exact h3 x q
    · rw [q]; exact ⟨d, hf, Nat.le_refl d⟩
  · exact h4 x m (fun q => hx ((hm x).mpr (Or.inl q))) hfx
  · rw [List.pairwise_append]
    refine ⟨h5, List.pairwise_singleton _ _, fun x hx y hy m k e1 e2 => ?_⟩
    have : y = s := by simpa using hy
    subst this
    obtain ⟨m', e', hm'⟩ := h3 x hx
    rw [e1] at e'
    rw [hf] at e2
    cases e'
    cases e2
    exact hm'
  · rcases h6 x m hfx with q | ⟨s', a, b, k, q1, q2⟩
    · exact Or.inl q
    · exact Or.inr ⟨s', a, b, k, (hm s').mpr (Or.inl q1), q2⟩
  · rcases (hm x).mp hx with q | q
    · exact h7 x q a b t ht (fun w => w)
    · exact absurd q hn
  · have := h8 x m hfx
    rw [List.length_append, List.length_singleton]
    omega
theorem MI.label (h : MI N st tg c fr mt d P) {s a b t : Nat} (hs : s ∈ mt) (hf : fr s = some d) (ht : tg s a b = some t) (htn : t ∉ mt) (htN : t < N) (hc : c a b ≤ 100) (hb : d + c a b ≤ 100 * mt.length) (ho : ∀ m, fr t = some m → d + c a b < m) (hp : ∀ s' a' b', P s' a' b' → P' s' a' b' ∨ (s' = s ∧ a' = a ∧ b' = b)) : MI N st tg c (va_up fr t (some (d + c a b))) mt d P' := by
  obtain ⟨h1, h2, h3, h4, h5, h6, h7, h8, h9⟩ := h
  have old : ∀ x, x ≠ t → va_up fr t (some (d + c a b)) x = fr x := fun x hx => va_up_other _ _ hx
  have inn : ∀ x, x ∈ mt → va_up fr t (some (d + c a b)) x = fr x := fun x hx => old x (fun e => htn (by rw [← e]; exact hx))
  have hts : t ≠ st := fun e => absurd (ho 0 (by rw [e]; exact h9)) (Nat.not_lt_zero _)
  refine ⟨h1, fun x hx => ?_, fun x hx => ?_, fun x m hx hfx => ?_, ?_, fun x m hfx => ?_, fun x hx a' b' t' ht' hn => ?_, fun x m hfx => ?_, ?_⟩
  · by_cases e : x = t
    · rw [e]; exact htN
    · rw [old x e] at hx; exact h2 x hx
  · rw [inn x hx]; exact h3 x hx
  · by_cases e : x = t
    · subst e; rw [va_up_same] at hfx; cases hfx; exact ⟨by omega, by omega⟩
    · rw [old x e] at hfx; exact h4 x m hx hfx
  · refine List.Pairwise.imp_of_mem (fun {x y} hx hy q m k e1 e2 => ?_) h5
    rw [inn x hx] at e1
    rw [inn y hy] at e2
    exact q m k e1 e2
  · by_cases e : x = t
    · subst e; rw [va_up_same] at hfx; cases hfx
      exact Or.inr ⟨s, a, b, d, hs, ht, by rw [inn s hs]; exact hf, rfl⟩
    · rw [old x e] at hfx
      rcases h6 x m hfx with q | ⟨s', a', b', k, q1, q2, q3, q4⟩
      · exact Or.inl q
      · exact Or.inr ⟨s', a', b', k, q1, q2, by rw [inn s' q1]; exact q3, q4⟩
  · rw [inn x hx]
    by_cases q : P x a' b'
    · rcases hp x a' b' q with w | ⟨w1, w2, w3⟩
      · exact absurd w hn
      · subst w1; subst w2; subst w3
        rw [ht] at ht'
        cases ht'
        exact ⟨d, d + c a' b', hf, va_up_same _ _ _, Nat.le_refl _⟩
    · obtain ⟨k, m, e1, e2, e3⟩ := h7 x hx a' b' t' ht' q
      by_cases e : t' = t
      · subst e
        exact ⟨k, d + c a b, e1, va_up_same _ _ _, by have := ho m e2; omega⟩
      · exact ⟨k, m, e1, by rw [old t' e]; exact e2, e3⟩
  · by_cases e : x = t
    · subst e; rw [va_up_same] at hfx; cases hfx; exact hb
    · rw [old x e] at hfx; exact h8 x m hfx
  · rw [old st (Ne.symm hts)]; exact h9
end MIS
-- how many of the first stands are of a kind
def cntP (p : Nat → Bool) : Nat → Nat
  | 0 => 0
  | k + 1 => cntP p k + (if p k then 1 else 0)
theorem cntP_le (p : Nat → Bool) : ∀ k, cntP p k ≤ k := by
  intro k
  induction k with
  | zero => exact Nat.le_refl 0
  | succ k ih => unfold cntP; split <;> omega
theorem cntP_congr {p q : Nat → Bool} : ∀ k, (∀ x, x < k → p x = q x) → cntP p k = cntP q k := by
  intro k
  induction k with
  | zero => intro _; rfl
  | succ k ih => intro h; unfold cntP; rw [ih (fun x hx => h x (by omega)), h k (by omega)]
theorem cntP_up {p q : Nat → Bool} {x : Nat} (hp : p x = false) (hq : q x = true) (h : ∀ y, y ≠ x → q y = p y) : ∀ k, x < k → cntP q k = cntP p k + 1 := by
  intro k
  induction k with
  | zero => intro hx; exact absurd hx (Nat.not_lt_zero _)
  | succ k ih =>
    intro hx
    unfold cntP
    by_cases e : x = k
    · subst e
      rw [hp, hq, cntP_congr x (fun y hy => h y (by omega))]
      simp
    · rw [ih (by omega), h k (fun q => e q.symm)]
      omega
theorem cntP_pos {p : Nat → Bool} : ∀ k, cntP p k ≠ 0 → ∃ x, x < k ∧ p x = true := by
  intro k
  induction k with
  | zero => intro h; exact absurd rfl h
  | succ k ih =>
    intro h
    cases e : p k with
    | true => exact ⟨k, by omega, e⟩
    | false =>
      unfold cntP at h
      rw [e] at h
      obtain ⟨x, hx, hp⟩ := ih (by simpa using h)
      exact ⟨x, by omega, hp⟩
theorem cntP_zero {p : Nat → Bool} : ∀ k, cntP p k = 0 → ∀ x, x < k → p x = false := by
  intro k
  induction k with
  | zero => intro _ x hx; exact absurd hx (Nat.not_lt_zero _)
  | succ k ih =>
    intro h x hx
    unfold cntP at h
    cases e : p k with
    | true => rw [e] at h; simp at h
    | false =>
      rw [e] at h
      by_cases q : x = k
      · rw [q]; exact e
      · exact ih (by simpa using h) x (by omega)
/-- a list without repeats below N is no longer than N -/
theorem nodup_len : ∀ (N : Nat) (l : List Nat), l.Nodup → (∀ x, x ∈ l → x < N) → l.length ≤ N := by
  intro N
  induction N with
  | zero =>
    intro l _ h
    cases l with
    | nil => exact Nat.le_refl 0
    | cons x xs => exact absurd (h x List.mem_cons_self) (Nat.not_lt_zero _)
  | succ N ih =>
    intro l hn h
    have h1 := ih (l.erase N) (hn.erase N) (fun x hx => by
      have a := h x (List.mem_of_mem_erase hx)
      have b : x ≠ N := fun e => by
        rw [e] at hx
        exact absurd hx (by rw [List.Nodup.mem_erase_iff hn]; exact fun q => q.1 rfl)
      omega)
    have h2 : l.length ≤ (l.erase N).length + 1 := by
      rw [List.length_erase]
      split <;> omega
    omega
end
section
-- the graph of stands by their numbers
def dgs (P s : Nat) : Nat → Nat := fun j => s / P ^ j % P
def tgN (n P : Nat) (kd ct sg : Nat → Nat) (s a b : Nat) : Option Nat := if a < P ∧ b < P ∧ a ≠ b ∧ whyN n kd ct sg (dgs P s) a b = 0 then some (packN (movN n kd (dgs P s) a b) P n 0) else none
theorem dgs_lt {P : Nat} (hP : 0 < P) (s j : Nat) : dgs P s j < P := Nat.mod_lt _ hP
theorem whyN_congr {n : Nat} {kd ct sg σ τ : Nat → Nat} {a b : Nat} (h : ∀ j, j < n → σ j = τ j) : whyN n kd ct sg σ a b = whyN n kd ct sg τ a b := by
  unfold whyN
  rw [topN_congr (p := a) h, topN_congr (p := b) h]
  by_cases e : topN τ a n = n
  · rw [if_pos e, if_pos e]
  · have hl : topN τ a n < n := by have := topN_le τ a n; omega
    rw [pkE_congr h hl]
theorem movN_congr {n : Nat} {kd σ τ : Nat → Nat} {a b j : Nat} (h : ∀ j, j < n → σ j = τ j) (ht : topN σ a n < n) (hj : j < n) : movN n kd σ a b j = movN n kd τ a b j := by
  unfold movN
  rw [← topN_congr (p := a) h, pkE_congr h ht, h j hj]
theorem packN_lt {σ : Nat → Nat} {P : Nat} : ∀ d acc B, acc < B → (∀ j, j < d → σ j < P) → packN σ P d acc < B * P ^ d := by
  intro d
  induction d with
  | zero => intro acc B h _; simpa [packN] using h
  | succ d ih =>
    intro acc B h hσ
    unfold packN
    have h1 := ih (acc * P + σ d) (B * P) (by
      have q := hσ d (by omega)
      calc acc * P + σ d < acc * P + P := by omega
        _ = (acc + 1) * P := by rw [Nat.add_mul, Nat.one_mul]
        _ ≤ B * P := Nat.mul_le_mul_right P h) (fun j hj => hσ j (by omega))
    rw [Nat.pow_succ, Nat.mul_comm (P ^ d) P, ← Nat.mul_assoc]
    exact h1
theorem tgN_lt {n P : Nat} {kd ct sg : Nat → Nat} {s a b t : Nat} (hP : 0 < P) (h : tgN n P kd ct sg s a b = some t) : t < P ^ n := by
  unfold tgN at h
  split at h
  · next q =>
    cases h
    have h1 := packN_lt (σ := movN n kd (dgs P s) a b) (P := P) n 0 1 (by decide) (fun j _ => by
      unfold movN
      split
      · exact q.2.1
      · exact dgs_lt hP s j)
    rwa [Nat.one_mul] at h1
  · cases h
theorem s_lead (l : Launch) (S : MS) (s a b : Nat) (post : Int32 → MS → Prop) {n P : Nat} {kd ct sg σ τ : Nat → Nat} (hy : MY S n P kd ct sg) (hσ : MA S 8 σ) (hs : ∀ j, j < n → σ j = dgs P s j) (hτ : MA S 9 τ) (ha : a < P) (hb : b < P)
    (h0 : tgN n P kd ct sg s a b = none → post (-1) S) (h1 : ∀ t, tgN n P kd ct sg s a b = some t → ∀ (g : Nat → Int32) (ρ : Nat → Nat), (∀ j, j < 7 → g j = nI (ρ j) ∧ ρ j < 5) → post (nI t) (ma S 9 g)) : mX_leads l S (nI a) (nI b) post := by
  have hP5 := hy.2.2.1.2
  refine s_leads l S a b post hy hσ hτ (by omega) (by omega) (fun q => ?_) (fun q g ρ hg => ?_)
  · refine h0 ?_
    unfold tgN
    rw [if_neg]
    rintro ⟨-, -, w1, w2⟩
    rcases q with q | q
    · exact w1 q
    · exact q (by rw [whyN_congr hs]; exact w2)
  · have w1 : a ≠ b := fun e => q (Or.inl e)
    have w0 : whyN n kd ct sg σ a b = 0 := by
      by_cases e : whyN n kd ct sg σ a b = 0
      · exact e
      · exact absurd (Or.inr e) q
    have w2 : whyN n kd ct sg (dgs P s) a b = 0 := by rw [← whyN_congr hs]; exact w0
    have e : packN (movN n kd σ a b) P n 0 = packN (movN n kd (dgs P s) a b) P n 0 := packN_congr n 0 (fun j hj => movN_congr hs (whyN_top w0) hj)
    rw [e]
    refine h1 _ ?_ g ρ hg
    unfold tgN
    rw [if_pos ⟨ha, hb, w1, w2⟩]
/-- a move's cost -/
theorem tgN_cost {n P : Nat} {kd ct sg : Nat → Nat} {s a b t : Nat} (h : tgN n P kd ct sg s a b = some t) : ct (5 * a + b) ≠ 0 := by
  unfold tgN at h
  split at h
  · next q =>
    intro e
    have w := q.2.2.2
    unfold whyN at w
    rw [if_pos e] at w
    exact absurd w (by decide)
  · cases h
end
section
-- the reference's search rows against the numbers
def farV (o : Option Nat) : Int32 := match o with
  | none => 2147483647
  | some m => nI m
/-- but for the stand e the rows hold the labels, the settled ones and the buckets -/
def MRx (N : Nat) (S : MS) (fr : Nat → Option Nat) (mt : List Nat) (L : Nat → List Nat) (e : Nat → Prop) : Prop :=
  (∀ x, x < N → ¬ e x → S.2.1 10 x = farV (fr x)) ∧ (∀ x, x < N → S.2.1 17 x = if x ∈ mt then 1 else 0) ∧ S.1 7 = nI mt.length ∧ (∀ k x, mt[k]? = some x → S.2.1 14 k = nI x) ∧
  BK N (S.2.1 13) (S.2.1 11) (S.2.1 12) L ∧ (∀ b x, b < 101 → (x ∈ L b ↔ ¬ e x ∧ x ∉ mt ∧ ∃ m, fr x = some m ∧ m % 101 = b))
abbrev MR (N : Nat) (S : MS) (fr : Nat → Option Nat) (mt : List Nat) (L : Nat → List Nat) : Prop := MRx N S fr mt L (fun _ => False)
/-- what the search leaves as it was -/
def MFr (S T : MS) : Prop := (∀ k, k ≠ 7 → T.1 k = S.1 k) ∧ (∀ k, k < 8 ∨ k = 15 ∨ k = 16 ∨ 17 < k → T.2.1 k = S.2.1 k) ∧ T.2.2 = S.2.2 ∧ (∃ τ, MA T 8 τ) ∧ (∃ τ, MA T 9 τ)
theorem MFr.my {S T : MS} {n P : Nat} {kd ct sg : Nat → Nat} (h : MFr S T) (hy : MY S n P kd ct sg) : MY T n P kd ct sg := by
  obtain ⟨h1, h2, h3, h4, h5, h6, h7⟩ := hy
  refine ⟨by rw [h.1 0 (by decide)]; exact h1, by rw [h.1 1 (by decide)]; exact h2, h3, h4, ?_, ?_, ?_⟩
  · rw [h.2.1 1 (Or.inl (by decide))]; exact h5
  · rw [h.2.1 4 (Or.inl (by decide))]; exact h6
  · rw [h.2.1 5 (Or.inl (by decide))]; exact h7
theorem MFr.ma8 {S T : MS} (h : MFr S T) {f : Nat → Int32} (hf : ∃ τ : Nat → Nat, ∀ j, j < 7 → f j = nI (τ j) ∧ τ j < 5) : MFr S (ma T 8 f) := by
  obtain ⟨h1, h2, h3, -, ⟨ρ, h5⟩⟩ := h
  obtain ⟨τ, hf⟩ := hf
  refine ⟨h1, fun j hj => ?_, h3, ⟨τ, fun j hj => ?_⟩, ⟨ρ, fun j hj => ?_⟩⟩
  · rw [ma_get_ne _ _ (by omega)]; exact h2 j hj
  · rw [ma_get]; exact hf j hj
  · rw [ma_get_ne _ _ (by omega)]; exact h5 j hj
theorem MFr.ma9 {S T : MS} (h : MFr S T) {f : Nat → Int32} (hf : ∃ τ : Nat → Nat, ∀ j, j < 7 → f j = nI (τ j) ∧ τ j < 5) : MFr S (ma T 9 f) := by
  obtain ⟨h1, h2, h3, ⟨ρ, h5⟩, -⟩ := h
  obtain ⟨τ, hf⟩ := hf
  refine ⟨h1, fun j hj => ?_, h3, ⟨ρ, fun j hj => ?_⟩, ⟨τ, fun j hj => ?_⟩⟩
  · rw [ma_get_ne _ _ (by omega)]; exact h2 j hj
  · rw [ma_get_ne _ _ (by omega)]; exact h5 j hj
  · rw [ma_get]; exact hf j hj
theorem MFr.mf {S T : MS} (h : MFr S T) (v : Int32) : MFr S (mf T 7 v) := ⟨fun k hk => by rw [mf_get_ne _ _ hk]; exact h.1 k hk, h.2.1, h.2.2.1, h.2.2.2⟩
theorem MFr.ma {S T : MS} (h : MFr S T) {k : Nat} (f : Nat → Int32) (hk : (9 < k ∧ k < 15) ∨ k = 17) : MFr S (ma T k f) := by
  obtain ⟨h1, h2, h3, ⟨τ, h4⟩, ⟨ρ, h5⟩⟩ := h
  refine ⟨h1, fun j hj => ?_, h3, ⟨τ, fun j hj => ?_⟩, ⟨ρ, fun j hj => ?_⟩⟩
  · rw [ma_get_ne _ _ (by omega)]; exact h2 j hj
  · rw [ma_get_ne _ _ (by omega)]; exact h4 j hj
  · rw [ma_get_ne _ _ (by omega)]; exact h5 j hj
theorem MRx.ma {N : Nat} {S : MS} {fr : Nat → Option Nat} {mt : List Nat} {L : Nat → List Nat} {e : Nat → Prop} (h : MRx N S fr mt L e) {k : Nat} (f : Nat → Int32) (hk : k = 8 ∨ k = 9) : MRx N (ma S k f) fr mt L e := by
  obtain ⟨h1, h2, h3, h4, h5, h6⟩ := h
  refine ⟨?_, ?_, h3, ?_, ?_, h6⟩
  · rw [ma_get_ne _ _ (by omega)]; exact h1
  · rw [ma_get_ne _ _ (by omega)]; exact h2
  · rw [ma_get_ne _ _ (by omega)]; exact h4
  · rw [ma_get_ne _ _ (by omega), ma_get_ne _ _ (by omega), ma_get_ne _ _ (by omega)]; exact h5
theorem MRx.more {N : Nat} {S : MS} {fr : Nat → Option Nat} {mt : List Nat} {L : Nat → List Nat} (h : MR N S fr mt L) {t : Nat} (ht : fr t = none) : MRx N S fr mt L (fun x => x = t) := by
  obtain ⟨h1, h2, h3, h4, h5, h6⟩ := h
  refine ⟨fun x hx _ => h1 x hx (fun q => q), h2, h3, h4, h5, fun b x hb => ?_⟩
  rw [h6 b x hb]
  refine ⟨fun q => ⟨fun e => ?_, q.2⟩, fun q => ⟨fun w => w, q.2⟩⟩
  obtain ⟨m, hm, -⟩ := q.2.2
  rw [e, ht] at hm
  cases hm
theorem dl_aft {aft bef : Nat → Int32} {t : Nat} : ∀ (xs : List Nat) (prev cur : Int32), dl aft bef prev xs cur → t ∈ xs → aft t = -1 ∨ ∃ y, y ∈ xs ∧ aft t = nI y := by
  intro xs
  induction xs with
  | nil => intro _ _ _ h; cases h
  | cons x xs ih =>
    intro prev cur h ht
    obtain ⟨-, -, h3⟩ := h
    rcases List.mem_cons.mp ht with e | e
    · subst e
      cases xs with
      | nil => exact Or.inl h3
      | cons z zs => exact Or.inr ⟨z, List.mem_cons_of_mem _ List.mem_cons_self, h3.1⟩
    · rcases ih _ _ h3 e with q | ⟨y, hy, q⟩
      · exact Or.inl q
      · exact Or.inr ⟨y, List.mem_cons_of_mem _ hy, q⟩
/-- taking a waiting stand out of its bucket -/
theorem MRx.out {N : Nat} {S : MS} {fr : Nat → Option Nat} {mt : List Nat} {L : Nat → List Nat} (h : MR N S fr mt L) (hN : N ≤ 20000) {t m : Nat} (ht : t ∉ mt) (hf : fr t = some m) (hm : m < 2 ^ 31) (l : Launch) (post : MS → Prop)
    (hp : ∀ (T : MS) (L' : Nat → List Nat), T.1 = S.1 → T.2.2 = S.2.2 → (∀ k, k ≠ 11 → k ≠ 12 → k ≠ 13 → T.2.1 k = S.2.1 k) → MRx N T fr mt L' (fun x => x = t) → post T) : mX_unlink l S (nI t) post := by
  obtain ⟨h1, h2, h3, h4, h5, h6⟩ := h
  have hb : m % 101 < 101 := Nat.mod_lt _ (by decide)
  have hin : t ∈ L (m % 101) := (h6 _ t hb).mpr ⟨fun q => q, ht, m, hf, rfl⟩
  have htN : t < N := h5.2.2.2 _ t hb hin
  have hun := h5.unlink (by omega) hb hin
  have haft : S.2.1 11 t = -1 ∨ ∃ y, y < 20000 ∧ S.2.1 11 t = nI y := by
    rcases dl_aft _ _ _ (h5.1 _ hb) hin with q | ⟨y, hy, q⟩
    · exact Or.inl q
    · exact Or.inr ⟨y, by have := h5.2.2.2 _ y hb hy; omega, q⟩
  have hbef : S.2.1 12 t = -1 ∨ ∃ y, y < 20000 ∧ y ≠ t ∧ S.2.1 12 t = nI y := by
    rcases hun with ⟨q, -⟩ | ⟨z, hz, hz2, q, -⟩
    · exact Or.inl q
    · exact Or.inr ⟨z, by have := h5.2.2.2 _ z hb hz; omega, hz2, q⟩
  refine s_unlink l S t m post (by omega) hm (by rw [h1 t htN (fun q => q), hf]; rfl) haft hbef ?_
  have memb : ∀ (c x : Nat), c < 101 → (x ∈ va_up L (m % 101) ((L (m % 101)).erase t) c ↔ ¬ x = t ∧ x ∉ mt ∧ ∃ k, fr x = some k ∧ k % 101 = c) := by
    intro c x hc
    by_cases e : c = m % 101
    · subst e
      rw [va_up_same, List.Nodup.mem_erase_iff (h5.2.1 _ hb), h6 _ x hb]
      exact ⟨fun q => ⟨q.1, q.2.2⟩, fun q => ⟨q.1, fun w => w, q.2⟩⟩
    · rw [va_up_other _ _ e, h6 c x hc]
      refine ⟨fun q => ⟨fun w => ?_, q.2⟩, fun q => ⟨fun w => w, q.2⟩⟩
      obtain ⟨k, hk, hk2⟩ := q.2.2
      rw [w, hf] at hk
      cases hk
      exact e hk2.symm
  unfold ulS
  rcases hun with ⟨q, -, hbk⟩ | ⟨z, hz, hz2, q, hbk⟩
  · rw [if_pos q]
    refine hp _ (va_up L (m % 101) ((L (m % 101)).erase t)) rfl rfl (fun k k1 k2 k3 => ?_) ⟨?_, ?_, h3, ?_, ?_, memb⟩
    · rw [ma_get_ne _ _ k2, ma_get_ne _ _ k3]
    · intro x hx hxt
      rw [ma_get_ne _ _ (by decide), ma_get_ne _ _ (by decide)]; exact h1 x hx (fun q => q)
    · rw [ma_get_ne _ _ (by decide), ma_get_ne _ _ (by decide)]; exact h2
    · rw [ma_get_ne _ _ (by decide), ma_get_ne _ _ (by decide)]; exact h4
    · rw [ma_get_ne _ _ (show (13 : Nat) ≠ 12 by decide), ma_get, ma_get_ne _ _ (show (11 : Nat) ≠ 12 by decide), ma_get_ne _ _ (show (11 : Nat) ≠ 13 by decide), ma_get]
      exact hbk
  · rw [if_neg (by rw [q]; exact nI_m1 (by have := h5.2.2.2 _ z hb hz; omega))]
    have hzc : (S.2.1 12 t).toNatClampNeg = z := by rw [q]; exact nI_clamp (by have := h5.2.2.2 _ z hb hz; omega)
    rw [hzc]
    refine hp _ (va_up L (m % 101) ((L (m % 101)).erase t)) rfl rfl (fun k k1 k2 k3 => ?_) ⟨?_, ?_, h3, ?_, ?_, memb⟩
    · rw [ma_get_ne _ _ k2, ma_get_ne _ _ k1]
    · intro x hx hxt
      rw [ma_get_ne _ _ (by decide), ma_get_ne _ _ (by decide)]; exact h1 x hx (fun q => q)
    · rw [ma_get_ne _ _ (by decide), ma_get_ne _ _ (by decide)]; exact h2
    · rw [ma_get_ne _ _ (by decide), ma_get_ne _ _ (by decide)]; exact h4
    · rw [ma_get_ne _ _ (show (13 : Nat) ≠ 12 by decide), ma_get_ne _ _ (show (13 : Nat) ≠ 11 by decide), ma_get_ne _ _ (show (11 : Nat) ≠ 12 by decide), ma_get, ma_get]
      exact hbk
/-- putting a stand into the bucket of its new label -/
theorem MRx.inn {N : Nat} {S : MS} {fr : Nat → Option Nat} {mt : List Nat} {L : Nat → List Nat} {t : Nat} (h : MRx N S fr mt L (fun x => x = t)) (hN : N ≤ 20000) {m : Nat} (ht : t ∉ mt) (htN : t < N) (hm : m < 2 ^ 31) (l : Launch) (post : MS → Prop)
    (hp : ∀ (T : MS) (L' : Nat → List Nat), T.1 = S.1 → T.2.2 = S.2.2 → (∀ k, k ≠ 10 → k ≠ 11 → k ≠ 12 → k ≠ 13 → T.2.1 k = S.2.1 k) → MR N T (va_up fr t (some m)) mt L' → post T) : mX_link l S (nI t) (nI m) post := by
  obtain ⟨h1, h2, h3, h4, h5, h6⟩ := h
  have hb : m % 101 < 101 := Nat.mod_lt _ (by decide)
  have hno : ∀ c, c < 101 → t ∉ L c := fun c hc q => ((h6 c t hc).mp q).1 rfl
  have hhd : S.2.1 13 (m % 101) = -1 ∨ ∃ y, y < 20000 ∧ S.2.1 13 (m % 101) = nI y := by
    rcases h5.head hb with ⟨q, -⟩ | ⟨y, ys, -, q, hy⟩
    · exact Or.inl q
    · exact Or.inr ⟨y, by omega, q⟩
  refine s_link l S t m post (by omega) hm hhd ?_
  have hbk := h5.link (by omega) hb htN hno
  refine hp (lkS S t (nI m) (m % 101)) (va_up L (m % 101) (t :: L (m % 101))) rfl rfl (fun k k0 k1 k2 k3 => ?_) ⟨?_, ?_, h3, ?_, ?_, ?_⟩
  · unfold lkS
    rw [ma_get_ne _ _ k3, ma_get_ne _ _ k1, ma_get_ne _ _ k2, ma_get_ne _ _ k0]
  · intro x hx _
    unfold lkS
    rw [ma_get_ne _ _ (by decide), ma_get_ne _ _ (by decide), ma_get_ne _ _ (by decide), ma_get]
    by_cases e : x = t
    · subst e; rw [upd_same, va_up_same]; rfl
    · rw [upd_other _ _ e, va_up_other _ _ e]; exact h1 x hx e
  · unfold lkS
    rw [ma_get_ne _ _ (by decide), ma_get_ne _ _ (by decide), ma_get_ne _ _ (by decide), ma_get_ne _ _ (by decide)]; exact h2
  · unfold lkS
    rw [ma_get_ne _ _ (by decide), ma_get_ne _ _ (by decide), ma_get_ne _ _ (by decide), ma_get_ne _ _ (by decide)]; exact h4
  · unfold lkS
    rw [ma_get, ma_get_ne _ _ (show (11 : Nat) ≠ 13 by decide), ma_get, ma_get_ne _ _ (show (12 : Nat) ≠ 13 by decide), ma_get_ne _ _ (show (12 : Nat) ≠ 11 by decide), ma_get]
    exact hbk
  · intro c x hc
    by_cases e : c = m % 101
    · subst e
      rw [va_up_same, List.mem_cons, h6 _ x hb]
      by_cases ex : x = t
      · subst ex
        rw [va_up_same]
        exact ⟨fun _ => ⟨fun q => q, ht, m, rfl, rfl⟩, fun _ => Or.inl rfl⟩
      · rw [va_up_other _ _ ex]
        exact ⟨fun q => ⟨fun w => w, (q.resolve_left ex).2⟩, fun q => Or.inr ⟨ex, q.2⟩⟩
    · rw [va_up_other _ _ e, h6 c x hc]
      by_cases ex : x = t
      · subst ex
        rw [va_up_same]
        refine ⟨fun q => absurd rfl q.1, fun q => ?_⟩
        obtain ⟨k, hk, hk2⟩ := q.2.2
        cases hk
        exact absurd hk2.symm e
      · rw [va_up_other _ _ ex]
        exact ⟨fun q => ⟨fun w => w, q.2⟩, fun q => ⟨ex, q.2⟩⟩
end
section
-- measure()
theorem nI_plus (a b : Nat) : nI a + nI b = nI (a + b) := nI_add a b
theorem dec3 {N k m M K : Nat} (h1 : k < N) (h : (N - k) * K + (K - m) < M + 1) (hm : m < K) : (N - (k + 1)) * K + (K - m) < M := by
  obtain ⟨j, rfl⟩ : ∃ j, N = k + 1 + j := ⟨N - k - 1, by omega⟩
  rw [show k + 1 + j - k = j + 1 by omega, Nat.succ_mul] at h
  rw [show k + 1 + j - (k + 1) = j by omega]
  omega
theorem mod101 {d : Nat} (h : d < 2 ^ 31) : nI d - nI d / 101 * 101 = nI (d % 101) := by
  rw [show (101 : Int32) = nI 101 from rfl]
  exact pk_rem h (by decide) (by decide)
theorem m7_8' : m7 8 := by unfold m7; decide
theorem s_measure (l : Launch) (S0 : MS) (post : MS → Prop) {n P : Nat} {kd ct sg σ : Nat → Nat} (hy : MY S0 n P kd ct sg) (h2 : MA S0 2 σ) (hσP : ∀ j, j < n → σ j < P) (h8 : ∃ τ, MA S0 8 τ) (h9 : ∃ τ, MA S0 9 τ) (hN : P ^ n ≤ 20000)
    (h : ∀ (T : MS) (fr : Nat → Option Nat) (mt : List Nat) (L : Nat → List Nat) (d : Nat), MFr S0 T → MI (P ^ n) (packN σ P n 0) (tgN n P kd ct sg) (fun a b => ct (5 * a + b)) fr mt d (fun _ _ _ => False) → MR (P ^ n) T fr mt L → (∀ x, fr x ≠ none → x ∈ mt) → post T) : mX_measure l S0 post := by
  have hP2 := hy.2.2.1
  have hn2 := hy.2.2.2.1
  have hst : packN σ P n 0 < P ^ n := by
    have := packN_lt (σ := σ) (P := P) n 0 1 (by decide) hσP
    rwa [Nat.one_mul] at this
  refine m_measure l S0 post ?_
  intro B7 B35 B76 B86 B157 B169 B255 B275 h7 h35 h76 h86 h157 h169 h255 h275
  unfold mT_measure_e
  generalize hst0 : packN σ P n 0 = st at hst h
  generalize hNe : P ^ n = N at hst hN h
  generalize htg : tgN n P kd ct sg = tg at h
  generalize hce : (fun a b => ct (5 * a + b)) = c at h
  have tgl : ∀ s a b t, tg s a b = some t → t < N := fun s a b t q => by rw [← hNe]; rw [← htg] at q; exact tgN_lt (by omega) q
  have cv : ∀ a b, c a b = ct (5 * a + b) := fun a b => by rw [← hce]
  have c100 : ∀ a b, a < 5 → b < 5 → c a b ≤ 100 := fun a b ha hb => by rw [cv]; exact (hy.2.2.2.2.2.1 (5 * a + b) (by omega)).2
  -- the heart
  have key : ∀ M, (∀ (T : MS) (fr : Nat → Option Nat) (mt : List Nat) (L : Nat → List Nat) (d : Nat), (N - mt.length) * 3000000 + (3000000 - d) < M → d ≤ 2000001 → MFr S0 T → MI N st tg c fr mt d (fun _ _ _ => False) → MR N T fr mt L → B76 T (nI (cntP (fun x => decide (x ∉ mt ∧ fr x ≠ none)) N)) (nI d)) ∧
      (∀ (T : MS) (fr : Nat → Option Nat) (mt : List Nat) (L : Nat → List Nat) (d : Nat), (N - mt.length) * 3000000 + (3000000 - d) < M → d ≤ 2000000 → MFr S0 T → MI N st tg c fr mt d (fun _ _ _ => False) → MR N T fr mt L → B86 T (nI (cntP (fun x => decide (x ∉ mt ∧ fr x ≠ none)) N)) (nI d) (nI (d % 101))) := by
    intro M
    induction M with
    | zero => exact ⟨fun T fr mt L d q => absurd q (Nat.not_lt_zero _), fun T fr mt L d q => absurd q (Nat.not_lt_zero _)⟩
    | succ M ihM =>
      have part2 : ∀ (T : MS) (fr : Nat → Option Nat) (mt : List Nat) (L : Nat → List Nat) (d : Nat), (N - mt.length) * 3000000 + (3000000 - d) < M + 1 → d ≤ 2000000 → MFr S0 T → MI N st tg c fr mt d (fun _ _ _ => False) → MR N T fr mt L → B86 T (nI (cntP (fun x => decide (x ∉ mt ∧ fr x ≠ none)) N)) (nI d) (nI (d % 101)) := by
        intro T fr mt L d hM hd hF hI hR
        have hb : d % 101 < 101 := Nat.mod_lt _ (by decide)
        refine h86 _ _ _ _ ?_
        unfold mT_measure_86
        rw [nI_clamp (show d % 101 < 2 ^ 31 by omega)]
        rcases hR.2.2.2.2.1.head hb with ⟨q1, q2⟩ | ⟨y, ys, q1, q2, q3⟩
        · -- an empty bucket
          refine ⟨vp_in_nI (by omega) (by omega), fun _ => ?_, fun w => absurd q1 w⟩
          rw [← nI_succ]
          refine ihM.1 T fr mt L (d + 1) (by omega) (by omega) hF (hI.advance (fun x hx e => ?_)) hR
          have : x ∈ L (d % 101) := (hR.2.2.2.2.2 _ x hb).mpr ⟨fun w => w, hx, d, e, rfl⟩
          rw [q2] at this
          cases this
        · -- the first of a bucket
          have hyL : y ∈ L (d % 101) := by rw [q1]; exact List.mem_cons_self
          obtain ⟨-, hymt, m, hfm, hmm⟩ := (hR.2.2.2.2.2 _ y hb).mp hyL
          have hw := hI.2.2.2.1 y m hymt hfm
          have hmd : m = d := by omega
          subst hmd
          refine ⟨vp_in_nI (by omega) (by omega), fun w => absurd w (by rw [q2]; exact nI_m1 (by omega)), fun _ => ⟨vp_in_nI (by omega) (by omega), fun v hv => ?_⟩⟩
          rw [q2] at hv
          subst hv
          refine hR.out hN hymt hfm (by omega) l _ (fun U L' u1 u2 u3 hU => ?_)
          have hlen : mt.length < N := by
            have := nodup_len N (y :: mt) (List.nodup_cons.mpr ⟨hymt, hI.1.1⟩) (fun x hx => by
              rcases List.mem_cons.mp hx with e | e
              · rw [e]; exact q3
              · exact hI.1.2 x e)
            rw [List.length_cons] at this
            omega
          have hUF : MFr S0 U := by
            obtain ⟨f1, f2, f3, ⟨τ, f4⟩, ⟨ρ, f5⟩⟩ := hF
            refine ⟨fun k hk => by rw [u1]; exact f1 k hk, fun k hk => by rw [u3 k (by omega) (by omega) (by omega)]; exact f2 k hk, by rw [u2]; exact f3, ⟨τ, ?_⟩, ⟨ρ, ?_⟩⟩
            · intro j hj; rw [u3 8 (by decide) (by decide) (by decide)]; exact f4 j hj
            · intro j hj; rw [u3 9 (by decide) (by decide) (by decide)]; exact f5 j hj
          have u7 : U.1 7 = nI mt.length := hU.2.2.1
          rw [u7]
          refine ⟨vp_in_nI (by omega) (by omega), vp_in_nI (by omega) (by omega), ?_⟩
          rw [nI_clamp (show y < 2 ^ 31 by omega), nI_clamp (show mt.length < 2 ^ 31 by omega), ← nI_succ]
          obtain ⟨V, hV⟩ : ∃ V : MS, V = mf (ma (ma U 17 (upd (U.2.1 17) y (vp_nar .boolean 1))) 14 (upd (U.2.1 14) mt.length (nI y))) 7 (nI (mt.length + 1)) := ⟨_, rfl⟩
          rw [← hV]
          have hVF : MFr S0 V := by rw [hV]; exact ((hUF.ma _ (Or.inr rfl)).ma _ (Or.inl (by decide))).mf _
          have hVR : MR N V fr (mt ++ [y]) L' := by
            rw [hV]
            obtain ⟨g1, g2, g3, g4, g5, g6⟩ := hU
            refine ⟨fun x hx _ => ?_, fun x hx => ?_, ?_, fun k x hk => ?_, ?_, fun b x hb => ?_⟩
            · show U.2.1 10 x = _
              rw [u3 10 (by decide) (by decide) (by decide)]
              exact hR.1 x hx (fun w => w)
            · show upd (U.2.1 17) y (vp_nar .boolean 1) x = _
              by_cases e : x = y
              · subst e; rw [upd_same, if_pos (by simp)]; rfl
              · rw [upd_other _ _ e, g2 x hx]
                by_cases w : x ∈ mt
                · rw [if_pos w, if_pos (by simp [w])]
                · rw [if_neg w, if_neg (by simp [w, e])]
            · rw [mf_get, List.length_append, List.length_singleton]
            · show upd (U.2.1 14) mt.length (nI y) k = _
              by_cases e : k = mt.length
              · subst e
                rw [List.getElem?_append_right (Nat.le_refl _), Nat.sub_self] at hk
                cases hk
                exact upd_same _ _ _
              · have hkl : k < mt.length := by
                  have := (List.getElem?_eq_some_iff.mp hk).1
                  rw [List.length_append, List.length_singleton] at this
                  omega
                rw [List.getElem?_append_left hkl] at hk
                rw [upd_other _ _ e]
                exact g4 k x hk
            · exact g5
            · rw [g6 b x hb]
              refine ⟨fun w => ⟨fun z => z, by simp [w.1, w.2.1], w.2.2⟩, fun w => ⟨fun z => w.2.1 (by simp [z]), fun z => w.2.1 (by simp [z]), w.2.2⟩⟩
          have hVI := hI.pop hymt hfm
          have hcnt : cntP (fun x => decide (x ∉ mt ∧ fr x ≠ none)) N = cntP (fun x => decide (x ∉ mt ++ [y] ∧ fr x ≠ none)) N + 1 := by
            refine cntP_up (x := y) (by simp) (by simp [hymt, hfm]) (fun z hz => ?_) N q3
            simp [hz]
          have hdb : m ≤ 100 * mt.length := hI.2.2.2.2.2.2.2.1 y m hfm
          clear hV hU hR hI hUF u1 u2 u3 hyL
          rw [hcnt, nI_succ, Int32.add_assoc, show (1 : Int32) + (-1) = 0 by decide, Int32.add_zero]
          have hymem : y ∈ mt ++ [y] := by simp
          have hyf : fr y = some m := hfm
          have hlen2 : (mt ++ [y]).length = mt.length + 1 := by rw [List.length_append, List.length_singleton]
          have hdb2 : ∀ a b, a < 5 → b < 5 → m + c a b ≤ 100 * (mt ++ [y]).length := fun a b ha hb => by
            have := c100 a b ha hb
            omega
          have hdone := fun (T : MS) (fr : Nat → Option Nat) (L : Nat → List Nat) (hF : MFr S0 T) (hI : MI N st tg c fr (mt ++ [y]) m (fun _ _ _ => False)) (hR : MR N T fr (mt ++ [y]) L) => ihM.2 T fr (mt ++ [y]) L m (by rw [hlen2]; exact dec3 hlen hM (by omega)) hd hF hI hR
          generalize mt ++ [y] = mt' at hVR hVI hymem hdb2 hdone ⊢
          -- unpack
          have tgP : ∀ s a b t, tg s a b = some t → a < P ∧ b < P := fun s a b t q => by
            rw [← htg] at q
            unfold tgN at q
            split at q
            · next w => exact ⟨w.1, w.2.1⟩
            · cases q
          have cP : ∀ a b, a < P → b < P → a < 5 ∧ b < 5 := fun a b ha hb => ⟨by omega, by omega⟩
          have hC : ∀ dd p, p + dd = P → ∀ (T : MS) (fr : Nat → Option Nat) (L : Nat → List Nat), MFr S0 T → (∃ σ8, MA T 8 σ8 ∧ ∀ j, j < n → σ8 j = dgs P y j) → MI N st tg c fr mt' m (fun x a _ => x = y ∧ p ≤ a) → MR N T fr mt' L → fr y = some m → B157 T (nI (cntP (fun x => decide (x ∉ mt' ∧ fr x ≠ none)) N)) (nI m) (nI (m % 101)) (nI p) := by
            intro dd
            induction dd with
            | zero =>
              intro p hp T fr L hF _ hI hR _
              have : p = P := by omega
              subst this
              refine h157 _ _ _ _ _ ?_
              unfold mT_measure_157
              rw [(hF.my hy).1]
              refine ⟨fun _ => hdone T fr L hF (hI.shrink (fun s a b _ q => Or.inr (fun t ht => ?_))) hR, fun q => absurd (nI_le (Nat.le_refl p) (by omega)) q⟩
              have := (tgP s a b t ht).1
              omega
            | succ dd ihC =>
              intro p hp T fr L hF h8' hI hR hfy
              have hD : ∀ d2 q, q + d2 = P → ∀ (T : MS) (fr : Nat → Option Nat) (L : Nat → List Nat), MFr S0 T → (∃ σ8, MA T 8 σ8 ∧ ∀ j, j < n → σ8 j = dgs P y j) → MI N st tg c fr mt' m (fun x a b => x = y ∧ (p < a ∨ (a = p ∧ q ≤ b))) → MR N T fr mt' L → fr y = some m → B169 T (nI (cntP (fun x => decide (x ∉ mt' ∧ fr x ≠ none)) N)) (nI m) (nI (m % 101)) (nI p) (nI q) := by
                intro d2
                induction d2 with
                | zero =>
                  intro q hq T fr L hF h8' hI hR hfy
                  have : q = P := by omega
                  subst this
                  refine h169 _ _ _ _ _ _ ?_
                  unfold mT_measure_169
                  rw [(hF.my hy).1]
                  refine ⟨fun _ => ?_, fun w => absurd (nI_le (Nat.le_refl q) (by omega)) w⟩
                  rw [← nI_succ]
                  refine ihC (p + 1) (by omega) T fr L hF h8' (hI.shrink (fun s a b _ w => ?_)) hR hfy
                  rcases w.2 with w2 | w2
                  · exact Or.inl ⟨w.1, w2⟩
                  · exact Or.inr (fun t ht => absurd (tgP s a b t ht).2 (by omega))
                | succ d2 ihD =>
                  intro q hq T fr L hF h8' hI hR hfy
                  -- the next pair, once this one is seen to
                  have next : ∀ (T : MS) (fr : Nat → Option Nat) (L : Nat → List Nat), MFr S0 T → (∃ σ8, MA T 8 σ8 ∧ ∀ j, j < n → σ8 j = dgs P y j) → MI N st tg c fr mt' m (fun x a b => x = y ∧ (p < a ∨ (a = p ∧ q + 1 ≤ b))) → MR N T fr mt' L → fr y = some m → B275 T (nI (cntP (fun x => decide (x ∉ mt' ∧ fr x ≠ none)) N)) (nI m) (nI (m % 101)) (nI p) (nI q) := by
                    intro T fr L hF h8' hI hR hfy
                    refine h275 _ _ _ _ _ _ ?_
                    unfold mT_measure_275
                    rw [← nI_succ]
                    exact ihD (q + 1) (by omega) T fr L hF h8' hI hR hfy
                  have sk : (∀ t, tg y p q = some t → ∃ k k2, fr y = some k ∧ fr t = some k2 ∧ k2 ≤ k + c p q) → MI N st tg c fr mt' m (fun x a b => x = y ∧ (p < a ∨ (a = p ∧ q + 1 ≤ b))) := by
                    intro hr
                    refine hI.shrink (fun s a b _ w => ?_)
                    by_cases e : a = p ∧ b = q
                    · right
                      obtain ⟨e1, e2⟩ := e
                      rw [w.1, e1, e2]
                      exact hr
                    · left
                      refine ⟨w.1, ?_⟩
                      rcases w.2 with w2 | w2
                      · exact Or.inl w2
                      · exact Or.inr ⟨w2.1, by
                          have : b ≠ q := fun z => e ⟨w2.1, z⟩
                          omega⟩
                  obtain ⟨σ8, hσ8, hσd⟩ := h8'
                  obtain ⟨τ9, hτ9⟩ := hF.2.2.2.2
                  refine h169 _ _ _ _ _ _ ?_
                  unfold mT_measure_169
                  rw [(hF.my hy).1]
                  refine ⟨fun w => absurd w (nI_ge (by omega) (by omega)), fun _ => ?_⟩
                  refine s_lead l T y p q _ (hF.my hy) hσ8 hσd hτ9 (by omega) (by omega) (fun ht => ?_) (fun t ht g ρ hg => ?_)
                  · rw [htg] at ht
                    refine ⟨fun _ => next T fr L hF ⟨σ8, hσ8, hσd⟩ (sk (fun t q => by rw [ht] at q; cases q)) hR hfy, fun w => absurd rfl w⟩
                  · rw [htg] at ht
                    have htN := tgl y p q t ht
                    have hF9 : MFr S0 (ma T 9 g) := hF.ma9 ⟨ρ, hg⟩
                    have h89 : ∃ σ8, MA (ma T 9 g) 8 σ8 ∧ ∀ j, j < n → σ8 j = dgs P y j := ⟨σ8, fun j hj => by rw [ma_get_ne _ _ (by decide)]; exact hσ8 j hj, hσd⟩
                    have hR9 : MR N (ma T 9 g) fr mt' L := hR.ma g (Or.inr rfl)
                    generalize ma T 9 g = U at hF9 h89 hR9 ⊢
                    have hcst : U.2.1 4 (5 * p + q) = nI (c p q) := by rw [cv]; exact ((hF9.my hy).2.2.2.2.2.1 (5 * p + q) (by omega)).1
                    have hc1 := c100 p q (by omega) (by omega)
                    have hbnd := hdb2 p q (by omega) (by omega)
                    have hmtl : mt'.length ≤ 20000 := by
                      have := nodup_len N mt' hI.1.1 hI.1.2
                      omega
                    refine ⟨fun w => absurd w (nI_m1 (by omega)), fun _ => ⟨vp_in_nI (by omega) (by omega), ?_⟩⟩
                    rw [nI_clamp (show t < 2 ^ 31 by omega), hR9.2.1 t htN, hR9.1 t htN (fun w => w), ix25 (show p < 5 by omega) (show q < 5 by omega), nI_clamp (show 5 * p + q < 2 ^ 31 by omega), hcst, nI_plus]
                    by_cases hmem : t ∈ mt'
                    · rw [if_pos hmem]
                      refine ⟨fun _ => next U fr L hF9 h89 (sk (fun t' q' => ?_)) hR9 hfy, fun w => absurd w (by decide)⟩
                      rw [ht] at q'
                      cases q'
                      obtain ⟨k, hk, hk2⟩ := hI.2.2.1 t hmem
                      exact ⟨m, k, hfy, hk, by omega⟩
                    · rw [if_neg hmem]
                      refine ⟨fun w => absurd rfl w, fun _ => ⟨vp_in_nI (by omega) (by omega), vp_in_nI (by omega) (by omega), fun hless => ⟨vp_in_nI (by omega) (by omega), ?_⟩, fun hnl => ?_⟩⟩
                      · -- a better label
                        have lab : ∀ (fr0 : Nat → Option Nat), fr0 = fr → (∀ k, fr t = some k → m + c p q < k) → MI N st tg c (va_up fr t (some (m + c p q))) mt' m (fun x a b => x = y ∧ (p < a ∨ (a = p ∧ q + 1 ≤ b))) := by
                          intro fr0 _ ho
                          refine hI.label hymem hfy ht hmem htN hc1 hbnd ho (fun s' a' b' w => ?_)
                          by_cases e : a' = p ∧ b' = q
                          · exact Or.inr ⟨w.1, e.1, e.2⟩
                          · left
                            refine ⟨w.1, ?_⟩
                            rcases w.2 with w2 | w2
                            · exact Or.inl w2
                            · exact Or.inr ⟨w2.1, by
                                have : b' ≠ q := fun z => e ⟨w2.1, z⟩
                                omega⟩
                        have hyt : y ≠ t := fun e => hmem (by rw [← e]; exact hymem)
                        have hfy2 : va_up fr t (some (m + c p q)) y = some m := by rw [va_up_other _ _ hyt]; exact hfy
                        have lnk : ∀ (x2 : Int32) (T : MS) (L : Nat → List Nat), MFr S0 T → (∃ σ8, MA T 8 σ8 ∧ ∀ j, j < n → σ8 j = dgs P y j) → MRx N T fr mt' L (fun x => x = t) → (∀ k, fr t = some k → m + c p q < k) → x2 = nI (cntP (fun x => decide (x ∉ mt' ∧ va_up fr t (some (m + c p q)) x ≠ none)) N) → B255 T x2 (nI m) (nI (m % 101)) (nI p) (nI q) (nI t) := by
                          intro x2 T L hF h8' hRx ho hx2
                          subst hx2
                          refine h255 _ _ _ _ _ _ _ ?_
                          unfold mT_measure_255
                          have hcst : T.2.1 4 (5 * p + q) = nI (c p q) := by rw [cv]; exact ((hF.my hy).2.2.2.2.2.1 (5 * p + q) (by omega)).1
                          rw [ix25 (show p < 5 by omega) (show q < 5 by omega), nI_clamp (show 5 * p + q < 2 ^ 31 by omega), hcst, nI_plus]
                          refine ⟨vp_in_nI (by omega) (by omega), ?_⟩
                          refine hRx.inn hN hmem htN (by omega) l _ (fun Z L2 z1 z2 z3 hZ => ?_)
                          have hZF : MFr S0 Z := by
                            obtain ⟨f1, f2, f3, ⟨τ, f4⟩, ⟨ρ, f5⟩⟩ := hF
                            refine ⟨fun k hk => by rw [z1]; exact f1 k hk, fun k hk => by rw [z3 k (by omega) (by omega) (by omega) (by omega)]; exact f2 k hk, by rw [z2]; exact f3, ⟨τ, ?_⟩, ⟨ρ, ?_⟩⟩
                            · intro j hj; rw [z3 8 (by decide) (by decide) (by decide) (by decide)]; exact f4 j hj
                            · intro j hj; rw [z3 9 (by decide) (by decide) (by decide) (by decide)]; exact f5 j hj
                          obtain ⟨σ8, hσ8, hσd⟩ := h8'
                          exact next Z _ L2 hZF ⟨σ8, fun j hj => by rw [z3 8 (by decide) (by decide) (by decide) (by decide)]; exact hσ8 j hj, hσd⟩ (lab fr rfl ho) hZ hfy2
                        cases hft : fr t with
                        | none =>
                          refine ⟨fun w => absurd rfl w, fun _ => ?_⟩
                          refine lnk _ U L hF9 h89 (MRx.more hR9 hft) (fun k hk => by rw [hft] at hk; cases hk) ?_
                          rw [← nI_succ]
                          congr 1
                          refine (cntP_up (x := t) (by simp [hft]) (by simp [hmem, va_up_same]) (fun z hz => ?_) N htN).symm
                          rw [va_up_other _ _ hz]
                        | some k =>
                          have hkb := hI.2.2.2.2.2.2.2.1 t k hft
                          have hk : m + c p q < k := by
                            rw [hft] at hless
                            rcases Nat.lt_or_ge (m + c p q) k with w | w
                            · exact w
                            · exact absurd hless (nI_nlt w (by omega))
                          refine ⟨fun _ => ?_, fun w => ?_⟩
                          · refine hR9.out hN hmem hft (by omega) l _ (fun Z L2 z1 z2 z3 hZ => ?_)
                            have hZF : MFr S0 Z := by
                              obtain ⟨f1, f2, f3, ⟨τ, f4⟩, ⟨ρ, f5⟩⟩ := hF9
                              refine ⟨fun k hk => by rw [z1]; exact f1 k hk, fun k hk => by rw [z3 k (by omega) (by omega) (by omega)]; exact f2 k hk, by rw [z2]; exact f3, ⟨τ, ?_⟩, ⟨ρ, ?_⟩⟩
                              · intro j hj; rw [z3 8 (by decide) (by decide) (by decide)]; exact f4 j hj
                              · intro j hj; rw [z3 9 (by decide) (by decide) (by decide)]; exact f5 j hj
                            obtain ⟨σ8', hσ8', hσd'⟩ := h89
                            refine lnk _ Z L2 hZF ⟨σ8', fun j hj => by rw [z3 8 (by decide) (by decide) (by decide)]; exact hσ8' j hj, hσd'⟩ hZ (fun k' hk' => by rw [hft] at hk'; cases hk'; exact hk) ?_
                            congr 1
                            refine cntP_congr N (fun x _ => ?_)
                            by_cases e : x = t
                            · subst e; simp [hft, va_up_same]
                            · rw [va_up_other _ _ e]
                          · exfalso
                            have : nI k = nI 2147483647 := w
                            exact absurd ((nI_eq (by omega) (by omega)).mp this) (by omega)
                      · -- the label stays
                        refine next U fr L hF9 h89 (sk (fun t' q' => ?_)) hR9 hfy
                        rw [ht] at q'
                        cases q'
                        cases hft : fr t with
                        | none =>
                          exfalso
                          rw [hft] at hnl
                          exact hnl (show nI (m + c p q) < nI 2147483647 from nI_lt (by omega) (by omega))
                        | some k =>
                          refine ⟨m, k, hfy, rfl, ?_⟩
                          rw [hft] at hnl
                          rcases Nat.lt_or_ge (m + c p q) k with w | w
                          · exact absurd (nI_lt w (by have := hI.2.2.2.2.2.2.2.1 t k hft; omega)) hnl
                          · exact w
              refine h157 _ _ _ _ _ ?_
              unfold mT_measure_157
              rw [(hF.my hy).1]
              refine ⟨fun w => absurd w (nI_ge (by omega) (by omega)), fun _ => ?_⟩
              refine hD P 0 (by omega) T fr L hF h8' (hI.shrink (fun s a b _ w => Or.inl ⟨w.1, ?_⟩)) hR hfy
              have := w.2
              rcases Nat.lt_or_ge p a with z | z
              · exact Or.inl z
              · exact Or.inr ⟨by omega, Nat.zero_le _⟩
          obtain ⟨τ8, hτ8⟩ := hVF.2.2.2.1
          have hu8 : ∀ j, j < 7 → unpF (V.2.1 8) P y n j = nI (if j < n then dgs P y j else τ8 j) ∧ (if j < n then dgs P y j else τ8 j) < 5 := by
            intro j hj
            unfold unpF
            by_cases e : j < n
            · rw [if_pos e, if_pos e]
              exact ⟨rfl, by have := dgs_lt (P := P) (by omega) y j; omega⟩
            · rw [if_neg e, if_neg e]
              exact hτ8 j hj
          refine s_unpack l V y 8 m7_8' _ (hVF.my hy).2.1 (hVF.my hy).1 hP2 (by omega) (by omega) ?_
          refine hC P 0 (by omega) (ma V 8 (unpF (V.2.1 8) P y n)) fr L' (hVF.ma8 ⟨_, hu8⟩) ⟨fun j => if j < n then dgs P y j else τ8 j, fun j hj => by rw [ma_get]; exact hu8 j hj, fun j hj => if_pos hj⟩ (hVI.shrink (fun s a b _ w => Or.inl ⟨w, Nat.zero_le _⟩)) (hVR.ma _ (Or.inl rfl)) hyf
      refine ⟨fun T fr mt L d hM hd hF hI hR => ?_, part2⟩
      refine h76 _ _ _ ?_
      unfold mT_measure_76
      refine ⟨fun q => ?_, fun q v hv => ?_⟩
      · have hz : cntP (fun x => decide (x ∉ mt ∧ fr x ≠ none)) N = 0 := by
          have h1 := cntP_le (fun x => decide (x ∉ mt ∧ fr x ≠ none)) N
          rcases Nat.eq_zero_or_pos (cntP (fun x => decide (x ∉ mt ∧ fr x ≠ none)) N) with w | w
          · exact w
          · exact absurd q (nI_nle w (by omega))
        refine h T fr mt L d hF hI hR (fun x hx => ?_)
        have := cntP_zero N hz x (hI.2.1 x hx)
        have := of_decide_eq_false this
        by_cases w : x ∈ mt
        · exact w
        · exact absurd ⟨w, hx⟩ this
      · have hpos : cntP (fun x => decide (x ∉ mt ∧ fr x ≠ none)) N ≠ 0 := fun w => q (by rw [w]; decide)
        obtain ⟨x, hx, hpx⟩ := cntP_pos N hpos
        obtain ⟨w1, w2⟩ := of_decide_eq_true hpx
        obtain ⟨m, hm⟩ := Option.ne_none_iff_exists'.mp w2
        have hlen := nodup_len N mt hI.1.1 hI.1.2
        have hdm := (hI.2.2.2.1 x m w1 hm).1
        have hmb := hI.2.2.2.2.2.2.2.1 x m hm
        have hd2 : d ≤ 2000000 := by omega
        rw [mod101 (by omega)] at hv
        subst hv
        exact part2 T fr mt L d hM hd2 hF hI hR
  -- the start
  have hF0 : MFr S0 S0 := ⟨fun _ _ => rfl, fun _ _ => rfl, rfl, h8, h9⟩
  have e35 : ∀ dd k, k + dd = 101 → ∀ T : MS, MFr S0 T → (∀ x, x < N → T.2.1 10 x = 2147483647 ∧ T.2.1 17 x = 0) → (∀ i, i < k → T.2.1 13 i = -1) → B35 T (nI k) := by
    intro dd
    induction dd with
    | zero =>
      intro k hk T hF hz hh
      have : k = 101 := by omega
      subst this
      refine h35 _ _ ?_
      unfold mT_measure_35
      refine ⟨fun _ => ?_, fun q => absurd (show (101 : Int32) ≤ nI 101 by decide) q⟩
      have hF7 := hF.mf 0
      refine s_pack l (mf T 7 0) 2 (by unfold m7; decide) _ (σ := σ) (hF7.my hy).2.1 (hF7.my hy).1 (by omega) (fun j hj => ?_) ?_
      · show T.2.1 2 j = nI (σ j)
        rw [hF.2.1 2 (Or.inl (by decide))]
        exact (h2 j (by omega)).1
      · rw [hst0]
        have hRx : MRx N (mf T 7 0) (fun _ => none) [] (fun _ => []) (fun x => x = st) := by
          refine ⟨fun x hx _ => (hz x hx).1, fun x hx => ?_, mf_get _ _ _, fun k x hk => (by cases hk), ⟨fun b hb => ?_, fun _ _ => List.nodup_nil, fun b c x _ _ hx => (by cases hx), fun b x _ hx => by cases hx⟩, fun b x hb => ⟨fun q => (by cases q), fun q => ?_⟩⟩
          · rw [if_neg List.not_mem_nil]; exact (hz x hx).2
          · exact hh b (by omega)
          · obtain ⟨m, hm, -⟩ := q.2.2
            cases hm
        refine hRx.inn hN List.not_mem_nil hst (m := 0) (by decide) l _ (fun Z L2 z1 z2 z3 hZ => ?_)
        have hZF : MFr S0 Z := by
          obtain ⟨f1, f2, f3, ⟨τ, f4⟩, ⟨ρ, f5⟩⟩ := hF7
          refine ⟨fun k hk => by rw [z1]; exact f1 k hk, fun k hk => by rw [z3 k (by omega) (by omega) (by omega) (by omega)]; exact f2 k hk, by rw [z2]; exact f3, ⟨τ, ?_⟩, ⟨ρ, ?_⟩⟩
          · intro j hj; rw [z3 8 (by decide) (by decide) (by decide) (by decide)]; exact f4 j hj
          · intro j hj; rw [z3 9 (by decide) (by decide) (by decide) (by decide)]; exact f5 j hj
        have hc0 : cntP (fun x => decide (x ∉ ([] : List Nat) ∧ va_up (fun _ => none) st (some 0) x ≠ none)) N = 1 := by
          have h0 : ∀ k, cntP (fun _ => false) k = 0 := by
            intro k
            induction k with
            | zero => rfl
            | succ k ih => unfold cntP; rw [ih]; rfl
          rw [cntP_up (p := fun _ => false) (x := st) rfl (by simp [va_up_same]) (fun z hz => by rw [va_up_other _ _ hz]; simp) N hst, h0]
        have := (key ((N - 0) * 3000000 + 3000000 + 1)).1 Z (va_up (fun _ => none) st (some 0)) [] L2 0 (by simp) (by decide) hZF (MI.begin hst) hZ
        rw [hc0] at this
        exact this
    | succ dd ih =>
      intro k hk T hF hz hh
      refine h35 _ _ ?_
      unfold mT_measure_35
      refine ⟨fun q => absurd q (nI_ge (a := k) (b := 101) (by omega) (by omega)), fun _ => ⟨vp_in_nI (by omega) (by omega), ?_⟩⟩
      rw [← nI_succ, nI_clamp (by omega)]
      refine ih (k + 1) (by omega) _ (hF.ma _ (Or.inl (by decide))) (fun x hx => ?_) (fun i hi => ?_)
      · rw [ma_get_ne _ _ (by decide), ma_get_ne _ _ (by decide)]; exact hz x hx
      · rw [ma_get]
        by_cases e : i = k
        · subst e; exact upd_same _ _ _
        · rw [upd_other _ _ e]; exact hh i (by omega)
  have e7 : ∀ dd k, k + dd = N → ∀ T : MS, MFr S0 T → (∀ x, x < k → T.2.1 10 x = 2147483647 ∧ T.2.1 17 x = 0) → B7 T (nI N) (nI k) := by
    intro dd
    induction dd with
    | zero =>
      intro k hk T hF hz
      have : k = N := by omega
      subst this
      refine h7 _ _ _ ?_
      unfold mT_measure_7
      exact ⟨fun _ => e35 101 0 (by omega) T hF hz (fun i hi => absurd hi (Nat.not_lt_zero _)), fun q => absurd (nI_le (Nat.le_refl k) (by omega)) q⟩
    | succ dd ih =>
      intro k hk T hF hz
      refine h7 _ _ _ ?_
      unfold mT_measure_7
      refine ⟨fun q => absurd q (nI_ge (by omega) (by omega)), fun _ => ⟨vp_in_nI (by omega) (by omega), vp_in_nI (by omega) (by omega), ?_⟩⟩
      rw [← nI_succ, nI_clamp (show k < 2 ^ 31 by omega)]
      refine ih (k + 1) (by omega) _ ((hF.ma _ (Or.inl (by decide))).ma _ (Or.inr rfl)) (fun x hx => ?_)
      rw [ma_get_ne _ _ (show (10 : Nat) ≠ 17 by decide), ma_get, ma_get]
      by_cases e : x = k
      · subst e; exact ⟨upd_same _ _ _, by rw [upd_same]; rfl⟩
      · rw [upd_other _ _ e, upd_other _ _ e]; exact hz x (by omega)
  refine s_stands l S0 _ hy.2.1 hy.1 (by omega) ?_
  rw [hNe]
  exact e7 N 0 (by omega) S0 hF0 (fun x hx => absurd hx (Nat.not_lt_zero _))
end
section
-- numbers of stands
def numN (σ : Nat → Nat) (P : Nat) : Nat → Nat
  | 0 => 0
  | n + 1 => numN σ P n + σ n * P ^ n
theorem packN_num (σ : Nat → Nat) (P : Nat) : ∀ d acc, packN σ P d acc = acc * P ^ d + numN σ P d := by
  intro d
  induction d with
  | zero => intro acc; simp [packN, numN]
  | succ d ih =>
    intro acc
    unfold packN numN
    rw [ih, Nat.pow_succ, Nat.add_mul, Nat.mul_assoc, Nat.mul_comm P (P ^ d), Nat.add_assoc, Nat.add_comm (σ d * P ^ d)]
theorem packN0 (σ : Nat → Nat) (P n : Nat) : packN σ P n 0 = numN σ P n := by rw [packN_num]; simp
theorem numN_congr {σ τ : Nat → Nat} {P : Nat} : ∀ n, (∀ j, j < n → σ j = τ j) → numN σ P n = numN τ P n := by
  intro n
  induction n with
  | zero => intro _; rfl
  | succ n ih => intro h; unfold numN; rw [ih (fun j hj => h j (by omega)), h n (by omega)]
theorem numN_lt {σ : Nat → Nat} {P : Nat} : ∀ n, (∀ j, j < n → σ j < P) → numN σ P n < P ^ n := by
  intro n
  induction n with
  | zero => intro _; simp [numN]
  | succ n ih =>
    intro h
    unfold numN
    have h1 := ih (fun j hj => h j (by omega))
    have h2 : σ n * P ^ n + P ^ n ≤ P * P ^ n := by
      rw [← Nat.succ_mul]
      exact Nat.mul_le_mul_right _ (h n (by omega))
    rw [Nat.pow_succ, Nat.mul_comm (P ^ n) P]
    omega
theorem numN_dgs (P x : Nat) : ∀ n, numN (dgs P x) P n = x % P ^ n := by
  intro n
  induction n with
  | zero => simp [numN, Nat.mod_one]
  | succ n ih =>
    unfold numN
    rw [ih, Nat.mod_pow_succ]
    unfold dgs
    rw [Nat.mul_comm (P ^ n)]
theorem dgs_pack {P x n : Nat} (h : x < P ^ n) : packN (dgs P x) P n 0 = x := by rw [packN0, numN_dgs, Nat.mod_eq_of_lt h]
theorem dgs_num {σ : Nat → Nat} {P : Nat} (hP : 0 < P) : ∀ n, (∀ j, j < n → σ j < P) → ∀ j, j < n → dgs P (numN σ P n) j = σ j := by
  intro n
  induction n with
  | zero => intro _ j hj; exact absurd hj (Nat.not_lt_zero _)
  | succ n ih =>
    intro h j hj
    have h1 := numN_lt (P := P) n (fun j hj => h j (by omega))
    by_cases e : j = n
    · subst e
      unfold dgs numN
      rw [Nat.add_mul_div_right _ _ (Nat.pow_pos hP), Nat.div_eq_of_lt h1, Nat.zero_add, Nat.mod_eq_of_lt (h j hj)]
    · have hjn : j < n := by omega
      have h2 := ih (fun j hj => h j (by omega)) j hjn
      unfold dgs at h2 ⊢
      unfold numN
      obtain ⟨k, rfl⟩ : ∃ k, n = j + (k + 1) := ⟨n - j - 1, by omega⟩
      have e2 : σ (j + (k + 1)) * P ^ (j + (k + 1)) = P ^ j * (σ (j + (k + 1)) * P ^ k * P) := by
        rw [Nat.pow_add, Nat.pow_succ]
        simp only [Nat.mul_assoc, Nat.mul_left_comm, Nat.mul_comm]
      rw [e2, Nat.add_mul_div_left _ _ (Nat.pow_pos hP), Nat.add_mul_mod_self_right, h2]
theorem dgs_zero {P x n j : Nat} (hP : 0 < P) (h : x < P ^ n) (hj : n ≤ j) : dgs P x j = 0 := by
  unfold dgs
  rw [Nat.div_eq_of_lt (Nat.lt_of_lt_of_le h (Nat.pow_le_pow_right hP hj)), Nat.zero_mod]
theorem pow_b {P n : Nat} (hP : 2 ≤ P ∧ P ≤ 5) (hn : n ≤ 7) : P ^ n ≤ 78125 := by
  have h1 : P ^ n ≤ 5 ^ n := Nat.pow_le_pow_left hP.2 n
  have h2 : 5 ^ n ≤ 5 ^ 7 := Nat.pow_le_pow_right (by decide) hn
  have h3 : (5 : Nat) ^ 7 = 78125 := rfl
  omega
-- the weights of a run of discs
def ldF (P : Nat) : Nat → Nat → Nat
  | _, 0 => 0
  | a, k + 1 => P ^ a + ldF P (a + 1) k
/-- a run of discs goes from peg a to peg b -/
theorem numN_run {σ : Nat → Nat} {P a b : Nat} : ∀ k d n, d + k ≤ n → (∀ j, d ≤ j → j < d + k → σ j = a) → numN (fun j => if d ≤ j ∧ j < d + k then b else σ j) P n + a * ldF P d k = numN σ P n + b * ldF P d k := by
  intro k
  induction k with
  | zero =>
    intro d n _ _
    have e : (fun j => if d ≤ j ∧ j < d + 0 then b else σ j) = σ := by
      funext j; rw [if_neg (by omega)]
    rw [e]; simp [ldF]
  | succ k ih =>
    intro d n hn hσ
    have h1 := ih (d + 1) n (by omega) (fun j h2 h3 => hσ j (by omega) (by omega))
    -- one disc more
    have key : ∀ m, d + 1 ≤ m → m ≤ n → numN (fun j => if d ≤ j ∧ j < d + (k + 1) then b else σ j) P m + a * P ^ d = numN (fun j => if d + 1 ≤ j ∧ j < d + 1 + k then b else σ j) P m + b * P ^ d := by
      intro m
      induction m with
      | zero => intro q; omega
      | succ m ihm =>
        intro q1 q2
        unfold numN
        by_cases e : m = d
        · subst e
          have e1 : numN (fun j => if m ≤ j ∧ j < m + (k + 1) then b else σ j) P m = numN σ P m := numN_congr m (fun j hj => if_neg (by omega))
          have e2 : numN (fun j => if m + 1 ≤ j ∧ j < m + 1 + k then b else σ j) P m = numN σ P m := numN_congr m (fun j hj => if_neg (by omega))
          rw [e1, e2, if_pos (by omega), if_neg (by omega), hσ m (Nat.le_refl m) (by omega)]
          omega
        · have h3 := ihm (by omega) (by omega)
          have e3 : (if d ≤ m ∧ m < d + (k + 1) then b else σ m) = (if d + 1 ≤ m ∧ m < d + 1 + k then b else σ m) := by
            by_cases c : d + 1 ≤ m ∧ m < d + 1 + k
            · rw [if_pos c, if_pos (by omega)]
            · rw [if_neg c, if_neg (by omega)]
          rw [e3]
          omega
    have h2 := key n (by omega) (Nat.le_refl n)
    unfold ldF
    rw [Nat.mul_add, Nat.mul_add]
    omega
-- the first disc of a peg, from a disc on
theorem tpN_at {σ : Nat → Nat} {p n d : Nat} (h : d < n) : tpN σ p (n - d) d = if σ d = p then d else tpN σ p (n - (d + 1)) (d + 1) := by
  rw [show n - d = (n - (d + 1)) + 1 by omega]
  rfl
/-- no disc of the peg ahead of the first -/
theorem tpN_no {σ : Nat → Nat} {p : Nat} : ∀ t j i, j ≤ i → i < tpN σ p t j → σ i ≠ p := by
  intro t
  induction t with
  | zero => intro j i h1 h2; simp [tpN] at h2; omega
  | succ t ih =>
    intro j i h1 h2
    unfold tpN at h2
    split at h2
    · omega
    · next c =>
      by_cases e : i = j
      · rw [e]; exact c
      · exact ih (j + 1) i (by omega) h2
-- packs
theorem pkN_fuel {kd σ : Nat → Nat} {n d0 : Nat} : ∀ t u g, n ≤ g + t + 1 → n ≤ g + u + 1 → pkN kd σ n d0 t g = pkN kd σ n d0 u g := by
  intro t
  induction t with
  | zero =>
    intro u g h1 h2
    cases u with
    | zero => rfl
    | succ u =>
      show g = _
      unfold pkN
      rw [if_neg (fun q => by omega)]
  | succ t ih =>
    intro u g h1 h2
    cases u with
    | zero =>
      show _ = g
      unfold pkN
      rw [if_neg (fun q => by omega)]
    | succ u =>
      unfold pkN
      by_cases c : kd g = 3 ∧ g + 1 < n ∧ kd (g + 1) = 3 ∧ σ (g + 1) = σ d0
      · rw [if_pos c, if_pos c]; exact ih u (g + 1) (by omega) (by omega)
      · rw [if_neg c, if_neg c]
theorem pkN_d0 {kd σ : Nat → Nat} {n d0 d1 : Nat} (h : σ d0 = σ d1) : ∀ t g, pkN kd σ n d0 t g = pkN kd σ n d1 t g := by
  intro t
  induction t with
  | zero => intro g; rfl
  | succ t ih => intro g; unfold pkN; rw [h, ih]
theorem pkE_step {kd σ : Nat → Nat} {n d : Nat} (h1 : kd d = 3) (h2 : d + 1 < n) (h3 : kd (d + 1) = 3) (h4 : σ (d + 1) = σ d) : pkE kd σ n d = pkE kd σ n (d + 1) := by
  unfold pkE
  rw [pkN_fuel n (n - 1 + 1) d (by omega) (by omega)]
  conv => lhs; unfold pkN
  rw [if_pos ⟨h1, h2, h3, h4⟩, pkN_d0 h4.symm, pkN_fuel (n - 1) n (d + 1) (by omega) (by omega)]
theorem pkE_stop {kd σ : Nat → Nat} {n d : Nat} (hd : d < n) (h : ¬ (kd d = 3 ∧ d + 1 < n ∧ kd (d + 1) = 3 ∧ σ (d + 1) = σ d)) : pkE kd σ n d = d := by
  unfold pkE
  obtain ⟨m, rfl⟩ : ∃ m, n = m + 1 := ⟨n - 1, by omega⟩
  unfold pkN
  rw [if_neg h]
/-- all discs of a pack lie on one peg, and are of one kind -/
theorem pkN_run {kd σ : Nat → Nat} {n d0 : Nat} : ∀ t g, σ g = σ d0 → ∀ j, g ≤ j → j ≤ pkN kd σ n d0 t g → σ j = σ d0 ∧ kd j = kd g := by
  intro t
  induction t with
  | zero =>
    intro g hg j h1 h2
    have h2 : j ≤ g := h2
    have : j = g := by omega
    subst this
    exact ⟨hg, rfl⟩
  | succ t ih =>
    intro g hg j h1 h2
    unfold pkN at h2
    split at h2
    · next c =>
      by_cases e : j = g
      · subst e; exact ⟨hg, rfl⟩
      · have := ih (g + 1) c.2.2.2 j (by omega) h2
        exact ⟨this.1, by rw [this.2, c.2.2.1, c.1]⟩
    · have : j = g := by omega
      subst this
      exact ⟨hg, rfl⟩
theorem pkE_run {kd σ : Nat → Nat} {n d j : Nat} (h1 : d ≤ j) (h2 : j ≤ pkE kd σ n d) : σ j = σ d ∧ kd j = kd d := pkN_run n d rfl j h1 h2
theorem pkE_kd {kd σ : Nat → Nat} {n d : Nat} (hd : d < n) : kd (pkE kd σ n d) = kd d := (pkE_run (pkE_lt hd).1 (Nat.le_refl _)).2
/-- the number behind a move -/
theorem mov_num {n P : Nat} {kd : Nat → Nat} {x a b : Nat} (hx : x < P ^ n) (ht : topN (dgs P x) a n < n) : packN (movN n kd (dgs P x) a b) P n 0 + a * ldF P (topN (dgs P x) a n) (pkE kd (dgs P x) n (topN (dgs P x) a n) + 1 - topN (dgs P x) a n) = x + b * ldF P (topN (dgs P x) a n) (pkE kd (dgs P x) n (topN (dgs P x) a n) + 1 - topN (dgs P x) a n) := by
  have hg := pkE_lt (kd := kd) (σ := dgs P x) ht
  have hs : dgs P x (topN (dgs P x) a n) = a := tpN_hit (dgs P x) a n 0 (by unfold topN at ht; omega)
  rw [packN0]
  have h1 := numN_run (σ := dgs P x) (P := P) (a := a) (b := b) (pkE kd (dgs P x) n (topN (dgs P x) a n) + 1 - topN (dgs P x) a n) (topN (dgs P x) a n) n (by omega) (fun j h2 h3 => by
    rw [(pkE_run (kd := kd) (σ := dgs P x) (n := n) (d := topN (dgs P x) a n) h2 (by omega)).1]; exact hs)
  rw [numN_dgs, Nat.mod_eq_of_lt hx] at h1
  rw [← h1]
  congr 1
  refine numN_congr n (fun j hj => ?_)
  unfold movN
  by_cases c : topN (dgs P x) a n ≤ j ∧ j ≤ pkE kd (dgs P x) n (topN (dgs P x) a n)
  · rw [if_pos c, if_pos (by omega)]
  · rw [if_neg c, if_neg (by omega)]
end
section
-- the class's state: small laws
theorem cf_get (S : CS) (k : Nat) (v : Int32) : (cf S k v).1 k = v := va_up_same _ _ _
theorem cf_get_ne (S : CS) {k j : Nat} (v : Int32) (h : j ≠ k) : (cf S k v).1 j = S.1 j := va_up_other _ _ h
theorem ca_get (S : CS) (k : Nat) (f : Nat → Int32) : (ca S k f).2.1 k = f := va_up_same _ _ _
theorem ca_get_ne (S : CS) {k j : Nat} (f : Nat → Int32) (h : j ≠ k) : (ca S k f).2.1 j = S.2.1 j := va_up_other _ _ h
theorem cj_get (S : CS) (k : Nat) (f : Nat → Int64) : (cj S k f).2.2.1 k = f := va_up_same _ _ _
theorem cj_get_ne (S : CS) {k j : Nat} (f : Nat → Int64) (h : j ≠ k) : (cj S k f).2.2.1 j = S.2.2.1 j := va_up_other _ _ h
theorem cn_get (S : CS) (k n : Nat) : (cn S k n).2.2.2 k = n := va_up_same _ _ _
theorem cn_get_ne (S : CS) {k j : Nat} (n : Nat) (h : j ≠ k) : (cn S k n).2.2.2 j = S.2.2.2 j := va_up_other _ _ h
/-- what may have changed: scalars of a, rows of b, lengths of c -/
def CFr (a b c : Nat → Bool) (S T : CS) : Prop := (∀ k, a k = false → T.1 k = S.1 k) ∧ (∀ k, b k = false → T.2.1 k = S.2.1 k ∧ T.2.2.1 k = S.2.2.1 k) ∧ (∀ k, c k = false → T.2.2.2 k = S.2.2.2 k)
section CFrS
variable {a b c a' b' c' : Nat → Bool} {S T U : CS}
theorem CFr.rf : CFr a b c S S := ⟨fun _ _ => rfl, fun _ _ => ⟨rfl, rfl⟩, fun _ _ => rfl⟩
theorem CFr.tr (h1 : CFr a b c S T) (h2 : CFr a b c T U) : CFr a b c S U := ⟨fun k hk => (h2.1 k hk).trans (h1.1 k hk), fun k hk => ⟨(h2.2.1 k hk).1.trans (h1.2.1 k hk).1, (h2.2.1 k hk).2.trans (h1.2.1 k hk).2⟩, fun k hk => (h2.2.2 k hk).trans (h1.2.2 k hk)⟩
theorem CFr.mono (h : CFr a b c S T) (ha : ∀ k, a' k = false → a k = false) (hb : ∀ k, b' k = false → b k = false) (hc : ∀ k, c' k = false → c k = false := by first | exact fun _ _ => rfl | exact fun _ h => h) : CFr a' b' c' S T := ⟨fun k hk => h.1 k (ha k hk), fun k hk => h.2.1 k (hb k hk), fun k hk => h.2.2 k (hc k hk)⟩
theorem CFr.cf (h : CFr a b c S T) {k : Nat} (v : Int32) (hk : a k = true) : CFr a b c S (cf T k v) := ⟨fun j hj => by rw [cf_get_ne _ _ (fun e => by rw [e, hk] at hj; cases hj)]; exact h.1 j hj, h.2⟩
theorem CFr.ca (h : CFr a b c S T) {k : Nat} (f : Nat → Int32) (hk : b k = true) : CFr a b c S (ca T k f) := ⟨h.1, fun j hj => ⟨by rw [ca_get_ne _ _ (fun e => by rw [e, hk] at hj; cases hj)]; exact (h.2.1 j hj).1, (h.2.1 j hj).2⟩, h.2.2⟩
theorem CFr.cj (h : CFr a b c S T) {k : Nat} (f : Nat → Int64) (hk : b k = true) : CFr a b c S (cj T k f) := ⟨h.1, fun j hj => ⟨(h.2.1 j hj).1, by rw [cj_get_ne _ _ (fun e => by rw [e, hk] at hj; cases hj)]; exact (h.2.1 j hj).2⟩, h.2.2⟩
theorem CFr.cn (h : CFr a b c S T) {k : Nat} (m : Nat) (hk : c k = true) : CFr a b c S (cn T k m) := ⟨h.1, h.2.1, fun j hj => by rw [cn_get_ne _ _ (fun e => by rw [e, hk] at hj; cases hj)]; exact h.2.2 j hj⟩
end CFrS
/-- no length changes -/
def nn : Nat → Bool := fun _ => false
/-- the look's own -/
def lA : Nat → Bool := fun k => decide (6 ≤ k) && decide (k ≤ 8)
def lB : Nat → Bool := fun k => decide (13 ≤ k) && decide (k ≤ 19)
/-- the listing of moves alone -/
def sA : Nat → Bool := fun k => decide (k = 6)
def sB : Nat → Bool := fun k => decide (17 ≤ k) && decide (k ≤ 19)
theorem sA_l (k : Nat) (h : lA k = false) : sA k = false := by
  unfold lA at h; unfold sA
  simp only [Bool.and_eq_false_iff, decide_eq_false_iff_not] at h ⊢
  omega
theorem sB_l (k : Nat) (h : lB k = false) : sB k = false := by
  unfold lB at h; unfold sB
  simp only [Bool.and_eq_false_iff, decide_eq_false_iff_not] at h ⊢
  omega
/-- the class's yard: pegs, discs, stands, weights, kinds, costs, strong lanes -/
def CY (S : CS) (n P : Nat) (kd ct sg : Nat → Nat) : Prop := S.1 3 = nI P ∧ S.1 4 = nI n ∧ S.1 5 = nI (P ^ n) ∧ (2 ≤ P ∧ P ≤ 5) ∧ (1 ≤ n ∧ n ≤ 7) ∧ (∀ j, j < n → S.2.1 9 j = nI (P ^ j)) ∧ (∀ j, j < 7 → S.2.1 10 j = nI (kd j) ∧ kd j ≤ 3) ∧ (∀ j, j < 25 → S.2.1 11 j = nI (ct j) ∧ ct j ≤ 100) ∧ (∀ j, j < 25 → S.2.1 12 j = nI (sg j) ∧ sg j ≤ 1)
theorem CY.fr {a b c : Nat → Bool} {S T : CS} {n P : Nat} {kd ct sg : Nat → Nat} (h : CY S n P kd ct sg) (f : CFr a b c S T) (h3 : a 3 = false := by rfl) (h4 : a 4 = false := by rfl) (h5 : a 5 = false := by rfl) (h9 : b 9 = false := by rfl) (h10 : b 10 = false := by rfl) (h11 : b 11 = false := by rfl) (h12 : b 12 = false := by rfl) : CY T n P kd ct sg := by
  unfold CY
  rw [f.1 3 h3, f.1 4 h4, f.1 5 h5, (f.2.1 9 h9).1, (f.2.1 10 h10).1, (f.2.1 11 h11).1, (f.2.1 12 h12).1]
  exact h
end
section
/-- the look at a stand σ with the number x, from disc d on -/
def LKd (T : CS) (n P : Nat) (kd σ : Nat → Nat) (x d : Nat) : Prop :=
  (∀ j, d ≤ j → j < n → T.2.1 13 j = nI (σ j)) ∧
  (∀ p, p < 5 → (tpN σ p (n - d) d < n → T.2.1 14 p = nI (tpN σ p (n - d) d) ∧ T.2.1 15 p = nI (pkE kd σ n (tpN σ p (n - d) d)) ∧ T.2.1 16 p = nI (ldF P (tpN σ p (n - d) d) (pkE kd σ n (tpN σ p (n - d) d) + 1 - tpN σ p (n - d) d))) ∧ (¬ tpN σ p (n - d) d < n → T.2.1 14 p = -1)) ∧
  T.1 8 = bI (rightN kd σ n (n - d) d) ∧ T.1 7 = nI x
theorem LKd.fr {T U : CS} {n P : Nat} {kd σ : Nat → Nat} {x d : Nat} (h : LKd T n P kd σ x d) (f : CFr sA sB nn T U) : LKd U n P kd σ x d := by
  unfold LKd
  rw [f.1 8 rfl, f.1 7 rfl, (f.2.1 13 rfl).1, (f.2.1 14 rfl).1, (f.2.1 15 rfl).1, (f.2.1 16 rfl).1]
  exact h
set_option maxHeartbeats 1000000 in
theorem k_lay (l : Launch) {S : CS} {n P : Nat} {kd ct sg σ : Nat → Nat} (hy : CY S n P kd ct sg) {x d : Nat} (hd : d < n) (hσ : σ d < 5) (h13 : S.2.1 13 d = nI (σ d)) (h : LKd S n P kd σ x (d + 1)) (post : CS → Prop) (hp : ∀ T, CFr lA lB nn S T → LKd T n P kd σ x d → post T) : cX_X3_lay l S (nI d) (nI (σ d)) post := by
  obtain ⟨yP, yn, yN, yP2, yn2, yw, ykd, yct, ysg⟩ := hy
  obtain ⟨k13, ktp, krt, kx⟩ := h
  refine c_X3_lay l S _ _ post ?_
  intro B73 B92 h73 h92
  have hw := yw d hd
  have kdd := ykd d (by omega)
  have hb := tpN_le σ (σ d) (n - (d + 1)) (d + 1)
  -- behind 92
  have fin : ∀ (T : CS) (x6 : Int32), CFr lA lB nn S T → T.2.1 13 = S.2.1 13 → T.2.1 14 = S.2.1 14 → (∀ p, p ≠ σ d → T.2.1 15 p = S.2.1 15 p ∧ T.2.1 16 p = S.2.1 16 p) → T.2.1 15 (σ d) = nI (pkE kd σ n d) → T.2.1 16 (σ d) = nI (ldF P d (pkE kd σ n d + 1 - d)) → T.1 8 = S.1 8 → T.1 7 = S.1 7 → (x6 = 2 ↔ (tpN σ (σ d) (n - (d + 1)) (d + 1) < n ∧ kd (tpN σ (σ d) (n - (d + 1)) (d + 1)) = 2)) → B92 T (nI (kd d)) x6 := by
    intro T x6 f t13 t14 tne t15 t16 t8 t7 hx6
    refine h92 _ _ _ ?_
    unfold cT_X3_lay_92
    rw [nI_clamp (show σ d < 2 ^ 31 by omega)]
    have hin : vp_in (nI (σ d)) 5 := vp_in_nI hσ (by omega)
    have rest : ∀ U : CS, CFr lA lB nn S U → U.2.1 = T.2.1 → U.1 7 = T.1 7 → U.1 8 = bI (rightN kd σ n (n - d) d) → post (ca U 14 (upd (U.2.1 14) (σ d) (nI d))) := by
      intro U fU uT u7 u8
      refine hp _ (fU.ca _ rfl) ⟨fun j h1 h2 => ?_, fun p h5 => ?_, u8, u7.trans (t7.trans kx)⟩
      · rw [ca_get_ne _ _ (by decide), uT, t13]
        by_cases e : j = d
        · rw [e]; exact h13
        · exact k13 j (by omega) h2
      · rw [ca_get, ca_get_ne _ _ (by decide), ca_get_ne _ _ (by decide), uT, tpN_at hd]
        by_cases e : σ d = p
        · rw [if_pos e]
          subst e
          exact ⟨fun _ => ⟨upd_same _ _ _, t15, t16⟩, fun q => absurd hd q⟩
        · rw [if_neg e, upd_other _ _ (fun q => e q.symm), t14, (tne p (fun q => e q.symm)).1, (tne p (fun q => e q.symm)).2]
          exact ktp p h5
    have hr : rightN kd σ n (n - d) d = (okD kd σ n d && rightN kd σ n (n - (d + 1)) (d + 1)) := by
      rw [show n - d = (n - (d + 1)) + 1 by omega]
      rfl
    refine ⟨fun c => ⟨hin, ?_⟩, fun c => ⟨fun c2 => ⟨hin, ?_⟩, fun c2 => ⟨hin, ?_⟩⟩⟩
    · refine rest T f rfl rfl ?_
      have ho : okD kd σ n d = true := by
        unfold okD
        by_cases q1 : tpN σ (σ d) (n - (d + 1)) (d + 1) < n
        · have q2 : ¬ kd (tpN σ (σ d) (n - (d + 1)) (d + 1)) = 2 := fun q => c (hx6.mpr ⟨q1, q⟩)
          simp [q2]
        · simp [q1]
      rw [hr, ho, Bool.true_and, t8]
      exact krt
    · refine rest T f rfl rfl ?_
      have c2 : kd d = 2 := (nI_is 2 rfl (by omega) (by omega)).mp c2
      have ho : okD kd σ n d = true := by unfold okD; simp [c2]
      rw [hr, ho, Bool.true_and, t8]
      exact krt
    · refine rest (cf T 8 0) (f.cf _ rfl) rfl rfl ?_
      have c2 : ¬ kd d = 2 := fun q => c2 (by rw [q]; rfl)
      have c1 := hx6.mp c
      have ho : okD kd σ n d = false := by unfold okD; simp [c1.1, c1.2, c2]
      rw [hr, ho, Bool.false_and]
      exact cf_get _ _ _
  -- behind 73: a pack of its own
  have own : pkE kd σ n d = d → ∀ x6 : Int32, (x6 = 2 ↔ (tpN σ (σ d) (n - (d + 1)) (d + 1) < n ∧ kd (tpN σ (σ d) (n - (d + 1)) (d + 1)) = 2)) → B73 S (nI (kd d)) x6 := by
    intro hpk x6 hx6
    refine h73 _ _ _ ?_
    unfold cT_X3_lay_73
    rw [nI_clamp (show σ d < 2 ^ 31 by omega), nI_clamp (show d < 2 ^ 31 by omega), hw]
    refine ⟨vp_in_nI hσ (by omega), vp_in_nI (by omega) (by omega), vp_in_nI hσ (by omega), fin _ _ ((CFr.rf.ca _ rfl).ca _ rfl) rfl rfl (fun p q => ?_) ?_ ?_ rfl rfl hx6⟩
    · rw [ca_get_ne _ _ (by decide), ca_get, ca_get, upd_other _ _ q, upd_other _ _ q]
      exact ⟨rfl, rfl⟩
    · rw [ca_get_ne _ _ (by decide), ca_get, upd_same, hpk]
    · rw [ca_get, upd_same, hpk, show d + 1 - d = 1 by omega]
      simp [ldF]
  unfold cT_X3_lay_e
  rw [nI_clamp (show d < 2 ^ 31 by omega), nI_clamp (show σ d < 2 ^ 31 by omega)]
  refine ⟨vp_in_nI (by omega) (by omega), fun v4 e4 => ⟨vp_in_nI hσ (by omega), fun v5 e5 => ?_⟩⟩
  rw [kdd.1] at e4
  subst e4
  have kt := ktp (σ d) hσ
  by_cases hlt : tpN σ (σ d) (n - (d + 1)) (d + 1) < n
  · have kt := kt.1 hlt
    have hhit : σ (tpN σ (σ d) (n - (d + 1)) (d + 1)) = σ d := tpN_hit σ (σ d) _ _ (by omega)
    have hx6 : (nI (kd (tpN σ (σ d) (n - (d + 1)) (d + 1))) = 2 ↔ (tpN σ (σ d) (n - (d + 1)) (d + 1) < n ∧ kd (tpN σ (σ d) (n - (d + 1)) (d + 1)) = 2)) := by
      have := (ykd (tpN σ (σ d) (n - (d + 1)) (d + 1)) (by omega)).2
      exact ⟨fun q => ⟨hlt, (nI_is 2 rfl (by omega) (by omega)).mp q⟩, fun q => by rw [q.2]; rfl⟩
    generalize htp : tpN σ (σ d) (n - (d + 1)) (d + 1) = t at *
    rw [kt.1] at e5
    subst e5
    have kdt := ykd t (by omega)
    have hne : ¬ (t = d + 1 ∧ kd d = 3 ∧ kd t = 3) → pkE kd σ n d = d := by
      intro q
      refine pkE_stop hd (fun w => q ?_)
      have e1 : t = d + 1 := by
        rw [← htp]
        by_cases c : d + 1 < n
        · rw [show n - (d + 1) = (n - (d + 2)) + 1 by omega]
          unfold tpN
          rw [if_pos w.2.2.2]
        · omega
      exact ⟨e1, w.1, by rw [e1]; exact w.2.2.1⟩
    refine ⟨fun _ => ⟨vp_in_nI (by omega) (by omega), fun v6 e6 => ?_⟩, fun q => absurd q (nI_m1 (by omega))⟩
    rw [nI_clamp (show t < 2 ^ 31 by omega), kdt.1] at e6
    subst e6
    rw [show nI d + 1 = nI (d + 1) from (nI_succ d).symm]
    refine ⟨fun c => own (hne fun q => c (by rw [q.1])) _ hx6, fun c => ⟨fun c2 => own (hne fun q => c2 (by rw [q.2.1]; rfl)) _ hx6, fun c2 => ⟨fun c3 => own (hne fun q => c3 (by rw [q.2.2]; rfl)) _ hx6, fun c3 => ?_⟩⟩⟩
    have c : t = d + 1 := (nI_eq (by omega) (by omega)).mp c
    have c2 : kd d = 3 := (nI_is 3 rfl (by omega) (by omega)).mp c2
    have c3 : kd t = 3 := (nI_is 3 rfl (by omega) (by omega)).mp c3
    have hpk : pkE kd σ n d = pkE kd σ n t := by rw [c]; exact pkE_step c2 (by omega) (by rw [← c]; exact c3) (by rw [← c]; exact hhit)
    have hgt := pkE_lt (kd := kd) (σ := σ) hlt
    refine ⟨vp_in_nI hσ (by omega), vp_in_nI (by omega) (by omega), vp_in_nI hσ (by omega), fin _ _ (CFr.rf.ca _ rfl) rfl rfl (fun p q => ?_) ?_ ?_ rfl rfl hx6⟩
    · rw [ca_get_ne _ _ (by decide), ca_get, upd_other _ _ q]
      exact ⟨rfl, rfl⟩
    · rw [ca_get_ne _ _ (by decide), kt.2.1, hpk]
    · rw [ca_get, upd_same, kt.2.2, hw, nI_add, hpk]
      rw [show pkE kd σ n t + 1 - d = (pkE kd σ n t + 1 - t) + 1 by omega]
      show _ = nI (P ^ d + ldF P (d + 1) _)
      rw [← c, Nat.add_comm]
  · have kt := kt.2 hlt
    have hx6 : ((0 : Int32) = 2 ↔ (tpN σ (σ d) (n - (d + 1)) (d + 1) < n ∧ kd (tpN σ (σ d) (n - (d + 1)) (d + 1)) = 2)) := ⟨fun q => absurd q (by decide), fun q => absurd q.1 hlt⟩
    have hpk : pkE kd σ n d = d := by
      refine pkE_stop hd (fun w => hlt ?_)
      rw [show n - (d + 1) = (n - (d + 2)) + 1 by omega]
      unfold tpN
      rw [if_pos w.2.2.2]
      exact w.2.1
    rw [kt] at e5
    subst e5
    rw [show nI d + 1 = nI (d + 1) from (nI_succ d).symm]
    exact ⟨fun q => absurd rfl q, fun _ => ⟨fun _ => own hpk _ hx6, fun q => absurd q.symm (nI_m1 (by omega))⟩⟩
theorem k_read (l : Launch) {S : CS} {n P : Nat} {kd ct sg : Nat → Nat} (hy : CY S n P kd ct sg) {x : Nat} (hx : x < P ^ n) (post : CS → Prop) (hp : ∀ T, CFr lA lB nn S T → LKd T n P kd (dgs P x) x 0 → post T) : cX_X3_read l S (nI x) post := by
  have hy0 := hy
  obtain ⟨yP, yn, yN, yP2, yn2, yw, ykd, yct, ysg⟩ := hy
  refine c_X3_read l S _ post ?_
  intro B28 B45 B73 h28 h45 h73
  unfold cT_X3_read_e
  have hpb := pow_b yP2 yn2.2
  have key : ∀ d, d ≤ n → ∀ T, CFr lA lB nn S T → LKd T n P kd (dgs P x) x d → B28 T (nI (x % P ^ d)) (nI d - 1) := by
    intro d
    induction d with
    | zero =>
      intro _ T fT hT
      refine h28 _ _ _ ?_
      unfold cT_X3_read_28
      exact ⟨fun _ => hp T fT hT, fun q => absurd (by decide) q⟩
    | succ d ih =>
      intro hd T fT hT
      have hyT := hy0.fr fT
      have hq5 : dgs P x d < P := dgs_lt (by omega) x d
      have hPd : P ^ (d + 1) ≤ P ^ n := Nat.pow_le_pow_right (by omega) hd
      have hPd1 : 0 < P ^ d := Nat.pow_pos (by omega)
      refine h28 _ _ _ ?_
      unfold cT_X3_read_28
      rw [nI_pred, nI_clamp (show d < 2 ^ 31 by omega), hyT.2.2.2.2.2.1 d (by omega)]
      refine ⟨fun q => absurd q (nI_pos (by omega)), fun _ => ⟨vp_in_nI (by omega) (by omega), fun v5 e5 => ?_⟩⟩
      subst e5
      obtain ⟨r, hr⟩ : ∃ r, r = x % P ^ (d + 1) := ⟨_, rfl⟩
      rw [← hr]
      have hrl : r < P ^ (d + 1) := by rw [hr]; exact Nat.mod_lt _ (Nat.pow_pos (by omega))
      have hrq : r / P ^ d = dgs P x d := by
        rw [hr, Nat.pow_succ, Nat.mod_mul_right_div_self]; rfl
      have hrm : r % P ^ d = x % P ^ d := by rw [hr, Nat.pow_succ, Nat.mod_mul_right_mod]
      have hdm : r = dgs P x d * P ^ d + r % P ^ d := by
        rw [← hrq, Nat.mul_comm]; exact (Nat.div_add_mod r (P ^ d)).symm
      have hml : r % P ^ d < P ^ d := Nat.mod_lt _ hPd1
      have hge : dgs P x d * P ^ d ≤ r := by
        have := Nat.le_add_right (dgs P x d * P ^ d) (r % P ^ d)
        rw [← hdm] at this
        exact this
      have hPd0 : P ^ d ≤ P ^ n := Nat.pow_le_pow_right (by omega) (by omega)
      have e73 : B73 T (nI (r - dgs P x d * P ^ d)) (nI d) (nI (dgs P x d)) := by
        refine h73 _ _ _ _ ?_
        unfold cT_X3_read_73
        refine ⟨vp_in_nI (by omega) (by omega), ?_⟩
        rw [nI_clamp (show d < 2 ^ 31 by omega)]
        have f2 : CFr lA lB nn S (ca T 13 (upd (T.2.1 13) d (nI (dgs P x d)))) := fT.ca _ rfl
        refine k_lay l (hy0.fr f2) (σ := dgs P x) (x := x) (by omega) (by omega) (by rw [ca_get, upd_same]) ?_ _ (fun U fU hU => ?_)
        · obtain ⟨a1, a2, a3, a4⟩ := hT
          refine ⟨fun j h1 h2 => ?_, a2, a3, a4⟩
          rw [ca_get, upd_other _ _ (by omega)]
          exact a1 j h1 h2
        · rw [i_sub1, show r - dgs P x d * P ^ d = x % P ^ d by omega]
          exact ih (by omega) U (f2.tr fU) hU
      have e45 : ∀ k p, p + k = dgs P x d → B45 T (nI (r - p * P ^ d)) (nI d) (nI (P ^ d)) (nI p) := by
        intro k
        induction k with
        | zero =>
          intro p hpq
          have : p = dgs P x d := by omega
          subst this
          refine h45 _ _ _ _ _ ?_
          unfold cT_X3_read_45
          refine ⟨fun _ => e73, fun _ => ⟨fun _ => e73, fun q => absurd (nI_lt ?_ ?_) q⟩⟩
          · omega
          · omega
        | succ k ihk =>
          intro p hpq
          have hmm : (p + 1) * P ^ d ≤ dgs P x d * P ^ d := Nat.mul_le_mul_right _ (by omega)
          rw [Nat.succ_mul] at hmm
          refine h45 _ _ _ _ _ ?_
          unfold cT_X3_read_45
          rw [hyT.1]
          obtain ⟨P', hP'⟩ : ∃ P', P = P' + 1 := ⟨P - 1, by omega⟩
          rw [show nI P - 1 = nI (P - 1) by rw [hP', nI_pred]; rfl]
          refine ⟨fun q => absurd q (nI_ge (by omega) (by omega)), fun _ => ⟨fun q => absurd q (nI_nlt (by omega) (by omega)), fun _ v e => ?_⟩⟩
          rw [pk_sub (by omega)] at e
          rw [e, ← nI_succ, show r - p * P ^ d - P ^ d = r - (p + 1) * P ^ d by rw [Nat.succ_mul]; omega]
          exact ihk (p + 1) (by omega)
      have := e45 (dgs P x d) 0 (by omega)
      rw [Nat.zero_mul, Nat.sub_zero] at this
      exact this
  intro v e
  rw [yn] at e
  rw [e]
  have h1 : CFr lA lB nn S (ca (cf (cf S 7 (nI x)) 8 1) 14 (filI (S.2.1 14) 5 (-1))) := ((CFr.rf.cf _ rfl).cf _ rfl).ca _ rfl
  have := key n (Nat.le_refl n) _ h1 ?_
  · rw [Nat.mod_eq_of_lt hx] at this
    exact this
  · refine ⟨fun j h1 h2 => absurd h2 (by omega), fun p hp5 => ?_, ?_, ?_⟩
    · rw [Nat.sub_self]
      refine ⟨fun q => absurd q (by simp [tpN]), fun _ => ?_⟩
      rw [ca_get]
      unfold filI
      rw [if_pos hp5]
    · rw [Nat.sub_self]
      show va_up (va_up S.1 7 (nI x)) 8 1 8 = _
      rw [va_up_same]; rfl
    · show va_up (va_up S.1 7 (nI x)) 8 1 7 = _
      rw [va_up_other _ _ (by decide), va_up_same]
/-- the look at the stand x -/
abbrev LK (T : CS) (n P : Nat) (kd : Nat → Nat) (x : Nat) : Prop := LKd T n P kd (dgs P x) x 0
theorem LK.top {T : CS} {n P : Nat} {kd : Nat → Nat} {x : Nat} (h : LK T n P kd x) {p : Nat} (hp : p < 5) (ht : topN (dgs P x) p n < n) : T.2.1 14 p = nI (topN (dgs P x) p n) ∧ T.2.1 15 p = nI (pkE kd (dgs P x) n (topN (dgs P x) p n)) ∧ T.2.1 16 p = nI (ldF P (topN (dgs P x) p n) (pkE kd (dgs P x) n (topN (dgs P x) p n) + 1 - topN (dgs P x) p n)) := (h.2.1 p hp).1 ht
theorem LK.bare {T : CS} {n P : Nat} {kd : Nat → Nat} {x : Nat} (h : LK T n P kd x) {p : Nat} (hp : p < 5) (ht : topN (dgs P x) p n = n) : T.2.1 14 p = -1 := (h.2.1 p hp).2 (by show ¬ topN (dgs P x) p n < n; omega)
theorem ix5 {a b : Nat} : nI a * 5 + nI b = nI (5 * a + b) := by
  rw [show (5 : Int32) = nI 5 from rfl, pk_mul, nI_add, Nat.mul_comm]
theorem k_hind (l : Launch) {S : CS} {n P : Nat} {kd ct sg : Nat → Nat} (hy : CY S n P kd ct sg) {x : Nat} (hk : LK S n P kd x) {a b : Nat} (ha : a < 5) (hb : b < 5) (post : Int32 → CS → Prop) (h : post (nI (whyN n kd ct sg (dgs P x) a b)) S) : cX_X3_hindrance l S (nI a) (nI b) post := by
  obtain ⟨yP, yn, yN, yP2, yn2, yw, ykd, yct, ysg⟩ := hy
  refine c_X3_hindrance l S _ _ post ?_
  intro B52 B67 h52 h67
  unfold cT_X3_hindrance_e
  rw [ix5, nI_clamp (show 5 * a + b < 2 ^ 31 by omega), nI_clamp (show a < 2 ^ 31 by omega)]
  have c0 := yct (5 * a + b) (by omega)
  have g0 := ysg (5 * a + b) (by omega)
  have i25 : vp_in (nI (5 * a + b)) 25 := vp_in_nI (by omega) (by omega)
  have ia : vp_in (nI a) 5 := vp_in_nI ha (by omega)
  have ib : vp_in (nI b) 5 := vp_in_nI hb (by omega)
  have hle := topN_le (dgs P x) a n
  have hle2 := topN_le (dgs P x) b n
  rw [c0.1]
  refine ⟨i25, fun c => ⟨ia, fun c2 => ⟨ia, ?_⟩, fun c2 => ?_⟩, fun c => ?_⟩
  · have c1 : ¬ ct (5 * a + b) = 0 := fun q => c (by rw [q]; rfl)
    have hd : topN (dgs P x) a n < n := by
      rcases Nat.lt_or_ge (topN (dgs P x) a n) n with q | q
      · exact q
      · exact absurd (hk.bare ha (by omega)) c2
    obtain ⟨t1, t2, t3⟩ := hk.top ha hd
    have hg := pkE_lt (kd := kd) (σ := dgs P x) hd
    have hgk := pkE_kd (kd := kd) (σ := dgs P x) hd
    rw [t2]
    generalize hge : pkE kd (dgs P x) n (topN (dgs P x) a n) = g at hg hgk t2 ⊢
    have kg := ykd g (by omega)
    refine ⟨vp_in_nI (by omega) (by omega), fun v4 e4 => ?_⟩
    rw [nI_clamp (show g < 2 ^ 31 by omega), kg.1] at e4
    subst e4
    have b67 : ¬ ((kd (topN (dgs P x) a n) = 1 ∨ kd (topN (dgs P x) a n) = 2) ∧ sg (5 * a + b) = 0) → B67 S (nI (kd g)) := fun c3 => by
      refine h67 _ _ ?_
      unfold cT_X3_hindrance_67
      rw [nI_clamp (show b < 2 ^ 31 by omega), nI_clamp (show a < 2 ^ 31 by omega), t2]
      refine ⟨ib, fun v5 e5 => ?_⟩
      have hw : whyN n kd ct sg (dgs P x) a b = if topN (dgs P x) b n = n then 0 else if topN (dgs P x) b n < g then 4 else if kd (topN (dgs P x) b n) = 2 ∧ kd g ≠ 2 then 5 else 0 := by
        unfold whyN
        rw [if_neg c1, if_neg (by omega), if_neg c3, hge]
      by_cases ht : topN (dgs P x) b n < n
      · rw [(hk.top hb ht).1] at e5
        subst e5
        rw [if_neg (by omega)] at hw
        have kt := ykd (topN (dgs P x) b n) (by omega)
        refine ⟨fun _ => ⟨ia, fun c4 => ⟨vp_in_nI (by omega) (by omega), ?_⟩, fun c4 => ?_⟩, fun q => absurd q (nI_m1 (by omega))⟩
        · have c4 : g ≤ topN (dgs P x) b n := (nI_leI (by omega) (by omega)).mp c4
          rw [if_neg (by omega)] at hw
          rw [nI_clamp (show topN (dgs P x) b n < 2 ^ 31 by omega), kt.1]
          refine ⟨fun c5 => ?_, fun c5 => ⟨fun c6 => ?_, fun c6 => ?_⟩⟩
          · rw [if_neg (fun q => c5 (by rw [q.1]; rfl))] at hw
            rw [hw] at h; exact h
          · have c6 : kd g = 2 := (nI_is 2 rfl (by omega) (by omega)).mp c6
            rw [if_neg (fun q => q.2 c6)] at hw
            rw [hw] at h; exact h
          · have c5 : kd (topN (dgs P x) b n) = 2 := (nI_is 2 rfl (by omega) (by omega)).mp c5
            rw [if_pos ⟨c5, fun q => c6 (by rw [q]; rfl)⟩] at hw
            rw [hw] at h; exact h
        · have c4 : topN (dgs P x) b n < g := by
            rcases Nat.lt_or_ge (topN (dgs P x) b n) g with q | q
            · exact q
            · exact absurd (nI_le q (by omega)) c4
          rw [if_pos c4] at hw
          rw [hw] at h; exact h
      · rw [hk.bare hb (by omega)] at e5
        subst e5
        rw [if_pos (by omega)] at hw
        refine ⟨fun q => absurd rfl q, fun _ => ?_⟩
        rw [hw] at h; exact h
    have b52 : (kd (topN (dgs P x) a n) = 1 ∨ kd (topN (dgs P x) a n) = 2) → B52 S (nI (kd g)) := fun c3 => by
      refine h52 _ _ ?_
      unfold cT_X3_hindrance_52
      rw [ix5, nI_clamp (show 5 * a + b < 2 ^ 31 by omega), g0.1]
      refine ⟨i25, fun c4 => b67 (fun q => c4 (by rw [q.2]; rfl)), fun c4 => ?_⟩
      have c4 : sg (5 * a + b) = 0 := (nI_is 0 rfl (by omega) (by omega)).mp c4
      have hw : whyN n kd ct sg (dgs P x) a b = 3 := by
        unfold whyN
        rw [if_neg c1, if_neg (by omega), if_pos ⟨c3, c4⟩]
      rw [hw] at h; exact h
    refine ⟨fun c3 => b52 ?_, fun c3 => ⟨fun c4 => b67 ?_, fun c4 => b52 ?_⟩⟩
    · rw [← hgk]; exact Or.inl ((nI_is 1 rfl (by omega) (by omega)).mp c3)
    · rintro ⟨q | q, -⟩
      · exact c3 (by rw [hgk, q]; rfl)
      · exact c4 (by rw [hgk, q]; rfl)
    · rw [← hgk]; exact Or.inr ((nI_is 2 rfl (by omega) (by omega)).mp c4)
  · have c1 : ¬ ct (5 * a + b) = 0 := fun q => c (by rw [q]; rfl)
    have hd : topN (dgs P x) a n = n := by
      rcases Nat.lt_or_ge (topN (dgs P x) a n) n with q | q
      · rw [(hk.top ha q).1] at c2
        exact absurd c2 (nI_m1 (by omega))
      · omega
    have hw : whyN n kd ct sg (dgs P x) a b = 2 := by
      unfold whyN
      rw [if_neg c1, if_pos hd]
    rw [hw] at h; exact h
  · have c1 : ct (5 * a + b) = 0 := (nI_is 0 rfl (by omega) (by omega)).mp c
    have hw : whyN n kd ct sg (dgs P x) a b = 1 := by unfold whyN; rw [if_pos c1]
    rw [hw] at h; exact h
theorem i32_land {x a b L t : Int32} (h : t + a * L = x + b * L) : x + (b - a) * L = t := by grind
theorem k_land (l : Launch) {S : CS} {n P : Nat} {kd : Nat → Nat} {x : Nat} (hx : x < P ^ n) (hk : LK S n P kd x) {a b : Nat} (ha : a < 5) (ht : topN (dgs P x) a n < n) (post : Int32 → CS → Prop) (h : post (nI (packN (movN n kd (dgs P x) a b) P n 0)) S) : cX_X3_landing l S (nI a) (nI b) post := by
  refine c_X3_landing l S _ _ post ?_
  unfold cT_X3_landing_e
  rw [nI_clamp (show a < 2 ^ 31 by omega), hk.2.2.2, (hk.top ha ht).2.2]
  refine ⟨vp_in_nI ha (by omega), ?_⟩
  have e := mov_num (kd := kd) (a := a) (b := b) hx ht
  rw [i32_land (t := nI (packN (movN n kd (dgs P x) a b) P n 0)) (by rw [pk_mul, nI_add, e, pk_mul, nI_add])]
  exact h
theorem k_size (l : Launch) {S : CS} {n P : Nat} {kd : Nat → Nat} {x : Nat} (hk : LK S n P kd x) {a : Nat} (ha : a < 5) (ht : topN (dgs P x) a n < n) (post : Int32 → CS → Prop) (h : post (nI (pkE kd (dgs P x) n (topN (dgs P x) a n) - topN (dgs P x) a n + 1)) S) : cX_X3_packSize l S (nI a) post := by
  refine c_X3_packSize l S _ post ?_
  unfold cT_X3_packSize_e
  have hg := pkE_lt (kd := kd) (σ := dgs P x) ht
  rw [nI_clamp (show a < 2 ^ 31 by omega), (hk.top ha ht).2.1, (hk.top ha ht).1, pk_sub hg.1, nI_1]
  exact ⟨vp_in_nI ha (by omega), vp_in_nI ha (by omega), h⟩
end
section
-- the moves of a stand, in their order
def mvB (g : Nat → Nat → Bool) (a : Nat) : Nat → Nat → List (Nat × Nat)
  | 0, _ => []
  | k + 1, b => if g a b then (a, b) :: mvB g a k (b + 1) else mvB g a k (b + 1)
def mvA (g : Nat → Nat → Bool) (P : Nat) : Nat → Nat → List (Nat × Nat)
  | 0, _ => []
  | k + 1, a => mvB g a P 0 ++ mvA g P k (a + 1)
def mvL (n P : Nat) (kd ct sg : Nat → Nat) (x : Nat) : List (Nat × Nat) := mvA (fun a b => (tgN n P kd ct sg x a b).isSome) P P 0
theorem mvB_mem {g : Nat → Nat → Bool} {a : Nat} : ∀ k b p q, (p, q) ∈ mvB g a k b ↔ p = a ∧ b ≤ q ∧ q < b + k ∧ g a q = true := by
  intro k
  induction k with
  | zero =>
    intro b p q
    constructor
    · intro h; cases h
    · rintro ⟨-, h1, h2, -⟩; omega
  | succ k ih =>
    intro b p q
    unfold mvB
    by_cases c : g a b = true
    · rw [if_pos c, List.mem_cons, ih]
      constructor
      · rintro (h | ⟨h1, h2, h3, h4⟩)
        · cases h; exact ⟨rfl, Nat.le_refl _, by omega, c⟩
        · exact ⟨h1, by omega, by omega, h4⟩
      · rintro ⟨h1, h2, h3, h4⟩
        by_cases e : q = b
        · left; rw [h1, e]
        · right; exact ⟨h1, by omega, by omega, h4⟩
    · rw [if_neg c, ih]
      constructor
      · rintro ⟨h1, h2, h3, h4⟩; exact ⟨h1, by omega, by omega, h4⟩
      · rintro ⟨h1, h2, h3, h4⟩
        have : q ≠ b := fun e => c (by rw [← e]; exact h4)
        exact ⟨h1, by omega, by omega, h4⟩
theorem mvA_mem {g : Nat → Nat → Bool} {P : Nat} : ∀ k a p q, (p, q) ∈ mvA g P k a ↔ a ≤ p ∧ p < a + k ∧ q < P ∧ g p q = true := by
  intro k
  induction k with
  | zero =>
    intro a p q
    constructor
    · intro h; cases h
    · rintro ⟨h1, h2, -⟩; omega
  | succ k ih =>
    intro a p q
    unfold mvA
    rw [List.mem_append, mvB_mem, ih]
    constructor
    · rintro (⟨h1, h2, h3, h4⟩ | ⟨h1, h2, h3, h4⟩)
      · subst h1; exact ⟨Nat.le_refl _, by omega, by omega, h4⟩
      · exact ⟨by omega, by omega, h3, h4⟩
    · rintro ⟨h1, h2, h3, h4⟩
      by_cases e : p = a
      · subst e; left; exact ⟨rfl, Nat.zero_le _, by omega, h4⟩
      · right; exact ⟨by omega, by omega, h3, h4⟩
theorem mvL_mem {n P : Nat} {kd ct sg : Nat → Nat} {x a b : Nat} : (a, b) ∈ mvL n P kd ct sg x ↔ (tgN n P kd ct sg x a b).isSome = true := by
  unfold mvL
  rw [mvA_mem]
  constructor
  · exact fun h => h.2.2.2
  · intro h
    obtain ⟨t, ht⟩ := Option.isSome_iff_exists.mp h
    unfold tgN at ht
    split at ht
    · next q => exact ⟨Nat.zero_le _, by omega, q.2.1, h⟩
    · cases ht
theorem mvB_len {g : Nat → Nat → Bool} {a : Nat} : ∀ k b, (mvB g a k b).length ≤ k := by
  intro k
  induction k with
  | zero => intro b; exact Nat.le_refl 0
  | succ k ih =>
    intro b
    unfold mvB
    have := ih (b + 1)
    split
    · rw [List.length_cons]; omega
    · omega
theorem mvA_len {g : Nat → Nat → Bool} {P : Nat} : ∀ k a, (mvA g P k a).length ≤ k * P := by
  intro k
  induction k with
  | zero => intro a; exact Nat.zero_le _
  | succ k ih =>
    intro a
    unfold mvA
    have h1 := mvB_len (g := g) (a := a) P 0
    have h2 := ih (a + 1)
    rw [List.length_append, Nat.succ_mul]
    omega
theorem mvL_len {n P : Nat} {kd ct sg : Nat → Nat} {x : Nat} (hP : P ≤ 5) : (mvL n P kd ct sg x).length ≤ 25 := by
  have h1 := mvA_len (g := fun a b => (tgN n P kd ct sg x a b).isSome) (P := P) P 0
  have h2 : P * P ≤ 5 * 5 := Nat.mul_le_mul hP hP
  unfold mvL
  omega
theorem mvB_nil {g : Nat → Nat → Bool} {a : Nat} : ∀ k b, (∀ q, b ≤ q → q < b + k → g a q = false) → mvB g a k b = [] := by
  intro k
  induction k with
  | zero => intro b _; rfl
  | succ k ih =>
    intro b h
    unfold mvB
    rw [if_neg (by rw [h b (Nat.le_refl _) (by omega)]; decide)]
    exact ih (b + 1) (fun q h1 h2 => h q (by omega) (by omega))
/-- the moves that are listed: those of L, in order -/
def SPL (T : CS) (n P : Nat) (kd ct sg : Nat → Nat) (x : Nat) (L : List (Nat × Nat)) : Prop := T.1 6 = nI L.length ∧ ∀ (i : Nat) (a b : Nat), L[i]? = some (a, b) → ∃ t, tgN n P kd ct sg x a b = some t ∧ T.2.1 17 i = nI (10 * a + b) ∧ T.2.1 18 i = nI t ∧ T.2.1 19 i = nI (ct (5 * a + b))
set_option maxHeartbeats 1000000 in
theorem k_spread (l : Launch) {S : CS} {n P : Nat} {kd ct sg : Nat → Nat} (hy : CY S n P kd ct sg) (hz : ∀ a, a < 5 → ct (5 * a + a) = 0) {x : Nat} (hx : x < P ^ n) (hk : LK S n P kd x) (post : CS → Prop) (hp : ∀ T, CFr sA sB nn S T → SPL T n P kd ct sg x (mvL n P kd ct sg x) → post T) : cX_X3_spread l S post := by
  have yP2 := hy.2.2.2.1
  refine c_X3_spread l S post ?_
  intro B7 B30 B107 B113 h7 h30 h107 h113
  unfold cT_X3_spread_e
  obtain ⟨g, hg⟩ : ∃ g : Nat → Nat → Bool, g = fun a b => (tgN n P kd ct sg x a b).isSome := ⟨_, rfl⟩
  have hml : mvL n P kd ct sg x = mvA g P P 0 := by rw [hg]; rfl
  have hgw : ∀ a b, a < P → b < P → (g a b = true ↔ whyN n kd ct sg (dgs P x) a b = 0) := by
    intro a b ha hb
    rw [hg]
    show (tgN n P kd ct sg x a b).isSome = true ↔ _
    unfold tgN
    by_cases w : whyN n kd ct sg (dgs P x) a b = 0
    · have hab : a ≠ b := by
        intro e
        rw [e] at w
        unfold whyN at w
        rw [if_pos (hz b (by omega))] at w
        exact absurd w (by decide)
      rw [if_pos ⟨ha, hb, hab, w⟩]
      exact ⟨fun _ => w, fun _ => rfl⟩
    · rw [if_neg (fun q => w q.2.2.2)]
      exact ⟨fun q => absurd q (by decide), fun q => absurd q w⟩
  -- the inner loop
  have e30 : ∀ a, a < P → ∀ k b, b + k = P → ∀ (T : CS) (L : List (Nat × Nat)), CFr sA sB nn S T → SPL T n P kd ct sg x L → L.length ≤ 5 * a + b → (∀ T', CFr sA sB nn S T' → SPL T' n P kd ct sg x (L ++ mvB g a k b) → B113 T' (nI a)) → B30 T (nI a) (nI b) := by
    intro a ha k
    induction k with
    | zero =>
      intro b hb T L fT sT _ next
      have : b = P := by omega
      subst this
      have hyT := hy.fr fT
      refine h30 _ _ _ ?_
      unfold cT_X3_spread_30
      rw [hyT.1]
      exact ⟨fun _ => next T fT (by rw [show mvB g a 0 b = [] from rfl, List.append_nil]; exact sT), fun q => absurd (nI_le (Nat.le_refl _) (by omega)) q⟩
    | succ k ih =>
      intro b hb T L fT sT hL next
      have hyT := hy.fr fT
      have hkT := hk.fr fT
      refine h30 _ _ _ ?_
      unfold cT_X3_spread_30
      rw [hyT.1]
      refine ⟨fun q => absurd q (nI_ge (by omega) (by omega)), fun _ => ?_⟩
      refine k_hind l hyT hkT (by omega) (by omega) _ ?_
      have hwl : whyN n kd ct sg (dgs P x) a b < 6 := by
        unfold whyN
        repeat' split
        all_goals omega
      have hgb := hgw a b ha (by omega)
      refine ⟨fun c => ?_, fun c => ?_⟩
      · have c1 : ¬ whyN n kd ct sg (dgs P x) a b = 0 := fun q => c (by rw [q]; rfl)
        refine h107 _ _ _ ?_
        unfold cT_X3_spread_107
        rw [← nI_succ]
        refine ih (b + 1) (by omega) T L fT sT (by omega) (fun T' f' s' => next T' f' ?_)
        have e : mvB g a (k + 1) b = mvB g a k (b + 1) := by
          conv => lhs; unfold mvB
          rw [if_neg (fun q => c1 (hgb.mp q))]
        rw [e]; exact s'
      · have c1 : whyN n kd ct sg (dgs P x) a b = 0 := (nI_is 0 rfl (by omega) (by omega)).mp c
        have hgt := hgb.mpr c1
        have htop := whyN_top c1
        have hlen : L.length < 25 := by omega
        have hab : a ≠ b := by
          intro e
          rw [e] at c1
          unfold whyN at c1
          rw [if_pos (hz b (by omega))] at c1
          exact absurd c1 (by decide)
        have htg : tgN n P kd ct sg x a b = some (packN (movN n kd (dgs P x) a b) P n 0) := by
          unfold tgN
          rw [if_pos ⟨ha, by omega, hab, c1⟩]
        have i6 : vp_in (T.1 6) 25 := by rw [sT.1]; exact vp_in_nI hlen (by omega)
        refine ⟨i6, ?_⟩
        have f1 : CFr sA sB nn S (ca T 17 (upd (T.2.1 17) (T.1 6).toNatClampNeg (10 * nI a + nI b))) := fT.ca _ rfl
        have k1 := hk.fr f1
        refine k_land l hx k1 (by omega) htop _ ⟨i6, ?_, i6, ?_⟩
        · rw [ix5]; exact vp_in_nI (by omega) (by omega)
        refine h107 _ _ _ ?_
        unfold cT_X3_spread_107
        rw [← nI_succ]
        have e1 : (ca T 17 (upd (T.2.1 17) (T.1 6).toNatClampNeg (10 * nI a + nI b))).1 6 = T.1 6 := rfl
        have e2 : (ca T 17 (upd (T.2.1 17) (T.1 6).toNatClampNeg (10 * nI a + nI b))).2.1 18 = T.2.1 18 := rfl
        have e3 : (ca T 17 (upd (T.2.1 17) (T.1 6).toNatClampNeg (10 * nI a + nI b))).2.1 19 = T.2.1 19 := rfl
        have e4 : (ca T 17 (upd (T.2.1 17) (T.1 6).toNatClampNeg (10 * nI a + nI b))).2.1 11 = T.2.1 11 := rfl
        rw [e1, e2, e3, e4, sT.1, ix5, nI_clamp (show L.length < 2 ^ 31 by omega), nI_clamp (show 5 * a + b < 2 ^ 31 by omega), (hyT.2.2.2.2.2.2.2.1 (5 * a + b) (by omega)).1]
        refine ih (b + 1) (by omega) _ (L ++ [(a, b)]) ?_ ?_ (by rw [List.length_append, List.length_singleton]; omega) (fun T' f' s' => next T' f' ?_)
        · exact (((fT.ca _ rfl).ca _ rfl).ca _ rfl).cf _ rfl
        · refine ⟨?_, fun i p q hi => ?_⟩
          · rw [cf_get, List.length_append, List.length_singleton, nI_1]
          · show ∃ t, tgN n P kd ct sg x p q = some t ∧ upd (T.2.1 17) L.length (10 * nI a + nI b) i = nI (10 * p + q) ∧ upd (T.2.1 18) L.length (nI (packN (movN n kd (dgs P x) a b) P n 0)) i = nI t ∧ upd (T.2.1 19) L.length (nI (ct (5 * a + b))) i = nI (ct (5 * p + q))
            by_cases e : i = L.length
            · subst e
              rw [List.getElem?_append_right (Nat.le_refl _), Nat.sub_self] at hi
              cases hi
              rw [upd_same, upd_same, upd_same]
              refine ⟨_, htg, ?_, rfl, rfl⟩
              rw [show (10 : Int32) = nI 10 from rfl, pk_mul, nI_add]
            · have hlt : i < L.length := by
                have := (List.getElem?_eq_some_iff.mp hi).1
                rw [List.length_append, List.length_singleton] at this
                omega
              rw [List.getElem?_append_left hlt] at hi
              rw [upd_other _ _ e, upd_other _ _ e, upd_other _ _ e]
              exact sT.2 i p q hi
        · have e : mvB g a (k + 1) b = (a, b) :: mvB g a k (b + 1) := by
            conv => lhs; unfold mvB
            rw [if_pos hgt]
          rw [e]
          rw [List.append_assoc] at s'
          exact s'
  have e7 : ∀ k a, a + k = P → ∀ (T : CS) (L : List (Nat × Nat)), CFr sA sB nn S T → SPL T n P kd ct sg x L → L.length ≤ 5 * a → L ++ mvA g P k a = mvL n P kd ct sg x → B7 T (nI a) := by
    intro k
    induction k with
    | zero =>
      intro a ha T L fT sT _ he
      have : a = P := by omega
      subst this
      refine h7 _ _ ?_
      unfold cT_X3_spread_7
      rw [(hy.fr fT).1]
      refine ⟨fun _ => hp T fT ?_, fun q => absurd (nI_le (Nat.le_refl _) (by omega)) q⟩
      rw [← he, show mvA g a 0 a = [] from rfl, List.append_nil]
      exact sT
    | succ k ih =>
      intro a ha T L fT sT hL he
      have next : ∀ T', CFr sA sB nn S T' → SPL T' n P kd ct sg x (L ++ mvB g a P 0) → B113 T' (nI a) := by
        intro T' f' s'
        refine h113 _ _ ?_
        unfold cT_X3_spread_113
        rw [← nI_succ]
        refine ih (a + 1) (by omega) T' _ f' s' ?_ ?_
        · have := mvB_len (g := g) (a := a) P 0
          rw [List.length_append]; omega
        · rw [List.append_assoc]; exact he
      refine h7 _ _ ?_
      unfold cT_X3_spread_7
      rw [(hy.fr fT).1, nI_clamp (show a < 2 ^ 31 by omega)]
      refine ⟨fun q => absurd q (nI_ge (by omega) (by omega)), fun _ => ⟨vp_in_nI (by omega) (by omega), fun c => ?_, fun c => ?_⟩⟩
      · exact e30 a (by omega) P 0 (by omega) T L fT sT (by omega) next
      · refine next T fT ?_
        have hkT := hk.fr fT
        have htn : topN (dgs P x) a n = n := by
          have := topN_le (dgs P x) a n
          rcases Nat.lt_or_ge (topN (dgs P x) a n) n with q | q
          · have := (LK.top hkT (show a < 5 by omega) q).1
            have hn7 := hy.2.2.2.2.1
            rw [c] at this
            exact absurd this.symm (nI_m1 (by omega))
          · omega
        rw [mvB_nil P 0 (fun q _ hq => ?_), List.append_nil]
        · exact sT
        · cases e : g a q with
          | false => rfl
          | true =>
            have w := (hgw a q (by omega) (by omega)).mp e
            have := whyN_top w
            omega
  refine e7 P 0 (by omega) _ [] (CFr.rf.cf _ rfl) ⟨cf_get _ _ _, fun i a b h => by cases h⟩ (Nat.zero_le _) ?_
  rw [hml]; rfl
end
section
/-- K chains, apart from each other, of numbers below N -/
def BQ (K N : Nat) (hd aft bef : Nat → Int32) (L : Nat → List Nat) : Prop :=
  (∀ b, b < K → dl aft bef (-1) (L b) (hd b)) ∧ (∀ b, b < K → (L b).Nodup) ∧ (∀ b c x, b < K → c < K → x ∈ L b → x ∈ L c → b = c) ∧ (∀ b x, b < K → x ∈ L b → x < N)
theorem BQ.head {K N : Nat} {hd aft bef : Nat → Int32} {L : Nat → List Nat} (h : BQ K N hd aft bef L) {b : Nat} (hb : b < K) : (hd b = -1 ∧ L b = []) ∨ ∃ y ys, L b = y :: ys ∧ hd b = nI y ∧ y < N := by
  have h1 := h.1 b hb
  cases hL : L b with
  | nil => rw [hL] at h1; exact Or.inl ⟨h1, rfl⟩
  | cons y ys => rw [hL] at h1; exact Or.inr ⟨y, ys, rfl, h1.1, h.2.2.2 b y hb (by rw [hL]; exact List.mem_cons_self)⟩
theorem BQ.link {K N : Nat} {hd aft bef : Nat → Int32} {L : Nat → List Nat} (h : BQ K N hd aft bef L) (hN : N < 2 ^ 31) {b s : Nat} (hb : b < K) (hs : s < N) (hn : ∀ c, c < K → s ∉ L c) : BQ K N (upd hd b (nI s)) (upd aft s (hd b)) (rePrev (upd bef s (-1)) (hd b) (nI s)) (va_up L b (s :: L b)) := by
  obtain ⟨h1, h2, h3, h4⟩ := h
  have hnd : (s :: L b).Nodup := List.nodup_cons.mpr ⟨hn b hb, h2 b hb⟩
  have hcur : hd b = -1 ∨ ∃ y, y < 2 ^ 31 ∧ hd b = nI y := dl_cur (h1 b hb) (fun x hx => by have := h4 b x hb hx; omega)
  refine ⟨fun c hc => ?_, fun c hc => ?_, fun c d x hc hd' hx hy => ?_, fun c x hc hx => ?_⟩
  · by_cases e : c = b
    · subst e
      rw [va_up_same, upd_same]
      exact dl_push (h1 c hb) (fun x hx => by have := h4 c x hb hx; omega) (by omega) hnd
    · rw [va_up_other _ _ e, upd_other _ _ e]
      refine dl_congr (L c) _ _ (fun x hx => ?_) (h1 c hc)
      have hxN := h4 c x hc hx
      have hxs : x ≠ s := fun q => hn c hc (by rw [← q]; exact hx)
      refine ⟨(upd_other _ _ hxs).symm, ?_⟩
      have hne : hd b ≠ nI x := by
        intro q
        have h5 := h1 b hb
        cases hL : L b with
        | nil => rw [hL] at h5; rw [show hd b = -1 from h5] at q; exact nI_m1 (by omega) q.symm
        | cons y ys =>
          rw [hL] at h5
          have hy : y ∈ L b := by rw [hL]; exact List.mem_cons_self
          have hyN := h4 b y hb hy
          have e2 : y = x := (nI_eq (by omega) (by omega)).mp (h5.1.symm.trans q)
          exact e (h3 c b x hc hb hx (by rw [← e2]; exact hy))
      rw [rePrev_ne (by omega) hne hcur, upd_other _ _ hxs]
  · by_cases e : c = b
    · subst e; rw [va_up_same]; exact hnd
    · rw [va_up_other _ _ e]; exact h2 c hc
  · by_cases e : c = b
    · by_cases e2 : d = b
      · rw [e, e2]
      · subst e
        rw [va_up_same] at hx
        rw [va_up_other _ _ e2] at hy
        rcases List.mem_cons.mp hx with q | q
        · exact absurd (by rw [← q]; exact hy) (hn d hd')
        · exact h3 c d x hc hd' q hy
    · rw [va_up_other _ _ e] at hx
      by_cases e2 : d = b
      · subst e2
        rw [va_up_same] at hy
        rcases List.mem_cons.mp hy with q | q
        · exact absurd (by rw [← q]; exact hx) (hn c hc)
        · exact h3 c d x hc hd' hx q
      · rw [va_up_other _ _ e2] at hy
        exact h3 c d x hc hd' hx hy
  · by_cases e : c = b
    · subst e
      rw [va_up_same] at hx
      rcases List.mem_cons.mp hx with q | q
      · rw [q]; exact hs
      · exact h4 c x hc q
    · rw [va_up_other _ _ e] at hx
      exact h4 c x hc hx
/-- a chain that another one's change leaves as it is -/
theorem BQ.keep {K N : Nat} {hd aft bef : Nat → Int32} {L : Nat → List Nat} (h : BQ K N hd aft bef L) (hN : N < 2 ^ 31) {b c s : Nat} (hb : b < K) (hc : c < K) (e : c ≠ b) (hs : s ∈ L b) (p : Int32) (x : Nat) (hx : x ∈ L c) : rePrev bef (aft s) p x = bef x := by
  obtain ⟨h1, h2, h3, h4⟩ := h
  have hxN := h4 c x hc hx
  have key : ∀ (xs : List Nat) (pr cu : Int32), dl aft bef pr xs cu → s ∈ xs → aft s = -1 ∨ ∃ y, y ∈ xs ∧ aft s = nI y := by
    intro xs
    induction xs with
    | nil => intro pr cu _ hm; cases hm
    | cons w ws ih =>
      intro pr cu hd' hm
      rcases List.mem_cons.mp hm with q | q
      · subst q
        have h5 := hd'.2.2
        cases ws with
        | nil => exact Or.inl h5
        | cons y ys => exact Or.inr ⟨y, by simp, h5.1⟩
      · rcases ih _ _ hd'.2.2 q with r | ⟨y, hy, r⟩
        · exact Or.inl r
        · exact Or.inr ⟨y, List.mem_cons_of_mem _ hy, r⟩
  rcases key _ _ _ (h1 b hb) hs with q | ⟨y, hy, q⟩
  · unfold rePrev; rw [if_pos q]
  · have hyN := h4 b y hb hy
    refine rePrev_ne (by omega) ?_ (Or.inr ⟨y, by omega, q⟩)
    rw [q]
    intro r
    have r := (nI_eq (by omega) (by omega)).mp r
    exact e (h3 c b x hc hb hx (by rw [← r]; exact hy))
/-- unlink: s goes out of chain b; at its head, or behind z -/
theorem BQ.unlink {K N : Nat} {hd aft bef : Nat → Int32} {L : Nat → List Nat} (h : BQ K N hd aft bef L) (hN : N < 2 ^ 31) {b s : Nat} (hb : b < K) (hs : s ∈ L b) :
    (bef s = -1 ∧ hd b = nI s ∧ BQ K N (upd hd b (aft s)) aft (rePrev bef (aft s) (bef s)) (va_up L b ((L b).erase s))) ∨
    (∃ z, z ∈ L b ∧ z ≠ s ∧ bef s = nI z ∧ BQ K N hd (upd aft z (aft s)) (rePrev bef (aft s) (bef s)) (va_up L b ((L b).erase s))) := by
  have hk := fun (c : Nat) (hc : c < K) (e : c ≠ b) (p : Int32) (x : Nat) (hx : x ∈ L c) => h.keep hN hb hc e hs p x hx
  obtain ⟨h1, h2, h3, h4⟩ := h
  have hb4 : ∀ x, x ∈ L b → x < 2 ^ 31 := fun x hx => by have := h4 b x hb hx; omega
  have er : ∀ x, x ∈ (L b).erase s → x ∈ L b := fun x hx => List.mem_of_mem_erase hx
  have e2 : ∀ c, c < K → (va_up L b ((L b).erase s) c).Nodup := fun c hc => by
    by_cases e : c = b
    · subst e; rw [va_up_same]; exact (h2 c hc).erase s
    · rw [va_up_other _ _ e]; exact h2 c hc
  have sub : ∀ c x, c < K → x ∈ va_up L b ((L b).erase s) c → x ∈ L c := fun c x hc hx => by
    by_cases e : c = b
    · subst e; rw [va_up_same] at hx; exact er x hx
    · rw [va_up_other _ _ e] at hx; exact hx
  have e3 : ∀ c d x, c < K → d < K → x ∈ va_up L b ((L b).erase s) c → x ∈ va_up L b ((L b).erase s) d → c = d := fun c d x hc hd' hx hy => h3 c d x hc hd' (sub c x hc hx) (sub d x hd' hy)
  have e4 : ∀ c x, c < K → x ∈ va_up L b ((L b).erase s) c → x < N := fun c x hc hx => h4 c x hc (sub c x hc hx)
  obtain ⟨us, vs, hL⟩ := List.append_of_mem hs
  have hd1 := h1 b hb
  have hn := h2 b hb
  rcases List.eq_nil_or_concat us with hu | ⟨ws, z, hu⟩
  · subst hu
    left
    rw [List.nil_append] at hL
    rw [hL] at hd1 hn hb4
    obtain ⟨q1, q2, q3⟩ := dl_pop hd1 hb4 hn
    refine ⟨q2, q1, fun c hc => ?_, e2, e3, e4⟩
    by_cases e : c = b
    · subst e
      rw [va_up_same, upd_same, hL, List.erase_cons_head, q2]
      exact q3
    · rw [va_up_other _ _ e, upd_other _ _ e]
      exact dl_congr (L c) _ _ (fun x hx => ⟨rfl, (hk c hc e _ x hx).symm⟩) (h1 c hc)
  · right
    subst hu
    rw [List.concat_eq_append, List.append_assoc] at hL
    have hL : L b = ws ++ z :: s :: vs := hL
    have hz : z ∈ L b := by rw [hL]; simp
    rw [hL] at hd1 hn hb4
    obtain ⟨q1, q2⟩ := dl_del ws z _ _ hd1 hb4 hn
    have hzs : z ≠ s := by
      intro q
      have := (List.nodup_append.mp hn).2.1
      exact (List.nodup_cons.mp this).1 (by rw [q]; exact List.mem_cons_self)
    have hsw : s ∉ ws := fun q => by
      have := (List.nodup_append.mp hn).2.2 s q s (by simp)
      exact this rfl
    refine ⟨z, hz, hzs, q1, fun c hc => ?_, e2, e3, e4⟩
    by_cases e : c = b
    · subst e
      rw [va_up_same, hL, List.erase_append_right _ hsw, List.erase_cons_tail (by simpa using hzs), List.erase_cons_head, q1]
      exact q2
    · rw [va_up_other _ _ e]
      refine dl_congr (L c) _ _ (fun x hx => ⟨?_, (hk c hc e _ x hx).symm⟩) (h1 c hc)
      exact (upd_other _ _ (fun q => e (h3 c b x hc hb hx (by rw [q]; exact hz)))).symm
end
section
-- least costs, alone of how they are found
def DS (N st : Nat) (tg : Nat → Nat → Nat → Option Nat) (c : Nat → Nat → Nat) (fr : Nat → Option Nat) : Prop :=
  fr st = some 0 ∧ (∀ x, fr x ≠ none → x < N) ∧ (∀ x m, fr x = some m → (x = st ∧ m = 0) ∨ ∃ s a b k, tg s a b = some x ∧ fr s = some k ∧ m = k + c a b) ∧
  (∀ s k a b t, fr s = some k → tg s a b = some t → ∃ m, fr t = some m ∧ m ≤ k + c a b)
section DSS
variable {N st : Nat} {tg : Nat → Nat → Nat → Option Nat} {c : Nat → Nat → Nat} {fr fr2 : Nat → Option Nat}
theorem DS.half (h1 : DS N st tg c fr) (h2 : DS N st tg c fr2) (hc : ∀ s a b t, tg s a b = some t → 0 < c a b) : ∀ M x m, m ≤ M → fr x = some m → ∃ m', fr2 x = some m' ∧ m' ≤ m := by
  intro M
  induction M with
  | zero =>
    intro x m hm hx
    rcases h1.2.2.1 x m hx with ⟨e1, e2⟩ | ⟨s, a, b, k, e1, e2, e3⟩
    · subst e1; exact ⟨0, h2.1, Nat.zero_le _⟩
    · have := hc s a b x e1; omega
  | succ M ih =>
    intro x m hm hx
    rcases h1.2.2.1 x m hx with ⟨e1, e2⟩ | ⟨s, a, b, k, e1, e2, e3⟩
    · subst e1; exact ⟨0, h2.1, Nat.zero_le _⟩
    · have := hc s a b x e1
      obtain ⟨k', q1, q2⟩ := ih s k (by omega) e2
      obtain ⟨m', q3, q4⟩ := h2.2.2.2 s k' a b x q1 e1
      exact ⟨m', q3, by omega⟩
theorem DS.uniq (h1 : DS N st tg c fr) (h2 : DS N st tg c fr2) (hc : ∀ s a b t, tg s a b = some t → 0 < c a b) : fr = fr2 := by
  funext x
  cases e1 : fr x with
  | none =>
    cases e2 : fr2 x with
    | none => rfl
    | some m =>
      obtain ⟨m', q, -⟩ := h2.half h1 hc m x m (Nat.le_refl m) e2
      rw [e1] at q
      cases q
  | some m =>
    obtain ⟨m', q, hm⟩ := h1.half h2 hc m x m (Nat.le_refl m) e1
    obtain ⟨m'', q', hm'⟩ := h2.half h1 hc m' x m' (Nat.le_refl m') q
    rw [e1] at q'
    cases q'
    rw [q, show m' = m by omega]
theorem MI.ds {mt : List Nat} {d : Nat} (h : MI N st tg c fr mt d (fun _ _ _ => False)) (hall : ∀ x, fr x ≠ none → x ∈ mt) : DS N st tg c fr := by
  obtain ⟨h1, h2, h3, h4, h5, h6, h7, h8, h9⟩ := h
  refine ⟨h9, h2, fun x m hx => ?_, fun s k a b t hs ht => ?_⟩
  · rcases h6 x m hx with q | ⟨s, a, b, k, -, q1, q2, q3⟩
    · exact Or.inl q
    · exact Or.inr ⟨s, a, b, k, q1, q2, q3⟩
  · obtain ⟨k', m, q1, q2, q3⟩ := h7 s (hall s (by rw [hs]; exact Option.some_ne_none k)) a b t ht (fun w => w)
    rw [hs] at q1
    cases q1
    exact ⟨m, q2, q3⟩
theorem MI.jump {mt : List Nat} {d d' : Nat} {P : Nat → Nat → Nat → Prop} (h : MI N st tg c fr mt d P) (hd : d ≤ d') (hn : ∀ x m, x ∉ mt → fr x = some m → d' ≤ m) : MI N st tg c fr mt d' P := by
  obtain ⟨h1, h2, h3, h4, h5, h6, h7, h8, h9⟩ := h
  refine ⟨h1, h2, fun x hx => ?_, fun x m hx hm => ?_, h5, h6, h7, h8, h9⟩
  · obtain ⟨m, e, hm⟩ := h3 x hx
    exact ⟨m, e, by omega⟩
  · have q := h4 x m hx hm
    exact ⟨hn x m hx hm, by omega⟩
end DSS
-- sums over moves
def esum (g : Nat → Nat → Nat → Int64) : List (Nat × Nat × Nat) → Int64
  | [] => 0
  | e :: E => g e.1 e.2.1 e.2.2 + esum g E
theorem esum_append (g : Nat → Nat → Nat → Int64) : ∀ E F, esum g (E ++ F) = esum g E + esum g F := by
  intro E
  induction E with
  | nil => intro F; show _ = 0 + _; rw [Int64.zero_add]; rfl
  | cons e E ih =>
    intro F
    show g e.1 e.2.1 e.2.2 + esum g (E ++ F) = g e.1 e.2.1 e.2.2 + esum g E + esum g F
    rw [ih, Int64.add_assoc]
theorem esum_congr {g h : Nat → Nat → Nat → Int64} : ∀ E, (∀ s a b, (s, a, b) ∈ E → g s a b = h s a b) → esum g E = esum h E := by
  intro E
  induction E with
  | nil => intro _; rfl
  | cons e E ih =>
    intro q
    show g e.1 e.2.1 e.2.2 + esum g E = h e.1 e.2.1 e.2.2 + esum h E
    rw [ih (fun s a b w => q s a b (List.mem_cons_of_mem _ w)), q e.1 e.2.1 e.2.2 List.mem_cons_self]
theorem esum_zero {g : Nat → Nat → Nat → Int64} : ∀ E, (∀ s a b, (s, a, b) ∈ E → g s a b = 0) → esum g E = 0 := by
  intro E
  induction E with
  | nil => intro _; rfl
  | cons e E ih =>
    intro q
    show g e.1 e.2.1 e.2.2 + esum g E = 0
    rw [ih (fun s a b w => q s a b (List.mem_cons_of_mem _ w)), q e.1 e.2.1 e.2.2 List.mem_cons_self]
    rfl
theorem esum_perm {g : Nat → Nat → Nat → Int64} {E F : List (Nat × Nat × Nat)} (h : E.Perm F) : esum g E = esum g F := by
  induction h with
  | nil => rfl
  | cons x _ ih => show _ + _ = _ + _; rw [ih]
  | swap x y l =>
    show g y.1 y.2.1 y.2.2 + (g x.1 x.2.1 x.2.2 + esum g l) = g x.1 x.2.1 x.2.2 + (g y.1 y.2.1 y.2.2 + esum g l)
    rw [← Int64.add_assoc, ← Int64.add_assoc, Int64.add_comm (g y.1 y.2.1 y.2.2)]
  | trans _ _ h1 h2 => rw [h1, h2]
/-- what a move adds to the number of cheapest rows of x, whose label is m -/
def eg (tg : Nat → Nat → Nat → Option Nat) (c : Nat → Nat → Nat) (fr : Nat → Option Nat) (rs : Nat → Int64) (x m : Nat) : Nat → Nat → Nat → Int64 := fun s a b => if tg s a b = some x ∧ (fr s).map (fun k => k + c a b) = some m then rs s else 0
/-- the rows are counted over the moves E -/
def RI (st : Nat) (tg : Nat → Nat → Nat → Option Nat) (c : Nat → Nat → Nat) (fr : Nat → Option Nat) (rs : Nat → Int64) (E : List (Nat × Nat × Nat)) : Prop := ∀ x m, fr x = some m → rs x = (if x = st then 1 else 0) + esum (eg tg c fr rs x m) E
section RIS
variable {N st : Nat} {tg : Nat → Nat → Nat → Option Nat} {c : Nat → Nat → Nat} {fr : Nat → Option Nat} {rs rs2 : Nat → Int64} {E F : List (Nat × Nat × Nat)}
theorem RI.begin : RI st tg c (va_up (fun _ => none) st (some 0)) (vp_updL rs st 1) [] := by
  intro x m h
  by_cases e : x = st
  · subst e
    rw [if_pos rfl]
    show vp_updL rs x 1 x = 1 + 0
    unfold vp_updL
    rw [if_pos rfl]; rfl
  · rw [va_up_other _ _ e] at h
    cases h
/-- a move that changes nothing -/
theorem RI.skip (h : RI st tg c fr rs E) {y a b t d k : Nat} (ht : tg y a b = some t) (hy : fr y = some d) (hk : fr t = some k) (hlt : k ≠ d + c a b) : RI st tg c fr rs (E ++ [(y, a, b)]) := by
  intro x m hx
  rw [esum_append, h x m hx]
  have e0 : esum (eg tg c fr rs x m) [(y, a, b)] = 0 := by
    refine esum_zero _ (fun s a' b' q => ?_)
    have q : (s, a', b') = (y, a, b) := by simpa using q
    cases q
    unfold eg
    rw [if_neg]
    rintro ⟨w1, w2⟩
    rw [ht] at w1
    cases w1
    rw [hk] at hx
    cases hx
    rw [hy] at w2
    exact hlt (Option.some.inj w2).symm
  rw [e0, Int64.add_zero]
/-- a move of the same cost -/
theorem RI.same (h : RI st tg c fr rs E) {y a b t d : Nat} (ht : tg y a b = some t) (hy : fr y = some d) (hk : fr t = some (d + c a b)) (hE : ∀ s a b, (s, a, b) ∈ E → s ≠ t) (hyt : y ≠ t) : RI st tg c fr (vp_updL rs t (rs t + rs y)) (E ++ [(y, a, b)]) := by
  intro x m hx
  have e1 : ∀ z, z ≠ t → vp_updL rs t (rs t + rs y) z = rs z := fun z hz => by unfold vp_updL; rw [if_neg hz]
  have eE : esum (eg tg c fr (vp_updL rs t (rs t + rs y)) x m) E = esum (eg tg c fr rs x m) E := by
    refine esum_congr E (fun s a' b' q => ?_)
    unfold eg
    rw [e1 s (hE s a' b' q)]
  rw [esum_append, eE]
  have e2 : esum (eg tg c fr (vp_updL rs t (rs t + rs y)) x m) [(y, a, b)] = if x = t then rs y else 0 := by
    show eg tg c fr (vp_updL rs t (rs t + rs y)) x m y a b + 0 = _
    rw [Int64.add_zero]
    unfold eg
    rw [e1 y hyt]
    by_cases e : x = t
    · subst e
      rw [hk] at hx
      cases hx
      rw [if_pos ⟨ht, by rw [hy]; rfl⟩, if_pos rfl]
    · rw [if_neg (fun w => e (Option.some.inj (w.1.symm.trans ht))), if_neg e]
  rw [e2]
  by_cases e : x = t
  · subst e
    rw [if_pos rfl, ← Int64.add_assoc, ← h x m hx]
    unfold vp_updL
    rw [if_pos rfl]
  · rw [if_neg e, Int64.add_zero, e1 x e]
    exact h x m hx
/-- a move that gives a new label -/
theorem RI.label (h : RI st tg c fr rs E) {y a b t d : Nat} (ht : tg y a b = some t) (hy : fr y = some d) (hts : t ≠ st) (hyt : y ≠ t) (hE : ∀ s a b, (s, a, b) ∈ E → s ≠ t) (ho : ∀ s a' b', (s, a', b') ∈ E → tg s a' b' = some t → ∃ k m, fr s = some k ∧ fr t = some m ∧ m ≤ k + c a' b') (hn : ∀ m, fr t = some m → d + c a b < m) : RI st tg c (va_up fr t (some (d + c a b))) (vp_updL rs t (rs y)) (E ++ [(y, a, b)]) := by
  intro x m hx
  have e1 : ∀ z, z ≠ t → vp_updL rs t (rs y) z = rs z := fun z hz => by unfold vp_updL; rw [if_neg hz]
  have f1 : ∀ z, z ≠ t → va_up fr t (some (d + c a b)) z = fr z := fun z hz => va_up_other _ _ hz
  have eE : esum (eg tg c (va_up fr t (some (d + c a b))) (vp_updL rs t (rs y)) x m) E = esum (eg tg c fr rs x m) E := by
    refine esum_congr E (fun s a' b' q => ?_)
    unfold eg
    rw [e1 s (hE s a' b' q), f1 s (hE s a' b' q)]
  rw [esum_append, eE]
  have e2 : esum (eg tg c (va_up fr t (some (d + c a b))) (vp_updL rs t (rs y)) x m) [(y, a, b)] = if x = t then rs y else 0 := by
    show eg tg c (va_up fr t (some (d + c a b))) (vp_updL rs t (rs y)) x m y a b + 0 = _
    rw [Int64.add_zero]
    unfold eg
    rw [e1 y hyt, f1 y hyt]
    by_cases e : x = t
    · subst e
      rw [va_up_same] at hx
      cases hx
      rw [if_pos ⟨ht, by rw [hy]; rfl⟩, if_pos rfl]
    · rw [if_neg (fun w => e (Option.some.inj (w.1.symm.trans ht))), if_neg e]
  rw [e2]
  by_cases e : x = t
  · subst e
    rw [va_up_same] at hx
    cases hx
    have z : esum (eg tg c fr rs x (d + c a b)) E = 0 := by
      refine esum_zero E (fun s a' b' q => ?_)
      unfold eg
      rw [if_neg]
      rintro ⟨w1, w2⟩
      obtain ⟨k, m, q1, q2, q3⟩ := ho s a' b' q w1
      rw [q1] at w2
      have w3 : k + c a' b' = d + c a b := Option.some.inj w2
      have := hn m q2
      omega
    rw [z, if_neg hts, if_pos rfl]
    unfold vp_updL
    rw [if_pos rfl, Int64.zero_add, Int64.zero_add]
  · rw [f1 x e] at hx
    rw [if_neg e, Int64.add_zero, e1 x e]
    exact h x m hx
/-- the number of rows is one -/
theorem RI.uniq (h1 : RI st tg c fr rs E) (h2 : RI st tg c fr rs2 F) (hp : E.Perm F) (hc : ∀ s a b t, tg s a b = some t → 0 < c a b) : ∀ M x m, m ≤ M → fr x = some m → rs x = rs2 x := by
  intro M
  have step : ∀ x m, fr x = some m → (∀ s k, k < m → fr s = some k → rs s = rs2 s) → rs x = rs2 x := by
    intro x m hx ih
    rw [h1 x m hx, h2 x m hx, ← esum_perm hp]
    congr 1
    refine esum_congr E (fun s a b q => ?_)
    unfold eg
    by_cases w : tg s a b = some x ∧ (fr s).map (fun k => k + c a b) = some m
    · rw [if_pos w, if_pos w]
      obtain ⟨w1, w2⟩ := w
      cases e : fr s with
      | none => rw [e] at w2; cases w2
      | some k =>
        rw [e] at w2
        have w3 : k + c a b = m := Option.some.inj w2
        have := hc s a b x w1
        exact ih s k (by omega) e
    · rw [if_neg w, if_neg w]
  induction M with
  | zero =>
    intro x m hm hx
    exact step x m hx (fun s k hk _ => by omega)
  | succ M ih =>
    intro x m hm hx
    exact step x m hx (fun s k hk hs => ih s k (by omega) hs)
end RIS
/-- lists without repeats, of the same members -/
theorem perm_of_mem : ∀ (l1 l2 : List Nat), l1.Nodup → l2.Nodup → (∀ x, x ∈ l1 ↔ x ∈ l2) → l1.Perm l2 := by
  intro l1
  induction l1 with
  | nil =>
    intro l2 _ _ h
    cases l2 with
    | nil => exact List.Perm.nil
    | cons x xs => exact absurd ((h x).mpr List.mem_cons_self) List.not_mem_nil
  | cons x xs ih =>
    intro l2 h1 h2 h
    obtain ⟨n1, n2⟩ := List.nodup_cons.mp h1
    have hx : x ∈ l2 := (h x).mp List.mem_cons_self
    have hp := List.perm_cons_erase hx
    refine List.Perm.trans (List.Perm.cons x (ih (l2.erase x) n2 (h2.erase x) (fun z => ?_))) hp.symm
    rw [List.Nodup.mem_erase_iff h2, ← h z, List.mem_cons]
    constructor
    · intro q
      exact ⟨fun e => n1 (by rw [← e]; exact q), Or.inr q⟩
    · rintro ⟨q1, q2⟩
      exact q2.resolve_left q1
/-- all moves of the stands of a list -/
def allE (mv : Nat → List (Nat × Nat)) (mt : List Nat) : List (Nat × Nat × Nat) := mt.flatMap (fun s => (mv s).map (fun q => (s, q.1, q.2)))
theorem allE_perm {mv : Nat → List (Nat × Nat)} {mt mt2 : List Nat} (h : mt.Perm mt2) : (allE mv mt).Perm (allE mv mt2) := by
  unfold allE
  induction h with
  | nil => exact List.Perm.refl _
  | cons x _ ih => rw [List.flatMap_cons, List.flatMap_cons]; exact List.Perm.append_left _ ih
  | swap x y l =>
    rw [List.flatMap_cons, List.flatMap_cons, List.flatMap_cons, List.flatMap_cons, ← List.append_assoc, ← List.append_assoc]
    exact List.Perm.append_right _ List.perm_append_comm
  | trans _ _ h1 h2 => exact h1.trans h2
theorem allE_mem {mv : Nat → List (Nat × Nat)} {mt : List Nat} {s a b : Nat} : (s, a, b) ∈ allE mv mt ↔ s ∈ mt ∧ (a, b) ∈ mv s := by
  unfold allE
  rw [List.mem_flatMap]
  constructor
  · rintro ⟨x, hx, h⟩
    obtain ⟨q, hq, e⟩ := List.mem_map.mp h
    cases e
    exact ⟨hx, hq⟩
  · rintro ⟨h1, h2⟩
    exact ⟨s, h1, List.mem_map.mpr ⟨(a, b), h2, rfl⟩⟩
end
