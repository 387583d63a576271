-- moves along cheapest rows to a goal
def nearX (tg : Nat → Nat → Nat → Option Nat) (c : Nat → Nat → Nat) (fr : Nat → Option Nat) (x a b t : Nat) : Prop := tg x a b = some t ∧ ∃ k, fr x = some k ∧ fr t = some (k + c a b)
def GK (tg : Nat → Nat → Nat → Option Nat) (c : Nat → Nat → Nat) (fr : Nat → Option Nat) (g : Nat) : Nat → Nat → Prop
  | 0, x => x = g
  | k + 1, x => x = g ∨ ∃ a b t, nearX tg c fr x a b t ∧ GK tg c fr g k t
def Good (tg : Nat → Nat → Nat → Option Nat) (c : Nat → Nat → Nat) (fr : Nat → Option Nat) (g x : Nat) : Prop := ∃ k, GK tg c fr g k x
section GoodS
variable {N st g : Nat} {tg : Nat → Nat → Nat → Option Nat} {c : Nat → Nat → Nat} {fr : Nat → Option Nat}
theorem Good.iff {x : Nat} : Good tg c fr g x ↔ x = g ∨ ∃ a b t, nearX tg c fr x a b t ∧ Good tg c fr g t := by
  constructor
  · rintro ⟨k, h⟩
    cases k with
    | zero => exact Or.inl h
    | succ k =>
      rcases h with h | ⟨a, b, t, h1, h2⟩
      · exact Or.inl h
      · exact Or.inr ⟨a, b, t, h1, k, h2⟩
  · rintro (h | ⟨a, b, t, h1, k, h2⟩)
    · exact ⟨0, h⟩
    · exact ⟨k + 1, Or.inr ⟨a, b, t, h1, h2⟩⟩
theorem Good.le {mg : Nat} (hg : fr g = some mg) : ∀ k x, GK tg c fr g k x → ∃ m, fr x = some m ∧ m ≤ mg := by
  intro k
  induction k with
  | zero => intro x h; rw [show x = g from h]; exact ⟨mg, hg, Nat.le_refl _⟩
  | succ k ih =>
    rintro x (h | ⟨a, b, t, ⟨h1, m, h2, h3⟩, h4⟩)
    · rw [h]; exact ⟨mg, hg, Nat.le_refl _⟩
    · obtain ⟨m', e, hm⟩ := ih t h4
      rw [h3] at e
      cases e
      exact ⟨m, h2, by omega⟩
theorem Good.lt {mg x : Nat} (hg : fr g = some mg) (hc : ∀ s a b t, tg s a b = some t → 0 < c a b) (h : Good tg c fr g x) (hx : x ≠ g) : ∃ m, fr x = some m ∧ m < mg := by
  rcases Good.iff.mp h with q | ⟨a, b, t, ⟨h1, m, h2, h3⟩, k, h4⟩
  · exact absurd q hx
  · obtain ⟨m', e, hm⟩ := Good.le hg k t h4
    rw [h3] at e
    cases e
    have := hc x a b t h1
    exact ⟨m, h2, by omega⟩
/-- the start leads on to each stand that has a label -/
theorem Good.start (h : DS N st tg c fr) (hc : ∀ s a b t, tg s a b = some t → 0 < c a b) : ∀ M x m, m ≤ M → fr x = some m → Good tg c fr g x → Good tg c fr g st := by
  intro M
  induction M with
  | zero =>
    intro x m hm hx hG
    rcases h.2.2.1 x m hx with ⟨e, -⟩ | ⟨s, a, b, k, q1, q2, q3⟩
    · rw [← e]; exact hG
    · have := hc s a b x q1; omega
  | succ M ih =>
    intro x m hm hx hG
    rcases h.2.2.1 x m hx with ⟨e, -⟩ | ⟨s, a, b, k, q1, q2, q3⟩
    · rw [← e]; exact hG
    · have := hc s a b x q1
      exact ih s k (by omega) q2 (Good.iff.mpr (Or.inr ⟨a, b, x, ⟨q1, k, q2, by rw [hx, q3]⟩, hG⟩))
end GoodS
/-- one pair of pegs ahead of another one -/
def lexLt (a b a' b' : Nat) : Prop := a < a' ∨ (a = a' ∧ b < b')
/-- the first move that leads on -/
def fstG (tg : Nat → Nat → Nat → Option Nat) (c : Nat → Nat → Nat) (fr : Nat → Option Nat) (g x a b t : Nat) : Prop := nearX tg c fr x a b t ∧ Good tg c fr g t ∧ ∀ a' b', lexLt a' b' a b → ¬ ∃ t', nearX tg c fr x a' b' t' ∧ Good tg c fr g t'
theorem fstG.uniq {tg : Nat → Nat → Nat → Option Nat} {c : Nat → Nat → Nat} {fr : Nat → Option Nat} {g x a b t a' b' t' : Nat} (h1 : fstG tg c fr g x a b t) (h2 : fstG tg c fr g x a' b' t') : a = a' ∧ b = b' ∧ t = t' := by
  have q1 : ¬ lexLt a b a' b' := fun q => h2.2.2 a b q ⟨t, h1.1, h1.2.1⟩
  have q2 : ¬ lexLt a' b' a b := fun q => h1.2.2 a' b' q ⟨t', h2.1, h2.2.1⟩
  unfold lexLt at q1 q2
  have e1 : a = a' := by omega
  have e2 : b = b' := by omega
  subst e1
  subst e2
  exact ⟨rfl, rfl, Option.some.inj (h1.1.1.symm.trans h2.1.1)⟩
/-- the first row's moves, from x on -/
def PL (tg : Nat → Nat → Nat → Option Nat) (c : Nat → Nat → Nat) (fr : Nat → Option Nat) (g : Nat) : List Nat → Nat → Prop
  | [], x => x = g
  | q :: qs, x => x ≠ g ∧ ∃ a b t, fstG tg c fr g x a b t ∧ q = 10 * a + b ∧ PL tg c fr g qs t
theorem PL.uniq {tg : Nat → Nat → Nat → Option Nat} {c : Nat → Nat → Nat} {fr : Nat → Option Nat} {g : Nat} : ∀ qs rs x, PL tg c fr g qs x → PL tg c fr g rs x → qs = rs := by
  intro qs
  induction qs with
  | nil =>
    intro rs x h1 h2
    cases rs with
    | nil => rfl
    | cons r rs => exact absurd h1 h2.1
  | cons q qs ih =>
    intro rs x h1 h2
    cases rs with
    | nil => exact absurd h2 h1.1
    | cons r rs =>
      obtain ⟨-, a, b, t, f1, e1, p1⟩ := h1
      obtain ⟨-, a', b', t', f2, e2, p2⟩ := h2
      obtain ⟨w1, w2, w3⟩ := f1.uniq f2
      subst w1
      subst w2
      subst w3
      rw [e1, e2, ih rs t p1 p2]
-- the moves' order
theorem mvB_sorted {g : Nat → Nat → Bool} {a : Nat} : ∀ k b, (mvB g a k b).Pairwise (fun p q => lexLt p.1 p.2 q.1 q.2) := by
  intro k
  induction k with
  | zero => intro b; exact List.Pairwise.nil
  | succ k ih =>
    intro b
    unfold mvB
    split
    · refine List.Pairwise.cons (fun q hq => ?_) (ih (b + 1))
      obtain ⟨h1, h2, -⟩ := (mvB_mem k (b + 1) q.1 q.2).mp hq
      exact Or.inr ⟨h1.symm, by show b < q.2; omega⟩
    · exact ih (b + 1)
theorem mvA_sorted {g : Nat → Nat → Bool} {P : Nat} : ∀ k a, (mvA g P k a).Pairwise (fun p q => lexLt p.1 p.2 q.1 q.2) := by
  intro k
  induction k with
  | zero => intro a; exact List.Pairwise.nil
  | succ k ih =>
    intro a
    unfold mvA
    rw [List.pairwise_append]
    refine ⟨mvB_sorted P 0, ih (a + 1), fun p hp q hq => ?_⟩
    obtain ⟨h1, -⟩ := (mvB_mem P 0 p.1 p.2).mp hp
    obtain ⟨h2, -⟩ := (mvA_mem k (a + 1) q.1 q.2).mp hq
    exact Or.inl (by omega)
theorem mvL_idx {n P : Nat} {kd ct sg : Nat → Nat} {x i j a b a' b' : Nat} (h1 : (mvL n P kd ct sg x)[i]? = some (a, b)) (h2 : (mvL n P kd ct sg x)[j]? = some (a', b')) (h : lexLt a' b' a b) : j < i := by
  have hs : (mvL n P kd ct sg x).Pairwise (fun p q => lexLt p.1 p.2 q.1 q.2) := mvA_sorted P 0
  rcases Nat.lt_or_ge j i with q | q
  · exact q
  · exfalso
    rcases Nat.lt_or_eq_of_le q with w | w
    · obtain ⟨li, ei⟩ := List.getElem?_eq_some_iff.mp h1
      obtain ⟨lj, ej⟩ := List.getElem?_eq_some_iff.mp h2
      have := (List.pairwise_iff_getElem.mp hs) i j li lj w
      rw [ei, ej] at this
      have this : lexLt a b a' b' := this
      unfold lexLt at h this
      omega
    · subst w
      rw [h1] at h2
      cases h2
      unfold lexLt at h
      omega
/-- least costs are there -/
def Pt (st : Nat) (tg : Nat → Nat → Nat → Option Nat) (c : Nat → Nat → Nat) : Nat → Nat → Nat → Prop
  | 0, m, x => x = st ∧ m = 0
  | k + 1, m, x => ∃ s a b m', Pt st tg c k m' s ∧ tg s a b = some x ∧ m = m' + c a b
theorem DS.exist {N st : Nat} {tg : Nat → Nat → Nat → Option Nat} {c : Nat → Nat → Nat} (hst : st < N) (htg : ∀ s a b t, tg s a b = some t → t < N) : ∃ fr, DS N st tg c fr := by
  have h : ∀ x, ∃ o : Option Nat, (o = none ∧ ¬ ∃ m k, Pt st tg c k m x) ∨ (∃ m, o = some m ∧ (∃ k, Pt st tg c k m x) ∧ ∀ j, j < m → ¬ ∃ k, Pt st tg c k j x) := by
    intro x
    by_cases q : ∃ m k, Pt st tg c k m x
    · obtain ⟨m, h1, h2⟩ := pk_least (fun m => ∃ k, Pt st tg c k m x) q
      exact ⟨some m, Or.inr ⟨m, rfl, h1, h2⟩⟩
    · exact ⟨none, Or.inl ⟨rfl, q⟩⟩
  obtain ⟨fr, hf⟩ := Classical.axiomOfChoice h
  have least : ∀ x m k, Pt st tg c k m x → ∃ m', fr x = some m' ∧ m' ≤ m := by
    intro x m k hp
    rcases hf x with ⟨-, q⟩ | ⟨m', e, -, q⟩
    · exact absurd ⟨m, k, hp⟩ q
    · refine ⟨m', e, ?_⟩
      rcases Nat.lt_or_ge m m' with w | w
      · exact absurd ⟨k, hp⟩ (q m w)
      · exact w
  have isP : ∀ x m, fr x = some m → ∃ k, Pt st tg c k m x := by
    intro x m e
    rcases hf x with ⟨q, -⟩ | ⟨m', e', q, -⟩
    · rw [e] at q; cases q
    · rw [e] at e'; cases e'; exact q
  refine ⟨fr, ?_, fun x hx => ?_, fun x m hm => ?_, fun s k a b t hs ht => ?_⟩
  · obtain ⟨m, e, hm⟩ := least st 0 0 ⟨rfl, rfl⟩
    rw [e, show m = 0 by omega]
  · obtain ⟨m, e⟩ := Option.ne_none_iff_exists'.mp hx
    obtain ⟨k, hk⟩ := isP x m e
    cases k with
    | zero => rw [hk.1]; exact hst
    | succ k => obtain ⟨s, a, b, m', -, q, -⟩ := hk; exact htg s a b x q
  · obtain ⟨k, hk⟩ := isP x m hm
    cases k with
    | zero => exact Or.inl hk
    | succ k =>
      obtain ⟨s, a, b, m', q1, q2, q3⟩ := hk
      obtain ⟨m2, e2, w2⟩ := least s m' k q1
      obtain ⟨k2, hk2⟩ := isP s m2 e2
      obtain ⟨m3, e3, w3⟩ := least x (m2 + c a b) (k2 + 1) ⟨s, a, b, m2, hk2, q2, rfl⟩
      rw [hm] at e3
      cases e3
      exact Or.inr ⟨s, a, b, m2, q2, e2, by omega⟩
  · obtain ⟨k2, hk2⟩ := isP s k hs
    exact least t (k + c a b) (k2 + 1) ⟨s, a, b, k, hk2, ht, rfl⟩
/-- the first of some pairs below P -/
theorem lex_first (P : Nat) (Q : Nat → Nat → Prop) (h : ∃ a b, a < P ∧ b < P ∧ Q a b) : ∃ a b, a < P ∧ b < P ∧ Q a b ∧ ∀ a' b', a' < P → b' < P → lexLt a' b' a b → ¬ Q a' b' := by
  obtain ⟨a, ⟨ha, b0, hb0, hq0⟩, hmin⟩ := pk_least (fun a => a < P ∧ ∃ b, b < P ∧ Q a b) (by obtain ⟨a, b, h1, h2, h3⟩ := h; exact ⟨a, h1, b, h2, h3⟩)
  obtain ⟨b, ⟨hb, hq⟩, hmb⟩ := pk_least (fun b => b < P ∧ Q a b) ⟨b0, hb0, hq0⟩
  refine ⟨a, b, ha, hb, hq, fun a' b' h1 h2 hl w => ?_⟩
  rcases hl with q | ⟨q1, q2⟩
  · exact hmin a' q ⟨h1, b', h2, w⟩
  · subst q1; exact hmb b' q2 ⟨h2, w⟩
/-- the first row is there -/
theorem PL.exist {N P g mg : Nat} {tg : Nat → Nat → Nat → Option Nat} {c : Nat → Nat → Nat} {fr : Nat → Option Nat} (hc : ∀ s a b t, tg s a b = some t → 0 < c a b) (htP : ∀ s a b t, tg s a b = some t → a < P ∧ b < P) (hg : fr g = some mg) : ∀ M x m, fr x = some m → mg ≤ m + M → Good tg c fr g x → ∃ qs, PL tg c fr g qs x := by
  intro M
  induction M with
  | zero =>
    intro x m hx hM hG
    by_cases e : x = g
    · exact ⟨[], e⟩
    · obtain ⟨m', q1, q2⟩ := hG.lt hg hc e
      rw [hx] at q1
      cases q1
      omega
  | succ M ih =>
    intro x m hx hM hG
    by_cases e : x = g
    · exact ⟨[], e⟩
    · rcases Good.iff.mp hG with q | ⟨a, b, t, h1, h2⟩
      · exact absurd q e
      · have hab := htP x a b t h1.1
        obtain ⟨a, b, ha, hb, ⟨t, h1, h2⟩, hmin⟩ := lex_first P (fun a b => ∃ t, nearX tg c fr x a b t ∧ Good tg c fr g t) ⟨a, b, hab.1, hab.2, t, h1, h2⟩
        obtain ⟨-, k, hk, ht⟩ := id h1
        rw [hx] at hk
        cases hk
        have := hc x a b t h1.1
        obtain ⟨qs, hqs⟩ := ih t _ ht (by omega) h2
        refine ⟨(10 * a + b) :: qs, e, a, b, t, ⟨h1, h2, fun a' b' hl w => ?_⟩, rfl, hqs⟩
        obtain ⟨t', w1, w2⟩ := w
        have := htP x a' b' t' w1.1
        exact hmin a' b' this.1 this.2 hl ⟨t', w1, w2⟩
/-- the room that the plan's row has behind L moves -/
def capA (C0 : Nat) : Nat → Nat
  | 0 => C0
  | L + 1 => if L = capA C0 L then 2 * L else capA C0 L
theorem capA_ge {C0 : Nat} (h : 1 ≤ C0) : ∀ L, C0 ≤ capA C0 L ∧ L ≤ capA C0 L := by
  intro L
  induction L with
  | zero => exact ⟨Nat.le_refl _, Nat.zero_le _⟩
  | succ L ih =>
    unfold capA
    split
    · next e => omega
    · next e => omega
theorem capA_mono {C0 : Nat} (h : 1 ≤ C0) (L : Nat) : capA C0 L ≤ capA C0 (L + 1) := by
  have := capA_ge h L
  conv => rhs; unfold capA
  split <;> omega
theorem capA_b {C0 B : Nat} (h : C0 ≤ B) : ∀ L, 2 * L ≤ B → capA C0 (L + 1) ≤ B := by
  intro L
  induction L with
  | zero =>
    intro _
    unfold capA
    split
    · omega
    · exact h
  | succ L ih =>
    intro hL
    have := ih (by omega)
    conv => lhs; unfold capA
    split
    · omega
    · exact this
