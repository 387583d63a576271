-- joined(): one search for the sets, for both sides
theorem mvB_ord {g : Nat → Nat → Bool} {a : Nat} : ∀ k b, (mvB g a k b).Pairwise (fun p q => p.2 < q.2) := by
  intro k
  induction k with
  | zero => intro b; exact List.Pairwise.nil
  | succ k ih =>
    intro b
    unfold mvB
    split
    · refine List.Pairwise.cons (fun q hq => ?_) (ih (b + 1))
      have := (mvB_mem k (b + 1) q.1 q.2).mp hq
      show b < q.2
      omega
    · exact ih (b + 1)
theorem mvA_ord {g : Nat → Nat → Bool} {P : Nat} (hP : P ≤ 5) : ∀ k a, (mvA g P k a).Pairwise (fun p q => 5 * p.1 + p.2 < 5 * q.1 + q.2) := by
  intro k
  induction k with
  | zero => intro a; exact List.Pairwise.nil
  | succ k ih =>
    intro a
    unfold mvA
    refine List.pairwise_append.mpr ⟨?_, ih (a + 1), fun p hp q hq => ?_⟩
    · refine (mvB_ord P 0).imp_of_mem (fun {p q} hp hq h => ?_)
      have h1 := (mvB_mem P 0 p.1 p.2).mp hp
      have h2 := (mvB_mem P 0 q.1 q.2).mp hq
      omega
    · have h1 := (mvB_mem P 0 p.1 p.2).mp hp
      have h2 := (mvA_mem k (a + 1) q.1 q.2).mp hq
      omega
section Tl
variable {n P : Nat} {kd ct sg : Nat → Nat} {x t : Nat}
theorem mem_tl : t ∈ tl n P kd ct sg x ↔ ∃ a b, tgN n P kd ct sg x a b = some t := by
  unfold tl
  rw [List.mem_map]
  constructor
  · rintro ⟨⟨a, b⟩, h1, h2⟩
    obtain ⟨u, hu⟩ := Option.isSome_iff_exists.mp (mvL_mem.mp h1)
    refine ⟨a, b, ?_⟩
    rw [hu] at h2 ⊢
    exact congrArg some h2
  · rintro ⟨a, b, h⟩
    refine ⟨(a, b), mvL_mem.mpr (by rw [h]; rfl), ?_⟩
    rw [h]; rfl
/-- the first unseen one, by the numbers of the pairs -/
theorem find_tl (hP : P ≤ 5) {f : Nat → Bool} {a b : Nat} (ht : tgN n P kd ct sg x a b = some t) (hf : f t = true) (h : ∀ c d u, 5 * c + d < 5 * a + b → tgN n P kd ct sg x c d = some u → f u = false) : (tl n P kd ct sg x).find? f = some t := by
  have hm : (a, b) ∈ mvL n P kd ct sg x := mvL_mem.mpr (by rw [ht]; rfl)
  obtain ⟨as, bs, e⟩ := List.append_of_mem hm
  have ho := mvA_ord (g := fun a b => (tgN n P kd ct sg x a b).isSome) hP P 0
  change (mvL n P kd ct sg x).Pairwise _ at ho
  rw [e] at ho
  have ho2 := (List.pairwise_append.mp ho).2.2
  unfold tl
  rw [e, List.map_append, List.map_cons, List.find?_append]
  have h1 : (List.map (fun q => (tgN n P kd ct sg x q.1 q.2).getD 0) as).find? f = none := by
    rw [List.find?_eq_none]
    intro u hu
    obtain ⟨⟨c, d⟩, m1, m2⟩ := List.mem_map.mp hu
    have hs : (c, d) ∈ mvL n P kd ct sg x := by rw [e]; exact List.mem_append_left _ m1
    obtain ⟨w, hw⟩ := Option.isSome_iff_exists.mp (mvL_mem.mp hs)
    have := h c d w (ho2 (c, d) m1 (a, b) (List.mem_cons_self ..)) hw
    rw [← m2]
    show ¬ f ((tgN n P kd ct sg x c d).getD 0) = true
    rw [hw]
    show ¬ f w = true
    rw [this]; decide
  rw [h1, ht]
  show (t :: _).find? f = some t
  rw [List.find?_cons, hf]
theorem find_at {L : List Nat} {f : Nat → Bool} {i : Nat} (h : L[i]? = some t) (hf : f t = true) (h0 : ∀ j u, j < i → L[j]? = some u → f u = false) : L.find? f = some t := by
  induction L generalizing i with
  | nil => cases h
  | cons a L ih =>
    rw [List.find?_cons]
    cases i with
    | zero =>
      have e : a = t := Option.some.inj h
      subst e
      rw [hf]
    | succ i =>
      rw [h0 0 a (by omega) rfl]
      exact ih h (fun j u hj hu => h0 (j + 1) u (by omega) hu)
end Tl
theorem popS_in {st : Nat → Option Nat} {pl : Nat → Nat} {m p : Nat} : ∀ r z, (∃ j, p ≤ j + r ∧ j < p ∧ pl j = z) → popS st pl m p r z = some m := by
  intro r
  induction r with
  | zero => rintro z ⟨j, h1, h2, -⟩; omega
  | succ r ih =>
    rintro z ⟨j, h1, h2, h3⟩
    unfold popS
    by_cases e : z = pl (p - 1 - r)
    · rw [e, va_up_same]
    · rw [va_up_other _ _ e]
      refine ih z ⟨j, ?_, h2, h3⟩
      rcases Nat.lt_or_ge (j + r) p with c | c
      · exact absurd (by rw [← h3, show p - 1 - r = j by omega]) e
      · exact c
theorem popS_out {st : Nat → Option Nat} {pl : Nat → Nat} {m p : Nat} : ∀ r z, r ≤ p → (∀ j, p ≤ j + r → j < p → pl j ≠ z) → popS st pl m p r z = st z := by
  intro r
  induction r with
  | zero => intro z _ _; rfl
  | succ r ih =>
    intro z hr h
    unfold popS
    rw [va_up_other _ _ (fun e => h (p - 1 - r) (by omega) (by omega) e.symm)]
    exact ih z (by omega) (fun j h1 h2 => h j (by omega) h2)
theorem jst_inj {q d p m q' d' p' m' : Nat} {sn sn' : Nat → Bool} {ov pl ix ov' pl' ix' : Nat → Nat} {st st' : Nat → Option Nat} {sz sz' : Nat → Nat} (h : jst q d p m sn ov pl ix st sz = jst q' d' p' m' sn' ov' pl' ix' st' sz') : q = q' ∧ d = d' ∧ p = p' ∧ m = m' ∧ sn = sn' ∧ ov = ov' ∧ pl = pl' ∧ ix = ix' ∧ st = st' ∧ sz = sz' := by
  cases h
  exact ⟨rfl, rfl, rfl, rfl, rfl, rfl, rfl, rfl, rfl, rfl⟩
theorem JStep.det {tg : Nat → List Nat} {A B C : JA} (h1 : JStep tg A B) (h2 : JStep tg A C) : B = C := by
  obtain ⟨q, r, p, m, sn, ov, pl, ix, st, sz, e, h1⟩ := h1
  obtain ⟨q', r', p', m', sn', ov', pl', ix', st', sz', e', h2⟩ := h2
  rw [e] at e'
  obtain ⟨c1, c2, c3, c4, c5, c6, c7, c8, c9, c10⟩ := jst_inj e'
  have c2 : r = r' := Nat.succ.inj c2
  subst c1 c2 c3 c4 c5 c6 c7 c8 c9 c10
  rcases h1 with ⟨t, a1, a2⟩ | ⟨a1, a2, a3⟩ | ⟨a1, a2, a3⟩ <;> rcases h2 with ⟨u, b1, b2⟩ | ⟨b1, b2, b3⟩ | ⟨b1, b2, b3⟩
  · rw [a1] at b1
    cases b1
    rw [a2, b2]
  · rw [a1] at b1; cases b1
  · rw [a1] at b1; cases b1
  · rw [a1] at b1; cases b1
  · rw [a3, b3]
  · exact absurd a2 b2
  · rw [a1] at b1; cases b1
  · exact absurd b2 a2
  · rw [a3, b3]
theorem JRn.det {tg : Nat → List Nat} {A : JA} : ∀ k {B C : JA}, JRn tg k A B → JRn tg k A C → B = C := by
  intro k
  induction k with
  | zero => intro B C h1 h2; exact h1.symm.trans h2
  | succ k ih =>
    rintro B C ⟨D, d1, d2⟩ ⟨E, e1, e2⟩
    have := ih d1 e1
    subst this
    exact d2.det e2
theorem JRn.rest {tg : Nat → List Nat} {A B : JA} {k : Nat} (h : JRn tg k A B) : ∀ e {C : JA}, JRn tg (k + e) A C → JRn tg e B C := by
  intro e
  induction e with
  | zero => intro C hC; exact JRn.det k h hC
  | succ e ih =>
    rintro C ⟨D, d1, d2⟩
    exact ⟨D, ih d1, d2⟩
theorem JRn.stop {tg : Nat → List Nat} {B : JA} (hB : B.1.2.1 = 0) : ∀ e {C : JA}, JRn tg e B C → B = C := by
  intro e
  induction e with
  | zero => intro C h; exact h
  | succ e ih =>
    rintro C ⟨D, d1, d2⟩
    have := ih d1
    subst this
    obtain ⟨q, r, p, m, sn, ov, pl, ix, st, sz, e, -⟩ := d2
    rw [e] at hB
    exact absurd hB (Nat.succ_ne_zero r)
theorem JRn.uniq {tg : Nat → List Nat} {A B C : JA} {k k' : Nat} (h1 : JRn tg k A B) (h2 : JRn tg k' A C) (b : B.1.2.1 = 0) (c : C.1.2.1 = 0) : B = C := by
  rcases Nat.le_total k k' with q | q
  · obtain ⟨e, rfl⟩ : ∃ e, k' = k + e := ⟨k' - k, by omega⟩
    exact JRn.stop b e (h1.rest e h2)
  · obtain ⟨e, rfl⟩ : ∃ e, k = k' + e := ⟨k - k', by omega⟩
    exact (JRn.stop c e (h2.rest e h1)).symm
theorem JF.det {tg : Nat → List Nat} {R : Nat → Bool} : ∀ f {B C : JA}, JF tg R f B → JF tg R f C → B = C := by
  intro f
  induction f with
  | zero => intro B C h1 h2; exact h1.trans h2.symm
  | succ f ih =>
    rintro B C ⟨q, m, sn, ov, pl, ix, st, sz, h1, h2⟩ ⟨q', m', sn', ov', pl', ix', st', sz', h1', h2'⟩
    obtain ⟨c1, -, -, c4, c5, c6, c7, c8, c9, c10⟩ := jst_inj (ih h1 h1')
    subst c1 c4 c5 c6 c7 c8 c9 c10
    rcases h2 with ⟨a1, a2⟩ | ⟨a1, a2, a3, k, a4⟩ <;> rcases h2' with ⟨b1, b2⟩ | ⟨b1, b2, b3, k', b4⟩
    · rw [a2, b2]
    · rcases a1 with a1 | a1
      · rw [a1] at b1; cases b1
      · rw [a1] at b2; cases b2
    · rcases b1 with b1 | b1
      · rw [a1] at b1; cases b1
      · rw [a2] at b1; cases b1
    · exact a4.uniq b4 a3 b3
