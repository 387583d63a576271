-- joined(): what holds in the search for the sets
def AI (tg : Nat → List Nat) (N q d p m : Nat) (sn : Nat → Bool) (ov pl ix : Nat → Nat) (st : Nat → Option Nat) (sz : Nat → Nat) : Prop := (∀ x, sn x = true → x < N ∧ ov x < q) ∧ cntP sn N = q ∧ (∀ x k, st x = some k → k < m ∧ sn x = true) ∧ (∀ x, onP sn st x → ∃ i, i < p ∧ pl i = x) ∧ (∀ i, i < p → onP sn st (pl i)) ∧ (∀ i j, i < j → j < p → ov (pl i) < ov (pl j)) ∧ (∀ i, i < d → ix i < p) ∧ (∀ i j, i < j → j < d → ix i < ix j) ∧ (0 < d → ix 0 = 0) ∧ (d = 0 → p = 0) ∧ m + d ≤ q ∧ p ≤ q ∧ (∀ i, i + 1 < d → pl (ix (i + 1)) ∈ tg (pl (ix i))) ∧ (∀ k, sz k ≤ N)
def Ed (tg : Nat → List Nat) (sn : Nat → Bool) (st : Nat → Option Nat) (y w : Nat) : Prop := w ∈ tg y ∧ onP sn st y ∧ onP sn st w
def Chn (E : Nat → Nat → Prop) : Nat → Nat → Nat → Prop
  | 0, y, z => y = z
  | k + 1, y, z => ∃ w, E y w ∧ Chn E k w z
theorem Chn.mono {E F : Nat → Nat → Prop} (h : ∀ y w, E y w → F y w) : ∀ k y z, Chn E k y z → Chn F k y z := by
  intro k
  induction k with
  | zero => intro y z q; exact q
  | succ k ih =>
    rintro y z ⟨w, h1, h2⟩
    exact ⟨w, h y w h1, ih w z h2⟩
/-- each low mark is the mark of one that is come to within the pile -/
def LSt (tg : Nat → List Nat) (p : Nat) (sn : Nat → Bool) (ov pl : Nat → Nat) (st : Nat → Option Nat) (lw : Nat → Nat) : Prop := ∀ j, j < p → ∃ k z, Chn (Ed tg sn st) k (pl j) z ∧ onP sn st z ∧ ov z = lw (pl j)
section AIs
variable {tg : Nat → List Nat} {N q d p m : Nat} {sn : Nat → Bool} {ov pl ix : Nat → Nat} {st : Nat → Option Nat} {sz lw : Nat → Nat}
theorem AI.inj (h : AI tg N q d p m sn ov pl ix st sz) {i j : Nat} (hi : i < p) (hj : j < p) (e : pl i = pl j) : i = j := by
  obtain ⟨-, -, -, -, -, h6, -⟩ := h
  rcases Nat.lt_trichotomy i j with c | c | c
  · have := h6 i j c hj; rw [e] at this; omega
  · exact c
  · have := h6 j i c hi; rw [e] at this; omega
theorem AI.qN (h : AI tg N q d p m sn ov pl ix st sz) : q ≤ N := by
  have := cntP_le sn N
  rw [h.2.1] at this; exact this
theorem AI.ge (h : AI tg N q d p m sn ov pl ix st sz) {i j : Nat} (hi : i < p) (e : ov (pl i) ≤ ov (pl j)) : i ≤ j := by
  obtain ⟨-, -, -, -, -, h6, -⟩ := h
  rcases Nat.lt_or_ge j i with c | c
  · have := h6 j i c hi; omega
  · exact c
theorem AI.low0 (h : AI tg N q d p m sn ov pl ix st sz) {t : Nat} (ht : onP sn st t) : ov (pl 0) ≤ ov t := by
  obtain ⟨i, i1, i2⟩ := h.2.2.2.1 t ht
  rw [← i2]
  rcases Nat.eq_zero_or_pos i with e | e
  · rw [e]; exact Nat.le_refl _
  · exact Nat.le_of_lt (h.2.2.2.2.2.1 0 i e i1)
theorem AI.enter (h : AI tg N q d p m sn ov pl ix st sz) {t : Nat} (ht : t < N) (h0 : sn t = false) (he : ∀ r, d = r + 1 → t ∈ tg (pl (ix r))) : q < N ∧ AI tg N (q + 1) (d + 1) (p + 1) m (va_up sn t true) (va_up ov t q) (va_up pl p t) (va_up ix d p) st sz := by
  obtain ⟨h1, h2, h3, h4, h5, h6, h7, h8, h9, h10, h11, h12, h13, h14⟩ := h
  have hc := cntP_up (p := sn) (q := va_up sn t true) (x := t) h0 (va_up_same _ _ _) (fun y hy => va_up_other _ _ hy) N ht
  have hc2 := cntP_le (va_up sn t true) N
  rw [h2] at hc
  have st0 : st t = none := by
    cases e : st t with
    | none => rfl
    | some k => have := (h3 t k e).2; rw [h0] at this; cases this
  have pne : ∀ i, i < p → pl i ≠ t := fun i hi e => by
    have := (h5 i hi).1
    rw [e, h0] at this; cases this
  have plo : ∀ i, i < p → va_up pl p t i = pl i := fun i hi => va_up_other _ _ (by omega)
  have ovo : ∀ i, i < p → va_up ov t q (pl i) = ov (pl i) := fun i hi => va_up_other _ _ (pne i hi)
  refine ⟨by omega, fun x hx => ?_, hc, fun x k hk => ?_, fun x hx => ?_, fun i hi => ?_, fun i j hij hj => ?_, fun i hi => ?_, fun i j hij hj => ?_, fun _ => ?_, fun c => by omega, by omega, by omega, fun i hi => ?_, h14⟩
  · by_cases e : x = t
    · subst e; rw [va_up_same]; exact ⟨ht, by omega⟩
    · rw [va_up_other _ _ e] at hx
      rw [va_up_other _ _ e]
      have := h1 x hx
      exact ⟨this.1, by omega⟩
  · have := h3 x k hk
    refine ⟨this.1, ?_⟩
    by_cases e : x = t
    · subst e; exact va_up_same _ _ _
    · rw [va_up_other _ _ e]; exact this.2
  · obtain ⟨x1, x2⟩ := hx
    by_cases e : x = t
    · subst e; exact ⟨p, by omega, va_up_same _ _ _⟩
    · rw [va_up_other _ _ e] at x1
      obtain ⟨i, i1, i2⟩ := h4 x ⟨x1, x2⟩
      exact ⟨i, by omega, by rw [plo i i1]; exact i2⟩
  · by_cases e : i = p
    · subst e; rw [va_up_same]; exact ⟨va_up_same _ _ _, st0⟩
    · have hip : i < p := by omega
      rw [plo i hip]
      exact ⟨by rw [va_up_other _ _ (pne i hip)]; exact (h5 i hip).1, (h5 i hip).2⟩
  · by_cases e : j = p
    · subst e
      have hip : i < j := hij
      rw [va_up_same, va_up_same, plo i hip, ovo i hip]
      exact (h1 _ (h5 i hip).1).2
    · have hjp : j < p := by omega
      rw [plo i (by omega), plo j hjp, ovo i (by omega), ovo j hjp]
      exact h6 i j hij hjp
  · by_cases e : i = d
    · subst e; rw [va_up_same]; omega
    · rw [va_up_other _ _ e]
      have := h7 i (by omega)
      omega
  · by_cases e : j = d
    · subst e
      rw [va_up_same, va_up_other _ _ (show i ≠ j by omega)]
      exact h7 i hij
    · rw [va_up_other _ _ e, va_up_other _ _ (show i ≠ d by omega)]
      exact h8 i j hij (by omega)
  · by_cases e : d = 0
    · subst e; rw [va_up_same]; exact h10 rfl
    · rw [va_up_other _ _ (show 0 ≠ d by omega)]; exact h9 (by omega)
  · have hi0 := h7 i (by omega)
    rw [va_up_other ix _ (show i ≠ d by omega), plo _ hi0]
    by_cases e : i + 1 = d
    · rw [e, va_up_same, va_up_same]
      exact he i e.symm
    · rw [va_up_other _ _ e, plo _ (h7 (i + 1) (by omega))]
      exact h13 i (by omega)
theorem AI.back (h : AI tg N q (d + 1) p m sn ov pl ix st sz) (hd : 0 < d) : AI tg N q d p m sn ov pl ix st sz := by
  obtain ⟨h1, h2, h3, h4, h5, h6, h7, h8, h9, h10, h11, h12, h13, h14⟩ := h
  exact ⟨h1, h2, h3, h4, h5, h6, fun i hi => h7 i (by omega), fun i j hij hj => h8 i j hij (by omega), fun _ => h9 (by omega), fun c => by omega, by omega, h12, fun i hi => h13 i (by omega), h14⟩
theorem AI.pops (h : AI tg N q (d + 1) p m sn ov pl ix st sz) : (∀ j, ix d ≤ j → j < p → popS st pl m p (p - ix d) (pl j) = some m) ∧ (∀ z, (∀ j, ix d ≤ j → j < p → pl j ≠ z) → popS st pl m p (p - ix d) z = st z) ∧ (∀ i, i < ix d → popS st pl m p (p - ix d) (pl i) = st (pl i)) := by
  have hinj := fun i j => h.inj (i := i) (j := j)
  have hd := h.2.2.2.2.2.2.1 d (by omega)
  have h2 : ∀ z, (∀ j, ix d ≤ j → j < p → pl j ≠ z) → popS st pl m p (p - ix d) z = st z := fun z hz => popS_out _ z (by omega) (fun j j1 j2 => hz j (by omega) j2)
  exact ⟨fun j j1 j2 => popS_in _ _ ⟨j, by omega, j2, rfl⟩, h2, fun i hi => h2 _ (fun j j1 j2 e => by have := hinj j i j2 (by omega) e; omega)⟩
theorem AI.onP' (h : AI tg N q (d + 1) p m sn ov pl ix st sz) {z : Nat} : onP sn (popS st pl m p (p - ix d)) z ↔ onP sn st z ∧ ov z < ov (pl (ix d)) := by
  obtain ⟨g1, g2, g3⟩ := h.pops
  have hd := h.2.2.2.2.2.2.1 d (by omega)
  constructor
  · rintro ⟨a1, a2⟩
    have on : onP sn st z := by
      refine ⟨a1, ?_⟩
      by_cases c : ∃ j, ix d ≤ j ∧ j < p ∧ pl j = z
      · obtain ⟨j, j1, j2, j3⟩ := c
        have := g1 j j1 j2
        rw [j3, a2] at this; cases this
      · rw [← g2 z (fun j j1 j2 e => c ⟨j, j1, j2, e⟩)]; exact a2
    refine ⟨on, ?_⟩
    obtain ⟨i, i1, i2⟩ := h.2.2.2.1 z on
    rcases Nat.lt_or_ge i (ix d) with c | c
    · rw [← i2]; exact h.2.2.2.2.2.1 i (ix d) c hd
    · have := g1 i c i1
      rw [i2, a2] at this; cases this
  · rintro ⟨on, lt⟩
    refine ⟨on.1, ?_⟩
    obtain ⟨i, i1, i2⟩ := h.2.2.2.1 z on
    have hi : i < ix d := by
      rcases Nat.lt_or_ge i (ix d) with c | c
      · exact c
      · rw [← i2] at lt
        rcases Nat.eq_or_lt_of_le c with e | e
        · rw [e] at lt; omega
        · have := h.2.2.2.2.2.1 (ix d) i e i1
          omega
    rw [← i2, g3 i hi]
    exact (h.2.2.2.2.1 i i1).2
theorem AI.ended (h : AI tg N q (d + 1) p m sn ov pl ix st sz) : AI tg N q d (ix d) (m + 1) sn ov pl ix (popS st pl m p (p - ix d)) (va_up sz m (p - ix d)) := by
  have hon := fun z => h.onP' (z := z)
  obtain ⟨g1, g2, g3⟩ := h.pops
  have hqN := h.qN
  obtain ⟨h1, h2, h3, h4, h5, h6, h7, h8, h9, h10, h11, h12, h13, h14⟩ := h
  have hd := h7 d (by omega)
  refine ⟨h1, h2, fun x k hk => ?_, fun x hx => ?_, fun i hi => ?_, fun i j hij hj => h6 i j hij (by omega), fun i hi => h8 i d hi (by omega), fun i j hij hj => h8 i j hij (by omega), fun _ => h9 (by omega), fun c => ?_, by omega, by omega, fun i hi => h13 i (by omega), fun k => ?_⟩
  · by_cases c : ∃ j, ix d ≤ j ∧ j < p ∧ pl j = x
    · obtain ⟨j, j1, j2, j3⟩ := c
      have := g1 j j1 j2
      rw [j3, hk] at this
      cases this
      exact ⟨by omega, by rw [← j3]; exact (h5 j j2).1⟩
    · rw [g2 x (fun j j1 j2 e => c ⟨j, j1, j2, e⟩)] at hk
      have := h3 x k hk
      exact ⟨by omega, this.2⟩
  · obtain ⟨on, lt⟩ := (hon x).mp hx
    obtain ⟨i, i1, i2⟩ := h4 x on
    refine ⟨i, ?_, i2⟩
    rcases Nat.lt_or_ge i (ix d) with c | c
    · exact c
    · have := g1 i c i1
      rw [i2, hx.2] at this; cases this
  · exact (hon _).mpr ⟨h5 i (by omega), h6 i (ix d) hi hd⟩
  · subst c; exact h9 (by omega)
  · by_cases e : k = m
    · subst e; rw [va_up_same]; omega
    · rw [va_up_other _ _ e]; exact h14 k
/-- a chain that ends below a place leaves the part above it -/
theorem AI.cross (h : AI tg N q d p m sn ov pl ix st sz) {j0 : Nat} (hj : j0 < p) : ∀ k y z, Chn (Ed tg sn st) k y z → onP sn st y → ov (pl j0) ≤ ov y → ov z < ov (pl j0) → WP tg p sn ov pl st j0 := by
  intro k
  induction k with
  | zero =>
    intro y z e _ h1 h2
    have e : y = z := e
    rw [e] at h1; omega
  | succ k ih =>
    rintro y z ⟨w, ⟨w1, w2, w3⟩, hw⟩ hy h1 h2
    rcases Nat.lt_or_ge (ov w) (ov (pl j0)) with c | c
    · obtain ⟨i, i1, i2⟩ := h.2.2.2.1 y hy
      refine ⟨i, w, h.ge hj (by rw [i2]; exact h1), i1, by rw [i2]; exact w1, w3, c⟩
    · exact ih w z hw w3 c h2
theorem LSt.way (h : AI tg N q d p m sn ov pl ix st sz) (hL : LSt tg p sn ov pl st lw) {j0 : Nat} (hj : j0 < p) (hl : lw (pl j0) < ov (pl j0)) : WP tg p sn ov pl st j0 := by
  obtain ⟨k, z, c1, c2, c3⟩ := hL j0 hj
  exact h.cross hj k _ z c1 (h.2.2.2.2.1 j0 hj) (Nat.le_refl _) (by omega)
theorem LSt.low (hL : LSt tg p sn ov pl st lw) {j v : Nat} (hv : ∃ k z, Chn (Ed tg sn st) k (pl j) z ∧ onP sn st z ∧ ov z = v) : LSt tg p sn ov pl st (va_up lw (pl j) v) := by
  intro i hi
  by_cases e : pl i = pl j
  · rw [e, va_up_same]; exact hv
  · rw [va_up_other _ _ e]; exact hL i hi
theorem LSt.enter (h : AI tg N q d p m sn ov pl ix st sz) (hL : LSt tg p sn ov pl st lw) {t : Nat} (h0 : sn t = false) : LSt tg (p + 1) (va_up sn t true) (va_up ov t q) (va_up pl p t) st (va_up lw t q) := by
  obtain ⟨h1, h2, h3, h4, h5, h6, h7, h8, h9, h10, h11, h12, h13, h14⟩ := h
  have st0 : st t = none := by
    cases e : st t with
    | none => rfl
    | some k => have := (h3 t k e).2; rw [h0] at this; cases this
  have up : ∀ z, onP sn st z → onP (va_up sn t true) st z ∧ z ≠ t := by
    rintro z ⟨z1, z2⟩
    have e : z ≠ t := fun e => by rw [e, h0] at z1; cases z1
    exact ⟨⟨by rw [va_up_other _ _ e]; exact z1, z2⟩, e⟩
  intro j hj
  by_cases e : j = p
  · subst e
    rw [va_up_same]
    exact ⟨0, t, rfl, ⟨va_up_same _ _ _, st0⟩, by rw [va_up_same, va_up_same]⟩
  · have hjp : j < p := by omega
    obtain ⟨k, z, c1, c2, c3⟩ := hL j hjp
    have hz := up z c2
    have hpj := up _ (h5 j hjp)
    rw [va_up_other pl _ e]
    refine ⟨k, z, Chn.mono (fun y w ⟨a1, a2, a3⟩ => ⟨a1, (up y a2).1, (up w a3).1⟩) k _ z c1, hz.1, ?_⟩
    rw [va_up_other _ _ hz.2, va_up_other _ _ hpj.2]
    exact c3
theorem LSt.ended (h : AI tg N q (d + 1) p m sn ov pl ix st sz) (hL : LSt tg p sn ov pl st lw) (hlow : ∀ j, j < p → lw (pl j) ≤ ov (pl j)) (hW : ¬ WP tg p sn ov pl st (ix d)) : LSt tg (ix d) sn ov pl (popS st pl m p (p - ix d)) lw := by
  have hon := fun z => h.onP' (z := z)
  have hd := h.2.2.2.2.2.2.1 d (by omega)
  have key : ∀ k y z, Chn (Ed tg sn st) k y z → onP sn st y → ov z < ov (pl (ix d)) → ov y < ov (pl (ix d)) ∧ Chn (Ed tg sn (popS st pl m p (p - ix d))) k y z := by
    intro k
    induction k with
    | zero =>
      intro y z e _ h2
      have e : y = z := e
      subst e
      exact ⟨h2, rfl⟩
    | succ k ih =>
      rintro y z ⟨w, ⟨w1, w2, w3⟩, hw⟩ hy h2
      obtain ⟨i1, i2⟩ := ih w z hw w3 h2
      have hy2 : ov y < ov (pl (ix d)) := by
        rcases Nat.lt_or_ge (ov y) (ov (pl (ix d))) with c | c
        · exact c
        · exact absurd (h.cross hd 1 y w ⟨w, ⟨w1, w2, w3⟩, rfl⟩ hy c i1) hW
      exact ⟨hy2, w, ⟨w1, (hon y).mpr ⟨w2, hy2⟩, (hon w).mpr ⟨w3, i1⟩⟩, i2⟩
  intro j hj
  obtain ⟨k, z, c1, c2, c3⟩ := hL j (by omega)
  have hlt : ov z < ov (pl (ix d)) := by
    have := h.2.2.2.2.2.1 j (ix d) hj hd
    have := hlow j (by omega)
    omega
  exact ⟨k, z, (key k _ z c1 (h.2.2.2.2.1 j (by omega)) hlt).2, (hon z).mpr ⟨c2, hlt⟩, c3⟩
/-- the decision on leaving -/
theorem low_iff (h : AI tg N q d p m sn ov pl ix st sz) (hL : LSt tg p sn ov pl st lw) {j0 : Nat} (hj : j0 < p) (hle : lw (pl j0) ≤ ov (pl j0)) (hC : ∀ j t, j0 ≤ j → j < p → t ∈ tg (pl j) → onP sn st t → lw (pl j0) ≤ ov t) : lw (pl j0) = ov (pl j0) ↔ ¬ WP tg p sn ov pl st j0 := by
  constructor
  · rintro e ⟨j, t, j1, j2, j3, j4, j5⟩
    have := hC j t j1 j2 j3 j4
    omega
  · intro hW
    rcases Nat.lt_or_ge (lw (pl j0)) (ov (pl j0)) with c | c
    · exact absurd (LSt.way h hL hj c) hW
    · omega
end AIs
