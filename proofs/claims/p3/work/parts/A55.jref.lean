-- joined(): the reference's walk: path, pile, marks
theorem nI_d5 : ∀ m, m < 25 → nI m / 5 = nI (m / 5) ∧ nI m - nI m / 5 * 5 = nI (m % 5) := by decide +kernel
def JW (T : MS) (N q d p m : Nat) (sn : Nat → Bool) (ov lw mv pl ix : Nat → Nat) : Prop := (∀ x, x < N → T.2.1 18 x = if sn x then nI (ov x) else -1) ∧ (∀ x, sn x = true → x < N ∧ ov x < q) ∧ cntP sn N = q ∧ (∀ x, x < N → T.2.1 20 x = -1 ∨ ∃ k, k < m ∧ T.2.1 20 x = nI k) ∧ (∀ x, x < N → sn x = false → T.2.1 20 x = -1) ∧ (∀ x, x < N → sn x = true → T.2.1 20 x = -1 → ∃ i, i < p ∧ pl i = x) ∧
  (∀ i, i < p → sn (pl i) = true ∧ T.2.1 22 i = nI (pl i) ∧ T.2.1 20 (pl i) = -1 ∧ T.2.1 19 (pl i) = nI (lw (pl i)) ∧ ov (pl 0) ≤ lw (pl i) ∧ lw (pl i) ≤ ov (pl i) ∧ T.2.1 23 (pl i) = nI (mv (pl i)) ∧ mv (pl i) ≤ 25) ∧ (∀ i j, i < j → j < p → ov (pl i) < ov (pl j)) ∧ (∀ i, i < d → ix i < p ∧ T.2.1 21 i = nI (pl (ix i))) ∧ (∀ i j, i < j → j < d → ix i < ix j) ∧ (0 < d → ix 0 = 0) ∧ (d = 0 → p = 0) ∧ m + d ≤ q ∧ p ≤ q ∧ T.1 8 = nI m
section JWs
variable {T U : MS} {N q d p m : Nat} {sn : Nat → Bool} {ov lw mv pl ix : Nat → Nat}
theorem JW.fr (h : JW T N q d p m sn ov lw mv pl ix) (e : ∀ k, 18 ≤ k → k ≤ 23 → U.2.1 k = T.2.1 k) (e8 : U.1 8 = T.1 8) : JW U N q d p m sn ov lw mv pl ix := by
  unfold JW
  rw [e 18 (by omega) (by omega), e 19 (by omega) (by omega), e 20 (by omega) (by omega), e 21 (by omega) (by omega), e 22 (by omega) (by omega), e 23 (by omega) (by omega), e8]
  exact h
theorem JW.inj (h : JW T N q d p m sn ov lw mv pl ix) {i j : Nat} (hi : i < p) (hj : j < p) (e : pl i = pl j) : i = j := by
  obtain ⟨-, -, -, -, -, -, -, h8, -⟩ := h
  rcases Nat.lt_trichotomy i j with c | c | c
  · have := h8 i j c hj; rw [e] at this; omega
  · exact c
  · have := h8 j i c hi; rw [e] at this; omega
theorem JW.qN (h : JW T N q d p m sn ov lw mv pl ix) : q ≤ N := by
  have := cntP_le sn N
  rw [h.2.2.1] at this; exact this
/-- one more is entered -/
theorem JW.enter (h : JW T N q d p m sn ov lw mv pl ix) {t : Nat} (ht : t < N) (h0 : sn t = false) (e18 : U.2.1 18 = upd (T.2.1 18) t (nI q)) (e19 : U.2.1 19 = upd (T.2.1 19) t (nI q)) (e23 : U.2.1 23 = upd (T.2.1 23) t 0) (e22 : U.2.1 22 = upd (T.2.1 22) p (nI t)) (e21 : U.2.1 21 = upd (T.2.1 21) d (nI t)) (e20 : U.2.1 20 = T.2.1 20) (e8 : U.1 8 = T.1 8) : q < N ∧ JW U N (q + 1) (d + 1) (p + 1) m (va_up sn t true) (va_up ov t q) (va_up lw t q) (va_up mv t 0) (va_up pl p t) (va_up ix d p) := by
  have hqN := h.qN
  obtain ⟨h1, h2, h3, h4, h5, h6, h7, h8, h9, h10, h11, h12, h13, h14, h15⟩ := h
  have hc := cntP_up (p := sn) (q := va_up sn t true) (x := t) h0 (va_up_same _ _ _) (fun y hy => va_up_other _ _ hy) N ht
  have hc2 := cntP_le (va_up sn t true) N
  rw [h3] at hc
  have pne : ∀ i, i < p → pl i ≠ t := fun i hi e => by
    have := (h7 i hi).1
    rw [e, h0] at this; cases this
  have plo : ∀ i, i < p → va_up pl p t i = pl i := fun i hi => va_up_other _ _ (by omega)
  have ovo : ∀ i, i < p → va_up ov t q (pl i) = ov (pl i) := fun i hi => va_up_other _ _ (pne i hi)
  have ov0 : va_up ov t q (va_up pl p t 0) ≤ q ∧ (0 < p → va_up ov t q (va_up pl p t 0) = ov (pl 0)) := by
    refine ⟨?_, fun c => by rw [plo 0 c, ovo 0 c]⟩
    rcases Nat.eq_zero_or_pos p with c | c
    · subst c; rw [va_up_same, va_up_same]; exact Nat.le_refl _
    · rw [plo 0 c, ovo 0 c]
      have := (h2 _ (h7 0 c).1).2
      omega
  refine ⟨by omega, ?_⟩
  unfold JW
  rw [e18, e19, e23, e22, e21, e20, e8]
  refine ⟨fun x hx => ?_, fun x hx => ?_, hc, h4, fun x hx hs => ?_, fun x hx hs hx2 => ?_, fun i hi => ?_, fun i j hij hj => ?_, fun i hi => ?_, fun i j hij hj => ?_, fun _ => ?_, fun c => by omega, by omega, by omega, h15⟩
  · by_cases e : x = t
    · subst e; rw [upd_same, va_up_same, va_up_same]; rfl
    · rw [upd_other _ _ e, va_up_other _ _ e, va_up_other _ _ e]; exact h1 x hx
  · by_cases e : x = t
    · subst e; rw [va_up_same]; exact ⟨ht, by omega⟩
    · rw [va_up_other _ _ e] at hx
      rw [va_up_other _ _ e]
      have := h2 x hx
      exact ⟨this.1, by omega⟩
  · by_cases e : x = t
    · subst e; rw [va_up_same] at hs; cases hs
    · rw [va_up_other _ _ e] at hs; exact h5 x hx hs
  · by_cases e : x = t
    · subst e; exact ⟨p, by omega, va_up_same _ _ _⟩
    · rw [va_up_other _ _ e] at hs
      obtain ⟨i, i1, i2⟩ := h6 x hx hs hx2
      exact ⟨i, by omega, by rw [plo i i1]; exact i2⟩
  · by_cases e : i = p
    · subst e
      rw [va_up_same, va_up_same, va_up_same, va_up_same, va_up_same, upd_same, upd_same, upd_same]
      exact ⟨rfl, rfl, h5 t ht h0, rfl, ov0.1, Nat.le_refl _, rfl, by omega⟩
    · have hip : i < p := by omega
      have g := h7 i hip
      rw [plo i hip, ovo i hip, va_up_other _ _ (pne i hip), va_up_other _ _ (pne i hip), va_up_other _ _ (pne i hip), upd_other _ _ e, upd_other _ _ (pne i hip), upd_other _ _ (pne i hip), ov0.2 (by omega)]
      exact g
  · by_cases e : j = p
    · subst e
      have hip : i < j := hij
      rw [va_up_same, va_up_same, plo i hip, ovo i hip]
      exact (h2 _ (h7 i hip).1).2
    · have hjp : j < p := by omega
      rw [plo i (by omega), plo j hjp, ovo i (by omega), ovo j hjp]
      exact h8 i j hij hjp
  · by_cases e : i = d
    · subst e
      rw [va_up_same, va_up_same, upd_same]
      exact ⟨by omega, rfl⟩
    · have g := h9 i (by omega)
      rw [va_up_other _ _ e, plo _ g.1, upd_other _ _ e]
      exact ⟨by omega, g.2⟩
  · by_cases e : j = d
    · subst e
      rw [va_up_same, va_up_other _ _ (show i ≠ j by omega)]
      exact (h9 i hij).1
    · rw [va_up_other _ _ e, va_up_other _ _ (show i ≠ d by omega)]
      exact h10 i j hij (by omega)
  · by_cases e : d = 0
    · subst e; rw [va_up_same]; exact h12 rfl
    · rw [va_up_other _ _ (show 0 ≠ d by omega)]; exact h11 (by omega)
/-- one more move is looked at -/
theorem JW.more (h : JW T N q d p m sn ov lw mv pl ix) {s : Nat} (hs : mv s < 25) (e23 : U.2.1 23 = upd (T.2.1 23) s (nI (mv s + 1))) (e : ∀ k, 18 ≤ k → k < 23 → U.2.1 k = T.2.1 k) (e8 : U.1 8 = T.1 8) : JW U N q d p m sn ov lw (va_up mv s (mv s + 1)) pl ix := by
  obtain ⟨h1, h2, h3, h4, h5, h6, h7, h8, h9, h10, h11, h12, h13, h14, h15⟩ := h
  unfold JW
  rw [e 18 (by omega) (by omega), e 19 (by omega) (by omega), e 20 (by omega) (by omega), e 21 (by omega) (by omega), e 22 (by omega) (by omega), e23, e8]
  refine ⟨h1, h2, h3, h4, h5, h6, fun i hi => ?_, h8, h9, h10, h11, h12, h13, h14, h15⟩
  have g := h7 i hi
  refine ⟨g.1, g.2.1, g.2.2.1, g.2.2.2.1, g.2.2.2.2.1, g.2.2.2.2.2.1, ?_⟩
  by_cases c : pl i = s
  · rw [c, upd_same, va_up_same]; exact ⟨rfl, by omega⟩
  · rw [upd_other _ _ c, va_up_other _ _ c]; exact g.2.2.2.2.2.2
/-- a low mark sinks -/
theorem JW.low (h : JW T N q d p m sn ov lw mv pl ix) {s v : Nat} (hv : ov (pl 0) ≤ v) (hv2 : v ≤ ov s) (e19 : U.2.1 19 = upd (T.2.1 19) s (nI v)) (e : ∀ k, 18 ≤ k → k ≤ 23 → k ≠ 19 → U.2.1 k = T.2.1 k) (e8 : U.1 8 = T.1 8) : JW U N q d p m sn ov (va_up lw s v) mv pl ix := by
  obtain ⟨h1, h2, h3, h4, h5, h6, h7, h8, h9, h10, h11, h12, h13, h14, h15⟩ := h
  unfold JW
  rw [e 18 (by omega) (by omega) (by omega), e 23 (by omega) (by omega) (by omega), e 20 (by omega) (by omega) (by omega), e 21 (by omega) (by omega) (by omega), e 22 (by omega) (by omega) (by omega), e19, e8]
  refine ⟨h1, h2, h3, h4, h5, h6, fun i hi => ?_, h8, h9, h10, h11, h12, h13, h14, h15⟩
  have g := h7 i hi
  refine ⟨g.1, g.2.1, g.2.2.1, ?_⟩
  by_cases c : pl i = s
  · rw [c, upd_same, va_up_same]
    have g2 := g.2.2.2.2.2.2
    rw [c] at g2
    exact ⟨rfl, hv, hv2, g2⟩
  · rw [upd_other _ _ c, va_up_other _ _ c]; exact g.2.2.2
/-- the last of the path is left, its set isn't ended -/
theorem JW.back (h : JW T N q (d + 1) p m sn ov lw mv pl ix) (hd : 0 < d) : JW T N q d p m sn ov lw mv pl ix := by
  obtain ⟨h1, h2, h3, h4, h5, h6, h7, h8, h9, h10, h11, h12, h13, h14, h15⟩ := h
  exact ⟨h1, h2, h3, h4, h5, h6, h7, h8, fun i hi => h9 i (by omega), fun i j hij hj => h10 i j hij (by omega), fun _ => h11 (by omega), fun c => by omega, by omega, h14, h15⟩
/-- a set is ended -/
theorem JW.ended (h : JW T N q (d + 1) p m sn ov lw mv pl ix) (h20 : ∀ x, x < N → U.2.1 20 x = T.2.1 20 x ∨ U.2.1 20 x = nI m) (h20a : ∀ j, ix d ≤ j → j < p → U.2.1 20 (pl j) = nI m) (h20b : ∀ x, (∀ j, ix d ≤ j → j < p → x ≠ pl j) → U.2.1 20 x = T.2.1 20 x) (e : ∀ k, 18 ≤ k → k ≤ 23 → k ≠ 20 → U.2.1 k = T.2.1 k) (e8 : U.1 8 = nI (m + 1)) (hm : m < 2 ^ 31) : JW U N q d (ix d) (m + 1) sn ov lw mv pl ix := by
  have hinj := fun i j => h.inj (i := i) (j := j)
  obtain ⟨h1, h2, h3, h4, h5, h6, h7, h8, h9, h10, h11, h12, h13, h14, h15⟩ := h
  have hd := (h9 d (by omega)).1
  have keep : ∀ i, i < ix d → U.2.1 20 (pl i) = T.2.1 20 (pl i) := fun i hi => h20b _ (fun j j1 j2 e => by have := hinj i j (by omega) j2 e; omega)
  unfold JW
  rw [e 18 (by omega) (by omega) (by omega), e 23 (by omega) (by omega) (by omega), e 19 (by omega) (by omega) (by omega), e 21 (by omega) (by omega) (by omega), e 22 (by omega) (by omega) (by omega), e8]
  refine ⟨h1, h2, h3, fun x hx => ?_, fun x hx hs => ?_, fun x hx hs hu => ?_, fun i hi => ?_, fun i j hij hj => h8 i j hij (by omega), fun i hi => ⟨h10 i d hi (by omega), (h9 i (by omega)).2⟩, fun i j hij hj => h10 i j hij (by omega), fun _ => h11 (by omega), fun c => ?_, by omega, by omega, rfl⟩
  · rcases h20 x hx with c | c
    · rw [c]
      rcases h4 x hx with w | ⟨k, k1, k2⟩
      · exact Or.inl w
      · exact Or.inr ⟨k, by omega, k2⟩
    · exact Or.inr ⟨m, by omega, c⟩
  · rw [h20b x (fun j j1 j2 e => by rw [e, (h7 j j2).1] at hs; cases hs)]
    exact h5 x hx hs
  · have ht : T.2.1 20 x = -1 := by
      rcases h20 x hx with c | c
      · rw [← c]; exact hu
      · rw [c] at hu; exact absurd hu (nI_m1 hm)
    obtain ⟨i, i1, i2⟩ := h6 x hx hs ht
    refine ⟨i, ?_, i2⟩
    rcases Nat.lt_or_ge i (ix d) with c | c
    · exact c
    · have := h20a i c i1
      rw [i2, hu] at this
      exact absurd this.symm (nI_m1 hm)
  · have g := h7 i (by omega)
    rw [keep i hi]
    exact g
  · subst c; exact h11 (by omega)
end JWs
