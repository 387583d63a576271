-- joined(): the reference's rows hold the search
def JX (tf : Nat → Nat → Nat → Option Nat) (tg : Nat → List Nat) (T : MS) (N q d p m : Nat) (sn : Nat → Bool) (ov pl ix : Nat → Nat) (st : Nat → Option Nat) (sz lw mv : Nat → Nat) : Prop := AI tg N q d p m sn ov pl ix st sz ∧ LSt tg p sn ov pl st lw ∧ (∀ x, x < N → T.2.1 18 x = if sn x then nI (ov x) else -1) ∧ (∀ x, x < N → T.2.1 20 x = lab (st x)) ∧ (∀ i, i < p → T.2.1 22 i = nI (pl i)) ∧ (∀ i, i < d → T.2.1 21 i = nI (pl (ix i))) ∧ (∀ i, i < p → T.2.1 19 (pl i) = nI (lw (pl i)) ∧ lw (pl i) ≤ ov (pl i) ∧ T.2.1 23 (pl i) = nI (mv (pl i)) ∧ mv (pl i) ≤ 25) ∧ (∀ k, k < m → T.2.1 24 k = nI (sz k)) ∧ T.1 8 = nI m ∧
  (∀ j, j < p → ∀ i, i < mv (pl j) → ∀ t, tf (pl j) (i / 5) (i % 5) = some t → sn t = true ∧ (onP sn st t → lw (pl j) ≤ ov t)) ∧ (∀ i, i < d → ∀ j, ix i ≤ j → j < p → (i + 1 < d → j < ix (i + 1)) → lw (pl (ix i)) ≤ lw (pl j)) ∧ (∀ j, j < p → (∀ i, i < d → j ≠ ix i) → mv (pl j) = 25)
section JXs
variable {tf : Nat → Nat → Nat → Option Nat} {tg : Nat → List Nat} {T U : MS} {N q d r p m : Nat} {sn : Nat → Bool} {ov pl ix : Nat → Nat} {st : Nat → Option Nat} {sz lw mv : Nat → Nat}
theorem JX.fr (h : JX tf tg T N q d p m sn ov pl ix st sz lw mv) (e : ∀ k, 18 ≤ k → k ≤ 24 → U.2.1 k = T.2.1 k) (e8 : U.1 8 = T.1 8) : JX tf tg U N q d p m sn ov pl ix st sz lw mv := by
  unfold JX
  rw [e 18 (by omega) (by omega), e 19 (by omega) (by omega), e 20 (by omega) (by omega), e 21 (by omega) (by omega), e 22 (by omega) (by omega), e 23 (by omega) (by omega), e 24 (by omega) (by omega), e8]
  exact h
theorem JX.enter (h : JX tf tg T N q d p m sn ov pl ix st sz lw mv) {t : Nat} {mw : Nat → Nat} (ht : t < N) (h0 : sn t = false) (he : ∀ r, d = r + 1 → t ∈ tg (pl (ix r))) (hm : mw = mv ∨ ∃ r, d = r + 1 ∧ mv (pl (ix r)) < 25 ∧ mw = va_up mv (pl (ix r)) (mv (pl (ix r)) + 1) ∧ tf (pl (ix r)) (mv (pl (ix r)) / 5) (mv (pl (ix r)) % 5) = some t)
    (e18 : U.2.1 18 = upd (T.2.1 18) t (nI q)) (e19 : U.2.1 19 = upd (T.2.1 19) t (nI q)) (e23 : ∀ x, x ≠ t → (∃ j, j < p ∧ x = pl j) → U.2.1 23 x = nI (mw x)) (e23t : U.2.1 23 t = 0) (e22 : U.2.1 22 = upd (T.2.1 22) p (nI t)) (e21 : U.2.1 21 = upd (T.2.1 21) d (nI t)) (e20 : U.2.1 20 = T.2.1 20) (e24 : U.2.1 24 = T.2.1 24) (e8 : U.1 8 = T.1 8) : q < N ∧ JX tf tg U N (q + 1) (d + 1) (p + 1) m (va_up sn t true) (va_up ov t q) (va_up pl p t) (va_up ix d p) st sz (va_up lw t q) (va_up mw t 0) := by
  obtain ⟨hA, hL, h18, h20, h22, h21, h19, h24, h8, hC0, hC2, hM⟩ := h
  obtain ⟨hq, hA'⟩ := hA.enter ht h0 he
  have hinj := fun i j => hA.inj (i := i) (j := j)
  obtain ⟨a1, a2, a3, a4, a5, a6, a7, a8, a9, a10, a11, a12, a13, a14⟩ := hA
  have pne : ∀ i, i < p → pl i ≠ t := fun i hi e => by
    have := (a5 i hi).1
    rw [e, h0] at this; cases this
  have plo : ∀ i, i < p → va_up pl p t i = pl i := fun i hi => va_up_other _ _ (by omega)
  have old : ∀ z, onP (va_up sn t true) st z → z ≠ t → onP sn st z := fun z hz e => ⟨by have := hz.1; rw [va_up_other _ _ e] at this; exact this, hz.2⟩
  have mw25 : ∀ j, j < p → mw (pl j) ≤ 25 := by
    intro j hj
    rcases hm with e | ⟨r, e1, e2, e3, -⟩
    · rw [e]; exact (h19 j hj).2.2.2
    · rw [e3]
      by_cases c : pl j = pl (ix r)
      · rw [c, va_up_same]; omega
      · rw [va_up_other _ _ c]; exact (h19 j hj).2.2.2
  refine ⟨hq, hA', LSt.enter ⟨a1, a2, a3, a4, a5, a6, a7, a8, a9, a10, a11, a12, a13, a14⟩ hL h0, fun x hx => ?_, fun x hx => ?_, fun i hi => ?_, fun i hi => ?_, fun i hi => ?_, fun k hk => ?_, ?_, fun j hj i hi u hu => ?_, fun i hi j j1 j2 j3 => ?_, fun j hj hn => ?_⟩
  · rw [e18]
    by_cases e : x = t
    · subst e; rw [upd_same, va_up_same, va_up_same]; rfl
    · rw [upd_other _ _ e, va_up_other _ _ e, va_up_other _ _ e]; exact h18 x hx
  · rw [e20]; exact h20 x hx
  · rw [e22]
    by_cases e : i = p
    · subst e; rw [upd_same, va_up_same]
    · rw [upd_other _ _ e, va_up_other _ _ e]; exact h22 i (by omega)
  · rw [e21]
    by_cases e : i = d
    · subst e; rw [upd_same, va_up_same, va_up_same]
    · rw [upd_other _ _ e, va_up_other _ _ e, plo _ (a7 i (by omega))]; exact h21 i (by omega)
  · by_cases e : i = p
    · subst e
      rw [va_up_same, va_up_same, va_up_same, va_up_same, e19, upd_same, e23t]
      exact ⟨rfl, Nat.le_refl _, rfl, by omega⟩
    · have hip : i < p := by omega
      have g := h19 i hip
      rw [plo i hip, va_up_other _ _ (pne i hip), va_up_other _ _ (pne i hip), va_up_other _ _ (pne i hip), e19, upd_other _ _ (pne i hip), e23 _ (pne i hip) ⟨i, hip, rfl⟩]
      exact ⟨g.1, g.2.1, rfl, mw25 i hip⟩
  · rw [e24]; exact h24 k hk
  · rw [e8]; exact h8
  · by_cases e : j = p
    · subst e
      rw [va_up_same, va_up_same] at hi
      omega
    · have hjp : j < p := by omega
      rw [plo j hjp] at hi hu ⊢
      rw [va_up_other _ _ (pne j hjp)] at hi ⊢
      have fresh : ∀ i, i < mv (pl j) → tf (pl j) (i / 5) (i % 5) = some u → va_up sn t true u = true ∧ (onP (va_up sn t true) st u → lw (pl j) ≤ va_up ov t q u) := by
        intro i hi hu
        have g := hC0 j hjp i hi u hu
        have hne : u ≠ t := fun e => by rw [e, h0] at g; cases g.1
        exact ⟨by rw [va_up_other _ _ hne]; exact g.1, fun on => by rw [va_up_other _ _ hne]; exact g.2 (old u on hne)⟩
      rcases hm with e | ⟨r, e1, e2, e3, e4⟩
      · rw [e] at hi; exact fresh i hi hu
      · rw [e3] at hi
        by_cases c : pl j = pl (ix r)
        · rw [c, va_up_same] at hi
          by_cases c2 : i = mv (pl (ix r))
          · rw [c, c2, e4] at hu
            cases hu
            rw [va_up_same, va_up_same]
            refine ⟨rfl, fun _ => ?_⟩
            have g1 := (h19 j hjp).2.1
            have g2 := (a1 _ (a5 j hjp).1).2
            omega
          · exact fresh i (by rw [c]; omega) hu
        · rw [va_up_other _ _ c] at hi
          exact fresh i hi hu
  · by_cases e : i = d
    · subst e
      rw [va_up_same] at j1 ⊢
      have : j = p := by omega
      subst this
      exact Nat.le_refl _
    · have hid : i < d := by omega
      rw [va_up_other _ _ e] at j1 ⊢
      have hix := a7 i hid
      have hjp : j < p := by
        rcases Nat.lt_or_ge j p with c | c
        · exact c
        · have := j3 (by omega)
          by_cases c2 : i + 1 = d
          · rw [c2, va_up_same] at this; exact this
          · rw [va_up_other _ _ c2] at this
            have := a7 (i + 1) (by omega)
            omega
      rw [plo _ hix, plo j hjp, va_up_other _ _ (pne _ hix), va_up_other _ _ (pne j hjp)]
      refine hC2 i hid j j1 hjp (fun c => ?_)
      have := j3 (by omega)
      rw [va_up_other _ _ (show i + 1 ≠ d by omega)] at this
      exact this
  · by_cases e : j = p
    · exact absurd (by rw [va_up_same]; exact e) (hn d (by omega))
    · have hjp : j < p := by omega
      have hn2 : ∀ i, i < d → j ≠ ix i := fun i hi => by
        have := hn i (by omega)
        rw [va_up_other _ _ (show i ≠ d by omega)] at this
        exact this
      rw [plo j hjp, va_up_other _ _ (pne j hjp)]
      have g := hM j hjp hn2
      rcases hm with e | ⟨r, e1, e2, e3, -⟩
      · rw [e]; exact g
      · rw [e3, va_up_other _ _ (fun c => hn2 r (by omega) (hinj j (ix r) hjp (a7 r (by omega)) c))]
        exact g
theorem JX.more (h : JX tf tg T N q (r + 1) p m sn ov pl ix st sz lw mv) (hs : mv (pl (ix r)) < 25) (ht : ∀ t, tf (pl (ix r)) (mv (pl (ix r)) / 5) (mv (pl (ix r)) % 5) = some t → sn t = true ∧ (onP sn st t → lw (pl (ix r)) ≤ ov t)) (e23 : U.2.1 23 = upd (T.2.1 23) (pl (ix r)) (nI (mv (pl (ix r)) + 1))) (e : ∀ k, 18 ≤ k → k ≤ 24 → k ≠ 23 → U.2.1 k = T.2.1 k) (e8 : U.1 8 = T.1 8) : JX tf tg U N q (r + 1) p m sn ov pl ix st sz lw (va_up mv (pl (ix r)) (mv (pl (ix r)) + 1)) := by
  obtain ⟨hA, hL, h18, h20, h22, h21, h19, h24, h8, hC0, hC2, hM⟩ := h
  have hinj := fun i j => hA.inj (i := i) (j := j)
  have hix := hA.2.2.2.2.2.2.1 r (by omega)
  unfold JX
  rw [e 18 (by omega) (by omega) (by omega), e 19 (by omega) (by omega) (by omega), e 20 (by omega) (by omega) (by omega), e 21 (by omega) (by omega) (by omega), e 22 (by omega) (by omega) (by omega), e 24 (by omega) (by omega) (by omega), e23, e8]
  refine ⟨hA, hL, h18, h20, h22, h21, fun i hi => ?_, h24, h8, fun j hj i hi t hu => ?_, hC2, fun j hj hn => ?_⟩
  · have g := h19 i hi
    refine ⟨g.1, g.2.1, ?_⟩
    by_cases c : pl i = pl (ix r)
    · rw [c, upd_same, va_up_same]; exact ⟨rfl, by omega⟩
    · rw [upd_other _ _ c, va_up_other _ _ c]; exact g.2.2
  · by_cases c : pl j = pl (ix r)
    · rw [c, va_up_same] at hi
      by_cases c2 : i = mv (pl (ix r))
      · rw [c, c2] at hu
        rw [c]
        exact ht t hu
      · exact hC0 j hj i (by rw [c]; omega) t hu
    · rw [va_up_other _ _ c] at hi
      exact hC0 j hj i hi t hu
  · rw [va_up_other _ _ (fun c => hn r (by omega) (hinj j (ix r) hj hix c))]
    exact hM j hj hn
/-- the low mark of one of the path sinks -/
theorem JX.low (h : JX tf tg T N q d p m sn ov pl ix st sz lw mv) {a v : Nat} (ha : a < d) (hv : v < lw (pl (ix a))) (hc : ∃ k z, Chn (Ed tg sn st) k (pl (ix a)) z ∧ onP sn st z ∧ ov z = v) (e19 : U.2.1 19 = upd (T.2.1 19) (pl (ix a)) (nI v)) (e : ∀ k, 18 ≤ k → k ≤ 24 → k ≠ 19 → U.2.1 k = T.2.1 k) (e8 : U.1 8 = T.1 8) : JX tf tg U N q d p m sn ov pl ix st sz (va_up lw (pl (ix a)) v) mv := by
  obtain ⟨hA, hL, h18, h20, h22, h21, h19, h24, h8, hC0, hC2, hM⟩ := h
  have hinj := fun i j => hA.inj (i := i) (j := j)
  have hix := hA.2.2.2.2.2.2.1 a ha
  have hL2 := hL.low hc
  unfold JX
  rw [e 18 (by omega) (by omega) (by omega), e 23 (by omega) (by omega) (by omega), e 20 (by omega) (by omega) (by omega), e 21 (by omega) (by omega) (by omega), e 22 (by omega) (by omega) (by omega), e 24 (by omega) (by omega) (by omega), e19, e8]
  refine ⟨hA, hL2, h18, h20, h22, h21, fun i hi => ?_, h24, h8, fun j hj i hi t hu => ?_, fun i hi j j1 j2 j3 => ?_, hM⟩
  · have g := h19 i hi
    by_cases c : pl i = pl (ix a)
    · rw [c] at g
      rw [c, upd_same, va_up_same]; exact ⟨rfl, by omega, g.2.2⟩
    · rw [upd_other _ _ c, va_up_other _ _ c]; exact g
  · have g := hC0 j hj i hi t hu
    refine ⟨g.1, fun on => ?_⟩
    have g2 := g.2 on
    by_cases c : pl j = pl (ix a)
    · rw [c, va_up_same]; rw [c] at g2; omega
    · rw [va_up_other _ _ c]; exact g2
  · have g := hC2 i hi j j1 j2 j3
    by_cases c : i = a
    · subst c
      rw [va_up_same]
      by_cases c2 : pl j = pl (ix i)
      · rw [c2, va_up_same]; exact Nat.le_refl _
      · rw [va_up_other _ _ c2]; omega
    · have ne1 : pl (ix i) ≠ pl (ix a) := fun c2 => by
        have := hinj _ _ (hA.2.2.2.2.2.2.1 i hi) hix c2
        rcases Nat.lt_or_gt_of_ne c with w | w
        · have := hA.2.2.2.2.2.2.2.1 i a w ha; omega
        · have := hA.2.2.2.2.2.2.2.1 a i w hi; omega
      have ne2 : pl j ≠ pl (ix a) := fun c2 => by
        have e := hinj _ _ j2 hix c2
        rcases Nat.lt_or_gt_of_ne c with w | w
        · have h1 := j3 (by omega)
          rcases Nat.eq_or_lt_of_le (show i + 1 ≤ a by omega) with w2 | w2
          · rw [w2] at h1; omega
          · have := hA.2.2.2.2.2.2.2.1 (i + 1) a w2 ha; omega
        · have := hA.2.2.2.2.2.2.2.1 a i w hi; omega
      rw [va_up_other _ _ ne1, va_up_other _ _ ne2]
      exact g
/-- one is left, its set isn't ended -/
theorem JX.back (h : JX tf tg T N q (r + 1 + 1) p m sn ov pl ix st sz lw mv) (hs : mv (pl (ix (r + 1))) = 25) (hl : lw (pl (ix r)) ≤ lw (pl (ix (r + 1)))) : JX tf tg T N q (r + 1) p m sn ov pl ix st sz lw mv := by
  obtain ⟨hA, hL, h18, h20, h22, h21, h19, h24, h8, hC0, hC2, hM⟩ := h
  refine ⟨hA.back (by omega), hL, h18, h20, h22, fun i hi => h21 i (by omega), h19, h24, h8, hC0, fun i hi j j1 j2 j3 => ?_, fun j hj hn => ?_⟩
  · by_cases c : i = r
    · subst c
      rcases Nat.lt_or_ge j (ix (i + 1)) with w | w
      · exact hC2 i (by omega) j j1 j2 (fun _ => w)
      · have := hC2 (i + 1) (by omega) j w j2 (fun c => by omega)
        omega
    · exact hC2 i (by omega) j j1 j2 (fun _ => j3 (by omega))
  · by_cases c : j = ix (r + 1)
    · rw [c]; exact hs
    · refine hM j hj (fun i hi => ?_)
      by_cases c2 : i = r + 1
      · rw [c2]; exact c
      · exact hn i (by omega)
theorem JX.ended (h : JX tf tg T N q (r + 1) p m sn ov pl ix st sz lw mv) (hW : ¬ WP tg p sn ov pl st (ix r)) (h20' : ∀ x, x < N → U.2.1 20 x = lab (popS st pl m p (p - ix r) x)) (h24' : ∀ k, k < m + 1 → U.2.1 24 k = nI (va_up sz m (p - ix r) k)) (e : ∀ k, 18 ≤ k → k ≤ 23 → k ≠ 20 → U.2.1 k = T.2.1 k) (e8 : U.1 8 = nI (m + 1)) : JX tf tg U N q r (ix r) (m + 1) sn ov pl ix (popS st pl m p (p - ix r)) (va_up sz m (p - ix r)) lw mv := by
  obtain ⟨hA, hL, h18, h20, h22, h21, h19, h24, h8, hC0, hC2, hM⟩ := h
  have hon := fun z => hA.onP' (z := z)
  have hix := hA.2.2.2.2.2.2.1 r (by omega)
  have hmono := hA.2.2.2.2.2.2.2.1
  unfold JX
  rw [e 18 (by omega) (by omega) (by omega), e 23 (by omega) (by omega) (by omega), e 19 (by omega) (by omega) (by omega), e 21 (by omega) (by omega) (by omega), e 22 (by omega) (by omega) (by omega)]
  refine ⟨hA.ended, LSt.ended hA hL (fun j hj => (h19 j hj).2.1) hW, h18, h20', fun i hi => h22 i (by omega), fun i hi => h21 i (by omega), fun i hi => h19 i (by omega), h24', e8, fun j hj i hi t hu => ?_, fun i hi j j1 j2 j3 => ?_, fun j hj hn => ?_⟩
  · have g := hC0 j (by omega) i hi t hu
    exact ⟨g.1, fun on => g.2 ((hon t).mp on).1⟩
  · refine hC2 i (by omega) j j1 (by omega) (fun c => ?_)
    by_cases c2 : i + 1 = r
    · rw [c2]; exact j2
    · exact j3 (by omega)
  · refine hM j (by omega) (fun i hi => ?_)
    by_cases c : i = r
    · rw [c]; omega
    · exact hn i (by omega)
end JXs
