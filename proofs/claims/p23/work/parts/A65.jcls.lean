-- joined(): the rows of DiscYard's own search hold the search
def KX (tg : Nat → List Nat) (T : CS) (N q d p m : Nat) (sn : Nat → Bool) (ov pl ix : Nat → Nat) (st : Nat → Option Nat) (sz lw pc : Nat → Nat) : Prop := AI tg N q d p m sn ov pl ix st sz ∧ LSt tg p sn ov pl st lw ∧ (T.1 14 = nI q ∧ T.1 15 = nI d ∧ T.1 16 = nI p ∧ T.1 18 = nI m) ∧ (∀ x, x < N → T.2.1 30 x = if sn x then nI (ov x + 1) else 0) ∧ (∀ x, x < N → T.2.1 35 x = lab (st x)) ∧ (∀ i, i < p → T.2.1 34 i = nI (pl i)) ∧ (∀ i, i < d → T.2.1 33 i = nI (pl (ix i))) ∧ (∀ i, i < p → T.2.1 31 (pl i) = nI (lw (pl i) + 1) ∧ lw (pl i) ≤ ov (pl i)) ∧ (∀ k, k < N → T.2.1 36 k = if k < m then nI (sz k) else 0) ∧ (∀ k, k < N → T.2.1 37 k = 0) ∧
  (∀ i, i < d → ∀ e, e < pc (pl (ix i)) → ∀ t, (tg (pl (ix i)))[e]? = some t → sn t = true ∧ (onP sn st t → lw (pl (ix i)) ≤ ov t)) ∧ (∀ j, j < p → (∀ i, i < d → j ≠ ix i) → ∀ t, t ∈ tg (pl j) → sn t = true ∧ (onP sn st t → lw (pl j) ≤ ov t)) ∧ (∀ i, i + 1 < d → (tg (pl (ix i)))[pc (pl (ix i))]? = some (pl (ix (i + 1))) ∧ ∀ j, ix i ≤ j → j < ix (i + 1) → lw (pl (ix i)) ≤ lw (pl j)) ∧
  (∀ r, d = r + 1 → ∃ e, ix r < e ∧ e ≤ p ∧ (∀ j, ix r ≤ j → j < e → lw (pl (ix r)) ≤ lw (pl j)) ∧ (e < p → (tg (pl (ix r)))[pc (pl (ix r))]? = some (pl e) ∧ ∀ j, e ≤ j → j < p → lw (pl e) ≤ lw (pl j)))
/-- the places of those on the path below place d -/
def K32 (T : CS) (d : Nat) (pl ix pc : Nat → Nat) : Prop := ∀ i, i < d → T.2.1 32 (pl (ix i)) = nI (pc (pl (ix i))) ∧ pc (pl (ix i)) ≤ 25
section KXs
variable {tg : Nat → List Nat} {T U : CS} {N q d r p m : Nat} {sn : Nat → Bool} {ov pl ix : Nat → Nat} {st : Nat → Option Nat} {sz lw pc : Nat → Nat}
theorem KX.look (h : KX tg T N q d p m sn ov pl ix st sz lw pc) (f : CFr lA lB nn T U) : KX tg U N q d p m sn ov pl ix st sz lw pc := by
  unfold KX
  rw [f.1 14 rfl, f.1 15 rfl, f.1 16 rfl, f.1 18 rfl, (f.2.1 30 rfl).1, (f.2.1 31 rfl).1, (f.2.1 33 rfl).1, (f.2.1 34 rfl).1, (f.2.1 35 rfl).1, (f.2.1 36 rfl).1, (f.2.1 37 rfl).1]
  exact h
theorem K32.look (h : K32 T d pl ix pc) (f : CFr lA lB nn T U) : K32 U d pl ix pc := by
  unfold K32
  rw [(f.2.1 32 rfl).1]
  exact h
theorem AI.path_ne (h : AI tg N q d p m sn ov pl ix st sz) {i j : Nat} (hi : i < j) (hj : j < d) : pl (ix i) ≠ pl (ix j) := fun e => by
  have h1 := h.inj (h.2.2.2.2.2.2.1 i (by omega)) (h.2.2.2.2.2.2.1 j hj) e
  have h2 := h.2.2.2.2.2.2.2.1 i j hi hj
  omega
theorem KX.enter (h : KX tg T N q d p m sn ov pl ix st sz lw pc) {t : Nat} (ht : t < N) (h0 : sn t = false) (he : ∀ r, d = r + 1 → (tg (pl (ix r)))[pc (pl (ix r))]? = some t) (e14 : U.1 14 = nI (q + 1)) (e15 : U.1 15 = nI (d + 1)) (e16 : U.1 16 = nI (p + 1)) (e18 : U.1 18 = T.1 18) (e30 : U.2.1 30 = upd (T.2.1 30) t (nI (q + 1))) (e31 : U.2.1 31 = upd (T.2.1 31) t (nI (q + 1))) (e33 : U.2.1 33 = upd (T.2.1 33) d (nI t)) (e34 : U.2.1 34 = upd (T.2.1 34) p (nI t)) (e35 : U.2.1 35 = T.2.1 35) (e36 : U.2.1 36 = T.2.1 36) (e37 : U.2.1 37 = T.2.1 37) : q < N ∧ KX tg U N (q + 1) (d + 1) (p + 1) m (va_up sn t true) (va_up ov t q) (va_up pl p t) (va_up ix d p) st sz (va_up lw t q) (va_up pc t 0) := by
  obtain ⟨hA, hL, ⟨h14, h15, h16, h18⟩, h30, h35, h34, h33, h31, h36, h37, D1, D2, D3, D4⟩ := h
  obtain ⟨hq, hA'⟩ := hA.enter ht h0 (fun r e => List.mem_of_getElem? (he r e))
  have hA0 := hA
  obtain ⟨a1, a2, a3, a4, a5, a6, a7, a8, a9, a10, a11, a12, a13, a14⟩ := hA
  have pne : ∀ i, i < p → pl i ≠ t := fun i hi e => by
    have := (a5 i hi).1
    rw [e, h0] at this; cases this
  have plo : ∀ i, i < p → va_up pl p t i = pl i := fun i hi => va_up_other _ _ (by omega)
  have pix : ∀ i, i < d → va_up pl p t (va_up ix d p i) = pl (ix i) := fun i hi => by rw [va_up_other ix _ (show i ≠ d by omega), plo _ (a7 i hi)]
  have old : ∀ z, sn z = true → (onP (va_up sn t true) st z → onP sn st z) ∧ va_up sn t true z = true ∧ va_up ov t q z = ov z := fun z hz => by
    have e : z ≠ t := fun e => by rw [e, h0] at hz; cases hz
    exact ⟨fun o => ⟨hz, o.2⟩, by rw [va_up_other _ _ e]; exact hz, va_up_other _ _ e⟩
  refine ⟨hq, hA', LSt.enter hA0 hL h0, ⟨e14, e15, e16, by rw [e18]; exact h18⟩, fun x hx => ?_, fun x hx => ?_, fun i hi => ?_, fun i hi => ?_, fun i hi => ?_, fun k hk => ?_, fun k hk => ?_, fun i hi e hee u hu => ?_, fun j hj hn u hu => ?_, fun i hi => ?_, fun r hr => ?_⟩
  · rw [e30]
    by_cases e : x = t
    · subst e; rw [upd_same, va_up_same, va_up_same]; rfl
    · rw [upd_other _ _ e, va_up_other _ _ e, va_up_other _ _ e]; exact h30 x hx
  · rw [e35]; exact h35 x hx
  · rw [e34]
    by_cases e : i = p
    · subst e; rw [upd_same, va_up_same]
    · rw [upd_other _ _ e, va_up_other _ _ e]; exact h34 i (by omega)
  · rw [e33]
    by_cases e : i = d
    · subst e; rw [upd_same, va_up_same, va_up_same]
    · rw [upd_other _ _ e, pix i (by omega)]; exact h33 i (by omega)
  · by_cases e : i = p
    · subst e
      rw [va_up_same, va_up_same, va_up_same, e31, upd_same]
      exact ⟨rfl, Nat.le_refl _⟩
    · have hip : i < p := by omega
      rw [plo i hip, va_up_other _ _ (pne i hip), va_up_other _ _ (pne i hip), e31, upd_other _ _ (pne i hip)]
      exact h31 i hip
  · rw [e36]; exact h36 k hk
  · rw [e37]; exact h37 k hk
  · by_cases c : i = d
    · subst c
      rw [va_up_same, va_up_same, va_up_same] at hee
      omega
    · have hid : i < d := by omega
      have hne := pne _ (a7 i hid)
      rw [pix i hid] at hee hu ⊢
      rw [va_up_other _ _ hne] at hee ⊢
      have g := D1 i hid e hee u hu
      obtain ⟨o1, o2, o3⟩ := old u g.1
      exact ⟨o2, fun o => by rw [o3]; exact g.2 (o1 o)⟩
  · by_cases c : j = p
    · exact absurd (by rw [va_up_same]; exact c) (hn d (by omega))
    · have hjp : j < p := by omega
      rw [plo j hjp] at hu ⊢
      rw [va_up_other _ _ (pne j hjp)]
      have g := D2 j hjp (fun i hi => by
        have := hn i (by omega)
        rw [va_up_other _ _ (show i ≠ d by omega)] at this
        exact this) u hu
      obtain ⟨o1, o2, o3⟩ := old u g.1
      exact ⟨o2, fun o => by rw [o3]; exact g.2 (o1 o)⟩
  · have hid : i < d := by omega
    have hne := pne _ (a7 i hid)
    rw [pix i hid, va_up_other _ _ hne, va_up_other _ _ hne, va_up_other ix _ (show i ≠ d by omega)]
    by_cases c : i + 1 = d
    · have hti := he i c.symm
      obtain ⟨e, q1, q2, q3, q4⟩ := D4 i c.symm
      have ep : e = p := by
        rcases Nat.eq_or_lt_of_le q2 with w | w
        · exact w
        · have := (q4 w).1
          rw [hti] at this
          cases this
          exact absurd rfl (pne e w)
      rw [c, va_up_same, va_up_same]
      refine ⟨hti, fun j j1 j2 => ?_⟩
      rw [plo j j2, va_up_other _ _ (pne j j2)]
      exact q3 j j1 (by omega)
    · have g := D3 i (by omega)
      have hi1 := a7 (i + 1) (by omega)
      rw [va_up_other _ _ c, plo _ hi1]
      refine ⟨g.1, fun j j1 j2 => ?_⟩
      rw [plo j (by omega), va_up_other _ _ (pne j (by omega))]
      exact g.2 j j1 j2
  · have hr : d = r := Nat.succ.inj hr
    subst hr
    rw [va_up_same, va_up_same]
    refine ⟨p + 1, by omega, Nat.le_refl _, fun j j1 j2 => ?_, fun c => by omega⟩
    have : j = p := by omega
    subst this
    rw [va_up_same, va_up_same, va_up_same]
    exact Nat.le_refl _
/-- one more move of the last of the path is looked at -/
theorem KX.more (h : KX tg T N q (r + 1) p m sn ov pl ix st sz lw pc) {t v : Nat} (ht : (tg (pl (ix r)))[pc (pl (ix r))]? = some t) (hs : sn t = true) (hv : v = if st t = none then min (lw (pl (ix r))) (lw t) else lw (pl (ix r))) (e31 : U.2.1 31 = upd (T.2.1 31) (pl (ix r)) (nI (v + 1))) (e1 : U.1 14 = T.1 14 ∧ U.1 15 = T.1 15 ∧ U.1 16 = T.1 16 ∧ U.1 18 = T.1 18) (e : ∀ k, 30 ≤ k → k ≤ 37 → k ≠ 31 → U.2.1 k = T.2.1 k) : KX tg U N q (r + 1) p m sn ov pl ix st sz (va_up lw (pl (ix r)) v) (va_up pc (pl (ix r)) (pc (pl (ix r)) + 1)) := by
  obtain ⟨hA, hL, ⟨h14, h15, h16, h18⟩, h30, h35, h34, h33, h31, h36, h37, D1, D2, D3, D4⟩ := h
  have hA0 := hA
  obtain ⟨a1, a2, a3, a4, a5, a6, a7, a8, a9, a10, a11, a12, a13, a14⟩ := hA
  have hix := a7 r (by omega)
  have vle : v ≤ lw (pl (ix r)) := by
    rw [hv]; split
    · exact Nat.min_le_left _ _
    · exact Nat.le_refl _
  have vt : onP sn st t → v ≤ lw t ∧ v ≤ ov t := fun o => by
    obtain ⟨i, i1, i2⟩ := a4 t o
    have := (h31 i i1).2
    rw [i2] at this
    rw [hv, if_pos o.2]
    have := Nat.min_le_right (lw (pl (ix r))) (lw t)
    omega
  have hL2 : LSt tg p sn ov pl st (va_up lw (pl (ix r)) v) := by
    refine hL.low ?_
    by_cases c : st t = none
    · rw [hv, if_pos c]
      rcases Nat.le_total (lw (pl (ix r))) (lw t) with w | w
      · rw [Nat.min_eq_left w]; exact hL _ hix
      · rw [Nat.min_eq_right w]
        obtain ⟨i, i1, i2⟩ := a4 t ⟨hs, c⟩
        obtain ⟨k, z, z1, z2, z3⟩ := hL i i1
        rw [i2] at z1 z3
        exact ⟨k + 1, z, ⟨t, ⟨List.mem_of_getElem? ht, a5 _ hix, hs, c⟩, z1⟩, z2, z3⟩
    · rw [hv, if_neg c]; exact hL _ hix
  have up : ∀ y, va_up lw (pl (ix r)) v y ≤ lw y := fun y => by
    by_cases c : y = pl (ix r)
    · rw [c, va_up_same]; exact vle
    · rw [va_up_other _ _ c]; exact Nat.le_refl _
  unfold KX
  rw [e1.1, e1.2.1, e1.2.2.1, e1.2.2.2, e 30 (by omega) (by omega) (by omega), e 35 (by omega) (by omega) (by omega), e 34 (by omega) (by omega) (by omega), e 33 (by omega) (by omega) (by omega), e 36 (by omega) (by omega) (by omega), e 37 (by omega) (by omega) (by omega), e31]
  refine ⟨hA0, hL2, ⟨h14, h15, h16, h18⟩, h30, h35, h34, h33, fun i hi => ?_, h36, h37, fun i hi e he u hu => ?_, fun j hj hn u hu => ?_, fun i hi => ?_, fun r' hr => ?_⟩
  · have g := h31 i hi
    by_cases c : pl i = pl (ix r)
    · rw [c] at g
      rw [c, upd_same, va_up_same]; exact ⟨rfl, by omega⟩
    · rw [upd_other _ _ c, va_up_other _ _ c]; exact g
  · by_cases c : i = r
    · subst c
      rw [va_up_same] at he ⊢
      by_cases c2 : e = pc (pl (ix i))
      · rw [c2, ht] at hu
        cases hu
        exact ⟨hs, fun o => (vt o).2⟩
      · have g := D1 i hi e (by omega) u hu
        exact ⟨g.1, fun o => by have := g.2 o; omega⟩
    · have ne := hA0.path_ne (show i < r by omega) (by omega)
      rw [va_up_other _ _ ne] at he ⊢
      exact D1 i hi e he u hu
  · have g := D2 j hj hn u hu
    exact ⟨g.1, fun o => by have := g.2 o; have := up (pl j); omega⟩
  · have ne := hA0.path_ne (show i < r by omega) (by omega)
    have g := D3 i hi
    rw [va_up_other _ _ ne, va_up_other _ _ ne]
    refine ⟨g.1, fun j j1 j2 => ?_⟩
    have : ix (i + 1) ≤ ix r := by
      rcases Nat.eq_or_lt_of_le (show i + 1 ≤ r by omega) with w | w
      · rw [w]; exact Nat.le_refl _
      · exact Nat.le_of_lt (a8 (i + 1) r w (by omega))
    rw [va_up_other _ _ (fun c => by have := hA0.inj (show j < p by omega) hix c; omega)]
    exact g.2 j j1 j2
  · have hr : r = r' := by omega
    subst hr
    obtain ⟨e, q1, q2, q3, q4⟩ := D4 r rfl
    rw [va_up_same]
    refine ⟨p, hix, Nat.le_refl _, fun j j1 j2 => ?_, fun c => by omega⟩
    by_cases c : pl j = pl (ix r)
    · rw [c, va_up_same]; exact Nat.le_refl _
    · rw [va_up_other _ _ c]
      rcases Nat.lt_or_ge j e with w | w
      · have := q3 j j1 w; omega
      · obtain ⟨g1, g2⟩ := q4 (by omega)
        rw [ht] at g1
        have g1 : t = pl e := Option.some.inj g1
        have := g2 j w j2
        have hon := a5 e (by omega)
        rw [← g1] at hon this
        have := (vt hon).1
        omega
/-- all moves of the last of the path are looked at -/
theorem KX.dec (h : KX tg T N q (r + 1) p m sn ov pl ix st sz lw pc) (hf : (tg (pl (ix r))).length ≤ pc (pl (ix r))) : (tg (pl (ix r))).find? (fun t => !sn t) = none ∧ (lw (pl (ix r)) = ov (pl (ix r)) ↔ ¬ WP tg p sn ov pl st (ix r)) ∧ (∀ t, t ∈ tg (pl (ix r)) → sn t = true ∧ (onP sn st t → lw (pl (ix r)) ≤ ov t)) ∧ (∀ j, ix r ≤ j → j < p → lw (pl (ix r)) ≤ lw (pl j)) := by
  obtain ⟨hA, hL, ⟨h14, h15, h16, h18⟩, h30, h35, h34, h33, h31, h36, h37, D1, D2, D3, D4⟩ := h
  have hix := hA.2.2.2.2.2.2.1 r (by omega)
  have all : ∀ t, t ∈ tg (pl (ix r)) → sn t = true ∧ (onP sn st t → lw (pl (ix r)) ≤ ov t) := fun t ht => by
    obtain ⟨e, he⟩ := idx_of ht
    have := (List.getElem?_eq_some_iff.mp he).1
    exact D1 r (by omega) e (by omega) t he
  have seg : ∀ j, ix r ≤ j → j < p → lw (pl (ix r)) ≤ lw (pl j) := by
    obtain ⟨e, q1, q2, q3, q4⟩ := D4 r rfl
    have ep : e = p := by
      rcases Nat.eq_or_lt_of_le q2 with w | w
      · exact w
      · have := (List.getElem?_eq_some_iff.mp (q4 w).1).1
        omega
    rw [ep] at q3
    exact q3
  refine ⟨List.find?_eq_none.mpr (fun t ht => ?_), low_iff hA hL hix (h31 _ hix).2 (fun j t j1 j2 j3 j4 => ?_), all, seg⟩
  · rw [(all t ht).1]; decide
  · rcases Nat.eq_or_lt_of_le j1 with w | w
    · rw [← w] at j3; exact (all t j3).2 j4
    · have g := (D2 j j2 (fun i hi => by
        rcases Nat.eq_or_lt_of_le (show i ≤ r by omega) with w2 | w2
        · rw [w2]; omega
        · have := hA.2.2.2.2.2.2.2.1 i r w2 (by omega); omega) t j3).2 j4
      have := seg j j1 j2
      omega
theorem KX.back (h : KX tg T N q (r + 1 + 1) p m sn ov pl ix st sz lw pc) (hf : (tg (pl (ix (r + 1)))).length ≤ pc (pl (ix (r + 1)))) (e15 : U.1 15 = nI (r + 1)) (e1 : U.1 14 = T.1 14 ∧ U.1 16 = T.1 16 ∧ U.1 18 = T.1 18) (e : ∀ k, 30 ≤ k → k ≤ 37 → U.2.1 k = T.2.1 k) : KX tg U N q (r + 1) p m sn ov pl ix st sz lw pc := by
  obtain ⟨-, -, all, seg⟩ := h.dec hf
  obtain ⟨hA, hL, ⟨h14, h15, h16, h18⟩, h30, h35, h34, h33, h31, h36, h37, D1, D2, D3, D4⟩ := h
  have hmono := hA.2.2.2.2.2.2.2.1 r (r + 1) (by omega) (by omega)
  have hix := hA.2.2.2.2.2.2.1 (r + 1) (by omega)
  unfold KX
  rw [e15, e1.1, e1.2.1, e1.2.2, e 30 (by omega) (by omega), e 31 (by omega) (by omega), e 35 (by omega) (by omega), e 34 (by omega) (by omega), e 33 (by omega) (by omega), e 36 (by omega) (by omega), e 37 (by omega) (by omega)]
  refine ⟨hA.back (by omega), hL, ⟨h14, rfl, h16, h18⟩, h30, h35, h34, fun i hi => h33 i (by omega), h31, h36, h37, fun i hi => D1 i (by omega), fun j hj hn => ?_, fun i hi => D3 i (by omega), fun r' hr => ?_⟩
  · by_cases c : j = ix (r + 1)
    · rw [c]; exact all
    · refine D2 j hj (fun i hi => ?_)
      by_cases c2 : i = r + 1
      · rw [c2]; exact c
      · exact hn i (by omega)
  · have hr : r = r' := by omega
    subst hr
    have g := D3 r (by omega)
    exact ⟨ix (r + 1), hmono, by omega, g.2, fun _ => ⟨g.1, seg⟩⟩
theorem KX.ended (h : KX tg T N q (r + 1) p m sn ov pl ix st sz lw pc) (hW : ¬ WP tg p sn ov pl st (ix r)) (e15 : U.1 15 = nI r) (e16 : U.1 16 = nI (ix r)) (e18 : U.1 18 = nI (m + 1)) (e14 : U.1 14 = T.1 14) (h35' : ∀ x, x < N → U.2.1 35 x = lab (popS st pl m p (p - ix r) x)) (h36' : ∀ k, k < N → U.2.1 36 k = if k < m + 1 then nI (va_up sz m (p - ix r) k) else 0) (e : ∀ k, 30 ≤ k → k ≤ 37 → k ≠ 35 → k ≠ 36 → U.2.1 k = T.2.1 k) : KX tg U N q r (ix r) (m + 1) sn ov pl ix (popS st pl m p (p - ix r)) (va_up sz m (p - ix r)) lw pc := by
  obtain ⟨hA, hL, ⟨h14, h15, h16, h18⟩, h30, h35, h34, h33, h31, h36, h37, D1, D2, D3, D4⟩ := h
  have hon := fun z => hA.onP' (z := z)
  have hix := hA.2.2.2.2.2.2.1 r (by omega)
  have hmono := hA.2.2.2.2.2.2.2.1
  unfold KX
  rw [e14, e 30 (by omega) (by omega) (by omega) (by omega), e 31 (by omega) (by omega) (by omega) (by omega), e 34 (by omega) (by omega) (by omega) (by omega), e 33 (by omega) (by omega) (by omega) (by omega), e 37 (by omega) (by omega) (by omega) (by omega)]
  refine ⟨hA.ended, LSt.ended hA hL (fun j hj => (h31 j hj).2) hW, ⟨h14, e15, e16, e18⟩, h30, h35', fun i hi => h34 i (by omega), fun i hi => h33 i (by omega), fun i hi => h31 i (by omega), h36', h37, fun i hi e he t ht => ?_, fun j hj hn t ht => ?_, fun i hi => D3 i (by omega), fun r' hr => ?_⟩
  · have g := D1 i (by omega) e he t ht
    exact ⟨g.1, fun o => g.2 ((hon t).mp o).1⟩
  · have g := D2 j (by omega) (fun i hi => by
      by_cases c : i = r
      · rw [c]; omega
      · exact hn i (by omega)) t ht
    exact ⟨g.1, fun o => g.2 ((hon t).mp o).1⟩
  · subst hr
    have g := D3 r' (by omega)
    exact ⟨ix (r' + 1), hmono r' (r' + 1) (by omega) (by omega), Nat.le_refl _, g.2, fun c => by omega⟩
end KXs
