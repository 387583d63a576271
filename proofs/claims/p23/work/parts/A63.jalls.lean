-- joined(): the reference's joinAll() is the search
theorem tgN_PP {n P : Nat} {kd ct sg : Nat → Nat} {x a b t : Nat} (h : tgN n P kd ct sg x a b = some t) : a < P ∧ b < P := by
  unfold tgN at h
  split at h
  · next w => exact ⟨w.1, w.2.1⟩
  · cases h
section JAllS
variable {S : MS} {n P : Nat} {kd ct sg : Nat → Nat}
/-- all moves of one are looked at -/
theorem JX.full {T : MS} {N q d p m : Nat} {sn : Nat → Bool} {ov pl ix : Nat → Nat} {st : Nat → Option Nat} {sz lw mv : Nat → Nat} (h : JX (tgN n P kd ct sg) (tl n P kd ct sg) T N q d p m sn ov pl ix st sz lw mv) (hP : P ≤ 5) {j t : Nat} (hj : j < p) (hm : mv (pl j) = 25) (ht : t ∈ tl n P kd ct sg (pl j)) : sn t = true ∧ (onP sn st t → lw (pl j) ≤ ov t) := by
  obtain ⟨a, b, e⟩ := mem_tl.mp ht
  have := tgN_PP e
  refine h.2.2.2.2.2.2.2.2.2.1 j hj (5 * a + b) (by omega) t ?_
  rw [show (5 * a + b) / 5 = a by omega, show (5 * a + b) % 5 = b by omega]
  exact e
theorem JX.dec {T : MS} {N q r p m : Nat} {sn : Nat → Bool} {ov pl ix : Nat → Nat} {st : Nat → Option Nat} {sz lw mv : Nat → Nat} (h : JX (tgN n P kd ct sg) (tl n P kd ct sg) T N q (r + 1) p m sn ov pl ix st sz lw mv) (hP : P ≤ 5) (hm : mv (pl (ix r)) = 25) : (tl n P kd ct sg (pl (ix r))).find? (fun t => !sn t) = none ∧ (lw (pl (ix r)) = ov (pl (ix r)) ↔ ¬ WP (tl n P kd ct sg) p sn ov pl st (ix r)) := by
  have hix := h.1.2.2.2.2.2.2.1 r (by omega)
  have hmono := h.1.2.2.2.2.2.2.2.1
  refine ⟨List.find?_eq_none.mpr (fun t ht => ?_), low_iff h.1 h.2.1 hix (h.2.2.2.2.2.2.1 _ hix).2.1 (fun j t j1 j2 j3 j4 => ?_)⟩
  · rw [(h.full hP hix hm ht).1]; decide
  · have h1 := h.2.2.2.2.2.2.2.2.2.2.1 r (by omega) j j1 j2 (fun c => by omega)
    have hmj : mv (pl j) = 25 := by
      rcases Nat.eq_or_lt_of_le j1 with e | e
      · rw [← e]; exact hm
      · refine h.2.2.2.2.2.2.2.2.2.2.2 j j2 (fun i hi => ?_)
        rcases Nat.eq_or_lt_of_le (show i ≤ r by omega) with w | w
        · rw [w]; omega
        · have := hmono i r w (by omega); omega
    have h2 := (h.full hP j2 hmj j3).2 j4
    omega
set_option maxHeartbeats 4000000 in
theorem s_joinAllS (l : Launch) (hy : MY S n P kd ct sg) (h8 : ∃ τ, MA S 8 τ) (h9 : ∃ τ, MA S 9 τ) (hN : P ^ n ≤ 20000) (post : MS → Prop) (hp : ∀ T q m sn ov pl ix st sz, MK S T → JF (tl n P kd ct sg) (rgt n P kd) (P ^ n) (jst q 0 0 m sn ov pl ix st sz) → AI (tl n P kd ct sg) (P ^ n) q 0 0 m sn ov pl ix st sz → T.1 8 = nI m → (∀ x, x < P ^ n → T.2.1 20 x = lab (st x)) → (∀ k, k < m → T.2.1 24 k = nI (sz k)) → (∀ x, x < P ^ n → rgt n P kd x = true → st x ≠ none) → post T) : mX_joinAll l S post := by
  have hP2 := hy.2.2.1
  have hn2 := hy.2.2.2.1
  refine m_joinAll l S post ?_
  intro B7 B41 B129 B398 B431 B502 h7 h41 h129 h398 h431 h502
  -- a set is popped
  have pop : ∀ (f : Int32) (T0 : MS) (q d p m : Nat) (sn : Nat → Bool) (ov pl ix : Nat → Nat) (st : Nat → Option Nat) (sz lw mv : Nat → Nat), JX (tgN n P kd ct sg) (tl n P kd ct sg) T0 (P ^ n) q (d + 1) p m sn ov pl ix st sz lw mv → ¬ WP (tl n P kd ct sg) p sn ov pl st (ix d) → (∀ U, MK S U → JX (tgN n P kd ct sg) (tl n P kd ct sg) U (P ^ n) q d (ix d) (m + 1) sn ov pl ix (popS st pl m p (p - ix d)) (va_up sz m (p - ix d)) lw mv → B129 U (nI (P ^ n)) (nI q) f (nI d) (nI (ix d))) → ∀ e p' r, p' = ix d + e → r + p' = p → ∀ V : MS, MK S V → V.1 8 = nI m → (∀ k, 18 ≤ k → k ≤ 23 → k ≠ 20 → V.2.1 k = T0.2.1 k) → (∀ x, x < P ^ n → V.2.1 20 x = lab (popS st pl m p r x)) → V.2.1 24 m = nI r → (∀ k, k < m → V.2.1 24 k = T0.2.1 24 k) → B431 V (nI (P ^ n)) (nI q) f (nI d) (nI p') (nI (pl (ix d))) (if e = 0 then 0 else 1) := by
    intro f T0 q d p m sn ov pl ix st sz lw mv hJ hW hk e
    have hqN := hJ.1.qN
    have hinj := fun i j => hJ.1.inj (i := i) (j := j)
    obtain ⟨a1, a2, a3, a4, a5, a6, a7, a8, a9, a10, a11, a12, a13, a14⟩ := id hJ.1
    have hixd := a7 d (by omega)
    induction e with
    | zero =>
      intro p' r hp' hr V mV v8 ve v20 v24 v24b
      have hp' : p' = ix d := hp'
      subst hp'
      refine h431 _ _ _ _ _ _ _ _ ?_
      unfold mT_joinAll_431
      rw [if_pos rfl]
      refine ⟨fun _ => ?_, fun c => absurd rfl c⟩
      rw [v8, ← nI_succ]
      have er : r = p - ix d := by omega
      subst er
      refine hk _ (mV.mfs _ (by omega)) (hJ.ended hW v20 (fun k hk => ?_) ve rfl)
      show V.2.1 24 k = _
      by_cases c : k = m
      · rw [c, va_up_same]; exact v24
      · rw [va_up_other _ _ c, v24b k (by omega)]
        exact hJ.2.2.2.2.2.2.2.1 k (by omega)
    | succ e ih =>
      intro p' r hp' hr V mV v8 ve v20 v24 v24b
      subst hp'
      have hlt : ix d + e < p := by omega
      have gj := a5 _ hlt
      have hplN := (a1 _ gj.1).1
      have v22 : V.2.1 22 (ix d + e) = nI (pl (ix d + e)) := by rw [ve 22 (by omega) (by omega) (by omega)]; exact hJ.2.2.2.2.1 _ hlt
      refine h431 _ _ _ _ _ _ _ _ ?_
      unfold mT_joinAll_431
      rw [if_neg (Nat.succ_ne_zero e), show nI (ix d + (e + 1)) + (-1) = nI (ix d + e) from by rw [i_sub1]; exact nI_pred (ix d + e), nI_clamp (show ix d + e < 2 ^ 31 by omega), v22, v8]
      refine ⟨fun c => absurd c (by decide), fun _ => ⟨vp_in_nI (by omega) (by omega), fun v hv => ?_⟩⟩
      subst hv
      rw [nI_clamp (show pl (ix d + e) < 2 ^ 31 by omega), nI_clamp (show m < 2 ^ 31 by omega), v24, ← nI_succ]
      have nx := ih (ix d + e) (r + 1) rfl (by omega) (ma (ma V 20 (upd (V.2.1 20) (pl (ix d + e)) (nI m))) 24 (upd (V.2.1 24) m (nI (r + 1)))) ((mV.mar _ (by omega)).mar _ (by omega)) v8 (fun k k1 k2 k3 => by
          rw [ma_get_ne _ _ (by omega), ma_get_ne _ _ k3]; exact ve k k1 k2 k3) (fun x hx => by
          show upd (V.2.1 20) (pl (ix d + e)) (nI m) x = lab (va_up (popS st pl m p r) (pl (p - 1 - r)) (some m) x)
          rw [show p - 1 - r = ix d + e by omega]
          by_cases c : x = pl (ix d + e)
          · subst c; rw [upd_same, va_up_same]; rfl
          · rw [upd_other _ _ c, va_up_other _ _ c]; exact v20 x hx) (upd_same _ _ _) (fun k hk => by
          show upd (V.2.1 24) m (nI (r + 1)) k = _
          rw [upd_other _ _ (by omega)]; exact v24b k hk)
      refine ⟨vp_in_nI (by omega) (by omega), vp_in_nI (by omega) (by omega), vp_in_nI (by omega) (by omega), fun c => ?_, fun c => ?_⟩
      · have hixN := (a1 _ (a5 _ hixd).1).1
        have e1 := hinj _ _ hlt hixd ((nI_eq (by omega) (by omega)).mp c)
        have e1 : e = 0 := by omega
        rw [if_pos e1] at nx
        exact nx
      · have e1 : e ≠ 0 := fun e1 => c (by rw [e1, Nat.add_zero])
        rw [if_neg e1] at nx
        exact nx
  -- the walk from one root
  have walk : ∀ (f : Nat) (A1 : JA) (sn0 : Nat → Bool), (∀ T q m sn ov pl ix st sz lw mv, (∀ x, sn0 x = true → sn x = true) → MK S T → JX (tgN n P kd ct sg) (tl n P kd ct sg) T (P ^ n) q 0 0 m sn ov pl ix st sz lw mv → (∃ k, JRn (tl n P kd ct sg) k A1 (jst q 0 0 m sn ov pl ix st sz)) → B502 T (nI (P ^ n)) (nI q) (nI f)) → ∀ F T q d p m sn ov pl ix st sz lw mv, (∀ x, sn0 x = true → sn x = true) → 52 * (P ^ n - q) + 26 * d + (if d = 0 then 0 else 25 - mv (pl (ix (d - 1)))) ≤ F → MK S T → JX (tgN n P kd ct sg) (tl n P kd ct sg) T (P ^ n) q d p m sn ov pl ix st sz lw mv → (∃ k, JRn (tl n P kd ct sg) k A1 (jst q d p m sn ov pl ix st sz)) → B129 T (nI (P ^ n)) (nI q) (nI f) (nI d) (nI p) := by
    intro f A1 sn0 hend F
    induction F with
    | zero =>
      intro T q d p m sn ov pl ix st sz lw mv hsn hF mT hJ hR
      have hd : d = 0 := by omega
      subst hd
      have hp0 : p = 0 := hJ.1.2.2.2.2.2.2.2.2.2.1 rfl
      subst hp0
      refine h129 _ _ _ _ _ _ ?_
      unfold mT_joinAll_129
      exact ⟨fun _ => hend T q m sn ov pl ix st sz lw mv hsn mT hJ hR, fun c => absurd (by decide) c⟩
    | succ F ih =>
      intro T q d p m sn ov pl ix st sz lw mv hsn hF mT hJ hR
      by_cases hd : d = 0
      · subst hd
        have hp0 : p = 0 := hJ.1.2.2.2.2.2.2.2.2.2.1 rfl
        subst hp0
        refine h129 _ _ _ _ _ _ ?_
        unfold mT_joinAll_129
        exact ⟨fun _ => hend T q m sn ov pl ix st sz lw mv hsn mT hJ hR, fun c => absurd (by decide) c⟩
      · obtain ⟨r, rfl⟩ : ∃ r, d = r + 1 := ⟨d - 1, by omega⟩
        rw [if_neg (Nat.succ_ne_zero r), Nat.add_sub_cancel] at hF
        have hqN := hJ.1.qN
        obtain ⟨a1, a2, a3, a4, a5, a6, a7, a8, a9, a10, a11, a12, a13, a14⟩ := id hJ.1
        obtain ⟨-, hL, g18, g20, g22, g21, g19, g24, g8, gC0, gC2, gM⟩ := id hJ
        have hix := a7 r (by omega)
        have h21 := g21 r (by omega)
        obtain ⟨s, hs⟩ : ∃ s, s = pl (ix r) := ⟨_, rfl⟩
        have ss := a5 _ hix
        have gs := g19 _ hix
        rw [← hs] at gs hF h21 ss
        obtain ⟨s4, s6, s7, s8⟩ := gs
        obtain ⟨sN, sq⟩ := a1 s ss.1
        refine h129 _ _ _ _ _ _ ?_
        unfold mT_joinAll_129
        rw [nI_pred, nI_clamp (show r < 2 ^ 31 by omega), h21, show nI (r + 1) + (-1) = nI r from by rw [i_sub1]; exact nI_pred r]
        refine ⟨fun c => absurd c (nI_nle (by omega) (by omega)), fun _ => ⟨vp_in_nI (by omega) (by omega), fun v hv => ?_⟩⟩
        subst hv
        rw [nI_clamp (show s < 2 ^ 31 by omega), s7]
        refine ⟨vp_in_nI (by omega) (by omega), fun c => ?_, fun c => ?_⟩
        · -- leaving s
          have m25 : mv s = 25 := by
            have := (nI_leI (a := 25) (by omega) (by omega)).mp c
            omega
          have c398 : ∀ U lw', MK S U → JX (tgN n P kd ct sg) (tl n P kd ct sg) U (P ^ n) q (r + 1) p m sn ov pl ix st sz lw' mv → (∀ r', r = r' + 1 → lw' (pl (ix r')) ≤ lw' s) → B398 U (nI (P ^ n)) (nI q) (nI f) (nI r) (nI p) (nI s) := by
            intro U lw' mU hU hpar
            obtain ⟨d1, d2⟩ := hU.dec (by omega) (by rw [← hs]; exact m25)
            obtain ⟨-, hL', k18, k20, k22, k21, k19, k24, k8, kC0, kC2, kM⟩ := id hU
            have ks := k19 _ hix
            rw [← hs] at ks
            have e18 : U.2.1 18 s = nI (ov s) := by rw [k18 s sN, ss.1]; rfl
            refine h398 _ _ _ _ _ _ _ ?_
            unfold mT_joinAll_398
            rw [nI_clamp (show s < 2 ^ 31 by omega), ks.1, e18, k8, nI_clamp (show m < 2 ^ 31 by omega)]
            refine ⟨vp_in_nI (by omega) (by omega), vp_in_nI (by omega) (by omega), fun c2 => ⟨vp_in_nI (by omega) (by omega), ?_⟩, fun c2 => ?_⟩
            · have c2 : lw' (pl (ix r)) = ov (pl (ix r)) := by
                rw [← hs]
                have := ks.2.1
                exact (nI_eq (by omega) (by omega)).mp c2
              have hW := d2.mp c2
              have hR2 : ∃ k, JRn (tl n P kd ct sg) k A1 (jst q r (ix r) (m + 1) sn ov pl ix (popS st pl m p (p - ix r)) (va_up sz m (p - ix r))) := by
                obtain ⟨k, hk⟩ := hR
                exact ⟨k + 1, _, hk, q, r, p, m, sn, ov, pl, ix, st, sz, rfl, Or.inr (Or.inr ⟨d1, hW, rfl⟩)⟩
              have := pop (nI f) U q r p m sn ov pl ix st sz lw' mv hU hW (fun W mW hW => ih W q r (ix r) (m + 1) sn ov pl ix _ _ lw' mv hsn (by split <;> omega) mW hW hR2) (p - ix r) p 0 (by omega) (by omega) (ma U 24 (upd (U.2.1 24) m 0)) (mU.mar _ (by omega)) k8 (fun k a1 a2 a3 => ma_get_ne _ _ (by omega)) k20 (upd_same _ _ _) (fun k hk => upd_other _ _ (by omega))
              rw [if_neg (by omega), ← hs] at this
              exact this
            · have c2 : lw' (pl (ix r)) ≠ ov (pl (ix r)) := fun e => c2 (by rw [← hs] at e; rw [e])
              have hW : WP (tl n P kd ct sg) p sn ov pl st (ix r) := Classical.byContradiction (fun w => c2 (d2.mpr w))
              have hr : r ≠ 0 := fun e => by
                subst e
                have e0 := a9 (by omega)
                obtain ⟨k, z, z1, z2, z3⟩ := hL' _ hix
                have w1 := hU.1.low0 z2
                have w2 := (k19 _ hix).2.1
                rw [e0] at z3 w2 c2
                omega
              obtain ⟨r', rfl⟩ : ∃ r', r = r' + 1 := ⟨r - 1, by omega⟩
              have hR2 : ∃ k, JRn (tl n P kd ct sg) k A1 (jst q (r' + 1) p m sn ov pl ix st sz) := by
                obtain ⟨k, hk⟩ := hR
                exact ⟨k + 1, _, hk, q, r' + 1, p, m, sn, ov, pl, ix, st, sz, rfl, Or.inr (Or.inl ⟨d1, hW, rfl⟩)⟩
              exact ih U q (r' + 1) p m sn ov pl ix st sz lw' mv hsn (by split <;> omega) mU (hU.back (by rw [← hs]; exact m25) (by rw [← hs]; exact hpar r' rfl)) hR2
          refine ⟨fun c2 => c398 T lw mT hJ (fun r' e => ?_), fun c2 => ?_⟩
          · exact absurd c2 (nI_nle (by omega) (by omega))
          · have hr : r ≠ 0 := fun e => c2 (by rw [e]; decide)
            obtain ⟨r', rfl⟩ : ∃ r', r = r' + 1 := ⟨r - 1, by omega⟩
            have hix' := a7 r' (by omega)
            have h21' := g21 r' (by omega)
            have gu := g19 _ hix'
            have su := a5 _ hix'
            have hedge := a13 r' (by omega)
            rw [← hs] at hedge
            obtain ⟨u, hu⟩ : ∃ u, u = pl (ix r') := ⟨_, rfl⟩
            rw [← hu] at gu h21' su hedge
            obtain ⟨uN, uq⟩ := a1 u su.1
            rw [nI_pred, nI_clamp (show r' < 2 ^ 31 by omega), h21', nI_clamp (show u < 2 ^ 31 by omega), s4, gu.1]
            refine ⟨vp_in_nI (by omega) (by omega), vp_in_nI (by omega) (by omega), vp_in_nI (by omega) (by omega), fun c3 => c398 T lw mT hJ (fun r2 e => ?_), fun c3 => ⟨vp_in_nI (by omega) (by omega), vp_in_nI (by omega) (by omega), vp_in_nI (by omega) (by omega), ?_⟩⟩
            · have e : r' = r2 := by omega
              subst e
              rw [← hu]
              have := gu.2.1
              exact (nI_leI (by omega) (by omega)).mp c3
            · have c3 : lw s < lw u := by
                rcases Nat.lt_or_ge (lw s) (lw u) with q | q
                · exact q
                · exact absurd (nI_le q (by omega)) c3
              have hne : s ≠ u := fun e => by rw [e] at c3; omega
              obtain ⟨k, z, z1, z2, z3⟩ := hL _ hix
              rw [← hs] at z1 z3
              refine c398 _ (va_up lw u (lw s)) (mT.mar _ (by omega)) ?_ (fun r2 e => ?_)
              · rw [hu]
                refine hJ.low (a := r') (by omega) (by rw [← hu]; exact c3) ⟨k + 1, z, ⟨s, ⟨by rw [← hu]; exact hedge, by rw [← hu]; exact su, ss⟩, z1⟩, z2, z3⟩ (ma_get _ _ _) (fun k _ _ k3 => ma_get_ne _ _ k3) rfl
              · have e : r' = r2 := by omega
                subst e
                rw [← hu, va_up_same, va_up_other _ _ hne]
                exact Nat.le_refl _
        · -- one more move of s
          have hm : mv s < 25 := by
            rcases Nat.lt_or_ge (mv s) 25 with q | q
            · exact q
            · exact absurd (nI_le (a := 25) q (by omega)) c
          obtain ⟨e5, e6⟩ := nI_d5 (mv s) hm
          refine ⟨vp_in_nI (by omega) (by omega), fun v hv => ⟨vp_in_nI (by omega) (by omega), vp_in_nI (by omega) (by omega), ?_⟩⟩
          subst hv
          rw [e6, e5, ← nI_succ, (mT.my hy).1]
          have mU : MK S (ma T 23 (upd (T.2.1 23) s (nI (mv s + 1)))) := mT.mar _ (by omega)
          -- the state behind it: nothing but the move's number, or a low mark as well
          have on : ∀ W, MK S W → W.2.1 23 = upd (T.2.1 23) s (nI (mv s + 1)) → (∀ k, 18 ≤ k → k ≤ 24 → k ≠ 23 → W.2.1 k = T.2.1 k) → W.1 8 = T.1 8 → (∀ t, tgN n P kd ct sg s (mv s / 5) (mv s % 5) = some t → sn t = true ∧ (onP sn st t → lw s ≤ ov t)) → B129 W (nI (P ^ n)) (nI q) (nI f) (nI (r + 1)) (nI p) := by
            intro W mW w23 we w8 ht
            have hW := hJ.more (U := W) (by rw [← hs]; exact hm) (by rw [← hs]; exact ht) (by rw [← hs]; exact w23) we w8
            rw [← hs] at hW
            refine ih W q (r + 1) p m sn ov pl ix st sz lw (va_up mv s (mv s + 1)) hsn ?_ mW hW hR
            rw [if_neg (Nat.succ_ne_zero r), Nat.add_sub_cancel, ← hs, va_up_same]
            omega
          have b23 : (ma T 23 (upd (T.2.1 23) s (nI (mv s + 1)))).2.1 23 = upd (T.2.1 23) s (nI (mv s + 1)) := ma_get _ _ _
          have be : ∀ k, 18 ≤ k → k ≤ 24 → k ≠ 23 → (ma T 23 (upd (T.2.1 23) s (nI (mv s + 1)))).2.1 k = T.2.1 k := fun k _ _ k3 => ma_get_ne _ _ k3
          refine ⟨fun c1 => on _ mU b23 be rfl (fun t ht => ?_), fun c1 => ⟨fun c2 => ?_, fun c2 => on _ mU b23 be rfl (fun t ht => ?_)⟩⟩
          · have := (nI_leI (by omega) (by omega)).mp c1
            have := tgN_PP ht
            omega
          · have ha : mv s / 5 < P := by
              rcases Nat.lt_or_ge (mv s / 5) P with q | q
              · exact q
              · exact absurd (nI_le q (by omega)) c1
            have hb : mv s % 5 < P := (nI_ltI (by omega) (by omega)).mp c2
            refine s_unp l (mU.my hy) (by omega) mU.2.2.1 _ (fun g hg => ?_)
            have mV := mU.m8 hg
            refine s_ld l (mV.my hy) hg mV.2.2.2 ha hb _ (fun W hW => ?_)
            have mW : MK S W := mV.tr (MK.of9 hW mV.2.2.1)
            have w23 : W.2.1 23 = upd (T.2.1 23) s (nI (mv s + 1)) := by
              rw [hW.2.2.1 23 (by decide), ma_get_ne _ _ (by decide)]; exact b23
            have we : ∀ k, 18 ≤ k → k ≤ 24 → k ≠ 23 → W.2.1 k = T.2.1 k := fun k k1 k2 k3 => by
              rw [hW.2.2.1 k (by omega), ma_get_ne _ _ (by omega)]; exact be k k1 k2 k3
            have w8 : W.1 8 = T.1 8 := by rw [hW.1]; rfl
            cases ht : tgN n P kd ct sg s (mv s / 5) (mv s % 5) with
            | none => exact ⟨fun c => absurd rfl c, fun _ => on W mW w23 we w8 (fun t h => by rw [ht] at h; cases h)⟩
            | some t =>
              have htN := tgN_lt (by omega) ht
              refine ⟨fun _ => ?_, fun c => absurd c (nI_m1 (by omega))⟩
              show vp_in (nI t) 20000 ∧ _
              have e1 : (lab (some t)).toNatClampNeg = t := nI_clamp (by omega)
              rw [e1, we 18 (by omega) (by omega) (by omega), we 20 (by omega) (by omega) (by omega), we 19 (by omega) (by omega) (by omega), g18 t htN, g20 t htN, s4]
              refine ⟨vp_in_nI (by omega) (by omega), fun c3 => ?_, fun c3 => ?_⟩
              · have hst : sn t = true := by
                  cases e : sn t with
                  | true => rfl
                  | false => rw [e] at c3; exact absurd rfl c3
                rw [if_pos hst]
                have tq := (a1 t hst).2
                refine ⟨vp_in_nI (by omega) (by omega), fun c4 => on W mW w23 we w8 (fun u hu => ?_), fun c4 => ⟨vp_in_nI (by omega) (by omega), vp_in_nI (by omega) (by omega), fun c5 => on W mW w23 we w8 (fun u hu => ?_), fun c5 => ⟨vp_in_nI (by omega) (by omega), vp_in_nI (by omega) (by omega), ?_⟩⟩⟩
                · rw [ht] at hu
                  cases hu
                  exact ⟨hst, fun o => absurd (by rw [o.2]; rfl) c4⟩
                · rw [ht] at hu
                  cases hu
                  exact ⟨hst, fun _ => (nI_leI (by omega) (by omega)).mp c5⟩
                · have c5 : ov t < lw s := by
                    rcases Nat.lt_or_ge (ov t) (lw s) with q | q
                    · exact q
                    · exact absurd (nI_le q (by omega)) c5
                  have hon : onP sn st t := ⟨hst, (lab_none (fun k hk => by have := (a3 t k hk).1; omega)).mp c4⟩
                  have hlow := hJ.low (U := ma T 19 (upd (T.2.1 19) s (nI (ov t)))) (a := r) (v := ov t) (by omega) (by rw [← hs]; exact c5) ⟨1, t, ⟨t, ⟨by rw [← hs]; exact mem_tl.mpr ⟨_, _, ht⟩, by rw [← hs]; exact ss, hon⟩, rfl⟩, hon, rfl⟩ (by rw [← hs]; exact ma_get _ _ _) (fun k _ _ k3 => ma_get_ne _ _ k3) rfl
                  have hmore := hlow.more (U := ma W 19 (upd (T.2.1 19) s (nI (ov t)))) (by rw [← hs]; exact hm) (fun u hu => by
                      rw [← hs] at hu
                      rw [ht] at hu
                      cases hu
                      refine ⟨hst, fun _ => ?_⟩
                      rw [va_up_same]; exact Nat.le_refl _) (by
                      rw [← hs, ma_get_ne _ _ (by decide), ma_get_ne _ _ (by decide)]; exact w23) (fun k k1 k2 k3 => by
                      by_cases c : k = 19
                      · subst c; rw [ma_get, ma_get]
                      · rw [ma_get_ne _ _ c, ma_get_ne _ _ c]; exact we k k1 k2 k3) w8
                  rw [← hs] at hmore
                  refine ih _ q (r + 1) p m sn ov pl ix st sz _ _ hsn ?_ (mW.mar _ (by omega)) hmore hR
                  rw [if_neg (Nat.succ_ne_zero r), Nat.add_sub_cancel, ← hs, va_up_same]
                  omega
              · have hst : sn t = false := by
                  cases e : sn t with
                  | false => rfl
                  | true =>
                    rw [e] at c3
                    have tq := (a1 t e).2
                    exact absurd c3 (nI_m1 (by omega))
                have ne : ∀ x, x ≠ t → (∃ j, j < p ∧ x = pl j) → upd (W.2.1 23) t 0 x = nI (va_up mv s (mv s + 1) x) := by
                  rintro x hx ⟨j, j1, j2⟩
                  rw [upd_other _ _ hx, w23]
                  by_cases c : x = s
                  · rw [c, upd_same, va_up_same]
                  · rw [upd_other _ _ c, va_up_other _ _ c, j2]; exact (g19 j j1).2.2.1
                have en := hJ.enter (t := t) (mw := va_up mv s (mv s + 1)) (U := ma (ma (ma (ma (ma W 18 (upd (T.2.1 18) t (nI q))) 19 (upd (T.2.1 19) t (nI q))) 23 (upd (W.2.1 23) t 0)) 22 (upd (W.2.1 22) p (nI t))) 21 (upd (W.2.1 21) (r + 1) (nI t))) htN hst (fun r2 e => by
                    have e : r = r2 := by omega
                    subst e
                    rw [← hs]; exact mem_tl.mpr ⟨_, _, ht⟩) (Or.inr ⟨r, rfl, by rw [← hs]; exact hm, by rw [← hs], by rw [← hs]; exact ht⟩) rfl rfl ne (upd_same _ _ _) (by
                    show upd (W.2.1 22) p (nI t) = _
                    rw [we 22 (by omega) (by omega) (by omega)]) (by
                    show upd (W.2.1 21) (r + 1) (nI t) = _
                    rw [we 21 (by omega) (by omega) (by omega)]) (we 20 (by omega) (by omega) (by omega)) (we 24 (by omega) (by omega) (by omega)) w8
                have hq := en.1
                have hfind : (tl n P kd ct sg (pl (ix r))).find? (fun t => !sn t) = some t := by
                  rw [← hs]
                  refine find_tl (by omega) ht (by rw [hst]; rfl) (fun c d u hcd hu => ?_)
                  have := tgN_PP hu
                  have g := (gC0 _ hix (5 * c + d) (by rw [← hs]; omega) u (by
                    rw [← hs, show (5 * c + d) / 5 = c by omega, show (5 * c + d) % 5 = d by omega]; exact hu)).1
                  rw [g]; rfl
                have hR2 : ∃ k, JRn (tl n P kd ct sg) k A1 (jst (q + 1) (r + 1 + 1) (p + 1) m (va_up sn t true) (va_up ov t q) (va_up pl p t) (va_up ix (r + 1) p) st sz) := by
                  obtain ⟨k, hk⟩ := hR
                  exact ⟨k + 1, _, hk, q, r, p, m, sn, ov, pl, ix, st, sz, rfl, Or.inl ⟨t, hfind, rfl⟩⟩
                rw [nI_clamp (show p < 2 ^ 31 by omega), nI_clamp (show r + 1 < 2 ^ 31 by omega), ← nI_succ, ← nI_succ, ← nI_succ]
                refine ⟨vp_in_nI (by omega) (by omega), vp_in_nI (by omega) (by omega), vp_in_nI (by omega) (by omega), vp_in_nI (by omega) (by omega), vp_in_nI (by omega) (by omega), ?_⟩
                refine ih _ (q + 1) (r + 1 + 1) (p + 1) m _ _ _ _ _ _ _ _ (fun x hx => ?_) ?_ (((((mW.mar _ (by omega)).mar _ (by omega)).mar _ (by omega)).mar _ (by omega)).mar _ (by omega)) en.2 hR2
                · by_cases e : x = t
                  · rw [e]; exact va_up_same _ _ _
                  · rw [va_up_other _ _ e]; exact hsn x hx
                · rw [if_neg (Nat.succ_ne_zero _), Nat.add_sub_cancel, va_up_same, va_up_same, va_up_same]
                  omega
          · have := tgN_PP ht
            exact absurd (nI_lt this.2 (by omega)) c2
  -- all roots
  have roots : ∀ e f, f + e = P ^ n → ∀ T q m sn ov pl ix st sz lw mv, MK S T → JX (tgN n P kd ct sg) (tl n P kd ct sg) T (P ^ n) q 0 0 m sn ov pl ix st sz lw mv → JF (tl n P kd ct sg) (rgt n P kd) f (jst q 0 0 m sn ov pl ix st sz) → (∀ x, x < f → rgt n P kd x = true → sn x = true) → B41 T (nI (P ^ n)) (nI q) (nI f) := by
    intro e
    induction e with
    | zero =>
      intro f hf T q m sn ov pl ix st sz lw mv mT hJ hF hr
      have hf : f = P ^ n := hf
      subst hf
      obtain ⟨hA, hL, g18, g20, g22, g21, g19, g24, g8, gC0, gC2, gM⟩ := id hJ
      refine h41 _ _ _ _ ?_
      unfold mT_joinAll_41
      refine ⟨fun _ => hp T q m sn ov pl ix st sz mT hF hA g8 g20 g24 (fun x hx hxr c => ?_), fun c => absurd (nI_le (by omega) (by omega)) c⟩
      obtain ⟨i, i1, -⟩ := hA.2.2.2.1 x ⟨hr x hx hxr, c⟩
      omega
    | succ e ih =>
      intro f hf T q m sn ov pl ix st sz lw mv mT hJ hF hr
      have hfN : f < P ^ n := by omega
      have nxt : ∀ T q m sn ov pl ix st sz lw mv, MK S T → JX (tgN n P kd ct sg) (tl n P kd ct sg) T (P ^ n) q 0 0 m sn ov pl ix st sz lw mv → JF (tl n P kd ct sg) (rgt n P kd) (f + 1) (jst q 0 0 m sn ov pl ix st sz) → (∀ x, x < f + 1 → rgt n P kd x = true → sn x = true) → B502 T (nI (P ^ n)) (nI q) (nI f) := by
        intro T q m sn ov pl ix st sz lw mv mT hJ hF hr
        refine h502 _ _ _ _ ?_
        unfold mT_joinAll_502
        rw [← nI_succ]
        exact ih (f + 1) (by omega) T q m sn ov pl ix st sz lw mv mT hJ hF hr
      refine h41 _ _ _ _ ?_
      unfold mT_joinAll_41
      refine ⟨fun c => absurd c (nI_ge (by omega) (by omega)), fun _ => ?_⟩
      refine s_unp l (mT.my hy) (by omega) mT.2.2.1 _ (fun g hg => ?_)
      have mV := mT.m8 hg
      have hV := hJ.fr (U := ma T 8 g) (fun k k1 k2 => ma_get_ne _ _ (by omega)) rfl
      have hqN := hV.1.qN
      obtain ⟨hA, hL, g18, g20, g22, g21, g19, g24, g8, gC0, gC2, gM⟩ := id hV
      rw [nI_clamp (show f < 2 ^ 31 by omega), g18 f hfN]
      refine ⟨vp_in_nI (by omega) (by omega), fun c => ?_, fun c => ?_⟩
      · have hsf : sn f = true := by
          cases e2 : sn f with
          | true => rfl
          | false => rw [e2] at c; exact absurd rfl c
        refine nxt _ q m sn ov pl ix st sz lw mv mV hV ⟨q, m, sn, ov, pl, ix, st, sz, hF, Or.inl ⟨Or.inl hsf, rfl⟩⟩ (fun x hx hxr => ?_)
        by_cases e : x = f
        · rw [e]; exact hsf
        · exact hr x (by omega) hxr
      · have hsf : sn f = false := by
          cases e2 : sn f with
          | false => rfl
          | true =>
            rw [e2] at c
            have := (hA.1 f e2).2
            exact absurd c (nI_m1 (by omega))
        obtain ⟨σ, hσ, hσ2⟩ := id hg
        refine s_isRight l _ 8 m7_8' _ (mV.my hy) hσ ?_
        rw [rightN_congr hσ2]
        refine ⟨fun c2 => ?_, fun c2 => ?_⟩
        · have hR : rgt n P kd f = true := bI_n0.mp c2
          rw [← nI_succ]
          have en := hV.enter (t := f) (mw := mv) (U := ma (ma (ma (ma (ma (ma T 8 g) 21 (upd ((ma T 8 g).2.1 21) 0 (nI f))) 23 (upd ((ma T 8 g).2.1 23) f 0)) 18 (upd ((ma T 8 g).2.1 18) f (nI q))) 19 (upd ((ma T 8 g).2.1 19) f (nI q))) 22 (upd ((ma T 8 g).2.1 22) 0 (nI f))) hfN hsf (fun r e => by omega) (Or.inl rfl) rfl rfl (fun x _ ⟨j, hj, _⟩ => absurd hj (Nat.not_lt_zero _)) (upd_same _ _ _) rfl rfl rfl rfl rfl
          have hq := en.1
          refine ⟨vp_in_nI (n := 0) (by omega) (by omega), vp_in_nI (by omega) (by omega), vp_in_nI (by omega) (by omega), vp_in_nI (by omega) (by omega), vp_in_nI (n := 0) (by omega) (by omega), ?_⟩
          refine walk f (jst (q + 1) 1 1 m (va_up sn f true) (va_up ov f q) (va_up pl 0 f) (va_up ix 0 0) st sz) (va_up sn f true) (fun T' q' m' sn' ov' pl' ix' st' sz' lw' mv' hsn mT' hJ' hR' => nxt T' q' m' sn' ov' pl' ix' st' sz' lw' mv' mT' hJ' ⟨q, m, sn, ov, pl, ix, st, sz, hF, Or.inr ⟨hsf, hR, rfl, hR'⟩⟩ (fun x hx hxr => hsn x ?_)) (52 * (P ^ n) + 100) _ (q + 1) 1 1 m _ _ _ _ _ _ _ _ (fun x hx => hx) ?_ (((((mV.mar _ (by omega)).mar _ (by omega)).mar _ (by omega)).mar _ (by omega)).mar _ (by omega)) en.2 ⟨0, rfl⟩
          · by_cases e : x = f
            · rw [e]; exact va_up_same _ _ _
            · rw [va_up_other _ _ e]; exact hr x (by omega) hxr
          · rw [if_neg (by decide)]
            omega
        · have hR : rgt n P kd f = false := bI_0.mp c2
          refine nxt _ q m sn ov pl ix st sz lw mv mV hV ⟨q, m, sn, ov, pl, ix, st, sz, hF, Or.inl ⟨Or.inr hR, rfl⟩⟩ (fun x hx hxr => ?_)
          by_cases e : x = f
          · rw [e, hR] at hxr; cases hxr
          · exact hr x (by omega) hxr
  -- the rows are laid
  have lay : ∀ e i, i + e = P ^ n → ∀ T, MK S T → (∀ x, x < i → T.2.1 18 x = -1 ∧ T.2.1 20 x = -1) → B7 T (nI (P ^ n)) (nI i) := by
    intro e
    induction e with
    | zero =>
      intro i hi T mT hT
      refine h7 _ _ _ ?_
      unfold mT_joinAll_7
      refine ⟨fun _ => ?_, fun c => absurd (nI_le (by omega) (by omega)) c⟩
      refine roots (P ^ n) 0 (Nat.zero_add _) (mf T 8 0) 0 0 (fun _ => false) (fun _ => 0) (fun _ => 0) (fun _ => 0) (fun _ => none) (fun _ => 0) (fun _ => 0) (fun _ => 0) (mT.mfs _ (by omega)) ?_ rfl (fun x hx => absurd hx (Nat.not_lt_zero _))
      refine ⟨⟨fun x hx => (by cases hx), cntP_none _, fun x k hk => (by cases hk), fun x hx => (by cases hx.1), fun i hi => absurd hi (Nat.not_lt_zero _), fun i j _ hj => absurd hj (Nat.not_lt_zero _), fun i hi => absurd hi (Nat.not_lt_zero _), fun i j _ hj => absurd hj (Nat.not_lt_zero _), fun c => absurd c (Nat.lt_irrefl _), fun _ => rfl, by omega, by omega, fun i hi => absurd hi (Nat.not_lt_zero _), fun k => Nat.zero_le _⟩, fun j hj => absurd hj (Nat.not_lt_zero _), fun x hx => (hT x (by omega)).1, fun x hx => (hT x (by omega)).2, fun i hi => absurd hi (Nat.not_lt_zero _), fun i hi => absurd hi (Nat.not_lt_zero _), fun i hi => absurd hi (Nat.not_lt_zero _), fun k hk => absurd hk (Nat.not_lt_zero _), rfl, fun j hj => absurd hj (Nat.not_lt_zero _), fun i hi => absurd hi (Nat.not_lt_zero _), fun j hj => absurd hj (Nat.not_lt_zero _)⟩
    | succ e ih =>
      intro i hi T mT hT
      refine h7 _ _ _ ?_
      unfold mT_joinAll_7
      rw [nI_clamp (show i < 2 ^ 31 by omega), ← nI_succ]
      refine ⟨fun c => absurd c (nI_ge (by omega) (by omega)), fun _ => ⟨vp_in_nI (by omega) (by omega), vp_in_nI (by omega) (by omega), ih (i + 1) (by omega) _ ((mT.mar _ (by omega)).mar _ (by omega)) (fun x hx => ?_)⟩⟩
      show upd (T.2.1 18) i (-1) x = -1 ∧ upd (T.2.1 20) i (-1) x = -1
      by_cases e : x = i
      · subst e; exact ⟨upd_same _ _ _, upd_same _ _ _⟩
      · rw [upd_other _ _ e, upd_other _ _ e]; exact hT x (by omega)
  unfold mT_joinAll_e
  refine s_stands l S _ hy.2.1 hy.1 (by omega) (lay (P ^ n) 0 (Nat.zero_add _) S ⟨fun _ _ _ _ => rfl, fun _ _ => rfl, h8, h9⟩ (fun x hx => absurd hx (Nat.not_lt_zero _)))
end JAllS
