-- joined(): the reference's joinAll(), its ranges
theorem cntP_none : ∀ k, cntP (fun _ => false) k = 0 := by
  intro k
  induction k with
  | zero => rfl
  | succ k ih => unfold cntP; rw [ih]; rfl
section JAll
variable {S : MS} {n P : Nat} {kd ct sg : Nat → Nat}
set_option maxHeartbeats 4000000 in
theorem s_joinAll (l : Launch) (hy : MY S n P kd ct sg) (h8 : ∃ τ, MA S 8 τ) (h9 : ∃ τ, MA S 9 τ) (hN : P ^ n ≤ 20000) (post : MS → Prop) (hp : ∀ T m, MK S T → m ≤ P ^ n → T.1 8 = nI m → (∀ x, x < P ^ n → T.2.1 20 x = -1 ∨ ∃ k, k < m ∧ T.2.1 20 x = nI k) → (∀ x, x < P ^ n → rgt n P kd x = true → T.2.1 20 x ≠ -1) → post T) : mX_joinAll l S post := by
  have hP2 := hy.2.2.1
  have hn2 := hy.2.2.2.1
  refine m_joinAll l S post ?_
  intro B7 B41 B129 B398 B431 B502 h7 h41 h129 h398 h431 h502
  -- a set is popped
  have pop : ∀ (f : Int32) (T0 : MS) (q d p m : Nat) (sn : Nat → Bool) (ov lw mv pl ix : Nat → Nat), JW T0 (P ^ n) q (d + 1) p m sn ov lw mv pl ix → (∀ U, MK S U → JW U (P ^ n) q d (ix d) (m + 1) sn ov lw mv pl ix → B129 U (nI (P ^ n)) (nI q) f (nI d) (nI (ix d))) → ∀ r p', p' = ix d + r → p' ≤ p → ∀ V : MS, MK S V → V.1 8 = nI m → (∀ k, 18 ≤ k → k ≤ 23 → k ≠ 20 → V.2.1 k = T0.2.1 k) → (∀ x, x < P ^ n → V.2.1 20 x = T0.2.1 20 x ∨ V.2.1 20 x = nI m) → (∀ j, p' ≤ j → j < p → V.2.1 20 (pl j) = nI m) → (∀ x, (∀ j, p' ≤ j → j < p → x ≠ pl j) → V.2.1 20 x = T0.2.1 20 x) → B431 V (nI (P ^ n)) (nI q) f (nI d) (nI p') (nI (pl (ix d))) (if r = 0 then 0 else 1) := by
    intro f T0 q d p m sn ov lw mv pl ix hJ hk r
    have hqN := hJ.qN
    have hinj := fun i j => hJ.inj (i := i) (j := j)
    obtain ⟨g1, g2, g3, g4, g5, g6, g7, g8, g9, g10, g11, g12, g13, g14, g15⟩ := id hJ
    have hixd := (g9 d (by omega)).1
    induction r with
    | zero =>
      intro p' hp' hpp V mV v8 ve v20 v20a v20b
      have hp' : p' = ix d := hp'
      subst hp'
      refine h431 _ _ _ _ _ _ _ _ ?_
      unfold mT_joinAll_431
      rw [if_pos rfl]
      refine ⟨fun _ => ?_, fun c => absurd rfl c⟩
      rw [v8, ← nI_succ]
      refine hk _ (mV.mfs _ (by omega)) (hJ.ended v20 v20a v20b ve rfl (by omega))
    | succ r ih =>
      intro p' hp' hpp V mV v8 ve v20 v20a v20b
      subst hp'
      have hlt : ix d + r < p := by omega
      have gj := g7 _ hlt
      have hplN := (g2 _ gj.1).1
      have v22 : V.2.1 22 (ix d + r) = nI (pl (ix d + r)) := by rw [ve 22 (by omega) (by omega) (by omega)]; exact gj.2.1
      refine h431 _ _ _ _ _ _ _ _ ?_
      unfold mT_joinAll_431
      rw [if_neg (Nat.succ_ne_zero r), show nI (ix d + (r + 1)) + (-1) = nI (ix d + r) from by rw [i_sub1]; exact nI_pred (ix d + r), nI_clamp (show ix d + r < 2 ^ 31 by omega), v22, v8]
      refine ⟨fun c => absurd c (by decide), fun _ => ⟨vp_in_nI (by omega) (by omega), fun v hv => ?_⟩⟩
      subst hv
      rw [nI_clamp (show pl (ix d + r) < 2 ^ 31 by omega), nI_clamp (show m < 2 ^ 31 by omega)]
      have nx := ih (ix d + r) rfl (by omega) (ma (ma V 20 (upd (V.2.1 20) (pl (ix d + r)) (nI m))) 24 (upd (V.2.1 24) m (V.2.1 24 m + 1))) ((mV.mar _ (by omega)).mar _ (by omega)) v8 (fun k k1 k2 k3 => by
          rw [ma_get_ne _ _ (by omega), ma_get_ne _ _ k3]; exact ve k k1 k2 k3) (fun x hx => by
          show upd (V.2.1 20) (pl (ix d + r)) (nI m) x = _ ∨ upd (V.2.1 20) (pl (ix d + r)) (nI m) x = _
          by_cases e : x = pl (ix d + r)
          · subst e; exact Or.inr (upd_same _ _ _)
          · rw [upd_other _ _ e]; exact v20 x hx) (fun j j1 j2 => by
          show upd (V.2.1 20) (pl (ix d + r)) (nI m) (pl j) = _
          by_cases e : pl j = pl (ix d + r)
          · rw [e]; exact upd_same _ _ _
          · rw [upd_other _ _ e]
            refine v20a j ?_ j2
            rcases Nat.lt_or_ge j (ix d + (r + 1)) with c | c
            · exact absurd (by rw [show j = ix d + r by omega]) e
            · exact c) (fun x hx => by
          show upd (V.2.1 20) (pl (ix d + r)) (nI m) x = _
          rw [upd_other _ _ (hx (ix d + r) (Nat.le_refl _) hlt)]
          exact v20b x (fun j j1 j2 => hx j (by omega) j2))
      refine ⟨vp_in_nI (by omega) (by omega), vp_in_nI (by omega) (by omega), vp_in_nI (by omega) (by omega), fun c => ?_, fun c => ?_⟩
      · have hix := (g7 _ hixd).1
        have hixN := (g2 _ hix).1
        have e := hinj _ _ hlt hixd ((nI_eq (by omega) (by omega)).mp c)
        have e : r = 0 := by omega
        rw [if_pos e] at nx
        exact nx
      · have e : r ≠ 0 := fun e => c (by rw [e, Nat.add_zero])
        rw [if_neg e] at nx
        exact nx
  -- the walk from one root
  have walk : ∀ (f : Nat) (sn0 : Nat → Bool), (∀ T q m sn ov lw mv pl ix, (∀ x, sn0 x = true → sn x = true) → MK S T → JW T (P ^ n) q 0 0 m sn ov lw mv pl ix → B502 T (nI (P ^ n)) (nI q) (nI f)) → ∀ F T q d p m sn ov lw mv pl ix, (∀ x, sn0 x = true → sn x = true) → 52 * (P ^ n - q) + 26 * d + (if d = 0 then 0 else 25 - mv (pl (ix (d - 1)))) ≤ F → MK S T → JW T (P ^ n) q d p m sn ov lw mv pl ix → B129 T (nI (P ^ n)) (nI q) (nI f) (nI d) (nI p) := by
    intro f sn0 hend F
    induction F with
    | zero =>
      intro T q d p m sn ov lw mv pl ix hsn hF mT hJ
      have hd : d = 0 := by omega
      subst hd
      have hp0 : p = 0 := hJ.2.2.2.2.2.2.2.2.2.2.2.1 rfl
      subst hp0
      refine h129 _ _ _ _ _ _ ?_
      unfold mT_joinAll_129
      exact ⟨fun _ => hend T q m sn ov lw mv pl ix hsn mT hJ, fun c => absurd (by decide) c⟩
    | succ F ih =>
      intro T q d p m sn ov lw mv pl ix hsn hF mT hJ
      by_cases hd : d = 0
      · subst hd
        have hp0 : p = 0 := hJ.2.2.2.2.2.2.2.2.2.2.2.1 rfl
        subst hp0
        refine h129 _ _ _ _ _ _ ?_
        unfold mT_joinAll_129
        exact ⟨fun _ => hend T q m sn ov lw mv pl ix hsn mT hJ, fun c => absurd (by decide) c⟩
      · obtain ⟨r, rfl⟩ : ∃ r, d = r + 1 := ⟨d - 1, by omega⟩
        rw [if_neg (Nat.succ_ne_zero r), Nat.add_sub_cancel] at hF
        have hqN := hJ.qN
        obtain ⟨g1, g2, g3, g4, g5, g6, g7, g8, g9, g10, g11, g12, g13, g14, g15⟩ := id hJ
        obtain ⟨hix, h21⟩ := g9 r (by omega)
        obtain ⟨s, hs⟩ : ∃ s, s = pl (ix r) := ⟨_, rfl⟩
        have gs := g7 _ hix
        rw [← hs] at gs hF h21
        obtain ⟨s1, s2, s3, s4, s5, s6, s7, s8⟩ := gs
        obtain ⟨sN, sq⟩ := g2 s s1
        refine h129 _ _ _ _ _ _ ?_
        unfold mT_joinAll_129
        rw [nI_pred, nI_clamp (show r < 2 ^ 31 by omega), h21, show nI (r + 1) + (-1) = nI r from by rw [i_sub1]; exact nI_pred r]
        refine ⟨fun c => absurd c (nI_nle (by omega) (by omega)), fun _ => ⟨vp_in_nI (by omega) (by omega), fun v hv => ?_⟩⟩
        subst hv
        rw [nI_clamp (show s < 2 ^ 31 by omega), s7]
        refine ⟨vp_in_nI (by omega) (by omega), fun c => ?_, fun c => ?_⟩
        · -- leaving s
          have c398 : ∀ U lw', MK S U → JW U (P ^ n) q (r + 1) p m sn ov lw' mv pl ix → lw' s = lw s ∨ r = 0 → B398 U (nI (P ^ n)) (nI q) (nI f) (nI r) (nI p) (nI s) := by
            intro U lw' mU hU _
            obtain ⟨k1, k2, k3, k4, k5, k6, k7, k8, k9, k10, k11, k12, k13, k14, k15⟩ := id hU
            have ks := k7 _ hix
            rw [← hs] at ks
            have k18 : U.2.1 18 s = nI (ov s) := by rw [k1 s sN, s1]; rfl
            refine h398 _ _ _ _ _ _ _ ?_
            unfold mT_joinAll_398
            rw [nI_clamp (show s < 2 ^ 31 by omega), ks.2.2.2.1, k18, k15, nI_clamp (show m < 2 ^ 31 by omega)]
            refine ⟨vp_in_nI (by omega) (by omega), vp_in_nI (by omega) (by omega), fun _ => ⟨vp_in_nI (by omega) (by omega), ?_⟩, fun c2 => ?_⟩
            · have := pop (nI f) U q r p m sn ov lw' mv pl ix hU (fun W mW hW => ih W q r (ix r) (m + 1) sn ov lw' mv pl ix hsn (by split <;> omega) mW hW) (p - ix r) p (by omega) (Nat.le_refl _) (ma U 24 (upd (U.2.1 24) m 0)) (mU.mar _ (by omega)) k15 (fun k a1 a2 a3 => ma_get_ne _ _ (by omega)) (fun x hx => Or.inl rfl) (fun j j1 j2 => by omega) (fun x _ => rfl)
              rw [if_neg (by omega), ← hs] at this
              exact this
            · have hr : r ≠ 0 := fun e => by
                subst e
                have e0 := k11 (by omega)
                rw [e0] at hs
                have a1 := ks.2.2.2.2.1
                have a2 := ks.2.2.2.2.2.1
                rw [← hs] at a1
                exact c2 (by rw [show lw' s = ov s by omega])
              exact ih U q r p m sn ov lw' mv pl ix hsn (by split <;> omega) mU (hU.back (by omega))
          refine ⟨fun _ => c398 T lw mT hJ (Or.inl rfl), fun c2 => ?_⟩
          have hr : r ≠ 0 := fun e => c2 (by rw [e]; decide)
          obtain ⟨r', rfl⟩ : ∃ r', r = r' + 1 := ⟨r - 1, by omega⟩
          obtain ⟨hix', h21'⟩ := g9 r' (by omega)
          have gu := g7 _ hix'
          obtain ⟨u, hu⟩ : ∃ u, u = pl (ix r') := ⟨_, rfl⟩
          rw [← hu] at gu h21'
          obtain ⟨uN, uq⟩ := g2 u gu.1
          rw [nI_pred, nI_clamp (show r' < 2 ^ 31 by omega), h21', nI_clamp (show u < 2 ^ 31 by omega), s4, gu.2.2.2.1]
          refine ⟨vp_in_nI (by omega) (by omega), vp_in_nI (by omega) (by omega), vp_in_nI (by omega) (by omega), fun _ => c398 T lw mT hJ (Or.inl rfl), fun c3 => ⟨vp_in_nI (by omega) (by omega), vp_in_nI (by omega) (by omega), vp_in_nI (by omega) (by omega), ?_⟩⟩
          have c3 : lw s < lw u := by
            rcases Nat.lt_or_ge (lw s) (lw u) with q | q
            · exact q
            · exact absurd (nI_le q (by omega)) c3
          have hne : s ≠ u := fun e => by rw [e] at c3; omega
          exact c398 _ (va_up lw u (lw s)) (mT.mar _ (by omega)) (hJ.low s5 (by have := gu.2.2.2.2.2.1; omega) (ma_get _ _ _) (fun k _ _ k3 => ma_get_ne _ _ k3) rfl) (Or.inl (va_up_other _ _ hne))
        · -- one more move of s
          have hm : mv s < 25 := by
            rcases Nat.lt_or_ge (mv s) 25 with q | q
            · exact q
            · exact absurd (nI_le (a := 25) q (by omega)) c
          obtain ⟨e5, e6⟩ := nI_d5 (mv s) hm
          refine ⟨vp_in_nI (by omega) (by omega), fun v hv => ⟨vp_in_nI (by omega) (by omega), vp_in_nI (by omega) (by omega), ?_⟩⟩
          subst hv
          rw [e6, e5, ← nI_succ, (mT.my hy).1]
          have mU : MK S (ma T 23 (upd (T.2.1 23) s (nI (mv s + 1)))) := mT.mar _ (by omega)
          have hU : JW (ma T 23 (upd (T.2.1 23) s (nI (mv s + 1)))) (P ^ n) q (r + 1) p m sn ov lw (va_up mv s (mv s + 1)) pl ix := hJ.more hm (ma_get _ _ _) (fun k _ k2 => ma_get_ne _ _ (by omega)) rfl
          have on : ∀ W lw', MK S W → JW W (P ^ n) q (r + 1) p m sn ov lw' (va_up mv s (mv s + 1)) pl ix → B129 W (nI (P ^ n)) (nI q) (nI f) (nI (r + 1)) (nI p) := by
            intro W lw' mW hW
            refine ih W q (r + 1) p m sn ov lw' (va_up mv s (mv s + 1)) pl ix hsn ?_ mW hW
            rw [if_neg (Nat.succ_ne_zero r), Nat.add_sub_cancel, ← hs, va_up_same]
            omega
          refine ⟨fun _ => on _ lw mU hU, fun c1 => ⟨fun c2 => ?_, fun _ => on _ lw mU hU⟩⟩
          have ha : mv s / 5 < P := by
            rcases Nat.lt_or_ge (mv s / 5) P with q | q
            · exact q
            · exact absurd (nI_le q (by omega)) c1
          have hb : mv s % 5 < P := (nI_ltI (by omega) (by omega)).mp c2
          refine s_unp l (mU.my hy) (by omega) mU.2.2.1 _ (fun g hg => ?_)
          have mV := mU.m8 hg
          have hV := hU.fr (U := ma (ma T 23 (upd (T.2.1 23) s (nI (mv s + 1)))) 8 g) (fun k k1 k2 => ma_get_ne _ _ (by omega)) rfl
          refine s_ld l (mV.my hy) hg mV.2.2.2 ha hb _ (fun W hW => ?_)
          have mW : MK S W := mV.tr (MK.of9 hW mV.2.2.1)
          have hJW := hV.fr (U := W) (fun k k1 k2 => hW.2.2.1 k (by omega)) (by rw [hW.1])
          cases ht : tgN n P kd ct sg s (mv s / 5) (mv s % 5) with
          | none => exact ⟨fun c => absurd rfl c, fun _ => on W lw mW hJW⟩
          | some t =>
            have htN := tgN_lt (by omega) ht
            obtain ⟨k1, k2, k3, k4, k5, k6, k7, k8, k9, k10, k11, k12, k13, k14, k15⟩ := id hJW
            refine ⟨fun _ => ?_, fun c => absurd c (nI_m1 (by omega))⟩
            show vp_in (nI t) 20000 ∧ _
            have e1 : (lab (some t)).toNatClampNeg = t := nI_clamp (by omega)
            rw [e1, k1 t htN]
            have ks := k7 _ hix
            rw [← hs] at ks
            refine ⟨vp_in_nI (by omega) (by omega), fun c3 => ⟨vp_in_nI (by omega) (by omega), fun _ => on W lw mW hJW, fun c4 => ⟨vp_in_nI (by omega) (by omega), vp_in_nI (by omega) (by omega), fun _ => on W lw mW hJW, fun c5 => ⟨vp_in_nI (by omega) (by omega), vp_in_nI (by omega) (by omega), ?_⟩⟩⟩, fun c3 => ?_⟩
            · have hst : sn t = true := by
                cases e : sn t with
                | true => rfl
                | false => rw [e] at c3; exact absurd rfl c3
              rw [hst] at c5 ⊢
              have tq := (g2 t hst).2
              rw [ks.2.2.2.1] at c5
              have c5 : ov t < lw s := by
                rcases Nat.lt_or_ge (ov t) (lw s) with q | q
                · exact q
                · exact absurd (nI_le q (by omega)) c5
              obtain ⟨i, i1, i2⟩ := k6 t htN hst c4
              have hov : ov (pl 0) ≤ ov t := by
                rw [← i2]
                rcases Nat.eq_zero_or_pos i with e | e
                · rw [e]; exact Nat.le_refl _
                · exact Nat.le_of_lt (k8 0 i e i1)
              exact on _ (va_up lw s (ov t)) (mW.mar _ (by omega)) (hJW.low hov (by omega) (ma_get _ _ _) (fun k _ _ k3 => ma_get_ne _ _ k3) rfl)
            · have hst : sn t = false := by
                cases e : sn t with
                | false => rfl
                | true =>
                  rw [e] at c3
                  have tq := (g2 t e).2
                  exact absurd c3 (nI_m1 (by omega))
              have en := hJW.enter (U := ma (ma (ma (ma (ma W 18 (upd (W.2.1 18) t (nI q))) 19 (upd (W.2.1 19) t (nI q))) 23 (upd (W.2.1 23) t 0)) 22 (upd (W.2.1 22) p (nI t))) 21 (upd (W.2.1 21) (r + 1) (nI t))) htN hst rfl rfl rfl rfl rfl rfl rfl
              have hq := en.1
              rw [nI_clamp (show p < 2 ^ 31 by omega), nI_clamp (show r + 1 < 2 ^ 31 by omega), ← nI_succ, ← nI_succ, ← nI_succ]
              refine ⟨vp_in_nI (by omega) (by omega), vp_in_nI (by omega) (by omega), vp_in_nI (by omega) (by omega), vp_in_nI (by omega) (by omega), vp_in_nI (by omega) (by omega), ?_⟩
              refine ih _ (q + 1) (r + 1 + 1) (p + 1) m _ _ _ _ _ _ (fun x hx => ?_) ?_ (((((mW.mar _ (by omega)).mar _ (by omega)).mar _ (by omega)).mar _ (by omega)).mar _ (by omega)) en.2
              · by_cases e : x = t
                · rw [e]; exact va_up_same _ _ _
                · rw [va_up_other _ _ e]; exact hsn x hx
              · have := en.1
                rw [if_neg (Nat.succ_ne_zero _), Nat.add_sub_cancel, va_up_same, va_up_same, va_up_same]
                omega
  -- all roots
  have roots : ∀ e f, f + e = P ^ n → ∀ T q m sn ov lw mv pl ix, MK S T → JW T (P ^ n) q 0 0 m sn ov lw mv pl ix → (∀ x, x < f → rgt n P kd x = true → sn x = true) → B41 T (nI (P ^ n)) (nI q) (nI f) := by
    intro e
    induction e with
    | zero =>
      intro f hf T q m sn ov lw mv pl ix mT hJ hr
      have hqN := hJ.qN
      obtain ⟨g1, g2, g3, g4, g5, g6, g7, g8, g9, g10, g11, g12, g13, g14, g15⟩ := id hJ
      refine h41 _ _ _ _ ?_
      unfold mT_joinAll_41
      refine ⟨fun _ => hp T m mT (by omega) g15 g4 (fun x hx hxr c => ?_), fun c => absurd (nI_le (by omega) (by omega)) c⟩
      obtain ⟨i, i1, -⟩ := g6 x hx (hr x (by omega) hxr) c
      omega
    | succ e ih =>
      intro f hf T q m sn ov lw mv pl ix mT hJ hr
      have hfN : f < P ^ n := by omega
      have nxt : ∀ T q m sn ov lw mv pl ix, MK S T → JW T (P ^ n) q 0 0 m sn ov lw mv pl ix → (∀ x, x < f + 1 → rgt n P kd x = true → sn x = true) → B502 T (nI (P ^ n)) (nI q) (nI f) := by
        intro T q m sn ov lw mv pl ix mT hJ hr
        refine h502 _ _ _ _ ?_
        unfold mT_joinAll_502
        rw [← nI_succ]
        exact ih (f + 1) (by omega) T q m sn ov lw mv pl ix mT hJ hr
      refine h41 _ _ _ _ ?_
      unfold mT_joinAll_41
      refine ⟨fun c => absurd c (nI_ge (by omega) (by omega)), fun _ => ?_⟩
      refine s_unp l (mT.my hy) (by omega) mT.2.2.1 _ (fun g hg => ?_)
      have mV := mT.m8 hg
      have hV := hJ.fr (U := ma T 8 g) (fun k k1 k2 => ma_get_ne _ _ (by omega)) rfl
      have hqN := hV.qN
      obtain ⟨g1, g2, g3, g4, g5, g6, g7, g8, g9, g10, g11, g12, g13, g14, g15⟩ := id hV
      rw [nI_clamp (show f < 2 ^ 31 by omega), g1 f hfN]
      refine ⟨vp_in_nI (by omega) (by omega), fun c => ?_, fun c => ?_⟩
      · refine nxt _ q m sn ov lw mv pl ix mV hV (fun x hx hxr => ?_)
        by_cases e : x = f
        · subst e
          cases e2 : sn x with
          | true => rfl
          | false => rw [e2] at c; exact absurd rfl c
        · exact hr x (by omega) hxr
      · have hsf : sn f = false := by
          cases e2 : sn f with
          | false => rfl
          | true =>
            rw [e2] at c
            have := (g2 f e2).2
            exact absurd c (nI_m1 (by omega))
        obtain ⟨σ, hσ, hσ2⟩ := id hg
        refine s_isRight l _ 8 m7_8' _ (mV.my hy) hσ ?_
        rw [rightN_congr hσ2]
        refine ⟨fun c2 => ?_, fun c2 => ?_⟩
        · rw [← nI_succ]
          have en := hV.enter (U := ma (ma (ma (ma (ma (ma T 8 g) 21 (upd ((ma T 8 g).2.1 21) 0 (nI f))) 23 (upd ((ma T 8 g).2.1 23) f 0)) 18 (upd ((ma T 8 g).2.1 18) f (nI q))) 19 (upd ((ma T 8 g).2.1 19) f (nI q))) 22 (upd ((ma T 8 g).2.1 22) 0 (nI f))) hfN hsf rfl rfl rfl rfl rfl rfl rfl
          have hq := en.1
          refine ⟨vp_in_nI (n := 0) (by omega) (by omega), vp_in_nI (by omega) (by omega), vp_in_nI (by omega) (by omega), vp_in_nI (by omega) (by omega), vp_in_nI (n := 0) (by omega) (by omega), ?_⟩
          refine walk f (va_up sn f true) (fun T q m sn' ov lw mv pl ix hsn mT hJ => nxt T q m sn' ov lw mv pl ix mT hJ (fun x hx hxr => hsn x ?_)) (52 * (P ^ n) + 100) _ (q + 1) 1 1 m _ _ _ _ _ _ (fun x hx => hx) ?_ (((((mV.mar _ (by omega)).mar _ (by omega)).mar _ (by omega)).mar _ (by omega)).mar _ (by omega)) en.2
          · by_cases e : x = f
            · rw [e]; exact va_up_same _ _ _
            · rw [va_up_other _ _ e]; exact hr x (by omega) hxr
          · rw [if_neg (by decide)]
            omega
        · refine nxt _ q m sn ov lw mv pl ix mV hV (fun x hx hxr => ?_)
          by_cases e : x = f
          · subst e
            unfold rgt at hxr
            rw [hxr] at c2
            exact absurd c2 (by decide)
          · exact hr x (by omega) hxr
  -- the rows are laid
  have lay : ∀ e i, i + e = P ^ n → ∀ T, MK S T → (∀ x, x < i → T.2.1 18 x = -1 ∧ T.2.1 20 x = -1) → B7 T (nI (P ^ n)) (nI i) := by
    intro e
    induction e with
    | zero =>
      intro i hi T mT hT
      refine h7 _ _ _ ?_
      unfold mT_joinAll_7
      refine ⟨fun _ => ?_, fun c => absurd (nI_le (by omega) (by omega)) c⟩
      refine roots (P ^ n) 0 (Nat.zero_add _) (mf T 8 0) 0 0 (fun _ => false) (fun _ => 0) (fun _ => 0) (fun _ => 0) (fun _ => 0) (fun _ => 0) (mT.mfs _ (by omega)) ?_ (fun x hx => absurd hx (Nat.not_lt_zero _))
      refine ⟨fun x hx => (hT x (by omega)).1, fun x hx => (by cases hx), cntP_none _, fun x hx => Or.inl (hT x (by omega)).2, fun x hx _ => (hT x (by omega)).2, fun x hx hs => (by cases hs), fun i hi => absurd hi (Nat.not_lt_zero _), fun i j _ hj => absurd hj (Nat.not_lt_zero _), fun i hi => absurd hi (Nat.not_lt_zero _), fun i j _ hj => absurd hj (Nat.not_lt_zero _), fun c => absurd c (Nat.lt_irrefl _), fun _ => rfl, by omega, by omega, rfl⟩
    | succ e ih =>
      intro i hi T mT hT
      refine h7 _ _ _ ?_
      unfold mT_joinAll_7
      rw [nI_clamp (show i < 2 ^ 31 by omega), ← nI_succ]
      refine ⟨fun c => absurd c (nI_ge (by omega) (by omega)), fun _ => ⟨vp_in_nI (by omega) (by omega), vp_in_nI (by omega) (by omega), ih (i + 1) (by omega) _ ((mT.mar _ (by omega)).mar _ (by omega)) (fun x hx => ?_)⟩⟩
      show upd (T.2.1 18) i (-1) x = -1 ∧ upd (T.2.1 20) i (-1) x = -1
      by_cases e : x = i
      · subst e; exact ⟨upd_same _ _ _, upd_same _ _ _⟩
      · rw [upd_other _ _ e, upd_other _ _ e]; exact hT x (by omega)
  unfold mT_joinAll_e
  refine s_stands l S _ hy.2.1 hy.1 (by omega) (lay (P ^ n) 0 (Nat.zero_add _) S ⟨fun _ _ _ _ => rfl, fun _ _ => rfl, h8, h9⟩ (fun x hx => absurd hx (Nat.not_lt_zero _)))
end JAll
