-- joined(): DiscYard's own search is the search
theorem upd_id (f : Nat → Int32) (k : Nat) : upd f k (f k) = f := by
  funext j
  by_cases e : j = k
  · subst e; exact upd_same _ _ _
  · exact upd_other _ _ e
section WalkS
variable {S : CS} {n P LK q d r p m : Nat} {kd ct sc : Nat → Nat} {sn : Nat → Bool} {ov pl ix : Nat → Nat} {st : Nat → Option Nat} {sz lw pc : Nat → Nat}
theorem x_enter (l : Launch) {N t : Nat} {tg : Nat → List Nat} (h : KX tg S N q d p m sn ov pl ix st sz lw pc) (h32 : K32 S d pl ix pc) (hl : KL S LK) (hN : N ≤ LK) (hK : LK ≤ 20000) (ht : t < N) (h0 : sn t = false) (he : ∀ r, d = r + 1 → (tg (pl (ix r)))[pc (pl (ix r))]? = some t) (post : CS → Prop) (hp : ∀ T, CFr kA kB nn S T → q < N → KX tg T N (q + 1) (d + 1) (p + 1) m (va_up sn t true) (va_up ov t q) (va_up pl p t) (va_up ix d p) st sz (va_up lw t q) (va_up pc t 0) → K32 T (d + 1) (va_up pl p t) (va_up ix d p) (va_up pc t 0) → post T) : cX_X2_enter l S (nI t) post := by
  obtain ⟨hA, hL, ⟨h14, h15, h16, h18⟩, h30, h35, h34, h33, h31, h36, h37, D1, D2, D3, D4⟩ := id h
  have en := h.enter (U := cf (ca (cf (ca (ca (ca (ca (cf S 14 (nI (q + 1))) 30 (upd (S.2.1 30) t (nI (q + 1)))) 31 (upd (S.2.1 31) t (nI (q + 1)))) 32 (upd (S.2.1 32) t 0)) 33 (upd (S.2.1 33) d (nI t))) 15 (nI (d + 1))) 34 (upd (S.2.1 34) p (nI t))) 16 (nI (p + 1))) ht h0 he rfl rfl rfl rfl rfl rfl rfl rfl rfl rfl rfl
  have hq := en.1
  have hd := hA.2.2.2.2.2.2.2.2.2.2.1
  have hpq := hA.2.2.2.2.2.2.2.2.2.2.2.1
  refine c_X2_enter l S _ post ?_
  unfold cT_X2_enter_e
  rw [h14, h15, h16, hl.1, hl.2.1, hl.2.2.1, hl.2.2.2.1, hl.2.2.2.2.1, nI_clamp (show t < 2 ^ 31 by omega), nI_clamp (show d < 2 ^ 31 by omega), nI_clamp (show p < 2 ^ 31 by omega), ← nI_succ, ← nI_succ, ← nI_succ]
  refine ⟨vp_in_nI (by omega) (by omega), vp_in_nI (by omega) (by omega), vp_in_nI (by omega) (by omega), vp_in_nI (by omega) (by omega), vp_in_nI (by omega) (by omega), hp _ ?_ hq en.2 (fun i hi => ?_)⟩
  · exact (((((((CFr.rf.cf _ rfl).ca _ rfl).ca _ rfl).ca _ rfl).ca _ rfl).cf _ rfl).ca _ rfl).cf _ rfl
  · show upd (S.2.1 32) t 0 (va_up pl p t (va_up ix d p i)) = _ ∧ _
    by_cases e : i = d
    · subst e
      rw [va_up_same, va_up_same, upd_same, va_up_same]
      exact ⟨rfl, by omega⟩
    · have hix := hA.2.2.2.2.2.2.1 i (by omega)
      have hne : pl (ix i) ≠ t := fun c => by
        have := (hA.2.2.2.2.1 _ hix).1
        rw [c, h0] at this; cases this
      rw [va_up_other ix _ e, va_up_other pl _ (show ix i ≠ p by omega), upd_other _ _ hne, va_up_other _ _ hne]
      exact h32 i (by omega)
theorem x_next (l : Launch) (hy : CY S n P kd ct sc) (hz : ∀ a, a < 5 → ct (5 * a + a) = 0) (h : KX (tl n P kd ct sc) S (P ^ n) q (r + 1) p m sn ov pl ix st sz lw pc) (h32 : K32 S (r + 1) pl ix pc) (hl : KL S LK) (hN : P ^ n ≤ LK) (hK : LK ≤ 20000) (post : Int32 → CS → Prop)
    (hp0 : ∀ T lw' pc', CFr kA kB nn S T → KX (tl n P kd ct sc) T (P ^ n) q (r + 1) p m sn ov pl ix st sz lw' pc' → K32 T r pl ix pc' → (tl n P kd ct sc (pl (ix r))).length ≤ pc' (pl (ix r)) → post (-1) T)
    (hp1 : ∀ T t lw' pc', CFr kA kB nn S T → KX (tl n P kd ct sc) T (P ^ n) q (r + 1) p m sn ov pl ix st sz lw' pc' → K32 T (r + 1) pl ix pc' → t < P ^ n → sn t = false → (tl n P kd ct sc (pl (ix r)))[pc' (pl (ix r))]? = some t → post (nI t) T) : cX_X2_nextUnseen l S (nI (pl (ix r))) post := by
  have hP2 := hy.2.2.2.1
  have hA := h.1
  have hqN := hA.qN
  have hixr := hA.2.2.2.2.2.2.1 r (by omega)
  obtain ⟨x, hx0⟩ : ∃ x, x = pl (ix r) := ⟨_, rfl⟩
  have hxs := (hA.2.2.2.2.1 _ hixr).1
  obtain ⟨hx, hxq⟩ := hA.1 _ hxs
  have h32r := h32 r (by omega)
  rw [← hx0] at hp0 hp1 hx hxq h32r hxs ⊢
  refine c_X2_nextUnseen l S _ post ?_
  intro B19 B91 h19 h91
  unfold cT_X2_nextUnseen_e
  refine k_read l hy hx _ (fun T fT hT => k_spread l (hy.fr fT) hz hx hT _ (fun U fU hU => ?_))
  have fSU : CFr lA lB nn S U := fT.tr (fU.mono sA_l sB_l)
  have hlen := mvL_len (n := n) (kd := kd) (ct := ct) (sg := sc) (x := x) hP2.2
  have key : ∀ e i, i + e = 25 → ∀ V lw' pc', CFr kA kB nn S V → SPL V n P kd ct sc x (mvL n P kd ct sc x) → KX (tl n P kd ct sc) V (P ^ n) q (r + 1) p m sn ov pl ix st sz lw' pc' → K32 V r pl ix pc' → pc' x = i → B19 V (nI i) := by
    intro e
    induction e with
    | zero =>
      intro i hi V lw' pc' fV sV kV k32 hpc
      refine h19 _ _ ?_
      unfold cT_X2_nextUnseen_19
      rw [sV.1]
      exact ⟨fun _ => hp0 V lw' pc' fV kV k32 (by rw [tl_len]; omega), fun z => absurd (nI_le (by omega) (by omega)) z⟩
    | succ e ih =>
      intro i hi V lw' pc' fV sV kV k32 hpc
      have hlV : V.2.2.2 = S.2.2.2 := lens_eq fV
      refine h19 _ _ ?_
      unfold cT_X2_nextUnseen_19
      rw [sV.1]
      refine ⟨fun z => hp0 V lw' pc' fV kV k32 (by rw [tl_len, hpc]; exact (nI_leI (by omega) (by omega)).mp z), fun z => ?_⟩
      have hi2 : i < (mvL n P kd ct sc x).length := by
        rcases Nat.lt_or_ge i (mvL n P kd ct sc x).length with c | c
        · exact c
        · exact absurd (nI_le c (by omega)) z
      obtain ⟨t, t1, t2, t3⟩ := tl_at sV (by omega) hi2
      obtain ⟨-, kL, ⟨k14, k15, k16, k18⟩, k30, k35, k34, k33, k31, k36, k37, D1, D2, D3, D4⟩ := id kV
      have k31x : V.2.1 31 x = nI (lw' x + 1) ∧ lw' x ≤ ov x := by rw [hx0]; exact k31 _ hixr
      rw [nI_clamp (show i < 2 ^ 31 by omega), t2, hlV, hl.1, hl.2.1, hl.2.2.1, hl.2.2.2.2.2.1]
      refine ⟨vp_in_nI (by omega) (by omega), fun v hv => ?_⟩
      subst hv
      rw [nI_clamp (show t < 2 ^ 31 by omega), nI_clamp (show x < 2 ^ 31 by omega), k30 t t3, k35 t t3]
      have ht : (tl n P kd ct sc (pl (ix r)))[pc' (pl (ix r))]? = some t := by rw [← hx0, hpc]; exact t1
      have nxt : ∀ W v, sn t = true → (v = if st t = none then min (lw' x) (lw' t) else lw' x) → CFr kA kB nn S W → SPL W n P kd ct sc x (mvL n P kd ct sc x) → W.2.1 31 = upd (V.2.1 31) x (nI (v + 1)) → (W.1 14 = V.1 14 ∧ W.1 15 = V.1 15 ∧ W.1 16 = V.1 16 ∧ W.1 18 = V.1 18) → (∀ k, 30 ≤ k → k ≤ 37 → k ≠ 31 → W.2.1 k = V.2.1 k) → B91 W (nI i) := by
        intro W v hs hv fW sW w31 w1 we
        have hm := kV.more (U := W) (v := v) ht hs (by rw [← hx0]; exact hv) (by rw [← hx0]; exact w31) w1 we
        refine h91 _ _ ?_
        unfold cT_X2_nextUnseen_91
        rw [← nI_succ]
        refine ih (i + 1) (by omega) W _ _ fW sW hm (fun i' hi' => ?_) ?_
        · rw [we 32 (by omega) (by omega) (by omega), va_up_other _ _ (hA.path_ne hi' (by omega))]
          exact k32 i' hi'
        · rw [hx0, va_up_same, ← hx0, hpc]
      refine ⟨vp_in_nI (by omega) (by omega), fun c => ?_, fun c => ?_⟩
      · have hs : sn t = true := by
          cases e2 : sn t with
          | true => rfl
          | false => rw [e2] at c; exact absurd rfl c
        refine ⟨vp_in_nI (by omega) (by omega), fun c2 => ?_, fun c2 => ⟨vp_in_nI (by omega) (by omega), vp_in_nI (by omega) (by omega), vp_in_nI (by omega) (by omega), ?_⟩⟩
        · have c2 : st t ≠ none := fun w => c2 (by rw [w]; rfl)
          refine nxt V (lw' x) hs (by rw [if_neg c2]) fV sV ?_ ⟨rfl, rfl, rfl, rfl⟩ (fun _ _ _ _ => rfl)
          rw [← k31x.1, upd_id]
        · have c2 : st t = none := (lab_none (fun k hk => by
            have := (hA.2.2.1 t k hk).1
            have := hA.2.2.2.2.2.2.2.2.2.2.1
            omega)).mp c2
          obtain ⟨j, j1, j2⟩ := hA.2.2.2.1 t ⟨hs, c2⟩
          have k31t := k31 j j1
          rw [j2] at k31t
          have htq := (hA.1 t hs).2
          refine nxt _ (min (lw' x) (lw' t)) hs (by rw [if_pos c2]) (fV.ca _ rfl) sV ?_ ⟨rfl, rfl, rfl, rfl⟩ (fun k _ _ k3 => ca_get_ne _ _ k3)
          rw [ca_get, k31t.1, k31x.1]
          by_cases w : lw' t < lw' x
          · rw [if_pos (nI_lt (by omega) (by omega)), Nat.min_eq_right (by omega)]
          · rw [if_neg (nI_nlt (by omega) (by omega)), Nat.min_eq_left (by omega)]
      · have hs : sn t = false := by
          cases e2 : sn t with
          | false => rfl
          | true =>
            rw [e2] at c
            have := (hA.1 t e2).2
            exact absurd ((nI_is 0 rfl (by omega) (by omega)).mp c) (by omega)
        refine ⟨vp_in_nI (by omega) (by omega), hp1 _ t lw' pc' (fV.ca _ rfl) kV (fun i' hi' => ?_) t3 hs (by rw [hx0]; exact ht)⟩
        show upd (V.2.1 32) x (nI i) (pl (ix i')) = _ ∧ _
        by_cases e2 : i' = r
        · rw [e2, ← hx0, upd_same, hpc]; exact ⟨rfl, by omega⟩
        · have ne : pl (ix i') ≠ x := by rw [hx0]; exact hA.path_ne (show i' < r by omega) (by omega)
          rw [upd_other _ _ ne]
          exact k32 i' (by omega)
  have h32U : U.2.1 32 x = nI (pc x) := by rw [(fSU.2.1 32 rfl).1]; exact h32r.1
  have hlU : U.2.2.2 = S.2.2.2 := lens_eq fSU
  rw [hlU, hl.2.2.1, nI_clamp (show x < 2 ^ 31 by omega), h32U]
  refine ⟨vp_in_nI (by omega) (by omega), fun v hv => ?_⟩
  subst hv
  have := h32r.2
  exact key (25 - pc x) (pc x) (by omega) U lw pc (fSU.mono lA_k lB_k) hU (h.look fSU) (fun i hi => (h32.look fSU) i (by omega)) rfl
theorem x_leave (l : Launch) {N : Nat} {tg : Nat → List Nat} (h : KX tg S N q (r + 1) p m sn ov pl ix st sz lw pc) (h32 : K32 S r pl ix pc) (hf : (tg (pl (ix r))).length ≤ pc (pl (ix r))) (hl : KL S LK) (hN : N ≤ LK) (hK : LK ≤ 20000) (post : CS → Prop)
    (hb : ∀ T r', r = r' + 1 → WP tg p sn ov pl st (ix r) → CFr kA kB nn S T → KX tg T N q r p m sn ov pl ix st sz lw pc → K32 T r pl ix pc → post T)
    (he : ∀ T, ¬ WP tg p sn ov pl st (ix r) → CFr kA kB nn S T → KX tg T N q r (ix r) (m + 1) sn ov pl ix (popS st pl m p (p - ix r)) (va_up sz m (p - ix r)) lw pc → K32 T r pl ix pc → post T) : cX_X2_leave l S (nI (pl (ix r))) post := by
  obtain ⟨d1, d2, d3, d4⟩ := h.dec hf
  obtain ⟨hA, hL, ⟨h14, h15, h16, h18⟩, h30, h35, h34, h33, h31, h36, h37, D1, D2, D3, D4⟩ := id h
  have hqN := hA.qN
  have hinj := fun i j => hA.inj (i := i) (j := j)
  obtain ⟨a1, a2, a3, a4, a5, a6, a7, a8, a9, a10, a11, a12, a13, a14⟩ := id hA
  have hix := a7 r (by omega)
  obtain ⟨x, hx0⟩ : ∃ x, x = pl (ix r) := ⟨_, rfl⟩
  have hxs := (a5 _ hix).1
  obtain ⟨hx, hxq⟩ := a1 _ hxs
  have k31 := h31 _ hix
  have k30 := h30 _ hx
  rw [if_pos hxs] at k30
  refine c_X2_leave l S _ post ?_
  intro B28 h28
  unfold cT_X2_leave_e
  rw [h15, hl.1, hl.2.1, nI_clamp (show pl (ix r) < 2 ^ 31 by omega), nI_pred, k31.1, k30]
  have f1 : CFr kA kB nn S (cf S 15 (nI r)) := CFr.rf.cf _ rfl
  refine ⟨vp_in_nI (by omega) (by omega), vp_in_nI (by omega) (by omega), fun c => ?_, fun c => ?_⟩
  · have c : lw (pl (ix r)) = ov (pl (ix r)) := by
      have := k31.2
      have := (nI_eq (show lw (pl (ix r)) + 1 < 2 ^ 31 by omega) (by omega)).mp c
      omega
    have hW := d2.mp c
    have key : ∀ e p' k, p' = ix r + e → k + p' = p → ∀ V, CFr kA kB nn S V → V.1 14 = nI q → V.1 15 = nI r → V.1 16 = nI p' → V.1 18 = nI m → (∀ k, 30 ≤ k → k ≤ 37 → k ≠ 35 → k ≠ 36 → V.2.1 k = S.2.1 k) → (∀ x, x < N → V.2.1 35 x = lab (popS st pl m p k x)) → V.2.1 36 m = nI k → (∀ j, j ≠ m → V.2.1 36 j = S.2.1 36 j) → B28 V (if e = 0 then 0 else 1) := by
      intro e
      induction e with
      | zero =>
        intro p' k hp' hk V fV v14 v15 v16 v18 ve v35 v36 v36b
        have hp' : p' = ix r := hp'
        subst hp'
        have ek : k = p - ix r := by omega
        subst ek
        refine h28 _ _ ?_
        unfold cT_X2_leave_28
        rw [if_pos rfl]
        refine ⟨fun _ => ?_, fun c => absurd rfl c⟩
        rw [v18, ← nI_succ]
        refine he _ hW (fV.cf _ rfl) (h.ended hW v15 v16 rfl (by rw [h14]; exact v14) v35 (fun k hk => ?_) ve) (fun i hi => ?_)
        · show V.2.1 36 k = _
          by_cases c : k = m
          · rw [c, if_pos (by omega), va_up_same]; exact v36
          · rw [v36b k c, h36 k hk, va_up_other _ _ c]
            by_cases c2 : k < m
            · rw [if_pos c2, if_pos (by omega)]
            · rw [if_neg c2, if_neg (by omega)]
        · show V.2.1 32 _ = _ ∧ _
          rw [ve 32 (by omega) (by omega) (by omega) (by omega)]
          exact h32 i hi
      | succ e ih =>
        intro p' k hp' hk V fV v14 v15 v16 v18 ve v35 v36 v36b
        subst hp'
        have hlt : ix r + e < p := by omega
        have hplN := (a1 _ (a5 _ hlt).1).1
        have v34 : V.2.1 34 (ix r + e) = nI (pl (ix r + e)) := by rw [ve 34 (by omega) (by omega) (by omega) (by omega)]; exact h34 _ hlt
        have hlV : V.2.2.2 = S.2.2.2 := lens_eq fV
        refine h28 _ _ ?_
        unfold cT_X2_leave_28
        rw [if_neg (Nat.succ_ne_zero e), v16, show nI (ix r + (e + 1)) - 1 = nI (ix r + e) from nI_pred (ix r + e), nI_clamp (show ix r + e < 2 ^ 31 by omega), v34, v18, hlV, hl.2.2.2.2.1, hl.2.2.2.2.2.1, hl.2.2.2.2.2.2.1]
        refine ⟨fun c => absurd c (by decide), fun _ => ⟨fun c => absurd c (nI_nle (by omega) (by omega)), fun _ => ⟨vp_in_nI (by omega) (by omega), fun v hv => ?_⟩⟩⟩
        subst hv
        rw [nI_clamp (show pl (ix r + e) < 2 ^ 31 by omega), nI_clamp (show m < 2 ^ 31 by omega), v36, ← nI_succ]
        have nx := ih (ix r + e) (k + 1) rfl (by omega) (ca (ca (cf V 16 (nI (ix r + e))) 35 (upd (V.2.1 35) (pl (ix r + e)) (nI m))) 36 (upd (V.2.1 36) m (nI (k + 1)))) (((fV.cf _ rfl).ca _ rfl).ca _ rfl) v14 v15 rfl v18 (fun j j1 j2 j3 j4 => by
            rw [ca_get_ne _ _ j4, ca_get_ne _ _ j3]; exact ve j j1 j2 j3 j4) (fun y hy => by
            show upd (V.2.1 35) (pl (ix r + e)) (nI m) y = lab (va_up (popS st pl m p k) (pl (p - 1 - k)) (some m) y)
            rw [show p - 1 - k = ix r + e by omega]
            by_cases c : y = pl (ix r + e)
            · subst c; rw [upd_same, va_up_same]; rfl
            · rw [upd_other _ _ c, va_up_other _ _ c]; exact v35 y hy) (upd_same _ _ _) (fun j hj => by
            show upd (V.2.1 36) m (nI (k + 1)) j = _
            rw [upd_other _ _ hj]; exact v36b j hj)
        refine ⟨vp_in_nI (by omega) (by omega), vp_in_nI (by omega) (by omega), vp_in_nI (by omega) (by omega), fun c => ?_, fun c => ?_⟩
        · have e1 := hinj _ _ hlt hix ((nI_eq (by omega) (by omega)).mp c)
          have e1 : e = 0 := by omega
          rw [if_pos e1] at nx
          exact nx
        · have e1 : e ≠ 0 := fun e1 => c (by rw [e1, Nat.add_zero])
          rw [if_neg e1] at nx
          exact nx
    have := key (p - ix r) p 0 (by omega) (by omega) (cf S 15 (nI r)) f1 h14 rfl h16 h18 (fun _ _ _ _ _ => rfl) h35 (by
      show S.2.1 36 m = nI 0
      rw [h36 m (by omega), if_neg (Nat.lt_irrefl _)]; rfl) (fun _ _ => rfl)
    rw [if_neg (by omega)] at this
    exact this
  · have c : lw (pl (ix r)) ≠ ov (pl (ix r)) := fun e => c (by rw [e])
    have hW : WP tg p sn ov pl st (ix r) := Classical.byContradiction (fun w => c (d2.mpr w))
    have hr : r ≠ 0 := fun e => by
      subst e
      have e0 := a9 (by omega)
      obtain ⟨k, z, z1, z2, z3⟩ := hL _ hix
      have w1 := hA.low0 z2
      have w2 := k31.2
      rw [e0] at z3 w2 c
      omega
    obtain ⟨r', rfl⟩ : ∃ r', r = r' + 1 := ⟨r - 1, by omega⟩
    exact hb _ r' rfl hW f1 (h.back hf rfl ⟨rfl, rfl, rfl⟩ (fun _ _ _ => rfl)) h32
theorem x_walk (l : Launch) (hy : CY S n P kd ct sc) (hz : ∀ a, a < 5 → ct (5 * a + a) = 0) {x : Nat} (h : KX (tl n P kd ct sc) S (P ^ n) q 0 0 m sn ov pl ix st sz lw pc) (hl : KL S LK) (hN : P ^ n ≤ LK) (hK : LK ≤ 20000) (hx : x < P ^ n) (h0 : sn x = false) (post : CS → Prop) (hp : ∀ T q' m' sn' ov' pl' ix' st' sz' lw' pc', CFr kA kB nn S T → KX (tl n P kd ct sc) T (P ^ n) q' 0 0 m' sn' ov' pl' ix' st' sz' lw' pc' → (∃ k, JRn (tl n P kd ct sc) k (jst (q + 1) 1 1 m (va_up sn x true) (va_up ov x q) (va_up pl 0 x) (va_up ix 0 0) st sz) (jst q' 0 0 m' sn' ov' pl' ix' st' sz')) → post T) : cX_X2_walk l S (nI x) post := by
  refine c_X2_walk l S _ post ?_
  intro B8 B70 h8 h70
  unfold cT_X2_walk_e
  have key : ∀ e i, i + e = 2 * P ^ n → ∀ V q' d' p' m' sn' ov' pl' ix' st' sz' lw' pc', 2 * (P ^ n - q') + d' ≤ e → CFr kA kB nn S V → KX (tl n P kd ct sc) V (P ^ n) q' d' p' m' sn' ov' pl' ix' st' sz' lw' pc' → K32 V d' pl' ix' pc' → (∃ k, JRn (tl n P kd ct sc) k (jst (q + 1) 1 1 m (va_up sn x true) (va_up ov x q) (va_up pl 0 x) (va_up ix 0 0) st sz) (jst q' d' p' m' sn' ov' pl' ix' st' sz')) → B8 V (nI i) := by
    intro e
    induction e with
    | zero =>
      intro i hi V q' d' p' m' sn' ov' pl' ix' st' sz' lw' pc' hm fV kV k32 hR
      have hyV := hy.fr fV
      have hd : d' = 0 := by omega
      subst hd
      have hp0 : p' = 0 := kV.1.2.2.2.2.2.2.2.2.2.1 rfl
      subst hp0
      refine h8 _ _ ?_
      unfold cT_X2_walk_8
      rw [hyV.2.2.1, show (2 : Int32) * nI (P ^ n) = nI (2 * P ^ n) from pk_mul 2 (P ^ n)]
      exact ⟨fun _ => hp V q' m' sn' ov' pl' ix' st' sz' lw' pc' fV kV hR, fun z => absurd (nI_le (by omega) (by omega)) z⟩
    | succ e ih =>
      intro i hi V q' d' p' m' sn' ov' pl' ix' st' sz' lw' pc' hm fV kV k32 hR
      have hyV := hy.fr fV
      have hlV := hl.nn fV
      have hqN := kV.1.qN
      obtain ⟨a1, a2, a3, a4, a5, a6, a7, a8, a9, a10, a11, a12, a13, a14⟩ := id kV.1
      refine h8 _ _ ?_
      unfold cT_X2_walk_8
      rw [hyV.2.2.1, show (2 : Int32) * nI (P ^ n) = nI (2 * P ^ n) from pk_mul 2 (P ^ n), kV.2.2.1.2.1]
      refine ⟨fun z => absurd z (nI_ge (by omega) (by omega)), fun _ => ⟨fun c => ?_, fun c => ?_⟩⟩
      · have hd : d' = 0 := by
          rcases Nat.eq_zero_or_pos d' with w | w
          · exact w
          · exact absurd c (nI_nle w (by omega))
        subst hd
        have hp0 : p' = 0 := a10 rfl
        subst hp0
        exact hp V q' m' sn' ov' pl' ix' st' sz' lw' pc' fV kV hR
      · have hd0 : d' ≠ 0 := fun z => c (by rw [z]; decide)
        obtain ⟨r, rfl⟩ : ∃ r, d' = r + 1 := ⟨d' - 1, by omega⟩
        have k33 := kV.2.2.2.2.2.2.1 r (by omega)
        have hyN := (a1 _ (a5 _ (a7 r (by omega))).1).1
        rw [nI_pred, nI_clamp (show r < 2 ^ 31 by omega), k33, hlV.2.2.2.1]
        refine ⟨vp_in_nI (by omega) (by omega), fun v hv => ?_⟩
        subst hv
        have nxt : ∀ W q1 d1 p1 m1 sn1 ov1 pl1 ix1 st1 sz1 lw1 pc1, 2 * (P ^ n - q1) + d1 ≤ e → CFr kA kB nn S W → KX (tl n P kd ct sc) W (P ^ n) q1 d1 p1 m1 sn1 ov1 pl1 ix1 st1 sz1 lw1 pc1 → K32 W d1 pl1 ix1 pc1 → JStep (tl n P kd ct sc) (jst q' (r + 1) p' m' sn' ov' pl' ix' st' sz') (jst q1 d1 p1 m1 sn1 ov1 pl1 ix1 st1 sz1) → B70 W (nI i) := by
          intro W q1 d1 p1 m1 sn1 ov1 pl1 ix1 st1 sz1 lw1 pc1 hm1 fW kW k32W hS
          refine h70 _ _ ?_
          unfold cT_X2_walk_70
          rw [← nI_succ]
          obtain ⟨k, hk⟩ := hR
          exact ih (i + 1) (by omega) W q1 d1 p1 m1 sn1 ov1 pl1 ix1 st1 sz1 lw1 pc1 hm1 fW kW k32W ⟨k + 1, _, hk, hS⟩
        refine x_next l hyV hz kV k32 hlV hN hK _ (fun W lw1 pc1 fW kW k32W hf => ⟨fun c => absurd rfl c, fun _ => ?_⟩) (fun W t lw1 pc1 fW kW k32W ht hs htl => ⟨fun _ => ?_, fun c => absurd c (nI_m1 (by omega))⟩)
        · have hfn := (kW.dec hf).1
          refine x_leave l kW k32W hf (hlV.nn fW) hN hK _ (fun X r' er hW fX kX k32X => ?_) (fun X hW fX kX k32X => ?_)
          · exact nxt X q' r p' m' sn' ov' pl' ix' st' sz' lw1 pc1 (by omega) (fV.tr (fW.tr fX)) kX k32X ⟨q', r, p', m', sn', ov', pl', ix', st', sz', rfl, Or.inr (Or.inl ⟨hfn, hW, rfl⟩)⟩
          · exact nxt X q' r (ix' r) (m' + 1) sn' ov' pl' ix' _ _ lw1 pc1 (by omega) (fV.tr (fW.tr fX)) kX k32X ⟨q', r, p', m', sn', ov', pl', ix', st', sz', rfl, Or.inr (Or.inr ⟨hfn, hW, rfl⟩)⟩
        · have hfind : (tl n P kd ct sc (pl' (ix' r))).find? (fun t => !sn' t) = some t := find_at htl (by rw [hs]; rfl) (fun j u hj hu => by
            have := (kW.2.2.2.2.2.2.2.2.2.2.1 r (by omega) j hj u hu).1
            rw [this]; rfl)
          refine x_enter l kW k32W (hlV.nn fW) hN hK ht hs (fun r2 e2 => ?_) _ (fun X fX hq kX k32X => ?_)
          · have e2 : r = r2 := by omega
            subst e2
            exact htl
          · exact nxt X (q' + 1) (r + 1 + 1) (p' + 1) m' _ _ _ _ st' sz' _ _ (by omega) (fV.tr (fW.tr fX)) kX k32X ⟨q', r, p', m', sn', ov', pl', ix', st', sz', rfl, Or.inl ⟨t, hfind, rfl⟩⟩
  refine x_enter l h (fun i hi => absurd hi (Nat.not_lt_zero _)) hl hN hK hx h0 (fun r e => by omega) _ (fun X fX hq kX k32X => ?_)
  exact key (2 * P ^ n) 0 (Nat.zero_add _) X (q + 1) 1 1 m _ _ _ _ st sz _ _ (by omega) fX kX k32X ⟨0, rfl⟩
end WalkS
