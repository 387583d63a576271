-- joined(): find() leaves the sets
section FindS
variable {S : CS} {n P LK : Nat} {kd ct sc : Nat → Nat}
theorem kA_nn {S T U : CS} (h1 : CFr jA kB kC S T) (h2 : CFr kA kB nn T U) : CFr jA kB kC S U := h1.tr (h2.mono kA_j (fun _ q => q))
set_option maxHeartbeats 2000000 in
/-- find(), where nothing was found yet -/
theorem x_find (l : Launch) {mc ms : Nat} (hy : CY S n P kd ct sc) (hz : ∀ a, a < 5 → ct (5 * a + a) = 0) (h17 : S.1 17 = 0) (hl : KL S LK) (hK : LK ≤ 20000) (hN : P ^ n ≤ 20000) (hb : LK < P ^ n → 8 ≤ mc ∧ 8 * P ^ n ≤ ms) (post : CS → Prop) (hp : ∀ T, CFr jA kB kC S T → KL T (max LK (P ^ n)) → T.1 17 = 1 → KOK T n P kd ct sc → post T) : cX_X2_find l mc ms S post := by
  have hP2 := hy.2.2.2.1
  refine c_X2_find l mc ms S post ?_
  intro B23 B60 B68 B93 h23 h60 h68 h93
  unfold cT_X2_find_e
  refine ⟨fun _ => ⟨mc, ms, by omega, by omega, ?_⟩, fun c => absurd h17 c⟩
  have f0 : CFr jA kB kC S (cf S 17 1) := CFr.rf.cf _ rfl
  rw [hy.2.2.1]
  refine k_prepK l (S := cf S 17 1) (LK := LK) hl hK hN hb _ (fun T fT hT hr t14 t15 t16 t18 => ?_)
  have hT1 : T.1 17 = 1 := by rw [fT.1 17 rfl]; exact cf_get _ _ _
  have hM : max LK (P ^ n) ≤ 20000 := by omega
  have hM2 : P ^ n ≤ max LK (P ^ n) := by omega
  have second : ∀ e i, i + e = P ^ n → ∀ V q m sn ov pl ix st sz, CFr jA kB kC S V → KL V (max LK (P ^ n)) → V.1 17 = 1 → JF (tl n P kd ct sc) (rgt n P kd) (P ^ n) (jst q 0 0 m sn ov pl ix st sz) → KF V (P ^ n) m st sz (lvS n P kd ct sc st i) → B68 (0 + mc) (0 + ms) V (nI i) := by
    intro e
    induction e with
    | zero =>
      intro i hi V q m sn ov pl ix st sz fV hV v17 hF kF
      have hi : i = P ^ n := hi
      subst hi
      refine h68 _ _ _ _ ?_
      unfold cT_X2_find_68
      have hyV := hy.fr fV
      rw [hyV.2.2.1]
      exact ⟨fun _ => ⟨by omega, by omega, hp V fV hV v17 ⟨q, m, sn, ov, pl, ix, st, sz, hF, kF⟩⟩, fun z => absurd (nI_le (Nat.le_refl _) (by omega)) z⟩
    | succ e ih =>
      intro i hi V q m sn ov pl ix st sz fV hV v17 hF kF
      have hyV := hy.fr fV
      have nxt : ∀ W, CFr lA okB nn V W → KF W (P ^ n) m st sz (lvS n P kd ct sc st (i + 1)) → B93 (0 + mc) (0 + ms) W (nI i) := by
        intro W fW kW
        refine h93 _ _ _ _ ?_
        unfold cT_X2_find_93
        rw [← nI_succ]
        exact ih (i + 1) (by omega) W q m sn ov pl ix st sz (kA_nn fV (fW.mono lA_k okB_k)) (hV.nn fW) (by rw [fW.1 17 rfl]; exact v17) hF kW
      have hm := kF.1
      refine h68 _ _ _ _ ?_
      unfold cT_X2_find_68
      rw [hyV.2.2.1, nI_clamp (show i < 2 ^ 31 by omega), hV.2.2.2.2.2.1, kF.2.2.1 i (by omega)]
      refine ⟨fun z => absurd z (nI_ge (by omega) (by omega)), fun _ => ⟨vp_in_nI (by omega) (by omega), fun c => nxt V CFr.rf ?_, fun c => ⟨by omega, by omega, ?_⟩⟩⟩
      · have c : st i = none := (lab_none (fun k hk => by have := kF.2.2.2.1 i k hk; omega)).mp c
        have e2 : lvS n P kd ct sc st (i + 1) = lvS n P kd ct sc st i := by
          show (match st i with | none => lvS n P kd ct sc st i | some k => va_up (lvS n P kd ct sc st i) k (if outB n P kd ct sc st i then 1 else lvS n P kd ct sc st i k)) = _
          rw [c]
        rw [e2]; exact kF
      · cases hk : st i with
        | none => rw [hk] at c; exact absurd rfl c
        | some k =>
          refine k_seek l hyV hz kF hV hM2 hM (by omega) hk _ (fun W fW kW => nxt W fW ?_)
          have e2 : lvS n P kd ct sc st (i + 1) = va_up (lvS n P kd ct sc st i) k (if outB n P kd ct sc st i then 1 else lvS n P kd ct sc st i k) := by
            show (match st i with | none => lvS n P kd ct sc st i | some k => va_up (lvS n P kd ct sc st i) k (if outB n P kd ct sc st i then 1 else lvS n P kd ct sc st i k)) = _
            rw [hk]
          rw [e2]; exact kW
  have first : ∀ e i, i + e = P ^ n → ∀ V q m sn ov pl ix st sz lw pc, CFr jA kB kC S V → KL V (max LK (P ^ n)) → V.1 17 = 1 → KX (tl n P kd ct sc) V (P ^ n) q 0 0 m sn ov pl ix st sz lw pc → JF (tl n P kd ct sc) (rgt n P kd) i (jst q 0 0 m sn ov pl ix st sz) → B23 (0 + mc) (0 + ms) V (nI i) := by
    intro e
    induction e with
    | zero =>
      intro i hi V q m sn ov pl ix st sz lw pc fV hV v17 kV hF
      have hi : i = P ^ n := hi
      subst hi
      have hyV := hy.fr fV
      have hqN := kV.1.qN
      refine h23 _ _ _ _ ?_
      unfold cT_X2_find_23
      rw [hyV.2.2.1]
      refine ⟨fun _ => ?_, fun z => absurd (nI_le (Nat.le_refl _) (by omega)) z⟩
      obtain ⟨hA, hL, ⟨h14, h15, h16, h18⟩, h30, h35, h34, h33, h31, h36, h37, D1, D2, D3, D4⟩ := kV
      have hmq := hA.2.2.2.2.2.2.2.2.2.2.1
      refine second (P ^ n) 0 (Nat.zero_add _) V q m sn ov pl ix st sz fV hV v17 hF ⟨by omega, h18, h35, fun x k hk => (hA.2.2.1 x k hk).1, fun k hk => ⟨?_, hA.2.2.2.2.2.2.2.2.2.2.2.2.2 k⟩, fun k hk => ⟨h37 k (by omega), Nat.zero_le _⟩⟩
      rw [h36 k (by omega), if_pos hk]
    | succ e ih =>
      intro i hi V q m sn ov pl ix st sz lw pc fV hV v17 kV hF
      have hyV := hy.fr fV
      have hA := kV.1
      have hqN := hA.qN
      have nxt : ∀ W q m sn ov pl ix st sz lw pc, CFr kA kB nn V W → W.1 17 = 1 → KX (tl n P kd ct sc) W (P ^ n) q 0 0 m sn ov pl ix st sz lw pc → JF (tl n P kd ct sc) (rgt n P kd) (i + 1) (jst q 0 0 m sn ov pl ix st sz) → B60 (0 + mc) (0 + ms) W (nI i) := by
        intro W q m sn ov pl ix st sz lw pc fW w17 wW hF
        refine h60 _ _ _ _ ?_
        unfold cT_X2_find_60
        rw [← nI_succ]
        exact ih (i + 1) (by omega) W q m sn ov pl ix st sz lw pc (kA_nn fV fW) (hV.nn fW) w17 wW hF
      have hiN : i < P ^ n := by omega
      refine h23 _ _ _ _ ?_
      unfold cT_X2_find_23
      rw [hyV.2.2.1, nI_clamp (show i < 2 ^ 31 by omega), hV.1, kV.2.2.2.1 i hiN]
      refine ⟨fun z => absurd z (nI_ge (by omega) (by omega)), fun _ => ⟨vp_in_nI (by omega) (by omega), fun c => ?_, fun c => ⟨by omega, by omega, ?_⟩⟩⟩
      · have hs : sn i = true := by
          cases e2 : sn i with
          | true => rfl
          | false => rw [e2] at c; exact absurd rfl c
        exact nxt V q m sn ov pl ix st sz lw pc CFr.rf v17 kV ⟨q, m, sn, ov, pl, ix, st, sz, hF, Or.inl ⟨Or.inl hs, rfl⟩⟩
      · have hs : sn i = false := by
          cases e2 : sn i with
          | false => rfl
          | true =>
            rw [e2] at c
            have := (hA.1 i e2).2
            exact absurd ((nI_is 0 rfl (show ov i + 1 < 2 ^ 31 by omega) (by omega)).mp c) (by omega)
        refine k_read l hyV hiN _ (fun W fW hW => ?_)
        have w8 : W.1 8 = bI (rgt n P kd i) := hW.2.2.1
        rw [w8]
        have w17 : W.1 17 = 1 := by rw [fW.1 17 rfl]; exact v17
        refine ⟨fun c2 => nxt W q m sn ov pl ix st sz lw pc (fW.mono lA_k lB_k) w17 (kV.look fW) ⟨q, m, sn, ov, pl, ix, st, sz, hF, Or.inl ⟨Or.inr (bI_0.mp c2), rfl⟩⟩, fun c2 => ⟨by omega, by omega, ?_⟩⟩
        refine x_walk l (hyV.fr fW) hz (kV.look fW) (hV.nn fW) hM2 hM hiN hs _ (fun X q' m' sn' ov' pl' ix' st' sz' lw' pc' fX kX hR => ?_)
        exact nxt X q' m' sn' ov' pl' ix' st' sz' lw' pc' ((fW.mono lA_k lB_k).tr fX) (by rw [fX.1 17 rfl]; exact w17) kX ⟨q, m, sn, ov, pl, ix, st, sz, hF, Or.inr ⟨hs, bI_n0.mp c2, rfl, hR⟩⟩
  refine first (P ^ n) 0 (Nat.zero_add _) T 0 0 (fun _ => false) (fun _ => 0) (fun _ => 0) (fun _ => 0) (fun _ => none) (fun _ => 0) (fun _ => 0) (fun _ => 0) (f0.tr (fT.mono kA_j (fun _ q => q))) hT hT1 ?_ rfl
  refine ⟨⟨fun x hx => (by cases hx), cntP_none _, fun x k hk => (by cases hk), fun x hx => (by cases hx.1), fun i hi => absurd hi (Nat.not_lt_zero _), fun i j _ hj => absurd hj (Nat.not_lt_zero _), fun i hi => absurd hi (Nat.not_lt_zero _), fun i j _ hj => absurd hj (Nat.not_lt_zero _), fun c => absurd c (Nat.lt_irrefl _), fun _ => rfl, by omega, by omega, fun i hi => absurd hi (Nat.not_lt_zero _), fun k => Nat.zero_le _⟩, fun j hj => absurd hj (Nat.not_lt_zero _), ⟨t14, t15, t16, t18⟩, fun x hx => (hr x hx).1, fun x hx => (hr x hx).2.1, fun i hi => absurd hi (Nat.not_lt_zero _), fun i hi => absurd hi (Nat.not_lt_zero _), fun i hi => absurd hi (Nat.not_lt_zero _), fun k hk => (hr k hk).2.2.1, fun k hk => (hr k hk).2.2.2, fun i hi => absurd hi (Nat.not_lt_zero _), fun j hj => absurd hj (Nat.not_lt_zero _), fun i hi => absurd hi (Nat.not_lt_zero _), fun r hr => absurd hr (Nat.succ_ne_zero r).symm⟩
end FindS
