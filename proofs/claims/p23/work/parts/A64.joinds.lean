-- joined(): the reference's answers
theorem lvS_le (n P : Nat) (kd ct sg : Nat → Nat) (st : Nat → Option Nat) : ∀ s k, lvS n P kd ct sg st s k ≤ 1 := by
  intro s
  induction s with
  | zero => intro k; exact Nat.zero_le _
  | succ s ih =>
    intro k
    unfold lvS
    cases st s with
    | none => exact ih k
    | some j =>
      show va_up (lvS n P kd ct sg st s) j _ k ≤ 1
      by_cases e : k = j
      · rw [e, va_up_same]
        split
        · exact Nat.le_refl _
        · exact ih j
      · rw [va_up_other _ _ e]; exact ih k
/-- the answer -/
def jans (n P : Nat) (kd ct sg : Nat → Nat) (a : Int32) (x m : Nat) (st : Nat → Option Nat) (sz : Nat → Nat) : Int32 := if a = 0 then nI m else if a = 1 then (match st x with | none => 0 | some k => nI (sz k)) else if a = 2 then nI (cntP (fun k => decide (lvS n P kd ct sg st (P ^ n) k = 0)) m) else nI (mxN sz m)
section JRefS
variable {S : MS} {n P x : Nat} {kd ct sg : Nat → Nat}
theorem outB_iff {st : Nat → Option Nat} {s : Nat} : outB n P kd ct sg st s = true ↔ ∃ a b t, tgN n P kd ct sg s a b = some t ∧ st t ≠ st s := by
  unfold outB
  rw [List.any_eq_true]
  constructor
  · rintro ⟨t, h1, h2⟩
    obtain ⟨a, b, e⟩ := mem_tl.mp h1
    exact ⟨a, b, t, e, of_decide_eq_true h2⟩
  · rintro ⟨a, b, t, e, h⟩
    exact ⟨t, mem_tl.mpr ⟨a, b, e⟩, decide_eq_true h⟩
set_option maxHeartbeats 2000000 in
theorem s_joinedS (l : Launch) (hy : MY S n P kd ct sg) (hx : x < P ^ n) (hxa : MA S 2 (dgs P x)) (hxr : rgt n P kd x = true) (h8 : ∃ τ, MA S 8 τ) (h9 : ∃ τ, MA S 9 τ) (a : Int32) (post : Int32 → MS → Prop)
    (h0 : ¬ P ^ n ≤ 20000 → post (-1) (mf (mf S 3 0) 2 2)) (h1 : P ^ n ≤ 20000 → (¬ ∃ i, i ≤ 3 ∧ a = nI i) → post (-1) (mf (mf S 3 0) 2 1)) (h2 : P ^ n ≤ 20000 → (∃ i, i ≤ 3 ∧ a = nI i) → ∀ T q m sn ov pl ix st sz, MK (mf (mf S 3 0) 2 0) T → JF (tl n P kd ct sg) (rgt n P kd) (P ^ n) (jst q 0 0 m sn ov pl ix st sz) → post (jans n P kd ct sg a x m st sz) T) : mX_joined l S a post := by
  have hP2 := hy.2.2.1
  have hn2 := hy.2.2.2.1
  refine m_joined l S a post ?_
  intro B80 B137 B170 B182 B237 B249 B261 h80 h137 h170 h182 h237 h249 h261
  unfold mT_joined_e
  refine s_fits l _ _ (n := n) (P := P) hy.2.1 hy.1 (by omega) hP2 ⟨fun c => ?_, fun c => ?_⟩
  · have hN : P ^ n ≤ 20000 := of_decide_eq_true (bI_n0.mp c)
    refine s_inC l _ _ _ _ _ (L := 0) (H := 3) rfl rfl (by decide) (by decide) (fun q => ⟨fun w => absurd rfl w, fun _ => s_no l _ 1 _ (h1 hN (fun ⟨i, i1, i2⟩ => q ⟨i, Nat.zero_le _, i1, i2⟩))⟩) (fun i _ hi ea => ⟨fun _ => ?_, fun w => absurd w (by decide)⟩)
    have hy2 : MY (mf (mf S 3 0) 2 0) n P kd ct sg := (hy.mf 0 (by decide) (by decide)).mf 0 (by decide) (by decide)
    have fin0 := h2 hN ⟨i, hi, ea⟩
    refine s_joinAllS l hy2 h8 h9 hN _ (fun T q m sn ov pl ix st sz mT hF hA t8 t20 t24 tr => ?_)
    have fin := fun V mV => fin0 V q m sn ov pl ix st sz mV hF
    have hqN := hA.qN
    have hm : m ≤ P ^ n := by have := hA.2.2.2.2.2.2.2.2.2.2.1; omega
    have hst : ∀ z k, st z = some k → k < m := fun z k h => (hA.2.2.1 z k h).1
    have hsz := hA.2.2.2.2.2.2.2.2.2.2.2.2.2
    refine ⟨fun c0 => ⟨fun c1 => ?_, fun c1 => ?_⟩, fun c0 => ?_⟩
    · have Q261 : a = 2 → ∀ e k, k + e = m → ∀ V, MK (mf (mf S 3 0) 2 0) V → V.1 8 = nI m → (∀ j, j < m → V.2.1 25 j = nI (lvS n P kd ct sg st (P ^ n) j)) → B261 V (nI (cntP (fun k => decide (lvS n P kd ct sg st (P ^ n) k = 0)) k)) (nI k) := by
        intro ea2 e
        induction e with
        | zero =>
          intro k hk V mV v8 v25
          have hk : k = m := hk
          subst hk
          refine h261 _ _ _ ?_
          unfold mT_joined_261
          rw [v8]
          have := fin V mV
          unfold jans at this
          rw [if_neg c0, if_neg c1, if_pos ea2] at this
          exact ⟨fun _ => this, fun c => absurd (nI_le (Nat.le_refl _) (by omega)) c⟩
        | succ e ih =>
          intro k hk V mV v8 v25
          have nxt := ih (k + 1) (by omega) V mV v8 v25
          have hl := lvS_le n P kd ct sg st (P ^ n) k
          refine h261 _ _ _ ?_
          unfold mT_joined_261
          rw [v8, nI_clamp (show k < 2 ^ 31 by omega), v25 k (by omega), ← nI_succ, ← nI_succ]
          refine ⟨fun c => absurd c (nI_ge (by omega) (by omega)), fun _ => ⟨vp_in_nI (by omega) (by omega), fun c w hw => ?_, fun c w hw => ?_⟩⟩
          · have c : lvS n P kd ct sg st (P ^ n) k = 0 := (nI_is 0 rfl (by omega) (by omega)).mp c
            rw [hw]
            unfold cntP at nxt
            simp only [decide_eq_true c] at nxt
            exact nxt
          · have c : ¬ lvS n P kd ct sg st (P ^ n) k = 0 := fun z => c (by rw [z]; rfl)
            rw [hw, show nI (cntP (fun k => decide (lvS n P kd ct sg st (P ^ n) k = 0)) k) + 0 = nI (cntP (fun k => decide (lvS n P kd ct sg st (P ^ n) k = 0)) k) from by
              have := nI_add (cntP (fun k => decide (lvS n P kd ct sg st (P ^ n) k = 0)) k) 0
              exact this]
            unfold cntP at nxt
            simp only [decide_eq_false c] at nxt
            exact nxt
      have Q137 : a = 2 → ∀ e s, s + e = P ^ n → ∀ V, MK (mf (mf S 3 0) 2 0) V → V.1 8 = nI m → V.2.1 20 = T.2.1 20 → (∀ j, j < m → V.2.1 25 j = nI (lvS n P kd ct sg st s j)) → B137 V (nI (P ^ n)) (nI s) := by
        intro ea2 e
        induction e with
        | zero =>
          intro s hs V mV v8 v20 v25
          have hs : s = P ^ n := hs
          subst hs
          refine h137 _ _ _ ?_
          unfold mT_joined_137
          exact ⟨fun _ => Q261 ea2 m 0 (Nat.zero_add _) V mV v8 v25, fun c => absurd (nI_le (Nat.le_refl _) (by omega)) c⟩
        | succ e ih =>
          intro s hs V mV v8 v20 v25
          have nxt : ∀ V, MK (mf (mf S 3 0) 2 0) V → V.1 8 = nI m → V.2.1 20 = T.2.1 20 → (∀ j, j < m → V.2.1 25 j = nI (lvS n P kd ct sg st (s + 1) j)) → B249 V (nI (P ^ n)) (nI s) := by
            intro V mV v8 v20 v25
            refine h249 _ _ _ ?_
            unfold mT_joined_249
            rw [← nI_succ]
            exact ih (s + 1) (by omega) V mV v8 v20 v25
          refine h137 _ _ _ ?_
          unfold mT_joined_137
          rw [nI_clamp (show s < 2 ^ 31 by omega), v20, t20 s (by omega)]
          refine ⟨fun c => absurd c (nI_ge (by omega) (by omega)), fun _ => ⟨vp_in_nI (by omega) (by omega), fun c => ?_, fun c => nxt V mV v8 v20 ?_⟩⟩
          · obtain ⟨k, hk⟩ : ∃ k, st s = some k := by
              cases e : st s with
              | none => rw [e] at c; exact absurd rfl c
              | some k => exact ⟨k, rfl⟩
            have hkm := hst s k hk
            have t20s : T.2.1 20 s = nI k := by rw [t20 s (by omega), hk]; rfl
            refine s_unp l (mV.my hy2) (by omega) mV.2.2.1 _ (fun g hg => ?_)
            refine pair_loop (α := MS) (P := P) (Bo := fun W p => B170 W (nI (P ^ n)) (nI s) (nI p)) (Bi := fun W p q => B182 W (nI (P ^ n)) (nI s) (nI p) (nI q)) (I := fun p q W => MK (mf (mf S 3 0) 2 0) W ∧ W.1 8 = nI m ∧ W.2.1 20 = T.2.1 20 ∧ U8 W n P s ∧ ∃ v : Bool, (∀ j, j < m → W.2.1 25 j = nI (va_up (lvS n P kd ct sg st s) k (if v then 1 else lvS n P kd ct sg st s k) j)) ∧ (v = true ↔ ∃ a b t, (a < p ∨ (a = p ∧ b < q)) ∧ tgN n P kd ct sg s a b = some t ∧ st t ≠ st s)) ?_ ?_ ?_ ?_ ?_ _ ⟨mV.m8 hg, v8, v20, hg, false, ?_, ?_⟩
            · intro W p hp hI hB
              refine h170 _ _ _ _ ?_
              unfold mT_joined_170
              rw [(hI.1.my hy2).1]
              exact ⟨fun c => absurd c (nI_ge hp (by omega)), fun _ => hB⟩
            · intro W hI
              refine h170 _ _ _ _ ?_
              unfold mT_joined_170
              rw [(hI.1.my hy2).1]
              refine ⟨fun _ => nxt W hI.1 hI.2.1 hI.2.2.1 ?_, fun c => absurd (nI_le (Nat.le_refl _) (by omega)) c⟩
              obtain ⟨v, v1, v2⟩ := hI.2.2.2.2
              have ev : v = outB n P kd ct sg st s := by
                rw [Bool.eq_iff_iff, v2, outB_iff]
                constructor
                · rintro ⟨a, b, t, -, q⟩; exact ⟨a, b, t, q⟩
                · rintro ⟨a, b, t, q1, q2⟩; exact ⟨a, b, t, Or.inl (tgN_PP q1).1, q1, q2⟩
              intro j hj
              rw [v1 j hj, ev]
              show _ = nI ((match st s with | none => lvS n P kd ct sg st s | some k => va_up (lvS n P kd ct sg st s) k (if outB n P kd ct sg st s then 1 else lvS n P kd ct sg st s k)) j)
              rw [hk]
            · intro W p q hp hq hI hB
              obtain ⟨i1, i2, i3, i4, v, v1, v2⟩ := hI
              have hB2 : ∀ W', MK (mf (mf S 3 0) 2 0) W' → W'.1 8 = nI m → W'.2.1 20 = T.2.1 20 → U8 W' n P s → (∃ v : Bool, (∀ j, j < m → W'.2.1 25 j = nI (va_up (lvS n P kd ct sg st s) k (if v then 1 else lvS n P kd ct sg st s k) j)) ∧ (v = true ↔ ∃ a b t, (a < p ∨ (a = p ∧ b < q + 1)) ∧ tgN n P kd ct sg s a b = some t ∧ st t ≠ st s)) → B237 W' (nI (P ^ n)) (nI s) (nI p) (nI q) := by
                intro W' a1 a2 a3 a4 a5
                refine h237 _ _ _ _ _ ?_
                unfold mT_joined_237
                rw [← nI_succ]
                exact hB W' ⟨a1, a2, a3, a4, a5⟩
              -- nothing new at (p, q)
              have same : (∀ t, tgN n P kd ct sg s p q = some t → st t = st s) → (v = true ↔ ∃ a b t, (a < p ∨ (a = p ∧ b < q + 1)) ∧ tgN n P kd ct sg s a b = some t ∧ st t ≠ st s) := by
                intro hn
                rw [v2]
                constructor
                · rintro ⟨a, b, t, q1, q2⟩; exact ⟨a, b, t, by omega, q2⟩
                · rintro ⟨a, b, t, q1, q2, q3⟩
                  refine ⟨a, b, t, ?_, q2, q3⟩
                  by_cases c : a = p ∧ b = q
                  · rw [c.1, c.2] at q2; exact absurd (hn t q2) q3
                  · omega
              refine h182 _ _ _ _ _ ?_
              unfold mT_joined_182
              rw [(i1.my hy2).1]
              refine ⟨fun c => absurd c (nI_ge hq (by omega)), fun _ => ?_⟩
              refine s_ld l (i1.my hy2) i4 i1.2.2.2 hp hq _ (fun X hX => ?_)
              have mX : MK (mf (mf S 3 0) 2 0) X := i1.tr (MK.of9 hX i1.2.2.1)
              have x8 : X.1 8 = nI m := by rw [hX.1]; exact i2
              have x20 : X.2.1 20 = T.2.1 20 := by rw [hX.2.2.1 20 (by decide)]; exact i3
              have x25 : X.2.1 25 = W.2.1 25 := hX.2.2.1 25 (by decide)
              have xu : U8 X n P s := hX.u8 i4
              refine ⟨fun c => hB2 X mX x8 x20 xu ⟨v, by rw [x25]; exact v1, same (fun t ht => ?_)⟩, fun c => ?_⟩
              · rw [ht] at c
                have := tgN_lt (by omega) ht
                exact absurd c (nI_m1 (by omega))
              · cases ht : tgN n P kd ct sg s p q with
                | none => rw [ht] at c; exact absurd rfl c
                | some t =>
                  have htN := tgN_lt (by omega) ht
                  have e1 : (lab (some t)).toNatClampNeg = t := nI_clamp (by omega)
                  rw [x20, nI_clamp (show s < 2 ^ 31 by omega), t20s, nI_clamp (show k < 2 ^ 31 by omega), e1, t20 t htN]
                  refine ⟨?_, vp_in_nI (by omega) (by omega), fun c4 => hB2 X mX x8 x20 xu ⟨v, by rw [x25]; exact v1, same (fun t' ht' => ?_)⟩, fun c4 => ⟨vp_in_nI (by omega) (by omega), vp_in_nI (by omega) (by omega), hB2 _ (mX.mar _ (by omega)) x8 x20 ?_ ⟨true, fun j hj => ?_, fun _ => ⟨p, q, t, by omega, ht, fun e => ?_⟩, fun _ => rfl⟩⟩⟩
                  · show vp_in (nI t) 20000
                    exact vp_in_nI (by omega) (by omega)
                  · rw [ht] at ht'
                    cases ht'
                    rw [hk]
                    exact (lab_eq (fun k' hk' => by have := hst t k' hk'; omega) (by omega)).mp c4
                  · obtain ⟨σ, u1, u2⟩ := xu
                    exact ⟨σ, u1, u2⟩
                  · show upd (X.2.1 25) k (vp_nar .boolean 1) j = _
                    by_cases e : j = k
                    · subst e
                      rw [upd_same, va_up_same, if_pos rfl]; decide
                    · rw [upd_other _ _ e, x25, v1 j hj, va_up_other _ _ e, va_up_other _ _ e]
                  · rw [e, hk] at c4
                    exact c4 rfl
            · intro W p hp hI hB
              refine h182 _ _ _ _ _ ?_
              unfold mT_joined_182
              rw [(hI.1.my hy2).1, ← nI_succ]
              exact ⟨fun _ => hB, fun c => absurd (nI_le (Nat.le_refl _) (by omega)) c⟩
            · rintro W p hp ⟨i1, i2, i3, i4, v, v1, v2⟩
              refine ⟨i1, i2, i3, i4, v, v1, ?_⟩
              rw [v2]
              constructor
              · rintro ⟨a, b, t, q1, q2⟩; exact ⟨a, b, t, by omega, q2⟩
              · rintro ⟨a, b, t, q1, q2, q3⟩
                have := tgN_PP q2
                exact ⟨a, b, t, by omega, q2, q3⟩
            · intro j hj
              show V.2.1 25 j = nI (va_up (lvS n P kd ct sg st s) k (lvS n P kd ct sg st s k) j)
              rw [va_up_id]
              exact v25 j hj
            · constructor
              · intro c; cases c
              · rintro ⟨a, b, t, q1, -⟩; omega
          · have hk : st s = none := (lab_none (fun k hk => by have := hst s k hk; omega)).mp c
            intro j hj
            rw [v25 j hj]
            show _ = nI ((match st s with | none => lvS n P kd ct sg st s | some k => va_up (lvS n P kd ct sg st s) k (if outB n P kd ct sg st s then 1 else lvS n P kd ct sg st s k)) j)
            rw [hk]
      have Q80 : ∀ e k, k + e = m → ∀ V, MK (mf (mf S 3 0) 2 0) V → V.1 8 = nI m → V.2.1 20 = T.2.1 20 → V.2.1 24 = T.2.1 24 → (∀ j, j < k → V.2.1 25 j = 0) → B80 V (nI (mxN sz k)) (nI k) := by
        intro e
        induction e with
        | zero =>
          intro k hk V mV v8 v20 v24 v25
          have hk : k = m := hk
          subst hk
          refine h80 _ _ _ ?_
          unfold mT_joined_80
          rw [v8]
          refine ⟨fun _ => ⟨fun c3 => ?_, fun c3 => ?_⟩, fun c => absurd (nI_le (Nat.le_refl _) (by omega)) c⟩
          · have ea2 : a = 2 := by
              have : i = 0 ∨ i = 1 ∨ i = 2 ∨ i = 3 := by omega
              rcases this with w | w | w | w <;> rw [w] at ea
              · exact absurd ea c0
              · exact absurd ea c1
              · exact ea
              · exact absurd ea c3
            exact s_stands l V _ (mV.my hy2).2.1 (mV.my hy2).1 (by omega) (Q137 ea2 (P ^ n) 0 (Nat.zero_add _) V mV v8 v20 v25)
          · have := fin V mV
            unfold jans at this
            rw [if_neg c0, if_neg c1, if_neg (by rw [c3]; decide)] at this
            exact this
        | succ e ih =>
          intro k hk V mV v8 v20 v24 v25
          have hb := mxN_le (f := sz) (B := P ^ n) k (fun i _ => hsz i)
          have hsk := hsz k
          have nx := ih (k + 1) (by omega) (ma V 25 (upd (V.2.1 25) k (vp_nar .boolean 0))) (mV.mar _ (by omega)) v8 v20 v24 (fun j hj => by
            show upd (V.2.1 25) k (vp_nar .boolean 0) j = 0
            by_cases e : j = k
            · subst e; rw [upd_same]; rfl
            · rw [upd_other _ _ e]; exact v25 j (by omega))
          refine h80 _ _ _ ?_
          unfold mT_joined_80
          rw [v8, nI_clamp (show k < 2 ^ 31 by omega), v24, t24 k (by omega), ← nI_succ]
          refine ⟨fun c => absurd c (nI_ge (by omega) (by omega)), fun _ => ⟨vp_in_nI (by omega) (by omega), fun c => ⟨vp_in_nI (by omega) (by omega), ?_⟩, fun c => ⟨vp_in_nI (by omega) (by omega), fun w hw => ⟨vp_in_nI (by omega) (by omega), ?_⟩⟩⟩⟩
          · have c : sz k ≤ mxN sz k := (nI_leI (by omega) (by omega)).mp c
            unfold mxN at nx
            rw [Nat.max_eq_left c] at nx
            exact nx
          · have c : mxN sz k ≤ sz k := by
              rcases Nat.le_total (mxN sz k) (sz k) with q | q
              · exact q
              · exact absurd (nI_le q (by omega)) c
            unfold mxN at nx
            rw [Nat.max_eq_right c] at nx
            rw [hw]
            exact nx
      exact Q80 m 0 (Nat.zero_add _) T mT t8 rfl rfl (fun j hj => absurd hj (Nat.not_lt_zero _))
    · have hgT : ∀ j, j < n → T.2.1 2 j = nI (dgs P x j) := fun j hj => by rw [mT.2.1 2 (by decide)]; exact (hxa j (by omega)).1
      have hyT := mT.my hy2
      refine s_pack l T 2 (by unfold m7; decide) _ hyT.2.1 hyT.1 (by omega) hgT ?_
      rw [dgs_pack hx, nI_clamp (show x < 2 ^ 31 by omega), t20 x hx]
      have := fin T mT
      unfold jans at this
      rw [if_neg c0, if_pos c1] at this
      cases e : st x with
      | none => exact absurd e (tr x hx hxr)
      | some k =>
        rw [e] at this
        have hk := hst x k e
        have e1 : (lab (some k)).toNatClampNeg = k := nI_clamp (by omega)
        rw [e1, t24 k hk]
        exact ⟨vp_in_nI (by omega) (by omega), vp_in_nI (n := k) (by omega) (by omega), this⟩
    · have := fin T mT
      unfold jans at this
      rw [if_pos c0] at this
      rw [t8]
      exact this
  · have hN : ¬ P ^ n ≤ 20000 := of_decide_eq_false (bI_0.mp c)
    exact s_no l _ 2 _ (h0 hN)
end JRefS
