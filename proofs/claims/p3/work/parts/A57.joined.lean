-- joined(), its ranges: the reference
section JRef
variable {S : MS} {n P x : Nat} {kd ct sg : Nat → Nat}
set_option maxHeartbeats 2000000 in
theorem s_joined (l : Launch) (hy : MY S n P kd ct sg) (hx : x < P ^ n) (hxa : MA S 2 (dgs P x)) (hxr : rgt n P kd x = true) (h8 : ∃ τ, MA S 8 τ) (h9 : ∃ τ, MA S 9 τ) (a : Int32) (post : Int32 → MS → Prop)
    (h0 : ¬ P ^ n ≤ 20000 → post (-1) (mf (mf S 3 0) 2 2)) (h1 : P ^ n ≤ 20000 → (¬ ∃ i, i ≤ 3 ∧ a = nI i) → post (-1) (mf (mf S 3 0) 2 1)) (h2 : P ^ n ≤ 20000 → (∃ i, i ≤ 3 ∧ a = nI i) → ∀ r T, MK (mf (mf S 3 0) 2 0) T → post r T) : mX_joined l S a post := by
  have hP2 := hy.2.2.1
  have hn2 := hy.2.2.2.1
  refine m_joined l S a post ?_
  intro B80 B137 B170 B182 B237 B249 B261 h80 h137 h170 h182 h237 h249 h261
  unfold mT_joined_e
  refine s_fits l _ _ (n := n) (P := P) hy.2.1 hy.1 (by omega) hP2 ⟨fun c => ?_, fun c => ?_⟩
  · have hN : P ^ n ≤ 20000 := of_decide_eq_true (bI_n0.mp c)
    refine s_inC l _ _ _ _ _ (L := 0) (H := 3) rfl rfl (by decide) (by decide) (fun q => ⟨fun w => absurd rfl w, fun _ => s_no l _ 1 _ (h1 hN (fun ⟨i, i1, i2⟩ => q ⟨i, Nat.zero_le _, i1, i2⟩))⟩) (fun i _ hi ea => ⟨fun _ => ?_, fun w => absurd w (by decide)⟩)
    have hy2 : MY (mf (mf S 3 0) 2 0) n P kd ct sg := (hy.mf 0 (by decide) (by decide)).mf 0 (by decide) (by decide)
    have fin := h2 hN ⟨i, hi, ea⟩
    refine s_joinAll l hy2 h8 h9 hN _ (fun T m mT hm t8 t20 tr => ?_)
    refine ⟨fun _ => ⟨fun _ => ?_, fun _ => ?_⟩, fun _ => fin _ T mT⟩
    · have Q261 : ∀ e k, k + e = m → ∀ V v, MK (mf (mf S 3 0) 2 0) V → V.1 8 = nI m → B261 V v (nI k) := by
        intro e
        induction e with
        | zero =>
          intro k hk V v mV v8
          refine h261 _ _ _ ?_
          unfold mT_joined_261
          rw [v8]
          exact ⟨fun _ => fin v V mV, fun c => absurd (nI_le (by omega) (by omega)) c⟩
        | succ e ih =>
          intro k hk V v mV v8
          refine h261 _ _ _ ?_
          unfold mT_joined_261
          rw [v8, ← nI_succ]
          exact ⟨fun c => absurd c (nI_ge (by omega) (by omega)), fun _ => ⟨vp_in_nI (by omega) (by omega), fun _ w _ => ih (k + 1) (by omega) V w mV v8, fun _ w _ => ih (k + 1) (by omega) V w mV v8⟩⟩
      have Q137 : ∀ e s, s + e = P ^ n → ∀ V, MK (mf (mf S 3 0) 2 0) V → V.1 8 = nI m → V.2.1 20 = T.2.1 20 → B137 V (nI (P ^ n)) (nI s) := by
        intro e
        induction e with
        | zero =>
          intro s hs V mV v8 v20
          refine h137 _ _ _ ?_
          unfold mT_joined_137
          exact ⟨fun _ => Q261 m 0 (Nat.zero_add _) V 0 mV v8, fun c => absurd (nI_le (by omega) (by omega)) c⟩
        | succ e ih =>
          intro s hs V mV v8 v20
          have nxt : ∀ V, MK (mf (mf S 3 0) 2 0) V → V.1 8 = nI m → V.2.1 20 = T.2.1 20 → B249 V (nI (P ^ n)) (nI s) := by
            intro V mV v8 v20
            refine h249 _ _ _ ?_
            unfold mT_joined_249
            rw [← nI_succ]
            exact ih (s + 1) (by omega) V mV v8 v20
          refine h137 _ _ _ ?_
          unfold mT_joined_137
          rw [nI_clamp (show s < 2 ^ 31 by omega), v20]
          refine ⟨fun c => absurd c (nI_ge (by omega) (by omega)), fun _ => ⟨vp_in_nI (by omega) (by omega), fun c => ?_, fun _ => nxt V mV v8 v20⟩⟩
          obtain ⟨k, k1, k2⟩ : ∃ k, k < m ∧ T.2.1 20 s = nI k := by
            rcases t20 s (by omega) with q | q
            · exact absurd q c
            · exact q
          refine s_unp l (mV.my hy2) (by omega) mV.2.2.1 _ (fun g hg => ?_)
          refine pair_loop (α := MS) (P := P) (Bo := fun W p => B170 W (nI (P ^ n)) (nI s) (nI p)) (Bi := fun W p q => B182 W (nI (P ^ n)) (nI s) (nI p) (nI q)) (I := fun _ _ W => MK (mf (mf S 3 0) 2 0) W ∧ W.1 8 = nI m ∧ W.2.1 20 = T.2.1 20 ∧ U8 W n P s) ?_ ?_ ?_ ?_ ?_ _ ⟨mV.m8 hg, v8, v20, hg⟩
          · intro W p hp hI hB
            refine h170 _ _ _ _ ?_
            unfold mT_joined_170
            rw [(hI.1.my hy2).1]
            exact ⟨fun c => absurd c (nI_ge hp (by omega)), fun _ => hB⟩
          · intro W hI
            refine h170 _ _ _ _ ?_
            unfold mT_joined_170
            rw [(hI.1.my hy2).1]
            exact ⟨fun _ => nxt W hI.1 hI.2.1 hI.2.2.1, fun c => absurd (nI_le (Nat.le_refl _) (by omega)) c⟩
          · intro W p q hp hq hI hB
            have hB2 : ∀ W', MK (mf (mf S 3 0) 2 0) W' → W'.1 8 = nI m → W'.2.1 20 = T.2.1 20 → U8 W' n P s → B237 W' (nI (P ^ n)) (nI s) (nI p) (nI q) := by
              intro W' a1 a2 a3 a4
              refine h237 _ _ _ _ _ ?_
              unfold mT_joined_237
              rw [← nI_succ]
              exact hB W' ⟨a1, a2, a3, a4⟩
            refine h182 _ _ _ _ _ ?_
            unfold mT_joined_182
            rw [(hI.1.my hy2).1]
            refine ⟨fun c => absurd c (nI_ge hq (by omega)), fun _ => ?_⟩
            refine s_ld l (hI.1.my hy2) hI.2.2.2 hI.1.2.2.2 hp hq _ (fun X hX => ?_)
            have mX : MK (mf (mf S 3 0) 2 0) X := hI.1.tr (MK.of9 hX hI.1.2.2.1)
            have x8 : X.1 8 = nI m := by rw [hX.1]; exact hI.2.1
            have x20 : X.2.1 20 = T.2.1 20 := by rw [hX.2.2.1 20 (by decide)]; exact hI.2.2.1
            have xu : U8 X n P s := hX.u8 hI.2.2.2
            refine ⟨fun _ => hB2 X mX x8 x20 xu, fun c => ?_⟩
            cases ht : tgN n P kd ct sg s p q with
            | none => rw [ht] at c; exact absurd rfl c
            | some t =>
              have htN := tgN_lt (by omega) ht
              rw [x20, nI_clamp (show s < 2 ^ 31 by omega), k2, nI_clamp (show k < 2 ^ 31 by omega)]
              refine ⟨?_, vp_in_nI (by omega) (by omega), fun _ => hB2 X mX x8 x20 xu, fun _ => ⟨vp_in_nI (by omega) (by omega), vp_in_nI (by omega) (by omega), hB2 _ (mX.mar _ (by omega)) x8 x20 ?_⟩⟩
              · show vp_in (nI t) 20000
                exact vp_in_nI (by omega) (by omega)
              · obtain ⟨σ, u1, u2⟩ := xu
                exact ⟨σ, u1, u2⟩
          · intro W p hp hI hB
            refine h182 _ _ _ _ _ ?_
            unfold mT_joined_182
            rw [(hI.1.my hy2).1, ← nI_succ]
            exact ⟨fun _ => hB, fun c => absurd (nI_le (Nat.le_refl _) (by omega)) c⟩
          · intro W p hp hI
            exact hI
      have Q80 : ∀ e k, k + e = m → ∀ V v, MK (mf (mf S 3 0) 2 0) V → V.1 8 = nI m → V.2.1 20 = T.2.1 20 → B80 V v (nI k) := by
        intro e
        induction e with
        | zero =>
          intro k hk V v mV v8 v20
          refine h80 _ _ _ ?_
          unfold mT_joined_80
          rw [v8]
          refine ⟨fun _ => ⟨fun _ => ?_, fun _ => fin v V mV⟩, fun c => absurd (nI_le (by omega) (by omega)) c⟩
          exact s_stands l V _ (mV.my hy2).2.1 (mV.my hy2).1 (by omega) (Q137 (P ^ n) 0 (Nat.zero_add _) V mV v8 v20)
        | succ e ih =>
          intro k hk V v mV v8 v20
          refine h80 _ _ _ ?_
          unfold mT_joined_80
          rw [v8, ← nI_succ]
          exact ⟨fun c => absurd c (nI_ge (by omega) (by omega)), fun _ => ⟨vp_in_nI (by omega) (by omega), fun _ => ⟨vp_in_nI (by omega) (by omega), ih (k + 1) (by omega) _ v (mV.mar _ (by omega)) v8 v20⟩, fun _ => ⟨vp_in_nI (by omega) (by omega), fun w _ => ⟨vp_in_nI (by omega) (by omega), ih (k + 1) (by omega) _ w (mV.mar _ (by omega)) v8 v20⟩⟩⟩⟩
      exact Q80 m 0 (Nat.zero_add _) T 0 mT t8 rfl
    · have hgT : ∀ j, j < n → T.2.1 2 j = nI (dgs P x j) := fun j hj => by rw [mT.2.1 2 (by decide)]; exact (hxa j (by omega)).1
      have hyT := mT.my hy2
      refine s_pack l T 2 (by unfold m7; decide) _ hyT.2.1 hyT.1 (by omega) hgT ?_
      rw [dgs_pack hx, nI_clamp (show x < 2 ^ 31 by omega)]
      rcases t20 x hx with q | ⟨k, k1, k2⟩
      · exact absurd q (tr x hx hxr)
      · rw [k2]
        exact ⟨vp_in_nI (by omega) (by omega), vp_in_nI (by omega) (by omega), fin _ T mT⟩
  · have hN : ¬ P ^ n ≤ 20000 := of_decide_eq_false (bI_0.mp c)
    exact s_no l _ 2 _ (h0 hN)
end JRef
-- joined(), its ranges: both sides
def OKw (S : CS) (mc ms : Nat) (S1 : CS) (M1 : MS) : Prop := Rel S1 M1 ∧ Fc S + mc ≤ Fc S1 + 3 ∧ Fs S + ms ≤ Fs S1 + 55
section JBoth
variable {S T : CS} {M : MS} {n P x y : Nat} {kd ct sc sm : Nat → Nat}
theorem Rl.knot (h : Rl S M n P kd ct sc sm x y) (f : CFr jA kB kC S T) {LK : Nat} (hl : KL T LK) (hK : LK ≤ 20000) (hN : P ^ n ≤ LK) (h17 : T.1 17 = 1) (hk : KOK T n P kd ct sc) : Rl T M n P kd ct sc sm x y := by
  obtain ⟨⟨b1, b2, b3, b4⟩, h2, h3, h4, h5, h6, h7, h8, h9, h10⟩ := h
  refine ⟨⟨b1.fr f, b2, b3, b4⟩, ?_, ?_, ?_, ?_, ?_, ?_, h8, h9.fr f, ⟨LK, hl, hK, Or.inr ⟨h17, hN, hk⟩⟩⟩
  · rw [f.1 0 rfl]; exact h2
  · rw [f.1 1 rfl]; exact h3
  · rw [f.1 2 rfl]; exact h4
  · rw [f.1 9 rfl, f.1 10 rfl, (f.2.1 20 rfl).1, (f.2.1 21 rfl).1]; exact h5
  · rw [f.1 11 rfl, (f.2.1 22 rfl).1, f.2.2 22 rfl]; exact h6
  · rw [f.1 19 rfl, (f.2.1 38 rfl).1, (f.2.1 39 rfl).1, (f.2.1 40 rfl).1, (f.2.1 41 rfl).1, (f.2.1 42 rfl).2]; exact h7
theorem w_count (l : Launch) {m LK : Nat} (h18 : S.1 18 = nI m) (hl : KL S LK) (hm : m ≤ LK) (hK : LK ≤ 20000) (post : Int32 → CS → Prop) (hp : ∀ r, post r S) : cX_X2_countClosed l S post := by
  refine c_X2_countClosed l S post ?_
  intro B4 B24 h4 h24
  unfold cT_X2_countClosed_e
  have key : ∀ d k, k + d = m → ∀ v, B4 S v (nI k) := by
    intro d
    induction d with
    | zero =>
      intro k hk v
      refine h4 _ _ _ ?_
      unfold cT_X2_countClosed_4
      rw [h18]
      exact ⟨fun _ => hp v, fun c => absurd (nI_le (by omega) (by omega)) c⟩
    | succ d ih =>
      intro k hk v
      have nx : ∀ v, B24 S v (nI k) := fun v => h24 _ _ _ (by
        unfold cT_X2_countClosed_24
        rw [← nI_succ]
        exact ih (k + 1) (by omega) v)
      refine h4 _ _ _ ?_
      unfold cT_X2_countClosed_4
      rw [h18, hl.2.2.2.2.2.2.2]
      exact ⟨fun c => absurd c (nI_ge (by omega) (by omega)), fun _ => ⟨vp_in_nI (by omega) (by omega), fun _ => nx _, fun _ => nx _⟩⟩
  exact key m 0 (Nat.zero_add _) 0
theorem w_great (l : Launch) {m LK : Nat} (h18 : S.1 18 = nI m) (hl : KL S LK) (hm : m ≤ LK) (hK : LK ≤ 20000) (post : Int32 → CS → Prop) (hp : ∀ r, post r S) : cX_X2_greatestSize l S post := by
  refine c_X2_greatestSize l S post ?_
  intro B4 h4
  unfold cT_X2_greatestSize_e
  have key : ∀ d k, k + d = m → ∀ v, B4 S v (nI k) := by
    intro d
    induction d with
    | zero =>
      intro k hk v
      refine h4 _ _ _ ?_
      unfold cT_X2_greatestSize_4
      rw [h18]
      exact ⟨fun _ => hp v, fun c => absurd (nI_le (by omega) (by omega)) c⟩
    | succ d ih =>
      intro k hk v
      refine h4 _ _ _ ?_
      unfold cT_X2_greatestSize_4
      rw [h18, hl.2.2.2.2.2.2.1, ← nI_succ]
      exact ⟨fun c => absurd c (nI_ge (by omega) (by omega)), fun _ => ⟨vp_in_nI (by omega) (by omega), fun w _ => ih (k + 1) (by omega) w⟩⟩
  exact key m 0 (Nat.zero_add _) 0
theorem w_size (l : Launch) {m LK : Nat} (hl : KL S LK) (hN : P ^ n ≤ LK) (hm : m ≤ LK) (hK : LK ≤ 20000) (h35 : ∀ x, x < P ^ n → S.2.1 35 x = -1 ∨ ∃ k, k < m ∧ S.2.1 35 x = nI k) (hx : x < P ^ n) (post : Int32 → CS → Prop) (hp : ∀ r, post r S) : cX_X2_sizeOfSet l S (nI x) post := by
  refine c_X2_sizeOfSet l S _ post ?_
  unfold cT_X2_sizeOfSet_e
  rw [nI_clamp (show x < 2 ^ 31 by omega), hl.2.2.2.2.2.1, hl.2.2.2.2.2.2.1]
  refine ⟨vp_in_nI (by omega) (by omega), fun v hv => ⟨fun c => ?_, fun _ => hp _⟩⟩
  rcases h35 x hx with q | ⟨k, k1, k2⟩
  · rw [q] at hv; exact absurd hv c
  · rw [hv, k2]
    exact ⟨vp_in_nI (by omega) (by omega), hp _⟩
theorem Rl.joinM (h : Rl S M n P kd ct sc sm x y) (l : Launch) (a : Int32) (post : Int32 → MS → Prop) (h0 : ¬ P ^ n ≤ 20000 → post (-1) (mf (mf M 3 0) 2 2)) (h1 : P ^ n ≤ 20000 → (¬ ∃ i, i ≤ 3 ∧ a = nI i) → post (-1) (mf (mf M 3 0) 2 1)) (h2 : P ^ n ≤ 20000 → (∃ i, i ≤ 3 ∧ a = nI i) → ∀ r T, MK (mf (mf M 3 0) 2 0) T → post r T) : mX_joined l M a post :=
  s_joined l h.my h.hx h.xa h.2.1.2.2.2 h.m8 h.m9 a post h0 h1 h2
theorem o_joinedW (l : Launch) (h : Rl S M n P kd ct sc sm x y) (a : Int32) : ∃ mc ms, mc ≤ 50000 ∧ ms ≤ 300000 ∧ cX_X8_joined l mc ms S a (fun r1 S1 => mX_joined l M a (fun r2 M1 => OKw S mc ms S1 M1)) := by
  have hP2 := h.P2
  have hn2 := h.n2
  have h5 := h.cy.2.2.1
  have hb := pow_b hP2 hn2.2
  have h20 : (20000 : Int32) = nI 20000 := rfl
  by_cases hN : P ^ n ≤ 20000
  · by_cases ha : ∃ i, i ≤ 3 ∧ a = nI i
    · obtain ⟨LK, hl, hK, hf⟩ := id h.2.2.2.2.2.2.2.2.2
      have hR : Rl (cf S 2 0) (mf (mf M 3 0) 2 0) n P kd ct sc sm x y := (h.th 0).tr 0
      -- behind the search
      have fin : ∀ mc ms T, CFr jA kB kC (cf S 2 0) T → KL T (max LK (P ^ n)) → T.1 17 = 1 → KOK T n P kd ct sc → Fc S + mc ≤ Fc T + 3 → Fs S + ms ≤ Fs T + 55 → (a = 0 → 0 + mc ≤ mc ∧ 0 + ms ≤ ms ∧ mX_joined l M a (fun r2 M1 => OKw S mc ms T M1)) ∧ (a = 1 → 0 + mc ≤ mc ∧ 0 + ms ≤ ms ∧ cX_X2_sizeOfSet l T (T.1 0) (fun r14 S13 => 0 + mc ≤ mc ∧ 0 + ms ≤ ms ∧ mX_joined l M a (fun r2 M1 => OKw S mc ms S13 M1))) ∧ (a = 2 → 0 + mc ≤ mc ∧ 0 + ms ≤ ms ∧ cX_X2_countClosed l T (fun r18 S17 => 0 + mc ≤ mc ∧ 0 + ms ≤ ms ∧ mX_joined l M a (fun r2 M1 => OKw S mc ms S17 M1))) ∧ ((a.toInt < 0 ∨ 2 < a.toInt) → 0 + mc ≤ mc ∧ 0 + ms ≤ ms ∧ cX_X2_greatestSize l T (fun r22 S21 => 0 + mc ≤ mc ∧ 0 + ms ≤ ms ∧ mX_joined l M a (fun r2 M1 => OKw S mc ms S21 M1))) := by
        intro mc ms T fT hT t17 kT F1 F2
        have z1 : 0 + mc ≤ mc := by omega
        have z2 : 0 + ms ≤ ms := by omega
        have e : mX_joined l M a (fun r2 M1 => OKw S mc ms T M1) := h.joinM l a _ (fun q => absurd hN q) (fun _ q => absurd ha q) (fun _ _ r U mU => ⟨⟨n, P, kd, ct, sc, sm, x, y, (hR.scr mU).knot fT hT (by omega) (by omega) t17 kT⟩, F1, F2⟩)
        obtain ⟨m, m1, m2, m3⟩ := kT
        have t0 : T.1 0 = nI x := by rw [fT.1 0 rfl]; exact h.sx
        refine ⟨fun _ => ⟨z1, z2, e⟩, fun _ => ⟨z1, z2, ?_⟩, fun _ => ⟨z1, z2, ?_⟩, fun _ => ⟨z1, z2, ?_⟩⟩
        · rw [t0]
          exact w_size l hT (by omega) (show m ≤ max LK (P ^ n) by omega) (by omega) m3 h.hx _ (fun _ => ⟨z1, z2, e⟩)
        · exact w_count l m2 hT (by omega) (by omega) _ (fun _ => ⟨z1, z2, e⟩)
        · exact w_great l m2 hT (by omega) (by omega) _ (fun _ => ⟨z1, z2, e⟩)
      obtain ⟨i, hi, ea⟩ := id ha
      have a0 : ¬ a < 0 := by rw [ea]; exact nI_pos (by omega)
      have a3 : a ≤ 3 := by rw [ea]; exact nI_le (b := 3) hi (by omega)
      have open1 : ∀ mc ms, mc ≤ 50000 → ms ≤ 300000 → cX_X2_find l mc ms (cf S 2 0) (fun S8 => (a = 0 → 0 + mc ≤ mc ∧ 0 + ms ≤ ms ∧ mX_joined l M a (fun r2 M1 => OKw S mc ms S8 M1)) ∧ (a = 1 → 0 + mc ≤ mc ∧ 0 + ms ≤ ms ∧ cX_X2_sizeOfSet l S8 (S8.1 0) (fun r14 S13 => 0 + mc ≤ mc ∧ 0 + ms ≤ ms ∧ mX_joined l M a (fun r2 M1 => OKw S mc ms S13 M1))) ∧ (a = 2 → 0 + mc ≤ mc ∧ 0 + ms ≤ ms ∧ cX_X2_countClosed l S8 (fun r18 S17 => 0 + mc ≤ mc ∧ 0 + ms ≤ ms ∧ mX_joined l M a (fun r2 M1 => OKw S mc ms S17 M1))) ∧ ((a.toInt < 0 ∨ 2 < a.toInt) → 0 + mc ≤ mc ∧ 0 + ms ≤ ms ∧ cX_X2_greatestSize l S8 (fun r22 S21 => 0 + mc ≤ mc ∧ 0 + ms ≤ ms ∧ mX_joined l M a (fun r2 M1 => OKw S mc ms S21 M1)))) → ∃ mc ms, mc ≤ 50000 ∧ ms ≤ 300000 ∧ cX_X8_joined l mc ms S a (fun r1 S1 => mX_joined l M a (fun r2 M1 => OKw S mc ms S1 M1)) := by
        intro mc ms q1 q2 hc
        refine ⟨mc, ms, q1, q2, c_X8_joined l mc ms S a _ ?_⟩
        intro B28 h28
        unfold cT_X8_joined_e
        rw [h5, h20]
        exact ⟨fun _ => ⟨fun c => absurd c a0, fun _ => ⟨fun _ => ⟨mc, ms, by omega, by omega, hc⟩, fun c => absurd a3 c⟩⟩, fun c => absurd (nI_le hN (by omega)) c⟩
      rcases hf with f0 | ⟨f1, f2, f3⟩
      · have room : ∀ T : CS, CFr jA kB kC (cf S 2 0) T → KL T (max LK (P ^ n)) → (LK < P ^ n → Fc S + 8 ≤ Fc T + 3 ∧ Fs S + 8 * P ^ n ≤ Fs T + 55) ∧ (¬ LK < P ^ n → Fc S + 0 ≤ Fc T + 3 ∧ Fs S + 0 ≤ Fs T + 55) := by
          intro T fT hT
          have e24 : T.2.2.2 24 = S.2.2.2 24 := fT.2.2 24 rfl
          have e22 : T.2.2.2 22 = S.2.2.2 22 := fT.2.2 22 rfl
          unfold Fc Fs
          rw [e24, e22, hT.1, hl.1]
          refine ⟨fun c => ?_, fun c => ?_⟩
          · have := CT_step hP2 hn2 c
            rw [Nat.max_eq_right (by omega)]
            omega
          · rw [Nat.max_eq_left (by omega)]
            omega
        by_cases c : LK < P ^ n
        · refine open1 8 (8 * P ^ n) (by omega) (by omega) ?_
          exact w_find l (S := cf S 2 0) hR.cy h.dz f0 hl hK hN (fun _ => ⟨by omega, by omega⟩) _ (fun T fT hT t17 kT => fin _ _ T fT hT t17 kT ((room T fT hT).1 c).1 ((room T fT hT).1 c).2)
        · refine open1 0 0 (by omega) (by omega) ?_
          exact w_find l (S := cf S 2 0) hR.cy h.dz f0 hl hK hN (fun q => absurd q c) _ (fun T fT hT t17 kT => fin _ _ T fT hT t17 kT ((room T fT hT).2 c).1 ((room T fT hT).2 c).2)
      · refine open1 0 0 (by omega) (by omega) ?_
        refine c_X2_find l 0 0 _ _ ?_
        intro B23 B60 B68 B93 _ _ _ _
        unfold cT_X2_find_e
        have s17 : (cf S 2 0).1 17 = 1 := f1
        rw [s17]
        refine ⟨fun q => absurd q (by decide), fun _ => ⟨by omega, by omega, ?_⟩⟩
        refine fin 0 0 _ CFr.rf ?_ s17 f3 (Nat.le_add_right _ _) (Nat.le_add_right _ _)
        rw [Nat.max_eq_left f2]
        exact hl
    · refine ⟨0, 0, by omega, by omega, c_X8_joined l 0 0 S a _ ?_⟩
      intro B28 h28
      have e : B28 0 0 S := by
        refine h28 _ _ _ ?_
        unfold cT_X8_joined_28
        refine ⟨by omega, by omega, k_none l S 1 _ ⟨by omega, by omega, ?_⟩⟩
        refine h.joinM l a _ (fun q => absurd hN q) (fun _ _ => ⟨⟨n, P, kd, ct, sc, sm, x, y, (h.th 0).tr 1⟩, Nat.le_add_right _ _, Nat.le_add_right _ _⟩) (fun _ q => absurd q ha)
      unfold cT_X8_joined_e
      rw [h5, h20]
      refine ⟨fun _ => ⟨fun _ => e, fun c => ⟨fun c2 => ?_, fun _ => e⟩⟩, fun c => absurd (nI_le hN (by omega)) c⟩
      exfalso
      obtain ⟨j, hj, e2⟩ := nI_of c
      subst e2
      exact ha ⟨j, (nI_leI (b := 3) hj (by omega)).mp c2, rfl⟩
  · refine ⟨0, 0, by omega, by omega, c_X8_joined l 0 0 S a _ ?_⟩
    intro B28 h28
    unfold cT_X8_joined_e
    rw [h5, h20]
    refine ⟨fun c => absurd ((nI_leI (by omega) (by omega)).mp c) hN, fun _ => ⟨by omega, by omega, k_none l S 2 _ ⟨by omega, by omega, ?_⟩⟩⟩
    refine h.joinM l a _ (fun _ => ⟨⟨n, P, kd, ct, sc, sm, x, y, (h.th 0).tr 2⟩, Nat.le_add_right _ _, Nat.le_add_right _ _⟩) (fun q => absurd q hN) (fun q => absurd q hN)
end JBoth
