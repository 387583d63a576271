-- plan(), planned()
theorem wA_u (k : Nat) (h : uA k = false) : wA k = false := by
  simp only [uA, fA, wA, lA, Bool.or_eq_false_iff, Bool.and_eq_false_iff, decide_eq_false_iff_not] at *
  omega
theorem wB_u (k : Nat) (h : uB k = false) : wB k = false := by
  simp only [uB, fB, wB, lB, Bool.or_eq_false_iff, Bool.and_eq_false_iff, decide_eq_false_iff_not] at *
  omega
theorem aB_u (k : Nat) (h : uC k = false) : aB k = false := by
  simp only [uC, pC, aB, Bool.or_eq_false_iff, Bool.and_eq_false_iff, decide_eq_false_iff_not] at *
  omega
section PlanS
variable {S : CS} {M : MS} {n P x y : Nat} {kd ct sc sm : Nat → Nat}
theorem o_planned (l : Launch) (h : Rl S M n P kd ct sc sm x y) (a : Int32) : cX_X8_planned l S a (fun r1 S1 => mX_planned l M a (fun r2 M1 => OKr S r1 S1 r2 M1)) := by
  obtain ⟨L, hL, l1, l2, hco, hc1, hc2, hc3⟩ := id h.2.2.2.2.2.1
  have hR : Rel S (mf M 3 0) := ⟨n, P, kd, ct, sc, sm, x, y, h.th 0⟩
  refine c_X8_planned l S a _ ?_
  unfold cT_X8_planned_e
  rw [l1]
  have no : (¬ ∃ i, i < L ∧ a = nI i) → mX_planned l M a (fun r2 M1 => OKr S (-1) S r2 M1) := by
    intro q
    refine m_planned l M a _ ?_
    unfold mT_planned_e
    exact s_inB l _ a _ _ (N := L) (by rw [l2]) (by omega) (fun _ => ⟨fun _ => ⟨rfl, hR, rfl⟩, fun w => absurd rfl w⟩) (fun i hi ea => absurd ⟨i, hi, ea⟩ q)
  refine ⟨fun c => no (fun ⟨i, hi, e⟩ => absurd (e ▸ c) (nI_pos (by omega))), fun c => ⟨fun c2 => ?_, fun c2 => no (fun ⟨i, hi, e⟩ => c2 (e ▸ nI_lt hi (by omega)))⟩⟩
  obtain ⟨i, hi, e⟩ := nI_of c
  subst e
  have hiL : i < L := (nI_ltI hi (by omega)).mp c2
  rw [nI_clamp hi]
  refine ⟨vp_in_nI (by omega) (by omega), m_planned l M _ _ ?_⟩
  unfold mT_planned_e
  refine s_inB l _ _ _ _ (N := L) (by rw [l2]) (by omega) (fun q => absurd ⟨i, hiL, rfl⟩ q) (fun i' hi' ea => ⟨fun w => absurd w (by decide), fun _ => ⟨vp_in_nI (by omega) (by omega), ?_⟩⟩)
  rw [nI_clamp hi]
  exact ⟨hco i hiL, hR, rfl⟩
theorem plan_core (l : Launch) (h : Rl S M n P kd ct sc sm x y) {e : Nat} (he : e ≤ 40000) (h0 : ¬ P ^ n ≤ 20000 → e = 0) (h1 : ∀ fr, DS (P ^ n) x (tgN n P kd ct sc) (fun a b => ct (5 * a + b)) fr → fr y = none → e = 0) (h2 : P ^ n ≤ 20000 → ∀ fr, DS (P ^ n) x (tgN n P kd ct sc) (fun a b => ct (5 * a + b)) fr → fr y ≠ none → ∃ qs, PL (tgN n P kd ct sc) (fun a b => ct (5 * a + b)) fr y qs x ∧ e = capA (S.2.2.2 22) qs.length - S.2.2.2 22) : cX_X8_plan l (srC (S.2.2.2 24) (P ^ n) + e) (srS (S.2.2.2 24) (P ^ n) + 2 * e) S (fun r1 S1 => mX_plan l M (fun r2 M1 => OKa S (srC (S.2.2.2 24) (P ^ n) + e) (srS (S.2.2.2 24) (P ^ n) + 2 * e) r1 S1 r2 M1)) := by
  have hP2 := h.P2
  have hn2 := h.n2
  obtain ⟨L0, hL0, l1, l2, hco, hc1, hc2, hc3⟩ := id h.2.2.2.2.2.1
  refine c_X8_plan l _ _ S _ ?_
  unfold cT_X8_plan_e
  refine ⟨srC (S.2.2.2 24) (P ^ n), srS (S.2.2.2 24) (P ^ n), by omega, by omega, k_searched l h rfl _ (fun c => ?_) (fun hN T fT hl hLA h12 hS h2' => ?_)⟩
  · refine ⟨fun w => absurd rfl w, fun _ => ⟨by omega, by omega, ?_⟩⟩
    have e0 := h0 c
    subst e0
    exact s_plan l h.my h.hx h.xa h.hy h.ya h.m8 h.m9 _ (fun _ => h.many _ c) (fun q => absurd q c) (fun q => absurd q c)
  · refine ⟨fun _ => ⟨by omega, by omega, c_X6_costTo l _ _ _ ?_⟩, fun w => absurd w (by decide)⟩
    unfold cT_X6_costTo_e
    obtain ⟨fr, mt, hD, hnd, hmem, hsort, hfb, h24, h13, h26, hRI, hz⟩ := id hS
    have hy := h.hy
    have hF := F_srch hP2 hn2 hN rfl fT hl
    have hmx := Nat.le_max_right (S.2.2.2 24) (P ^ n)
    rw [fT.1 1 rfl, h.sy, nI_clamp (show y < 2 ^ 31 by omega), h24 y hy, hl.1]
    refine ⟨vp_in_nI (by omega) (by omega), fun c => ?_, fun c => ⟨by omega, by omega, ?_⟩⟩
    · have hne : fr y ≠ none := fun q => c (by rw [q]; rfl)
      obtain ⟨qs, hqs, he2⟩ := h2 hN fr hD hne
      refine ⟨e, 2 * e, by omega, by omega, ?_⟩
      have e22 : T.2.2.2 22 = S.2.2.2 22 := fT.2.2 22 rfl
      rw [fT.1 1 rfl, h.sy, he2]
      refine k_write l (h.cy.fr fT) h.dz hN hy hl hmx hLA h12 h.hx hD hnd hmem hsort h24 hfb h13 h26 hne e22 (by omega) hc3 hqs _ (fun U fU u11 u22 uco => ?_)
      rw [← he2]
      refine ⟨by omega, by omega, ?_⟩
      have hge := capA_ge (show 1 ≤ S.2.2.2 22 by omega) qs.length
      obtain ⟨vs, v1, v2, v3⟩ := PL.len (N := P ^ n) tgN_pos hD.2.1 qs x 0 hD.1 hqs
      have hlen : qs.length + 1 ≤ P ^ n := by
        rw [← v1]
        exact nodup_len _ vs v2 (fun w hw => (v3 w hw).1)
      have hcap : capA (S.2.2.2 22) qs.length ≤ 40000 := by
        cases hq : qs.length with
        | zero => exact hc3
        | succ r => exact capA_b hc3 r (by omega)
      have fU' : CFr uA uB uC S U := (fT.mono hA_u fB_u pC_u).tr (fU.mono wA_u wB_u aB_u)
      refine s_plan l h.my h.hx h.xa h.hy h.ya h.m8 h.m9 _ (fun q => absurd hN q) (fun _ N fr2 mt2 fN hM hn => ?_) (fun _ N fr2 qs2 fN hD2 hn hq2 n6 n7 => ?_)
      · have e := h.ds hD hM.1
        subst e
        exact absurd hn hne
      · have e := h.ds hD hD2
        subst e
        rw [← h.tg] at hq2
        have e2 : qs2 = qs := PL.uniq _ _ _ hq2 hqs
        subst e2
        refine ⟨u11, ⟨n, P, kd, ct, sc, sm, x, y, h.srch fU' (hl.fr fU) hLA hmx (by rw [fU.1 12 rfl]; exact h12) (hS.fr fU) (by rw [fU.1 2 rfl]; exact h2') fN ⟨qs2.length, by omega, u11, n6, fun i hi => ?_, by rw [u22]; exact hge.2, by rw [u22]; omega, by rw [u22]; exact hcap⟩⟩, ?_⟩
        · obtain ⟨q, hq⟩ : ∃ q, qs2[i]? = some q := ⟨_, List.getElem?_eq_getElem hi⟩
          rw [uco i q hq, n7 i q hq]
        · unfold Fc Fs at hF ⊢
          rw [u22, fU.2.2 24 rfl, fU.2.2 30 rfl]
          rw [e22] at hF
          omega
    · have hnone := (lab_none (fun m hm => by have := hfb y m hm; omega)).mp c
      have e0 := h1 fr hD hnone
      subst e0
      refine s_plan l h.my h.hx h.xa h.hy h.ya h.m8 h.m9 _ (fun q => absurd hN q) (fun _ N fr2 mt2 fN hM hn => ?_) (fun _ N fr2 qs2 fN hD2 hn hq2 n6 n7 => ?_)
      · exact ⟨rfl, ⟨n, P, kd, ct, sc, sm, x, y, h.srch0 fT hl hLA hmx h12 hS h2' fN⟩, hF⟩
      · have e := h.ds hD hD2
        subst e
        exact absurd hnone hn
theorem o_plan (l : Launch) (h : Rl S M n P kd ct sc sm x y) : ∃ mc ms, mc ≤ 50000 ∧ ms ≤ 300000 ∧ cX_X8_plan l mc ms S (fun r1 S1 => mX_plan l M (fun r2 M1 => OKa S mc ms r1 S1 r2 M1)) := by
  have hP2 := h.P2
  have hb := sr_b (S.2.2.2 24) (P ^ n)
  obtain ⟨L0, hL0, l1, l2, hco, hc1, hc2, hc3⟩ := id h.2.2.2.2.2.1
  by_cases hN : P ^ n ≤ 20000
  · obtain ⟨fr, hD⟩ := DS.exist (N := P ^ n) (tg := tgN n P kd ct sc) (c := fun a b => ct (5 * a + b)) h.hx (fun s a b t ht => tgN_lt (by omega) ht)
    have hu : ∀ fr2, DS (P ^ n) x (tgN n P kd ct sc) (fun a b => ct (5 * a + b)) fr2 → fr2 = fr := fun fr2 q => DS.uniq q hD tgN_pos
    by_cases hy : fr y = none
    · refine ⟨_, _, ?_, ?_, plan_core l h (e := 0) (by omega) (fun _ => rfl) (fun _ _ _ => rfl) (fun _ fr2 q w => ?_)⟩
      · omega
      · omega
      · rw [hu fr2 q] at w; exact absurd hy w
    · obtain ⟨mg, hmg⟩ := Option.ne_none_iff_exists'.mp hy
      obtain ⟨qs, hqs⟩ := PL.exist (N := P ^ n) (P := P) (g := y) (c := fun a b => ct (5 * a + b)) tgN_pos tgN_P hmg mg x 0 hD.1 (by omega) (Good.start hD tgN_pos mg y mg (Nat.le_refl _) hmg ⟨0, rfl⟩)
      obtain ⟨vs, v1, v2, v3⟩ := PL.len (N := P ^ n) tgN_pos hD.2.1 qs x 0 hD.1 hqs
      have hlen : qs.length + 1 ≤ P ^ n := by
        rw [← v1]
        exact nodup_len _ vs v2 (fun w hw => (v3 w hw).1)
      have hcap : capA (S.2.2.2 22) qs.length ≤ 40000 := by
        cases hq : qs.length with
        | zero => exact hc3
        | succ r => exact capA_b hc3 r (by omega)
      refine ⟨_, _, ?_, ?_, plan_core l h (e := capA (S.2.2.2 22) qs.length - S.2.2.2 22) (by omega) (fun q => absurd hN q) (fun fr2 q w => ?_) (fun _ fr2 q w => ?_)⟩
      · omega
      · omega
      · rw [hu fr2 q] at w; exact absurd w hy
      · rw [hu fr2 q]; exact ⟨qs, hqs, rfl⟩
  · refine ⟨_, _, ?_, ?_, plan_core l h (e := 0) (by omega) (fun _ => rfl) (fun _ _ _ => rfl) (fun q => absurd q hN)⟩
    · omega
    · omega
end PlanS
