-- joined(): both sides answer alike
section JBothS
variable {S T : CS} {M : MS} {n P x y : Nat} {kd ct sc sm : Nat → Nat}
theorem Rl.knot (h : Rl S M n P kd ct sc sm x y) (f : CFr jA kB kC S T) {LK : Nat} (hl : KL T LK) (hK : LK ≤ 20000) (hN : P ^ n ≤ LK) (h17 : T.1 17 = 1) (hk : KOK T n P kd ct sc) : Rl T M n P kd ct sc sm x y := by
  obtain ⟨⟨b1, b2, b3, b4⟩, h2, h3, h4, h5, h6, h7, h8, h9, h10⟩ := h
  refine ⟨⟨b1.fr f, b2, b3, b4⟩, ?_, ?_, ?_, ?_, ?_, ?_, h8, h9.fr f, ⟨LK, hl, hK, Or.inr ⟨h17, hN, hk⟩⟩⟩
  · rw [f.1 0 rfl]; exact h2
  · rw [f.1 1 rfl]; exact h3
  · rw [f.1 2 rfl]; exact h4
  · rw [f.1 9 rfl, f.1 10 rfl, (f.2.1 20 rfl).1, (f.2.1 21 rfl).1]; exact h5
  · rw [f.1 11 rfl, (f.2.1 22 rfl).1, f.2.2 22 rfl]; exact h6
  · rw [f.1 19 rfl, (f.2.1 38 rfl).1, (f.2.1 39 rfl).1, (f.2.1 40 rfl).1, (f.2.1 41 rfl).1, (f.2.1 42 rfl).2]; exact h7
theorem Rl.tlE (h : Rl S M n P kd ct sc sm x y) : tl n P kd ct sc = tl n P kd ct sm := by
  funext z
  unfold tl
  rw [h.tg, h.mv]
theorem Rl.lvE (h : Rl S M n P kd ct sc sm x y) (st : Nat → Option Nat) : ∀ s, lvS n P kd ct sc st s = lvS n P kd ct sm st s := by
  have ho : ∀ z, outB n P kd ct sc st z = outB n P kd ct sm st z := fun z => by
    unfold outB
    rw [h.tlE]
  intro s
  induction s with
  | zero => rfl
  | succ s ih =>
    unfold lvS
    rw [ih, ho]
theorem Rl.jaE (h : Rl S M n P kd ct sc sm x y) (a : Int32) (m : Nat) (st : Nat → Option Nat) (sz : Nat → Nat) : jans n P kd ct sc a x m st sz = jans n P kd ct sm a x m st sz := by
  unfold jans
  rw [h.lvE st (P ^ n)]
theorem o_joined (l : Launch) (h : Rl S M n P kd ct sc sm x y) (a : Int32) : ∃ mc ms, mc ≤ 50000 ∧ ms ≤ 300000 ∧ cX_X8_joined l mc ms S a (fun r1 S1 => mX_joined l M a (fun r2 M1 => OKa S mc ms r1 S1 r2 M1)) := by
  have hP2 := h.P2
  have hn2 := h.n2
  have h5 := h.cy.2.2.1
  have hb := pow_b hP2 hn2.2
  have h20 : (20000 : Int32) = nI 20000 := rfl
  have joinM := fun (post : Int32 → MS → Prop) => s_joinedS l h.my h.hx h.xa h.2.1.2.2.2 h.m8 h.m9 a post
  by_cases hN : P ^ n ≤ 20000
  · by_cases ha : ∃ i, i ≤ 3 ∧ a = nI i
    · obtain ⟨LK, hl, hK, hf⟩ := id h.2.2.2.2.2.2.2.2.2
      have hR : Rl (cf S 2 0) (mf (mf M 3 0) 2 0) n P kd ct sc sm x y := (h.th 0).tr 0
      obtain ⟨i, hi, ea⟩ := id ha
      -- behind the search
      have fin : ∀ mc ms T, CFr jA kB kC (cf S 2 0) T → KL T (max LK (P ^ n)) → T.1 17 = 1 → KOK T n P kd ct sc → Fc S + mc ≤ Fc T + 3 → Fs S + ms ≤ Fs T + 55 → (a = 0 → 0 + mc ≤ mc ∧ 0 + ms ≤ ms ∧ mX_joined l M a (fun r2 M1 => OKa S mc ms (T.1 18) T r2 M1)) ∧ (a = 1 → 0 + mc ≤ mc ∧ 0 + ms ≤ ms ∧ cX_X2_sizeOfSet l T (T.1 0) (fun r14 S13 => 0 + mc ≤ mc ∧ 0 + ms ≤ ms ∧ mX_joined l M a (fun r2 M1 => OKa S mc ms r14 S13 r2 M1))) ∧ (a = 2 → 0 + mc ≤ mc ∧ 0 + ms ≤ ms ∧ cX_X2_countClosed l T (fun r18 S17 => 0 + mc ≤ mc ∧ 0 + ms ≤ ms ∧ mX_joined l M a (fun r2 M1 => OKa S mc ms r18 S17 r2 M1))) ∧ ((a.toInt < 0 ∨ 2 < a.toInt) → 0 + mc ≤ mc ∧ 0 + ms ≤ ms ∧ cX_X2_greatestSize l T (fun r22 S21 => 0 + mc ≤ mc ∧ 0 + ms ≤ ms ∧ mX_joined l M a (fun r2 M1 => OKa S mc ms r22 S21 r2 M1))) := by
        intro mc ms T fT hT t17 kT F1 F2
        have z1 : 0 + mc ≤ mc := by omega
        have z2 : 0 + ms ≤ ms := by omega
        obtain ⟨q, m, sn, ov, pl, ix, st, sz, hF, kF⟩ := id kT
        have e : ∀ r1, r1 = jans n P kd ct sc a x m st sz → mX_joined l M a (fun r2 M1 => OKa S mc ms r1 T r2 M1) := by
          intro r1 hr1
          refine joinM _ (fun q => absurd hN q) (fun _ q => absurd ha q) (fun _ _ U q' m' sn' ov' pl' ix' st' sz' mU hF' => ⟨?_, ⟨n, P, kd, ct, sc, sm, x, y, (hR.scr mU).knot fT hT (by omega) (by omega) t17 kT⟩, F1, F2⟩)
          rw [← h.tlE] at hF'
          obtain ⟨-, -, -, c4, -, -, -, -, c9, c10⟩ := jst_inj (hF.det _ hF')
          subst c4 c9 c10
          rw [hr1, h.jaE]
        have t0 : T.1 0 = nI x := by rw [fT.1 0 rfl]; exact h.sx
        refine ⟨fun c => ⟨z1, z2, e _ ?_⟩, fun c => ⟨z1, z2, ?_⟩, fun c => ⟨z1, z2, ?_⟩, fun c => ⟨z1, z2, ?_⟩⟩
        · unfold jans
          rw [if_pos c]; exact kF.2.1
        · rw [t0]
          refine k_setSize l kF hT (by omega) (by omega) h.hx _ ⟨z1, z2, e _ ?_⟩
          unfold jans
          rw [if_neg (by rw [c]; decide), if_pos c]
          cases st x <;> rfl
        · refine k_closed l kF hT (by omega) (by omega) _ ⟨z1, z2, e _ ?_⟩
          unfold jans
          rw [if_neg (by rw [c]; decide), if_neg (by rw [c]; decide), if_pos c]
        · refine k_greatS l kF hT (by omega) (by omega) _ ⟨z1, z2, e _ ?_⟩
          have e3 : a = 3 := by
            have : i = 0 ∨ i = 1 ∨ i = 2 ∨ i = 3 := by omega
            rcases this with w | w | w | w <;> rw [w] at ea
            · rw [ea] at c; exact absurd c (by decide)
            · rw [ea] at c; exact absurd c (by decide)
            · rw [ea] at c; exact absurd c (by decide)
            · exact ea
          unfold jans
          rw [if_neg (by rw [e3]; decide), if_neg (by rw [e3]; decide), if_neg (by rw [e3]; decide)]
      have a0 : ¬ a < 0 := by rw [ea]; exact nI_pos (by omega)
      have a3 : a ≤ 3 := by rw [ea]; exact nI_le (b := 3) hi (by omega)
      have open1 : ∀ mc ms, mc ≤ 50000 → ms ≤ 300000 → cX_X2_find l mc ms (cf S 2 0) (fun S8 => (a = 0 → 0 + mc ≤ mc ∧ 0 + ms ≤ ms ∧ mX_joined l M a (fun r2 M1 => OKa S mc ms (S8.1 18) S8 r2 M1)) ∧ (a = 1 → 0 + mc ≤ mc ∧ 0 + ms ≤ ms ∧ cX_X2_sizeOfSet l S8 (S8.1 0) (fun r14 S13 => 0 + mc ≤ mc ∧ 0 + ms ≤ ms ∧ mX_joined l M a (fun r2 M1 => OKa S mc ms r14 S13 r2 M1))) ∧ (a = 2 → 0 + mc ≤ mc ∧ 0 + ms ≤ ms ∧ cX_X2_countClosed l S8 (fun r18 S17 => 0 + mc ≤ mc ∧ 0 + ms ≤ ms ∧ mX_joined l M a (fun r2 M1 => OKa S mc ms r18 S17 r2 M1))) ∧ ((a.toInt < 0 ∨ 2 < a.toInt) → 0 + mc ≤ mc ∧ 0 + ms ≤ ms ∧ cX_X2_greatestSize l S8 (fun r22 S21 => 0 + mc ≤ mc ∧ 0 + ms ≤ ms ∧ mX_joined l M a (fun r2 M1 => OKa S mc ms r22 S21 r2 M1)))) → ∃ mc ms, mc ≤ 50000 ∧ ms ≤ 300000 ∧ cX_X8_joined l mc ms S a (fun r1 S1 => mX_joined l M a (fun r2 M1 => OKa S mc ms r1 S1 r2 M1)) := by
        intro mc ms q1 q2 hc
        refine ⟨mc, ms, q1, q2, c_X8_joined l mc ms S a _ ?_⟩
        intro B28 h28
        unfold cT_X8_joined_e
        rw [h5, h20]
        exact ⟨fun _ => ⟨fun c => absurd c a0, fun _ => ⟨fun _ => ⟨mc, ms, by omega, by omega, hc⟩, fun c => absurd a3 c⟩⟩, fun c => absurd (nI_le hN (by omega)) c⟩
      rcases hf with f0 | ⟨f1, f2, f3⟩
      · have room : ∀ T : CS, CFr jA kB kC (cf S 2 0) T → KL T (max LK (P ^ n)) → (LK < P ^ n → Fc S + 8 ≤ Fc T + 3 ∧ Fs S + 8 * P ^ n ≤ Fs T + 55) ∧ (¬ LK < P ^ n → Fc S + 0 ≤ Fc T + 3 ∧ Fs S + 0 ≤ Fs T + 55) := by
          intro T fT hT
          have e24 : T.2.2.2 24 = S.2.2.2 24 := fT.2.2 24 rfl
          have e22 : T.2.2.2 22 = S.2.2.2 22 := fT.2.2 22 rfl
          unfold Fc Fs
          rw [e24, e22, hT.1, hl.1]
          refine ⟨fun c => ?_, fun c => ?_⟩
          · have := CT_step hP2 hn2 c
            rw [Nat.max_eq_right (by omega)]
            omega
          · rw [Nat.max_eq_left (by omega)]
            omega
        by_cases c : LK < P ^ n
        · refine open1 8 (8 * P ^ n) (by omega) (by omega) ?_
          exact x_find l (S := cf S 2 0) hR.cy h.dz f0 hl hK hN (fun _ => ⟨by omega, by omega⟩) _ (fun T fT hT t17 kT => fin _ _ T fT hT t17 kT ((room T fT hT).1 c).1 ((room T fT hT).1 c).2)
        · refine open1 0 0 (by omega) (by omega) ?_
          exact x_find l (S := cf S 2 0) hR.cy h.dz f0 hl hK hN (fun q => absurd q c) _ (fun T fT hT t17 kT => fin _ _ T fT hT t17 kT ((room T fT hT).2 c).1 ((room T fT hT).2 c).2)
      · refine open1 0 0 (by omega) (by omega) ?_
        refine c_X2_find l 0 0 _ _ ?_
        intro B23 B60 B68 B93 _ _ _ _
        unfold cT_X2_find_e
        have s17 : (cf S 2 0).1 17 = 1 := f1
        rw [s17]
        refine ⟨fun q => absurd q (by decide), fun _ => ⟨by omega, by omega, ?_⟩⟩
        refine fin 0 0 _ CFr.rf ?_ s17 f3 (Nat.le_add_right _ _) (Nat.le_add_right _ _)
        rw [Nat.max_eq_left f2]
        exact hl
    · refine ⟨0, 0, by omega, by omega, c_X8_joined l 0 0 S a _ ?_⟩
      intro B28 h28
      have e : B28 0 0 S := by
        refine h28 _ _ _ ?_
        unfold cT_X8_joined_28
        refine ⟨by omega, by omega, k_none l S 1 _ ⟨by omega, by omega, ?_⟩⟩
        refine joinM _ (fun q => absurd hN q) (fun _ _ => ⟨rfl, ⟨n, P, kd, ct, sc, sm, x, y, (h.th 0).tr 1⟩, Nat.le_add_right _ _, Nat.le_add_right _ _⟩) (fun _ q => absurd q ha)
      unfold cT_X8_joined_e
      rw [h5, h20]
      refine ⟨fun _ => ⟨fun _ => e, fun c => ⟨fun c2 => ?_, fun _ => e⟩⟩, fun c => absurd (nI_le hN (by omega)) c⟩
      exfalso
      obtain ⟨j, hj, e2⟩ := nI_of c
      subst e2
      exact ha ⟨j, (nI_leI (b := 3) hj (by omega)).mp c2, rfl⟩
  · refine ⟨0, 0, by omega, by omega, c_X8_joined l 0 0 S a _ ?_⟩
    intro B28 h28
    unfold cT_X8_joined_e
    rw [h5, h20]
    refine ⟨fun c => absurd ((nI_leI (by omega) (by omega)).mp c) hN, fun _ => ⟨by omega, by omega, k_none l S 2 _ ⟨by omega, by omega, ?_⟩⟩⟩
    refine joinM _ (fun _ => ⟨rfl, ⟨n, P, kd, ct, sc, sm, x, y, (h.th 0).tr 2⟩, Nat.le_add_right _ _, Nat.le_add_right _ _⟩) (fun q => absurd q hN) (fun q => absurd q hN)
end JBothS
