-- joined(): the rows of the search are laid
def kA : Nat → Bool := fun k => lA k || (decide (14 ≤ k) && decide (k ≤ 18) && decide (k ≠ 17))
def jA : Nat → Bool := fun k => lA k || (decide (14 ≤ k) && decide (k ≤ 18))
def kB : Nat → Bool := fun k => lB k || (decide (30 ≤ k) && decide (k ≤ 37))
def kC : Nat → Bool := fun k => decide (30 ≤ k) && decide (k ≤ 37)
theorem lA_k (k : Nat) (h : kA k = false) : lA k = false := by
  unfold kA at h
  rw [Bool.or_eq_false_iff] at h; exact h.1
theorem kA_j (k : Nat) (h : jA k = false) : kA k = false := by
  unfold jA at h; unfold kA
  simp only [Bool.or_eq_false_iff, Bool.and_eq_false_iff, decide_eq_false_iff_not] at h ⊢
  exact ⟨h.1, by omega⟩
theorem lB_k (k : Nat) (h : kB k = false) : lB k = false := by
  unfold kB at h
  rw [Bool.or_eq_false_iff] at h; exact h.1
theorem okB_k (k : Nat) (h : kB k = false) : okB k = false := by
  unfold kB at h; unfold okB
  simp only [Bool.or_eq_false_iff, Bool.and_eq_false_iff, decide_eq_false_iff_not] at h ⊢
  exact ⟨h.1, by omega⟩
set_option maxHeartbeats 1000000 in
theorem k_prepK (l : Launch) {mc ms : Nat} {S : CS} {LK N : Nat} (hl : KL S LK) (hLK : LK ≤ 20000) (hN : N ≤ 20000) (hb : LK < N → 8 ≤ mc ∧ 8 * N ≤ ms) (post : CS → Prop) (k : ∀ T, CFr kA kB kC S T → KL T (max LK N) → (∀ x, x < N → T.2.1 30 x = 0 ∧ T.2.1 35 x = -1 ∧ T.2.1 36 x = 0 ∧ T.2.1 37 x = 0) → T.1 14 = 0 → T.1 15 = 0 → T.1 16 = 0 → T.1 18 = 0 → post T) : cX_X2_prepare l mc ms S (nI N) post := by
  refine c_X2_prepare l mc ms S _ post ?_
  intro B65 h65
  have fin : ∀ (kc ks : Nat) (U : CS) (M : Nat), kc ≤ mc → ks ≤ ms → CFr kA kB kC S U → KL U M → M = max LK N → B65 kc ks U := by
    intro kc ks U M hkc hks fU hU hM
    have hM2 : M ≤ 20000 := by omega
    have hM3 : N ≤ M := by omega
    refine h65 _ _ _ ?_
    unfold cT_X2_prepare_65
    rw [hU.1, hU.2.2.2.2.2.1, hU.2.2.2.2.2.2.1, hU.2.2.2.2.2.2.2]
    refine ⟨by omega, hkc, hks, by omega, hkc, hks, by omega, hkc, hks, by omega, hkc, hks, hkc, hks, k _ ?_ ?_ (fun x hx => ⟨?_, ?_, ?_, ?_⟩) rfl rfl rfl rfl⟩
    · exact (((((((fU.ca _ rfl).ca _ rfl).ca _ rfl).ca _ rfl).cf _ rfl).cf _ rfl).cf _ rfl).cf _ rfl
    · rw [← hM]; exact hU
    · show filI (U.2.1 30) M 0 x = 0
      unfold filI
      rw [if_pos (by omega)]
    · show filI (U.2.1 35) M (-1) x = -1
      unfold filI
      rw [if_pos (by omega)]
    · show filI (U.2.1 36) M 0 x = 0
      unfold filI
      rw [if_pos (by omega)]
    · show filI (U.2.1 37) M 0 x = 0
      unfold filI
      rw [if_pos (by omega)]
  unfold cT_X2_prepare_e
  rw [hl.1, nI_clamp (show N < 2 ^ 31 by omega)]
  refine ⟨fun c => ?_, fun c => ?_⟩
  · have c : N ≤ LK := (nI_leI (by omega) (by omega)).mp c
    exact fin 0 0 S LK (Nat.zero_le _) (Nat.zero_le _) CFr.rf hl (by omega)
  · have c : LK < N := by
      rcases Nat.lt_or_ge LK N with q | q
      · exact q
      · exact absurd (nI_le q (by omega)) c
    obtain ⟨b1, b2⟩ := hb c
    have i0 : ¬ nI N < 0 := nI_pos (by omega)
    have i8 : N * 8 ≤ 536870912 := by omega
    refine ⟨i0, i8, by omega, by omega, i0, i8, by omega, by omega, i0, i8, by omega, by omega, i0, i8, by omega, by omega, i0, i8, by omega, by omega, i0, i8, by omega, by omega, i0, i8, by omega, by omega, i0, i8, by omega, by omega, fin _ _ _ N (by omega) (by omega) ?_ ⟨rfl, rfl, rfl, rfl, rfl, rfl, rfl, rfl⟩ (by omega)⟩
    exact (((((((((((((((CFr.rf.ca _ rfl).cn _ rfl).ca _ rfl).cn _ rfl).ca _ rfl).cn _ rfl).ca _ rfl).cn _ rfl).ca _ rfl).cn _ rfl).ca _ rfl).cn _ rfl).ca _ rfl).cn _ rfl).ca _ rfl).cn _ rfl
theorem KL.nn {a b : Nat → Bool} {S T : CS} {LK : Nat} (h : KL S LK) (f : CFr a b nn S T) : KL T LK := by
  have e : T.2.2.2 = S.2.2.2 := lens_eq f
  unfold KL
  rw [e]; exact h
theorem nI_d5 : ∀ m, m < 25 → nI m / 5 = nI (m / 5) ∧ nI m - nI m / 5 * 5 = nI (m % 5) := by decide +kernel
theorem cntP_none : ∀ k, cntP (fun _ => false) k = 0 := by
  intro k
  induction k with
  | zero => rfl
  | succ k ih => unfold cntP; rw [ih]; rfl
