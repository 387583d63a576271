-- a new object: one call
def p1I : Nat → Nat → Nat → CS → MS → Prop := fun j kc ks S M => j = 0 → kc = 0 ∧ ks = 0 ∧ S = cS0 ∧ M = mS0
theorem p1I_s {j kc ks : Nat} {S : CS} {M : MS} : p1I (j + 1) kc ks S M := fun q => absurd q (Nat.succ_ne_zero j)
theorem p1_0 (l : Launch) : lop_0 l p1I 0 0 0 cS0 mS0 := by
  unfold lop_0
  intro a1 a2
  exact p1c_0 l a1 a2 _ (fun S1 => p1m_0 l a1 a2 _ (fun M1 => ⟨rfl, p1I_s⟩))
theorem p1_1 (l : Launch) : lop_1 l p1I 0 0 0 cS0 mS0 := by
  unfold lop_1
  intro a1 a2
  exact p1c_1 l a1 a2 _ (fun S1 => p1m_1 l a1 a2 _ (fun M1 => ⟨rfl, p1I_s⟩))
theorem p1_2 (l : Launch) : lop_2 l p1I 0 0 0 cS0 mS0 := by
  unfold lop_2
  intro a1 a2 a3 a4
  exact p1c_2 l a1 a2 a3 a4 _ (fun S1 => p1m_2 l a1 a2 a3 a4 _ (fun M1 => ⟨rfl, p1I_s⟩))
theorem p1_3 (l : Launch) : lop_3 l p1I 0 0 0 cS0 mS0 := by
  unfold lop_3
  exact p1c_3 l _ (fun S1 => p1m_3 l _ (fun M1 => ⟨rfl, p1I_s⟩))
theorem p1_4 (l : Launch) : lop_4 l p1I 0 0 0 cS0 mS0 := by
  unfold lop_4
  intro a1 a2
  exact p1c_4 l a1 a2 _ (fun S1 => p1m_4 l a1 a2 _ (fun M1 => ⟨rfl, p1I_s⟩))
theorem p1_5 (l : Launch) : lop_5 l p1I 0 0 0 cS0 mS0 := by
  unfold lop_5
  intro a1 a2
  exact p1c_5 l a1 a2 _ (fun S1 => p1m_5 l a1 a2 _ (fun M1 => ⟨rfl, p1I_s⟩))
theorem p1_6 (l : Launch) : lop_6 l p1I 0 0 0 cS0 mS0 := by
  unfold lop_6
  intro a1
  exact p1c_6 l a1 _ (fun S1 => p1m_6 l a1 _ (fun M1 => ⟨rfl, p1I_s⟩))
theorem p1_7 (l : Launch) : lop_7 l p1I 0 0 0 cS0 mS0 := by
  unfold lop_7
  intro a1
  exact p1c_7 l a1 _ (fun S1 => p1m_7 l a1 _ (fun M1 => ⟨rfl, p1I_s⟩))
theorem p1_8 (l : Launch) : lop_8 l p1I 0 0 0 cS0 mS0 := by
  unfold lop_8
  intro a1 a2
  exact p1c_8 l a1 a2 _ (fun S1 => p1m_8 l a1 a2 _ (fun M1 => ⟨rfl, p1I_s⟩))
theorem p1_9 (l : Launch) : lop_9 l p1I 0 0 0 cS0 mS0 := by
  unfold lop_9
  intro a1 a2
  exact c_why0 l a1 a2 _ (fun S1 => p1m_9 l a1 a2 _ (fun M1 => ⟨rfl, p1I_s⟩))
theorem p1_10 (l : Launch) : lop_10 l p1I 0 0 0 cS0 mS0 := by
  unfold lop_10
  intro a1 a2
  exact p1c_10 l a1 a2 _ (fun S1 => p1m_10 l a1 a2 _ (fun M1 => ⟨rfl, p1I_s⟩))
theorem p1_11 (l : Launch) : lop_11 l p1I 0 0 0 cS0 mS0 := by
  unfold lop_11
  exact p1c_11 l _ (fun S1 => p1m_11 l _ (fun M1 => ⟨rfl, p1I_s⟩))
theorem p1_12 (l : Launch) : lop_12 l p1I 0 0 0 cS0 mS0 := by
  unfold lop_12
  exact p1c_12 l _ (fun S1 => p1m_12 l _ (fun M1 => ⟨rfl, p1I_s⟩))
theorem p1_13 (l : Launch) : lop_13 l p1I 0 0 0 cS0 mS0 := by
  unfold lop_13
  exact p1c_13 l _ (fun S1 => p1m_13 l _ (fun M1 => ⟨rfl, p1I_s⟩))
theorem p1_14 (l : Launch) : lop_14 l p1I 0 0 0 cS0 mS0 := by
  unfold lop_14
  exact ⟨6, 18, by decide, by decide, p1c_14 l _ (fun S1 => p1m_14 l _ (fun M1 => ⟨rfl, p1I_s⟩))⟩
theorem p1_15 (l : Launch) : lop_15 l p1I 0 0 0 cS0 mS0 := by
  unfold lop_15
  exact ⟨6, 18, by decide, by decide, p1c_15 l _ (fun S1 => p1m_15 l _ (fun M1 => ⟨rfl, p1I_s⟩))⟩
theorem p1_16 (l : Launch) : lop_16 l p1I 0 0 0 cS0 mS0 := by
  unfold lop_16
  intro a1
  exact p1c_16 l a1 _ (fun S1 => p1m_16 l a1 _ (fun M1 => ⟨rfl, p1I_s⟩))
theorem p1_17 (l : Launch) : lop_17 l p1I 0 0 0 cS0 mS0 := by
  unfold lop_17
  exact ⟨6, 18, by decide, by decide, p1c_17 l _ (fun S1 => p1m_17 l _ (fun M1 => ⟨rfl, p1I_s⟩))⟩
theorem p1_18 (l : Launch) : lop_18 l p1I 0 0 0 cS0 mS0 := by
  unfold lop_18
  exact ⟨6, 18, by decide, by decide, p1c_18 l _ (fun S1 => p1m_18 l _ (fun M1 => ⟨rfl, p1I_s⟩))⟩
theorem p1_19 (l : Launch) : lop_19 l p1I 0 0 0 cS0 mS0 := by
  unfold lop_19
  exact ⟨6, 18, by decide, by decide, p1c_19 l _ (fun S1 => p1m_19 l _ (fun M1 => ⟨rfl, p1I_s⟩))⟩
theorem p1_20 (l : Launch) : lop_20 l p1I 0 0 0 cS0 mS0 := by
  unfold lop_20
  exact ⟨6, 18, by decide, by decide, p1c_20 l _ (fun S1 => p1m_20 l _ (fun M1 => ⟨rfl, p1I_s⟩))⟩
theorem p1_21 (l : Launch) : lop_21 l p1I 0 0 0 cS0 mS0 := by
  unfold lop_21
  intro a1
  exact ⟨8, 24, by decide, by decide, p1c_21 l a1 _ (fun S1 => p1m_21 l a1 _ (fun M1 => ⟨rfl, p1I_s⟩))⟩
theorem p1_22 (l : Launch) : lop_22 l p1I 0 0 0 cS0 mS0 := by
  unfold lop_22
  intro a1 a2 a3 a4 a5
  exact ⟨3, 55, by decide, by decide, p1c_22 l a1 a2 a3 a4 a5 _ (fun S1 => p1m_22 l a1 a2 a3 a4 a5 _ (fun M1 => ⟨rfl, p1I_s⟩))⟩
theorem p1_23 (l : Launch) : lop_23 l p1I 0 0 0 cS0 mS0 := by
  unfold lop_23
  exact p1c_23 l _ (fun S1 => p1m_23 l _ (fun M1 => ⟨rfl, p1I_s⟩))
theorem p1_24 (l : Launch) : lop_24 l p1I 0 0 0 cS0 mS0 := by
  unfold lop_24
  exact p1c_24 l _ (fun S1 => p1m_24 l _ (fun M1 => ⟨rfl, p1I_s⟩))
theorem p1_25 (l : Launch) : lop_25 l p1I 0 0 0 cS0 mS0 := by
  unfold lop_25
  intro a1 a2 a3
  exact ⟨1, 5, by decide, by decide, p1c_25 l a1 a2 a3 _ (fun S1 => p1m_25 l a1 a2 a3 _ (fun M1 => ⟨rfl, p1I_s⟩))⟩
theorem p1_26 (l : Launch) : lop_26 l p1I 0 0 0 cS0 mS0 := by
  unfold lop_26
  intro a1 a2 a3 a4 a5 a6 a7 a8
  exact ⟨1, 5, by decide, by decide, p1c_26 l a1 a2 a3 a4 a5 a6 a7 a8 _ (fun S1 => p1m_26 l a1 a2 a3 a4 a5 a6 a7 a8 _ (fun M1 => ⟨rfl, p1I_s⟩))⟩
theorem p1_27 (l : Launch) : lop_27 l p1I 0 0 0 cS0 mS0 := by
  unfold lop_27
  intro a1 a2
  exact p1c_27 l a1 a2 _ (fun S1 => p1m_27 l a1 a2 _ (fun M1 => ⟨rfl, p1I_s⟩))
theorem p1_28 (l : Launch) : lop_28 l p1I 0 0 0 cS0 mS0 := by
  unfold lop_28
  intro a1 a2 a3 a4 a5 a6 a7
  exact ⟨1, 5, by decide, by decide, p1c_28 l a1 a2 a3 a4 a5 a6 a7 _ (fun S1 => p1m_28 l a1 a2 a3 a4 a5 a6 a7 _ (fun M1 => ⟨rfl, p1I_s⟩))⟩
theorem p1_29 (l : Launch) : lop_29 l p1I 0 0 0 cS0 mS0 := by
  unfold lop_29
  exact p1c_29 l _ (fun S1 => p1m_29 l _ (fun M1 => ⟨rfl, p1I_s⟩))
theorem p1_30 (l : Launch) : lop_30 l p1I 0 0 0 cS0 mS0 := by
  unfold lop_30
  exact p1c_30 l _ (fun S1 => p1m_30 l _ (fun M1 => ⟨rfl, p1I_s⟩))
theorem p1_31 (l : Launch) : lop_31 l p1I 0 0 0 cS0 mS0 := by
  unfold lop_31
  intro a1
  exact p1c_31 l a1 _ (fun S1 => p1m_31 l a1 _ (fun M1 => ⟨rfl, p1I_s⟩))
theorem p1_all {l : Launch} {L : Nat} (hL : L ≤ 9) {lop : Launch → (Nat → Nat → Nat → CS → MS → Prop) → Nat → Nat → Nat → CS → MS → Prop} (h : lop l p1I 0 0 0 cS0 mS0) : ∀ (j kc ks : Nat) (S : CS) (M : MS), 9 * (j + 1) ≤ L → kc ≤ 599911 → ks ≤ 6978994 → p1I j kc ks S M → lop l p1I j kc ks S M := by
  intro j kc ks S M hj _ _ hI
  have j0 : j = 0 := by omega
  subst j0
  obtain ⟨rfl, rfl, rfl, rfl⟩ := hI rfl
  exact h
theorem whole_start {p : Program} {e : Env} {s : State} {m : MethodId} {below : List Frame} {meth : Method} {c : Code} (l : Launch) {b L : Nat} {xs : Nat → Int32} (hL : L ≤ 9) (C0 : lw_At p s m meth c b L xs) : W p l e room_1 s m #[Value.ref b] below meth c s.heap [] 0 0 (lw_Z below #[Value.ref b] s) (entryFrame m ([Value.ref b] : List Value).toArray 4) := by
  refine law_open l C0 (fun D cI cZ cL cG ad am H locs ls hK hZ hP hD hS hl => ?_)
  exact law_loop hL C0 hK hZ p1I (p1_all hL (p1_0 l)) (p1_all hL (p1_1 l)) (p1_all hL (p1_2 l)) (p1_all hL (p1_3 l)) (p1_all hL (p1_4 l)) (p1_all hL (p1_5 l)) (p1_all hL (p1_6 l)) (p1_all hL (p1_7 l)) (p1_all hL (p1_8 l)) (p1_all hL (p1_9 l)) (p1_all hL (p1_10 l)) (p1_all hL (p1_11 l)) (p1_all hL (p1_12 l)) (p1_all hL (p1_13 l)) (p1_all hL (p1_14 l)) (p1_all hL (p1_15 l)) (p1_all hL (p1_16 l)) (p1_all hL (p1_17 l)) (p1_all hL (p1_18 l)) (p1_all hL (p1_19 l)) (p1_all hL (p1_20 l)) (p1_all hL (p1_21 l)) (p1_all hL (p1_22 l)) (p1_all hL (p1_23 l)) (p1_all hL (p1_24 l)) (p1_all hL (p1_25 l)) (p1_all hL (p1_26 l)) (p1_all hL (p1_27 l)) (p1_all hL (p1_28 l)) (p1_all hL (p1_29 l)) (p1_all hL (p1_30 l)) (p1_all hL (p1_31 l)) (L + 1) 0 0 0 cS0 mS0 ad ad am H locs ls (by omega) (by omega) (Nat.zero_le _) (Nat.zero_le _) (fun _ => ⟨rfl, rfl, rfl, rfl⟩) hP hD hS hl
