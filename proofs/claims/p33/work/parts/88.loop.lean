theorem and31 (x : Int32) : ¬ ((x &&& 31).toInt < 0 ∨ 31 < (x &&& 31).toInt) := by
  obtain ⟨j, hj, e⟩ := pk_andE x (m := 31) 5 (by decide)
  rw [e, nI_toInt (by omega)]
  omega
theorem sw_cases0_31 {x : Int32} (h : ¬ (x.toInt < 0 ∨ 31 < x.toInt)) : x = 0 ∨ x = 1 ∨ x = 2 ∨ x = 3 ∨ x = 4 ∨ x = 5 ∨ x = 6 ∨ x = 7 ∨ x = 8 ∨ x = 9 ∨ x = 10 ∨ x = 11 ∨ x = 12 ∨ x = 13 ∨ x = 14 ∨ x = 15 ∨ x = 16 ∨ x = 17 ∨ x = 18 ∨ x = 19 ∨ x = 20 ∨ x = 21 ∨ x = 22 ∨ x = 23 ∨ x = 24 ∨ x = 25 ∨ x = 26 ∨ x = 27 ∨ x = 28 ∨ x = 29 ∨ x = 30 ∨ x = 31 := by
  have h1 : x.toInt = 0 ∨ x.toInt = 1 ∨ x.toInt = 2 ∨ x.toInt = 3 ∨ x.toInt = 4 ∨ x.toInt = 5 ∨ x.toInt = 6 ∨ x.toInt = 7 ∨ x.toInt = 8 ∨ x.toInt = 9 ∨ x.toInt = 10 ∨ x.toInt = 11 ∨ x.toInt = 12 ∨ x.toInt = 13 ∨ x.toInt = 14 ∨ x.toInt = 15 ∨ x.toInt = 16 ∨ x.toInt = 17 ∨ x.toInt = 18 ∨ x.toInt = 19 ∨ x.toInt = 20 ∨ x.toInt = 21 ∨ x.toInt = 22 ∨ x.toInt = 23 ∨ x.toInt = 24 ∨ x.toInt = 25 ∨ x.toInt = 26 ∨ x.toInt = 27 ∨ x.toInt = 28 ∨ x.toInt = 29 ∨ x.toInt = 30 ∨ x.toInt = 31 := by omega
  rcases h1 with h1 | h1 | h1 | h1 | h1 | h1 | h1 | h1 | h1 | h1 | h1 | h1 | h1 | h1 | h1 | h1 | h1 | h1 | h1 | h1 | h1 | h1 | h1 | h1 | h1 | h1 | h1 | h1 | h1 | h1 | h1 | h1
  · exact Or.inl (Int32.toInt_inj.mp (by rw [h1]; rfl))
  · exact Or.inr (Or.inl (Int32.toInt_inj.mp (by rw [h1]; rfl)))
  · exact Or.inr (Or.inr (Or.inl (Int32.toInt_inj.mp (by rw [h1]; rfl))))
  · exact Or.inr (Or.inr (Or.inr (Or.inl (Int32.toInt_inj.mp (by rw [h1]; rfl)))))
  · exact Or.inr (Or.inr (Or.inr (Or.inr (Or.inl (Int32.toInt_inj.mp (by rw [h1]; rfl))))))
  · exact Or.inr (Or.inr (Or.inr (Or.inr (Or.inr (Or.inl (Int32.toInt_inj.mp (by rw [h1]; rfl)))))))
  · exact Or.inr (Or.inr (Or.inr (Or.inr (Or.inr (Or.inr (Or.inl (Int32.toInt_inj.mp (by rw [h1]; rfl))))))))
  · exact Or.inr (Or.inr (Or.inr (Or.inr (Or.inr (Or.inr (Or.inr (Or.inl (Int32.toInt_inj.mp (by rw [h1]; rfl)))))))))
  · exact Or.inr (Or.inr (Or.inr (Or.inr (Or.inr (Or.inr (Or.inr (Or.inr (Or.inl (Int32.toInt_inj.mp (by rw [h1]; rfl))))))))))
  · exact Or.inr (Or.inr (Or.inr (Or.inr (Or.inr (Or.inr (Or.inr (Or.inr (Or.inr (Or.inl (Int32.toInt_inj.mp (by rw [h1]; rfl)))))))))))
  · exact Or.inr (Or.inr (Or.inr (Or.inr (Or.inr (Or.inr (Or.inr (Or.inr (Or.inr (Or.inr (Or.inl (Int32.toInt_inj.mp (by rw [h1]; rfl))))))))))))
  · exact Or.inr (Or.inr (Or.inr (Or.inr (Or.inr (Or.inr (Or.inr (Or.inr (Or.inr (Or.inr (Or.inr (Or.inl (Int32.toInt_inj.mp (by rw [h1]; rfl)))))))))))))
  · exact Or.inr (Or.inr (Or.inr (Or.inr (Or.inr (Or.inr (Or.inr (Or.inr (Or.inr (Or.inr (Or.inr (Or.inr (Or.inl (Int32.toInt_inj.mp (by rw [h1]; rfl))))))))))))))
  · exact Or.inr (Or.inr (Or.inr (Or.inr (Or.inr (Or.inr (Or.inr (Or.inr (Or.inr (Or.inr (Or.inr (Or.inr (Or.inr (Or.inl (Int32.toInt_inj.mp (by rw [h1]; rfl)))))))))))))))
  · exact Or.inr (Or.inr (Or.inr (Or.inr (Or.inr (Or.inr (Or.inr (Or.inr (Or.inr (Or.inr (Or.inr (Or.inr (Or.inr (Or.inr (Or.inl (Int32.toInt_inj.mp (by rw [h1]; rfl))))))))))))))))
  · exact Or.inr (Or.inr (Or.inr (Or.inr (Or.inr (Or.inr (Or.inr (Or.inr (Or.inr (Or.inr (Or.inr (Or.inr (Or.inr (Or.inr (Or.inr (Or.inl (Int32.toInt_inj.mp (by rw [h1]; rfl)))))))))))))))))
  · exact Or.inr (Or.inr (Or.inr (Or.inr (Or.inr (Or.inr (Or.inr (Or.inr (Or.inr (Or.inr (Or.inr (Or.inr (Or.inr (Or.inr (Or.inr (Or.inr (Or.inl (Int32.toInt_inj.mp (by rw [h1]; rfl))))))))))))))))))
  · exact Or.inr (Or.inr (Or.inr (Or.inr (Or.inr (Or.inr (Or.inr (Or.inr (Or.inr (Or.inr (Or.inr (Or.inr (Or.inr (Or.inr (Or.inr (Or.inr (Or.inr (Or.inl (Int32.toInt_inj.mp (by rw [h1]; rfl)))))))))))))))))))
  · exact Or.inr (Or.inr (Or.inr (Or.inr (Or.inr (Or.inr (Or.inr (Or.inr (Or.inr (Or.inr (Or.inr (Or.inr (Or.inr (Or.inr (Or.inr (Or.inr (Or.inr (Or.inr (Or.inl (Int32.toInt_inj.mp (by rw [h1]; rfl))))))))))))))))))))
  · exact Or.inr (Or.inr (Or.inr (Or.inr (Or.inr (Or.inr (Or.inr (Or.inr (Or.inr (Or.inr (Or.inr (Or.inr (Or.inr (Or.inr (Or.inr (Or.inr (Or.inr (Or.inr (Or.inr (Or.inl (Int32.toInt_inj.mp (by rw [h1]; rfl)))))))))))))))))))))
  · exact Or.inr (Or.inr (Or.inr (Or.inr (Or.inr (Or.inr (Or.inr (Or.inr (Or.inr (Or.inr (Or.inr (Or.inr (Or.inr (Or.inr (Or.inr (Or.inr (Or.inr (Or.inr (Or.inr (Or.inr (Or.inl (Int32.toInt_inj.mp (by rw [h1]; rfl))))))))))))))))))))))
  · exact Or.inr (Or.inr (Or.inr (Or.inr (Or.inr (Or.inr (Or.inr (Or.inr (Or.inr (Or.inr (Or.inr (Or.inr (Or.inr (Or.inr (Or.inr (Or.inr (Or.inr (Or.inr (Or.inr (Or.inr (Or.inr (Or.inl (Int32.toInt_inj.mp (by rw [h1]; rfl)))))))))))))))))))))))
  · exact Or.inr (Or.inr (Or.inr (Or.inr (Or.inr (Or.inr (Or.inr (Or.inr (Or.inr (Or.inr (Or.inr (Or.inr (Or.inr (Or.inr (Or.inr (Or.inr (Or.inr (Or.inr (Or.inr (Or.inr (Or.inr (Or.inr (Or.inl (Int32.toInt_inj.mp (by rw [h1]; rfl))))))))))))))))))))))))
  · exact Or.inr (Or.inr (Or.inr (Or.inr (Or.inr (Or.inr (Or.inr (Or.inr (Or.inr (Or.inr (Or.inr (Or.inr (Or.inr (Or.inr (Or.inr (Or.inr (Or.inr (Or.inr (Or.inr (Or.inr (Or.inr (Or.inr (Or.inr (Or.inl (Int32.toInt_inj.mp (by rw [h1]; rfl)))))))))))))))))))))))))
  · exact Or.inr (Or.inr (Or.inr (Or.inr (Or.inr (Or.inr (Or.inr (Or.inr (Or.inr (Or.inr (Or.inr (Or.inr (Or.inr (Or.inr (Or.inr (Or.inr (Or.inr (Or.inr (Or.inr (Or.inr (Or.inr (Or.inr (Or.inr (Or.inr (Or.inl (Int32.toInt_inj.mp (by rw [h1]; rfl))))))))))))))))))))))))))
  · exact Or.inr (Or.inr (Or.inr (Or.inr (Or.inr (Or.inr (Or.inr (Or.inr (Or.inr (Or.inr (Or.inr (Or.inr (Or.inr (Or.inr (Or.inr (Or.inr (Or.inr (Or.inr (Or.inr (Or.inr (Or.inr (Or.inr (Or.inr (Or.inr (Or.inr (Or.inl (Int32.toInt_inj.mp (by rw [h1]; rfl)))))))))))))))))))))))))))
  · exact Or.inr (Or.inr (Or.inr (Or.inr (Or.inr (Or.inr (Or.inr (Or.inr (Or.inr (Or.inr (Or.inr (Or.inr (Or.inr (Or.inr (Or.inr (Or.inr (Or.inr (Or.inr (Or.inr (Or.inr (Or.inr (Or.inr (Or.inr (Or.inr (Or.inr (Or.inr (Or.inl (Int32.toInt_inj.mp (by rw [h1]; rfl))))))))))))))))))))))))))))
  · exact Or.inr (Or.inr (Or.inr (Or.inr (Or.inr (Or.inr (Or.inr (Or.inr (Or.inr (Or.inr (Or.inr (Or.inr (Or.inr (Or.inr (Or.inr (Or.inr (Or.inr (Or.inr (Or.inr (Or.inr (Or.inr (Or.inr (Or.inr (Or.inr (Or.inr (Or.inr (Or.inr (Or.inl (Int32.toInt_inj.mp (by rw [h1]; rfl)))))))))))))))))))))))))))))
  · exact Or.inr (Or.inr (Or.inr (Or.inr (Or.inr (Or.inr (Or.inr (Or.inr (Or.inr (Or.inr (Or.inr (Or.inr (Or.inr (Or.inr (Or.inr (Or.inr (Or.inr (Or.inr (Or.inr (Or.inr (Or.inr (Or.inr (Or.inr (Or.inr (Or.inr (Or.inr (Or.inr (Or.inr (Or.inl (Int32.toInt_inj.mp (by rw [h1]; rfl))))))))))))))))))))))))))))))
  · exact Or.inr (Or.inr (Or.inr (Or.inr (Or.inr (Or.inr (Or.inr (Or.inr (Or.inr (Or.inr (Or.inr (Or.inr (Or.inr (Or.inr (Or.inr (Or.inr (Or.inr (Or.inr (Or.inr (Or.inr (Or.inr (Or.inr (Or.inr (Or.inr (Or.inr (Or.inr (Or.inr (Or.inr (Or.inr (Or.inl (Int32.toInt_inj.mp (by rw [h1]; rfl)))))))))))))))))))))))))))))))
  · exact Or.inr (Or.inr (Or.inr (Or.inr (Or.inr (Or.inr (Or.inr (Or.inr (Or.inr (Or.inr (Or.inr (Or.inr (Or.inr (Or.inr (Or.inr (Or.inr (Or.inr (Or.inr (Or.inr (Or.inr (Or.inr (Or.inr (Or.inr (Or.inr (Or.inr (Or.inr (Or.inr (Or.inr (Or.inr (Or.inr (Or.inl (Int32.toInt_inj.mp (by rw [h1]; rfl))))))))))))))))))))))))))))))))
  · exact Or.inr (Or.inr (Or.inr (Or.inr (Or.inr (Or.inr (Or.inr (Or.inr (Or.inr (Or.inr (Or.inr (Or.inr (Or.inr (Or.inr (Or.inr (Or.inr (Or.inr (Or.inr (Or.inr (Or.inr (Or.inr (Or.inr (Or.inr (Or.inr (Or.inr (Or.inr (Or.inr (Or.inr (Or.inr (Or.inr (Or.inr (Int32.toInt_inj.mp (by rw [h1]; rfl))))))))))))))))))))))))))))))))
theorem sub9 {L : Nat} (h : L ≤ 4608) : (nI L - 9).toInt = (L : Int) - 9 := by
  rw [Int32.toInt_sub, nI_toInt (by omega)]
  show ((L : Int) - 9).bmod (2 ^ 32) = _
  exact Int.bmod_eq_of_le (by omega) (by omega)
set_option maxHeartbeats 8000000 in
set_option maxRecDepth 100000 in
theorem law_loop {p : Program} {l : Launch} {e : Env} {s : State} {m : MethodId} {below : List Frame} {meth : Method} {c : Code} {b L : Nat} {xs : Nat → Int32} {D : va_G} {cI cZ cL cG : ClassId} (hL : L ≤ 4608) (C0 : lw_At p s m meth c b L xs) (hK : va_K D vwCl (cTy cI cZ cL cG) s) (hZ : cZw s) (Inv : Nat → Nat → Nat → CS → MS → Prop) (h0 : ∀ (j kc ks : Nat) (S : CS) (M : MS), 9 * (j + 1) ≤ L → kc ≤ 599911 → ks ≤ 6978994 → Inv j kc ks S M → lop_0 l Inv j kc ks S M) (h1 : ∀ (j kc ks : Nat) (S : CS) (M : MS), 9 * (j + 1) ≤ L → kc ≤ 599911 → ks ≤ 6978994 → Inv j kc ks S M → lop_1 l Inv j kc ks S M) (h2 : ∀ (j kc ks : Nat) (S : CS) (M : MS), 9 * (j + 1) ≤ L → kc ≤ 599911 → ks ≤ 6978994 → Inv j kc ks S M → lop_2 l Inv j kc ks S M) (h3 : ∀ (j kc ks : Nat) (S : CS) (M : MS), 9 * (j + 1) ≤ L → kc ≤ 599911 → ks ≤ 6978994 → Inv j kc ks S M → lop_3 l Inv j kc ks S M) (h4 : ∀ (j kc ks : Nat) (S : CS) (M : MS), 9 * (j + 1) ≤ L → kc ≤ 599911 → ks ≤ 6978994 → Inv j kc ks S M → lop_4 l Inv j kc ks S M) (h5 : ∀ (j kc ks : Nat) (S : CS) (M : MS), 9 * (j + 1) ≤ L → kc ≤ 599911 → ks ≤ 6978994 → Inv j kc ks S M → lop_5 l Inv j kc ks S M) (h6 : ∀ (j kc ks : Nat) (S : CS) (M : MS), 9 * (j + 1) ≤ L → kc ≤ 599911 → ks ≤ 6978994 → Inv j kc ks S M → lop_6 l Inv j kc ks S M) (h7 : ∀ (j kc ks : Nat) (S : CS) (M : MS), 9 * (j + 1) ≤ L → kc ≤ 599911 → ks ≤ 6978994 → Inv j kc ks S M → lop_7 l Inv j kc ks S M) (h8 : ∀ (j kc ks : Nat) (S : CS) (M : MS), 9 * (j + 1) ≤ L → kc ≤ 599911 → ks ≤ 6978994 → Inv j kc ks S M → lop_8 l Inv j kc ks S M) (h9 : ∀ (j kc ks : Nat) (S : CS) (M : MS), 9 * (j + 1) ≤ L → kc ≤ 599911 → ks ≤ 6978994 → Inv j kc ks S M → lop_9 l Inv j kc ks S M) (h10 : ∀ (j kc ks : Nat) (S : CS) (M : MS), 9 * (j + 1) ≤ L → kc ≤ 599911 → ks ≤ 6978994 → Inv j kc ks S M → lop_10 l Inv j kc ks S M) (h11 : ∀ (j kc ks : Nat) (S : CS) (M : MS), 9 * (j + 1) ≤ L → kc ≤ 599911 → ks ≤ 6978994 → Inv j kc ks S M → lop_11 l Inv j kc ks S M) (h12 : ∀ (j kc ks : Nat) (S : CS) (M : MS), 9 * (j + 1) ≤ L → kc ≤ 599911 → ks ≤ 6978994 → Inv j kc ks S M → lop_12 l Inv j kc ks S M) (h13 : ∀ (j kc ks : Nat) (S : CS) (M : MS), 9 * (j + 1) ≤ L → kc ≤ 599911 → ks ≤ 6978994 → Inv j kc ks S M → lop_13 l Inv j kc ks S M) (h14 : ∀ (j kc ks : Nat) (S : CS) (M : MS), 9 * (j + 1) ≤ L → kc ≤ 599911 → ks ≤ 6978994 → Inv j kc ks S M → lop_14 l Inv j kc ks S M) (h15 : ∀ (j kc ks : Nat) (S : CS) (M : MS), 9 * (j + 1) ≤ L → kc ≤ 599911 → ks ≤ 6978994 → Inv j kc ks S M → lop_15 l Inv j kc ks S M) (h16 : ∀ (j kc ks : Nat) (S : CS) (M : MS), 9 * (j + 1) ≤ L → kc ≤ 599911 → ks ≤ 6978994 → Inv j kc ks S M → lop_16 l Inv j kc ks S M) (h17 : ∀ (j kc ks : Nat) (S : CS) (M : MS), 9 * (j + 1) ≤ L → kc ≤ 599911 → ks ≤ 6978994 → Inv j kc ks S M → lop_17 l Inv j kc ks S M) (h18 : ∀ (j kc ks : Nat) (S : CS) (M : MS), 9 * (j + 1) ≤ L → kc ≤ 599911 → ks ≤ 6978994 → Inv j kc ks S M → lop_18 l Inv j kc ks S M) (h19 : ∀ (j kc ks : Nat) (S : CS) (M : MS), 9 * (j + 1) ≤ L → kc ≤ 599911 → ks ≤ 6978994 → Inv j kc ks S M → lop_19 l Inv j kc ks S M) (h20 : ∀ (j kc ks : Nat) (S : CS) (M : MS), 9 * (j + 1) ≤ L → kc ≤ 599911 → ks ≤ 6978994 → Inv j kc ks S M → lop_20 l Inv j kc ks S M) (h21 : ∀ (j kc ks : Nat) (S : CS) (M : MS), 9 * (j + 1) ≤ L → kc ≤ 599911 → ks ≤ 6978994 → Inv j kc ks S M → lop_21 l Inv j kc ks S M) (h22 : ∀ (j kc ks : Nat) (S : CS) (M : MS), 9 * (j + 1) ≤ L → kc ≤ 599911 → ks ≤ 6978994 → Inv j kc ks S M → lop_22 l Inv j kc ks S M) (h23 : ∀ (j kc ks : Nat) (S : CS) (M : MS), 9 * (j + 1) ≤ L → kc ≤ 599911 → ks ≤ 6978994 → Inv j kc ks S M → lop_23 l Inv j kc ks S M) (h24 : ∀ (j kc ks : Nat) (S : CS) (M : MS), 9 * (j + 1) ≤ L → kc ≤ 599911 → ks ≤ 6978994 → Inv j kc ks S M → lop_24 l Inv j kc ks S M) (h25 : ∀ (j kc ks : Nat) (S : CS) (M : MS), 9 * (j + 1) ≤ L → kc ≤ 599911 → ks ≤ 6978994 → Inv j kc ks S M → lop_25 l Inv j kc ks S M) (h26 : ∀ (j kc ks : Nat) (S : CS) (M : MS), 9 * (j + 1) ≤ L → kc ≤ 599911 → ks ≤ 6978994 → Inv j kc ks S M → lop_26 l Inv j kc ks S M) (h27 : ∀ (j kc ks : Nat) (S : CS) (M : MS), 9 * (j + 1) ≤ L → kc ≤ 599911 → ks ≤ 6978994 → Inv j kc ks S M → lop_27 l Inv j kc ks S M) (h28 : ∀ (j kc ks : Nat) (S : CS) (M : MS), 9 * (j + 1) ≤ L → kc ≤ 599911 → ks ≤ 6978994 → Inv j kc ks S M → lop_28 l Inv j kc ks S M) (h29 : ∀ (j kc ks : Nat) (S : CS) (M : MS), 9 * (j + 1) ≤ L → kc ≤ 599911 → ks ≤ 6978994 → Inv j kc ks S M → lop_29 l Inv j kc ks S M) (h30 : ∀ (j kc ks : Nat) (S : CS) (M : MS), 9 * (j + 1) ≤ L → kc ≤ 599911 → ks ≤ 6978994 → Inv j kc ks S M → lop_30 l Inv j kc ks S M) (h31 : ∀ (j kc ks : Nat) (S : CS) (M : MS), 9 * (j + 1) ≤ L → kc ≤ 599911 → ks ≤ 6978994 → Inv j kc ks S M → lop_31 l Inv j kc ks S M) : ∀ (n j kc ks : Nat) (S : CS) (M : MS) (ad vd am : Nat → Nat) (H : Heap) (locs : List Loc) (ls : Array Slot), L < 9 * j + 9 * n + 9 → 9 * j ≤ L → kc ≤ 599911 → ks ≤ 6978994 → Inv j kc ks S M → va_P D vwCl (cW ad vd cI cZ cL cG S ++ mW am cI cZ cL M) H → va_D (fun q : Nat => s.heap.size ≤ q) (cW ad vd cI cZ cL cG S ++ mW am cI cZ cL M) → va_S (fun q : Nat => s.heap.size ≤ q) s.heap H locs → lv_has ls 4 [(0, .ref b), (1, .ref (ad 0)), (2, .ref (am 0)), (3, .int (nI (9 * j)))] → W p l e room_1 s m #[Value.ref b] below meth c H locs (89 + kc) (323256 + ks) (lw_Z below #[Value.ref b] s) (F0 m 18 ls []) := by
  obtain ⟨hx, hb, hr, hml, hown, hts0, hX, hbl, hlocks, hgv⟩ := id C0
  have hA : ∀ q : Nat, s.heap.size ≤ q → (fun q : Nat => s.heap.size ≤ q) q := fun _ h => h
  have hbA : ¬ (fun q : Nat => s.heap.size ≤ q) b := Nat.not_le.mpr hbl
  intro n
  induction n with
  | zero =>
    intro j kc ks S M ad vd am H locs ls hn hj hkc hks hI hP hD hS hl
    refine lv_iload_n hx hb dl_18 rfl (lv_at hl 3 rfl) ?_
    refine lv_aload_n hx hb dl_19 rfl (lv_at hl 0 rfl) ?_
    refine va_slen hx hb hX hbl hbA hS dl_20 ?_
    refine lv_bipush (v := 9) hx hb dl_21 (by decide) ?_
    refine lv_isub hx hb dl_23 ?_
    refine lv_icmp_gt (tgt := 1136) hx hb dl_24 (by decide) (fun c1 => ?_) (fun c1 => ?_)
    · refine lv_iconst (v := 1) hx hb dl_1136 (by decide) ?_
      refine va_forget (fun q hq => hS.2.2 q hq) ?_
      refine W.widen (k := 600000) (n := 7302250) (by omega) (by omega) ?_
      exact lw_ret hx hb hr hlocks dl_1137
    · exact absurd (Int32.lt_iff_toInt_lt.mpr (by show (nI L - 9).toInt < _; rw [sub9 (by omega), nI_toInt (by omega)]; omega)) c1
  | succ n ih =>
    intro j kc ks S M ad vd am H locs ls hn hj hkc hks hI hP hD hS hl
    refine lv_iload_n hx hb dl_18 rfl (lv_at hl 3 rfl) ?_
    refine lv_aload_n hx hb dl_19 rfl (lv_at hl 0 rfl) ?_
    refine va_slen hx hb hX hbl hbA hS dl_20 ?_
    refine lv_bipush (v := 9) hx hb dl_21 (by decide) ?_
    refine lv_isub hx hb dl_23 ?_
    refine lv_icmp_gt (tgt := 1136) hx hb dl_24 (by decide) (fun c1 => ?_) (fun c1 => ?_)
    · refine lv_iconst (v := 1) hx hb dl_1136 (by decide) ?_
      refine va_forget (fun q hq => hS.2.2 q hq) ?_
      refine W.widen (k := 600000) (n := 7302250) (by omega) (by omega) ?_
      exact lw_ret hx hb hr hlocks dl_1137
    · have hj9 : 9 * (j + 1) ≤ L := by
        have h1 : ¬ (nI L - 9).toInt < (nI (9 * j)).toInt := fun q => c1 (Int32.lt_iff_toInt_lt.mpr q)
        rw [sub9 (by omega), nI_toInt (by omega)] at h1
        omega
      have hi : ∀ k : Nat, k < 9 → vp_in (nI (9 * j) + nI k) L := fun k hk => by
        rw [nI_add]
        exact vp_in_nI (by omega) (by omega)
      have hi0 : vp_in (nI (9 * j)) L := vp_in_nI (by omega) (by omega)
      refine lv_aload_n hx hb dl_27 rfl (lv_at hl 0 rfl) ?_
      refine lv_iload_n hx hb dl_28 rfl (lv_at hl 3 rfl) ?_
      refine va_sld hx hb hX hbl hbA hS hi0 dl_29 ?_
      refine lv_bipush (v := 31) hx hb dl_30 (by decide) ?_
      refine lv_iand hx hb dl_32 ?_
      have kk : ∀ (kc1 ks1 : Nat) (S1 : CS) (M1 : MS) (vd1 : Nat → Nat) (H1 : Heap) (locs1 : List Loc), kc1 ≤ 599911 → ks1 ≤ 6978994 → Inv (j + 1) kc1 ks1 S1 M1 → va_P D vwCl (cW ad vd1 cI cZ cL cG S1 ++ mW am cI cZ cL M1) H1 → va_D (fun q : Nat => s.heap.size ≤ q) (cW ad vd1 cI cZ cL cG S1 ++ mW am cI cZ cL M1) → va_S (fun q : Nat => s.heap.size ≤ q) s.heap H1 locs1 → W p l e room_1 s m #[Value.ref b] below meth c H1 locs1 (89 + kc1) (323256 + ks1) (lw_Z below #[Value.ref b] s) (F0 m 1130 ls []) := by
        intro kc1 ks1 S1 M1 vd1 H1 locs1 hkc1 hks1 hI1 hP1 hD1 hS1
        refine lv_iinc (v := nI (9 * (j + 1))) (lv' := [(3, .int (nI (9 * (j + 1)))), (0, .ref b), (1, .ref (ad 0)), (2, .ref (am 0))]) hx hb dl_1130 hl (k := 3) rfl (by rw [show 9 * (j + 1) = 9 * j + 9 by omega, ← nI_add]; rfl) (by decide) rfl (fun ls hl => ?_)
        refine lv_goto (tgt := 18) hx hb dl_1133 (by decide) ?_
        exact ih (j + 1) kc1 ks1 S1 M1 ad vd1 am H1 locs1 ls (by omega) hj9 hkc1 hks1 hI1 hP1 hD1 hS1 (lv_sub hl [1, 2, 3, 0] rfl)
      obtain ⟨sv, hsv⟩ : ∃ v : Int32, v = xs (nI (9 * j)).toNatClampNeg &&& 31 := ⟨_, rfl⟩
      refine W.eq (g2 := F0 m 33 ls [.int sv]) (by rw [hsv]) ?_
      have hrg : ¬ (sv.toInt < 0 ∨ 31 < sv.toInt) := by rw [hsv]; exact and31 _
      have hsw := sw_cases0_31 hrg
      clear hsv hrg ih
      rcases hsw with csw | csw | csw | csw | csw | csw | csw | csw | csw | csw | csw | csw | csw | csw | csw | csw | csw | csw | csw | csw | csw | csw | csw | csw | csw | csw | csw | csw | csw | csw | csw | csw
      · refine lv_tableIn (tgt := 176) hx hb dl_33 (by rw [csw]; decide) (by rw [csw]; decide) (by rw [csw]; rfl) (by decide) ?_
        exact lawc_0 C0 hK hZ hkc hks (h0 j kc ks S M hj9 hkc hks hI) hi hP hD hS hl kk
      · refine lv_tableIn (tgt := 209) hx hb dl_33 (by rw [csw]; decide) (by rw [csw]; decide) (by rw [csw]; rfl) (by decide) ?_
        exact lawc_1 C0 hK hZ hkc hks (h1 j kc ks S M hj9 hkc hks hI) hi hP hD hS hl kk
      · refine lv_tableIn (tgt := 242) hx hb dl_33 (by rw [csw]; decide) (by rw [csw]; decide) (by rw [csw]; rfl) (by decide) ?_
        exact lawc_2 C0 hK hZ hkc hks (h2 j kc ks S M hj9 hkc hks hI) hi hP hD hS hl kk
      · refine lv_tableIn (tgt := 311) hx hb dl_33 (by rw [csw]; decide) (by rw [csw]; decide) (by rw [csw]; rfl) (by decide) ?_
        exact lawc_3 C0 hK hZ hkc hks (h3 j kc ks S M hj9 hkc hks hI) hi hP hD hS hl kk
      · refine lv_tableIn (tgt := 324) hx hb dl_33 (by rw [csw]; decide) (by rw [csw]; decide) (by rw [csw]; rfl) (by decide) ?_
        exact lawc_4 C0 hK hZ hkc hks (h4 j kc ks S M hj9 hkc hks hI) hi hP hD hS hl kk
      · refine lv_tableIn (tgt := 357) hx hb dl_33 (by rw [csw]; decide) (by rw [csw]; decide) (by rw [csw]; rfl) (by decide) ?_
        exact lawc_5 C0 hK hZ hkc hks (h5 j kc ks S M hj9 hkc hks hI) hi hP hD hS hl kk
      · refine lv_tableIn (tgt := 406) hx hb dl_33 (by rw [csw]; decide) (by rw [csw]; decide) (by rw [csw]; rfl) (by decide) ?_
        exact lawc_6 C0 hK hZ hkc hks (h6 j kc ks S M hj9 hkc hks hI) hi hP hD hS hl kk
      · refine lv_tableIn (tgt := 445) hx hb dl_33 (by rw [csw]; decide) (by rw [csw]; decide) (by rw [csw]; rfl) (by decide) ?_
        exact lawc_7 C0 hK hZ hkc hks (h7 j kc ks S M hj9 hkc hks hI) hi hP hD hS hl kk
      · refine lv_tableIn (tgt := 468) hx hb dl_33 (by rw [csw]; decide) (by rw [csw]; decide) (by rw [csw]; rfl) (by decide) ?_
        exact lawc_8 C0 hK hZ hkc hks (h8 j kc ks S M hj9 hkc hks hI) hi hP hD hS hl kk
      · refine lv_tableIn (tgt := 501) hx hb dl_33 (by rw [csw]; decide) (by rw [csw]; decide) (by rw [csw]; rfl) (by decide) ?_
        exact lawc_9 C0 hK hZ hkc hks (h9 j kc ks S M hj9 hkc hks hI) hi hP hD hS hl kk
      · refine lv_tableIn (tgt := 534) hx hb dl_33 (by rw [csw]; decide) (by rw [csw]; decide) (by rw [csw]; rfl) (by decide) ?_
        exact lawc_10 C0 hK hZ hkc hks (h10 j kc ks S M hj9 hkc hks hI) hi hP hD hS hl kk
      · refine lv_tableIn (tgt := 567) hx hb dl_33 (by rw [csw]; decide) (by rw [csw]; decide) (by rw [csw]; rfl) (by decide) ?_
        exact lawc_11 C0 hK hZ hkc hks (h11 j kc ks S M hj9 hkc hks hI) hi hP hD hS hl kk
      · refine lv_tableIn (tgt := 580) hx hb dl_33 (by rw [csw]; decide) (by rw [csw]; decide) (by rw [csw]; rfl) (by decide) ?_
        exact lawc_12 C0 hK hZ hkc hks (h12 j kc ks S M hj9 hkc hks hI) hi hP hD hS hl kk
      · refine lv_tableIn (tgt := 593) hx hb dl_33 (by rw [csw]; decide) (by rw [csw]; decide) (by rw [csw]; rfl) (by decide) ?_
        exact lawc_13 C0 hK hZ hkc hks (h13 j kc ks S M hj9 hkc hks hI) hi hP hD hS hl kk
      · refine lv_tableIn (tgt := 606) hx hb dl_33 (by rw [csw]; decide) (by rw [csw]; decide) (by rw [csw]; rfl) (by decide) ?_
        exact lawc_14 C0 hK hZ hkc hks (h14 j kc ks S M hj9 hkc hks hI) hi hP hD hS hl kk
      · refine lv_tableIn (tgt := 619) hx hb dl_33 (by rw [csw]; decide) (by rw [csw]; decide) (by rw [csw]; rfl) (by decide) ?_
        exact lawc_15 C0 hK hZ hkc hks (h15 j kc ks S M hj9 hkc hks hI) hi hP hD hS hl kk
      · refine lv_tableIn (tgt := 632) hx hb dl_33 (by rw [csw]; decide) (by rw [csw]; decide) (by rw [csw]; rfl) (by decide) ?_
        exact lawc_16 C0 hK hZ hkc hks (h16 j kc ks S M hj9 hkc hks hI) hi hP hD hS hl kk
      · refine lv_tableIn (tgt := 655) hx hb dl_33 (by rw [csw]; decide) (by rw [csw]; decide) (by rw [csw]; rfl) (by decide) ?_
        exact lawc_17 C0 hK hZ hkc hks (h17 j kc ks S M hj9 hkc hks hI) hi hP hD hS hl kk
      · refine lv_tableIn (tgt := 668) hx hb dl_33 (by rw [csw]; decide) (by rw [csw]; decide) (by rw [csw]; rfl) (by decide) ?_
        exact lawc_18 C0 hK hZ hkc hks (h18 j kc ks S M hj9 hkc hks hI) hi hP hD hS hl kk
      · refine lv_tableIn (tgt := 681) hx hb dl_33 (by rw [csw]; decide) (by rw [csw]; decide) (by rw [csw]; rfl) (by decide) ?_
        exact lawc_19 C0 hK hZ hkc hks (h19 j kc ks S M hj9 hkc hks hI) hi hP hD hS hl kk
      · refine lv_tableIn (tgt := 694) hx hb dl_33 (by rw [csw]; decide) (by rw [csw]; decide) (by rw [csw]; rfl) (by decide) ?_
        exact lawc_20 C0 hK hZ hkc hks (h20 j kc ks S M hj9 hkc hks hI) hi hP hD hS hl kk
      · refine lv_tableIn (tgt := 707) hx hb dl_33 (by rw [csw]; decide) (by rw [csw]; decide) (by rw [csw]; rfl) (by decide) ?_
        exact lawc_21 C0 hK hZ hkc hks (h21 j kc ks S M hj9 hkc hks hI) hi hP hD hS hl kk
      · refine lv_tableIn (tgt := 730) hx hb dl_33 (by rw [csw]; decide) (by rw [csw]; decide) (by rw [csw]; rfl) (by decide) ?_
        exact lawc_22 C0 hK hZ hkc hks (h22 j kc ks S M hj9 hkc hks hI) hi hP hD hS hl kk
      · refine lv_tableIn (tgt := 793) hx hb dl_33 (by rw [csw]; decide) (by rw [csw]; decide) (by rw [csw]; rfl) (by decide) ?_
        exact lawc_23 C0 hK hZ hkc hks (h23 j kc ks S M hj9 hkc hks hI) hi hP hD hS hl kk
      · refine lv_tableIn (tgt := 806) hx hb dl_33 (by rw [csw]; decide) (by rw [csw]; decide) (by rw [csw]; rfl) (by decide) ?_
        exact lawc_24 C0 hK hZ hkc hks (h24 j kc ks S M hj9 hkc hks hI) hi hP hD hS hl kk
      · refine lv_tableIn (tgt := 819) hx hb dl_33 (by rw [csw]; decide) (by rw [csw]; decide) (by rw [csw]; rfl) (by decide) ?_
        exact lawc_25 C0 hK hZ hkc hks (h25 j kc ks S M hj9 hkc hks hI) hi hP hD hS hl kk
      · refine lv_tableIn (tgt := 862) hx hb dl_33 (by rw [csw]; decide) (by rw [csw]; decide) (by rw [csw]; rfl) (by decide) ?_
        exact lawc_26 C0 hK hZ hkc hks (h26 j kc ks S M hj9 hkc hks hI) hi hP hD hS hl kk
      · refine lv_tableIn (tgt := 961) hx hb dl_33 (by rw [csw]; decide) (by rw [csw]; decide) (by rw [csw]; rfl) (by decide) ?_
        exact lawc_27 C0 hK hZ hkc hks (h27 j kc ks S M hj9 hkc hks hI) hi hP hD hS hl kk
      · refine lv_tableIn (tgt := 994) hx hb dl_33 (by rw [csw]; decide) (by rw [csw]; decide) (by rw [csw]; rfl) (by decide) ?_
        exact lawc_28 C0 hK hZ hkc hks (h28 j kc ks S M hj9 hkc hks hI) hi hP hD hS hl kk
      · refine lv_tableIn (tgt := 1081) hx hb dl_33 (by rw [csw]; decide) (by rw [csw]; decide) (by rw [csw]; rfl) (by decide) ?_
        exact lawc_29 C0 hK hZ hkc hks (h29 j kc ks S M hj9 hkc hks hI) hi hP hD hS hl kk
      · refine lv_tableIn (tgt := 1094) hx hb dl_33 (by rw [csw]; decide) (by rw [csw]; decide) (by rw [csw]; rfl) (by decide) ?_
        exact lawc_30 C0 hK hZ hkc hks (h30 j kc ks S M hj9 hkc hks hI) hi hP hD hS hl kk
      · refine lv_tableIn (tgt := 1107) hx hb dl_33 (by rw [csw]; decide) (by rw [csw]; decide) (by rw [csw]; rfl) (by decide) ?_
        exact lawc_31 C0 hK hZ hkc hks (h31 j kc ks S M hj9 hkc hks hI) hi hP hD hS hl kk
