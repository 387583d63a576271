-- the calls, one by one
theorem v_0 (l : Launch) : ∀ (j kc ks : Nat) (S : CS) (M : MS), 9 * (j + 1) ≤ 4608 → Iv j kc ks S M → lop_0 l Iv j kc ks S M := by
  intro j kc ks S M hj hI
  unfold lop_0
  intro a1 a2
  obtain ⟨n, P, kd, ct, sc, sm, x, y, hR⟩ := id hI.1
  exact cZ_imp (o_yard l hR a1 a2) (fun r1 S1 h1 => mZ_imp h1 (fun r2 M1 h2 => (hI.r h2).2))
theorem v_1 (l : Launch) : ∀ (j kc ks : Nat) (S : CS) (M : MS), 9 * (j + 1) ≤ 4608 → Iv j kc ks S M → lop_1 l Iv j kc ks S M := by
  intro j kc ks S M hj hI
  unfold lop_1
  intro a1 a2
  obtain ⟨n, P, kd, ct, sc, sm, x, y, hR⟩ := id hI.1
  exact cZ_imp (o_kind l hR a1 a2) (fun r1 S1 h1 => mZ_imp h1 (fun r2 M1 h2 => (hI.r h2).2))
theorem v_2 (l : Launch) : ∀ (j kc ks : Nat) (S : CS) (M : MS), 9 * (j + 1) ≤ 4608 → Iv j kc ks S M → lop_2 l Iv j kc ks S M := by
  intro j kc ks S M hj hI
  unfold lop_2
  intro a1 a2 a3 a4
  obtain ⟨n, P, kd, ct, sc, sm, x, y, hR⟩ := id hI.1
  exact cZ_imp (o_lane l hR a1 a2 a3 a4) (fun r1 S1 h1 => mZ_imp h1 (fun r2 M1 h2 => (hI.r h2).2))
theorem v_3 (l : Launch) : ∀ (j kc ks : Nat) (S : CS) (M : MS), 9 * (j + 1) ≤ 4608 → Iv j kc ks S M → lop_3 l Iv j kc ks S M := by
  intro j kc ks S M hj hI
  unfold lop_3
  obtain ⟨n, P, kd, ct, sc, sm, x, y, hR⟩ := id hI.1
  exact cI_imp (o_lanes l hR) (fun r1 S1 h1 => mI_imp h1 (fun r2 M1 h2 => (hI.r h2).2))
theorem v_4 (l : Launch) : ∀ (j kc ks : Nat) (S : CS) (M : MS), 9 * (j + 1) ≤ 4608 → Iv j kc ks S M → lop_4 l Iv j kc ks S M := by
  intro j kc ks S M hj hI
  unfold lop_4
  intro a1 a2
  obtain ⟨n, P, kd, ct, sc, sm, x, y, hR⟩ := id hI.1
  exact cI_imp (o_cost l hR a1 a2) (fun r1 S1 h1 => mI_imp h1 (fun r2 M1 h2 => (hI.r h2).2))
theorem v_5 (l : Launch) : ∀ (j kc ks : Nat) (S : CS) (M : MS), 9 * (j + 1) ≤ 4608 → Iv j kc ks S M → lop_5 l Iv j kc ks S M := by
  intro j kc ks S M hj hI
  unfold lop_5
  intro a1 a2
  obtain ⟨n, P, kd, ct, sc, sm, x, y, hR⟩ := id hI.1
  exact cZ_imp (o_stand l hR a1 a2) (fun r1 S1 h1 => mZ_imp h1 (fun r2 M1 h2 => (hI.r h2).2))
theorem v_6 (l : Launch) : ∀ (j kc ks : Nat) (S : CS) (M : MS), 9 * (j + 1) ≤ 4608 → Iv j kc ks S M → lop_6 l Iv j kc ks S M := by
  intro j kc ks S M hj hI
  unfold lop_6
  intro a1
  obtain ⟨n, P, kd, ct, sc, sm, x, y, hR⟩ := id hI.1
  exact cI_imp (o_number l hR a1) (fun r1 S1 h1 => mI_imp h1 (fun r2 M1 h2 => (hI.r h2).2))
theorem v_7 (l : Launch) : ∀ (j kc ks : Nat) (S : CS) (M : MS), 9 * (j + 1) ≤ 4608 → Iv j kc ks S M → lop_7 l Iv j kc ks S M := by
  intro j kc ks S M hj hI
  unfold lop_7
  intro a1
  obtain ⟨n, P, kd, ct, sc, sm, x, y, hR⟩ := id hI.1
  exact cI_imp (o_peg l hR a1) (fun r1 S1 h1 => mI_imp h1 (fun r2 M1 h2 => (hI.r h2).2))
theorem v_8 (l : Launch) : ∀ (j kc ks : Nat) (S : CS) (M : MS), 9 * (j + 1) ≤ 4608 → Iv j kc ks S M → lop_8 l Iv j kc ks S M := by
  intro j kc ks S M hj hI
  unfold lop_8
  intro a1 a2
  obtain ⟨n, P, kd, ct, sc, sm, x, y, hR⟩ := id hI.1
  exact cI_imp (o_disc l hR a1 a2) (fun r1 S1 h1 => mI_imp h1 (fun r2 M1 h2 => (hI.r h2).2))
theorem v_9 (l : Launch) : ∀ (j kc ks : Nat) (S : CS) (M : MS), 9 * (j + 1) ≤ 4608 → Iv j kc ks S M → lop_9 l Iv j kc ks S M := by
  intro j kc ks S M hj hI
  unfold lop_9
  intro a1 a2
  obtain ⟨n, P, kd, ct, sc, sm, x, y, hR⟩ := id hI.1
  exact cI_imp (o_why l hR a1 a2) (fun r1 S1 h1 => mI_imp h1 (fun r2 M1 h2 => (hI.r h2).2))
theorem v_10 (l : Launch) : ∀ (j kc ks : Nat) (S : CS) (M : MS), 9 * (j + 1) ≤ 4608 → Iv j kc ks S M → lop_10 l Iv j kc ks S M := by
  intro j kc ks S M hj hI
  unfold lop_10
  intro a1 a2
  obtain ⟨n, P, kd, ct, sc, sm, x, y, hR⟩ := id hI.1
  exact cI_imp (o_move l hR a1 a2) (fun r1 S1 h1 => mI_imp h1 (fun r2 M1 h2 => (hI.r h2).2))
theorem v_11 (l : Launch) : ∀ (j kc ks : Nat) (S : CS) (M : MS), 9 * (j + 1) ≤ 4608 → Iv j kc ks S M → lop_11 l Iv j kc ks S M := by
  intro j kc ks S M hj hI
  unfold lop_11
  obtain ⟨n, P, kd, ct, sc, sm, x, y, hR⟩ := id hI.1
  exact cI_imp (o_undo l hR) (fun r1 S1 h1 => mI_imp h1 (fun r2 M1 h2 => (hI.r h2).2))
theorem v_12 (l : Launch) : ∀ (j kc ks : Nat) (S : CS) (M : MS), 9 * (j + 1) ≤ 4608 → Iv j kc ks S M → lop_12 l Iv j kc ks S M := by
  intro j kc ks S M hj hI
  unfold lop_12
  obtain ⟨n, P, kd, ct, sc, sm, x, y, hR⟩ := id hI.1
  exact cI_imp (o_redo l hR) (fun r1 S1 h1 => mI_imp h1 (fun r2 M1 h2 => (hI.r h2).2))
theorem v_13 (l : Launch) : ∀ (j kc ks : Nat) (S : CS) (M : MS), 9 * (j + 1) ≤ 4608 → Iv j kc ks S M → lop_13 l Iv j kc ks S M := by
  intro j kc ks S M hj hI
  unfold lop_13
  obtain ⟨n, P, kd, ct, sc, sm, x, y, hR⟩ := id hI.1
  exact cI_imp (o_moves l hR) (fun r1 S1 h1 => mI_imp h1 (fun r2 M1 h2 => (hI.r h2).2))
theorem v_14 (l : Launch) : ∀ (j kc ks : Nat) (S : CS) (M : MS), 9 * (j + 1) ≤ 4608 → Iv j kc ks S M → lop_14 l Iv j kc ks S M := by
  intro j kc ks S M hj hI
  unfold lop_14
  obtain ⟨n, P, kd, ct, sc, sm, x, y, hR⟩ := id hI.1
  obtain ⟨mc, ms, h1, h2, h3⟩ := o_fewest l hR
  have hr := hI.room (by omega) h1 h2
  exact ⟨mc, ms, hr.1, hr.2, cI_imp h3 (fun r1 S1 h4 => mI_imp h4 (fun r2 M1 h5 => (hI.a h5).2))⟩
theorem v_15 (l : Launch) : ∀ (j kc ks : Nat) (S : CS) (M : MS), 9 * (j + 1) ≤ 4608 → Iv j kc ks S M → lop_15 l Iv j kc ks S M := by
  intro j kc ks S M hj hI
  unfold lop_15
  obtain ⟨n, P, kd, ct, sc, sm, x, y, hR⟩ := id hI.1
  obtain ⟨mc, ms, h1, h2, h3⟩ := o_plan l hR
  have hr := hI.room (by omega) h1 h2
  exact ⟨mc, ms, hr.1, hr.2, cI_imp h3 (fun r1 S1 h4 => mI_imp h4 (fun r2 M1 h5 => (hI.a h5).2))⟩
theorem v_16 (l : Launch) : ∀ (j kc ks : Nat) (S : CS) (M : MS), 9 * (j + 1) ≤ 4608 → Iv j kc ks S M → lop_16 l Iv j kc ks S M := by
  intro j kc ks S M hj hI
  unfold lop_16
  intro a1
  obtain ⟨n, P, kd, ct, sc, sm, x, y, hR⟩ := id hI.1
  exact cI_imp (o_planned l hR a1) (fun r1 S1 h1 => mI_imp h1 (fun r2 M1 h2 => (hI.r h2).2))
theorem v_17 (l : Launch) : ∀ (j kc ks : Nat) (S : CS) (M : MS), 9 * (j + 1) ≤ 4608 → Iv j kc ks S M → lop_17 l Iv j kc ks S M := by
  intro j kc ks S M hj hI
  unfold lop_17
  obtain ⟨n, P, kd, ct, sc, sm, x, y, hR⟩ := id hI.1
  obtain ⟨mc, ms, h1, h2, h3⟩ := o_ways l hR
  have hr := hI.room (by omega) h1 h2
  exact ⟨mc, ms, hr.1, hr.2, cJ_imp h3 (fun r1 S1 h4 => mJ_imp h4 (fun r2 M1 h5 => (hI.a h5).2))⟩
theorem v_18 (l : Launch) : ∀ (j kc ks : Nat) (S : CS) (M : MS), 9 * (j + 1) ≤ 4608 → Iv j kc ks S M → lop_18 l Iv j kc ks S M := by
  intro j kc ks S M hj hI
  unfold lop_18
  obtain ⟨n, P, kd, ct, sc, sm, x, y, hR⟩ := id hI.1
  obtain ⟨mc, ms, h1, h2, h3⟩ := o_reach l hR
  have hr := hI.room (by omega) h1 h2
  exact ⟨mc, ms, hr.1, hr.2, cI_imp h3 (fun r1 S1 h4 => mI_imp h4 (fun r2 M1 h5 => (hI.a h5).2))⟩
theorem v_19 (l : Launch) : ∀ (j kc ks : Nat) (S : CS) (M : MS), 9 * (j + 1) ≤ 4608 → Iv j kc ks S M → lop_19 l Iv j kc ks S M := by
  intro j kc ks S M hj hI
  unfold lop_19
  obtain ⟨n, P, kd, ct, sc, sm, x, y, hR⟩ := id hI.1
  obtain ⟨mc, ms, h1, h2, h3⟩ := o_far l hR
  have hr := hI.room (by omega) h1 h2
  exact ⟨mc, ms, hr.1, hr.2, cI_imp h3 (fun r1 S1 h4 => mI_imp h4 (fun r2 M1 h5 => (hI.a h5).2))⟩
theorem v_20 (l : Launch) : ∀ (j kc ks : Nat) (S : CS) (M : MS), 9 * (j + 1) ≤ 4608 → Iv j kc ks S M → lop_20 l Iv j kc ks S M := by
  intro j kc ks S M hj hI
  unfold lop_20
  obtain ⟨n, P, kd, ct, sc, sm, x, y, hR⟩ := id hI.1
  obtain ⟨mc, ms, h1, h2, h3⟩ := o_farthest l hR
  have hr := hI.room (by omega) h1 h2
  exact ⟨mc, ms, hr.1, hr.2, cI_imp h3 (fun r1 S1 h4 => mI_imp h4 (fun r2 M1 h5 => (hI.a h5).2))⟩
theorem v_21 (l : Launch) : ∀ (j kc ks : Nat) (S : CS) (M : MS), 9 * (j + 1) ≤ 4608 → Iv j kc ks S M → lop_21 l Iv j kc ks S M := by
  intro j kc ks S M hj hI
  unfold lop_21
  intro a1
  obtain ⟨n, P, kd, ct, sc, sm, x, y, hR⟩ := id hI.1
  obtain ⟨mc, ms, h1, h2, h3⟩ := o_joinedW l hR a1
  have hr := hI.room (by omega) h1 h2
  exact ⟨mc, ms, hr.1, hr.2, cI_imp h3 (fun r1 S1 h4 => mI_imp h4 (fun r2 M1 h5 => (hI.a (r1 := ()) (r2 := ()) ⟨rfl, h5⟩).2))⟩
theorem v_22 (l : Launch) : ∀ (j kc ks : Nat) (S : CS) (M : MS), 9 * (j + 1) ≤ 4608 → Iv j kc ks S M → lop_22 l Iv j kc ks S M := by
  intro j kc ks S M hj hI
  unfold lop_22
  intro a1 a2 a3 a4 a5
  obtain ⟨n, P, kd, ct, sc, sm, x, y, hR⟩ := id hI.1
  obtain ⟨mc, ms, h1, h2, h3⟩ := o_rename l hR a1 a2 a3 a4 a5
  have hr := hI.room (by omega) h1 h2
  exact ⟨mc, ms, hr.1, hr.2, cZ_imp h3 (fun r1 S1 h4 => mZ_imp h4 (fun r2 M1 h5 => (hI.a h5).2))⟩
theorem v_23 (l : Launch) : ∀ (j kc ks : Nat) (S : CS) (M : MS), 9 * (j + 1) ≤ 4608 → Iv j kc ks S M → lop_23 l Iv j kc ks S M := by
  intro j kc ks S M hj hI
  unfold lop_23
  obtain ⟨n, P, kd, ct, sc, sm, x, y, hR⟩ := id hI.1
  exact cI_imp (o_about l hR) (fun r1 S1 h1 => mI_imp h1 (fun r2 M1 h2 => (hI.r h2).2))
theorem v_24 (l : Launch) : ∀ (j kc ks : Nat) (S : CS) (M : MS), 9 * (j + 1) ≤ 4608 → Iv j kc ks S M → lop_24 l Iv j kc ks S M := by
  intro j kc ks S M hj hI
  unfold lop_24
  obtain ⟨n, P, kd, ct, sc, sm, x, y, hR⟩ := id hI.1
  exact cI_imp (o_scheme l hR) (fun r1 S1 h1 => mI_imp h1 (fun r2 M1 h2 => (hI.r h2).2))
theorem v_25 (l : Launch) : ∀ (j kc ks : Nat) (S : CS) (M : MS), 9 * (j + 1) ≤ 4608 → Iv j kc ks S M → lop_25 l Iv j kc ks S M := by
  intro j kc ks S M hj hI
  unfold lop_25
  intro a1 a2 a3
  obtain ⟨n, P, kd, ct, sc, sm, x, y, hR⟩ := id hI.1
  obtain ⟨mc, ms, h1, h2, h3⟩ := o_single l hR a1 a2 a3
  have hr := hI.room (by omega) h1 h2
  exact ⟨mc, ms, hr.1, hr.2, cI_imp h3 (fun r1 S1 h4 => mI_imp h4 (fun r2 M1 h5 => (hI.a h5).2))⟩
theorem v_26 (l : Launch) : ∀ (j kc ks : Nat) (S : CS) (M : MS), 9 * (j + 1) ≤ 4608 → Iv j kc ks S M → lop_26 l Iv j kc ks S M := by
  intro j kc ks S M hj hI
  unfold lop_26
  intro a1 a2 a3 a4 a5 a6 a7 a8
  obtain ⟨n, P, kd, ct, sc, sm, x, y, hR⟩ := id hI.1
  obtain ⟨mc, ms, h1, h2, h3⟩ := o_call l hR a1 a2 a3 a4 a5 a6 a7 a8
  have hr := hI.room (by omega) h1 h2
  exact ⟨mc, ms, hr.1, hr.2, cI_imp h3 (fun r1 S1 h4 => mI_imp h4 (fun r2 M1 h5 => (hI.a h5).2))⟩
theorem v_27 (l : Launch) : ∀ (j kc ks : Nat) (S : CS) (M : MS), 9 * (j + 1) ≤ 4608 → Iv j kc ks S M → lop_27 l Iv j kc ks S M := by
  intro j kc ks S M hj hI
  unfold lop_27
  intro a1 a2
  obtain ⟨n, P, kd, ct, sc, sm, x, y, hR⟩ := id hI.1
  exact cJ_imp (o_count l hR a1 a2) (fun r1 S1 h1 => mJ_imp h1 (fun r2 M1 h2 => (hI.r h2).2))
theorem v_28 (l : Launch) : ∀ (j kc ks : Nat) (S : CS) (M : MS), 9 * (j + 1) ≤ 4608 → Iv j kc ks S M → lop_28 l Iv j kc ks S M := by
  intro j kc ks S M hj hI
  unfold lop_28
  intro a1 a2 a3 a4 a5 a6 a7
  obtain ⟨n, P, kd, ct, sc, sm, x, y, hR⟩ := id hI.1
  obtain ⟨mc, ms, h1, h2, h3⟩ := o_tried l hR a1 a2 a3 a4 a5 a6 a7
  have hr := hI.room (by omega) h1 h2
  exact ⟨mc, ms, hr.1, hr.2, cI_imp h3 (fun r1 S1 h4 => mI_imp h4 (fun r2 M1 h5 => (hI.a h5).2))⟩
theorem v_29 (l : Launch) : ∀ (j kc ks : Nat) (S : CS) (M : MS), 9 * (j + 1) ≤ 4608 → Iv j kc ks S M → lop_29 l Iv j kc ks S M := by
  intro j kc ks S M hj hI
  unfold lop_29
  obtain ⟨n, P, kd, ct, sc, sm, x, y, hR⟩ := id hI.1
  exact cI_imp (o_failed l hR) (fun r1 S1 h1 => mI_imp h1 (fun r2 M1 h2 => (hI.r (r1 := ()) (r2 := ()) ⟨rfl, h2.1, h2.2⟩).2))
theorem v_30 (l : Launch) : ∀ (j kc ks : Nat) (S : CS) (M : MS), 9 * (j + 1) ≤ 4608 → Iv j kc ks S M → lop_30 l Iv j kc ks S M := by
  intro j kc ks S M hj hI
  unfold lop_30
  obtain ⟨n, P, kd, ct, sc, sm, x, y, hR⟩ := id hI.1
  exact cI_imp (o_trouble l hR) (fun r1 S1 h1 => mI_imp h1 (fun r2 M1 h2 => (hI.r h2).2))
theorem v_31 (l : Launch) : ∀ (j kc ks : Nat) (S : CS) (M : MS), 9 * (j + 1) ≤ 4608 → Iv j kc ks S M → lop_31 l Iv j kc ks S M := by
  intro j kc ks S M hj hI
  unfold lop_31
  intro a1
  obtain ⟨n, P, kd, ct, sc, sm, x, y, hR⟩ := id hI.1
  exact cI_imp (o_size l hR a1) (fun r1 S1 h1 => mI_imp h1 (fun r2 M1 h2 => (hI.r h2)))
theorem whole_start {p : Program} {e : Env} {s : State} {m : MethodId} {below : List Frame} {meth : Method} {c : Code} (l : Launch) {b L : Nat} {xs : Nat → Int32} (hL : L ≤ 4608) (C0 : lw_At p s m meth c b L xs) : W p l e room_1 s m #[Value.ref b] below meth c s.heap [] 0 0 (lw_Z below #[Value.ref b] s) (entryFrame m ([Value.ref b] : List Value).toArray 4) := by
  refine law_open l C0 (fun D cI cZ cL cG ad am H locs ls hK hZ hP hD hS hl => ?_)
  exact law_loop hL C0 hK hZ Iv (fun j kc ks S M hj _ _ hI => v_0 l j kc ks S M (by omega) hI) (fun j kc ks S M hj _ _ hI => v_1 l j kc ks S M (by omega) hI) (fun j kc ks S M hj _ _ hI => v_2 l j kc ks S M (by omega) hI) (fun j kc ks S M hj _ _ hI => v_3 l j kc ks S M (by omega) hI) (fun j kc ks S M hj _ _ hI => v_4 l j kc ks S M (by omega) hI) (fun j kc ks S M hj _ _ hI => v_5 l j kc ks S M (by omega) hI) (fun j kc ks S M hj _ _ hI => v_6 l j kc ks S M (by omega) hI) (fun j kc ks S M hj _ _ hI => v_7 l j kc ks S M (by omega) hI) (fun j kc ks S M hj _ _ hI => v_8 l j kc ks S M (by omega) hI) (fun j kc ks S M hj _ _ hI => v_9 l j kc ks S M (by omega) hI) (fun j kc ks S M hj _ _ hI => v_10 l j kc ks S M (by omega) hI) (fun j kc ks S M hj _ _ hI => v_11 l j kc ks S M (by omega) hI) (fun j kc ks S M hj _ _ hI => v_12 l j kc ks S M (by omega) hI) (fun j kc ks S M hj _ _ hI => v_13 l j kc ks S M (by omega) hI) (fun j kc ks S M hj _ _ hI => v_14 l j kc ks S M (by omega) hI) (fun j kc ks S M hj _ _ hI => v_15 l j kc ks S M (by omega) hI) (fun j kc ks S M hj _ _ hI => v_16 l j kc ks S M (by omega) hI) (fun j kc ks S M hj _ _ hI => v_17 l j kc ks S M (by omega) hI) (fun j kc ks S M hj _ _ hI => v_18 l j kc ks S M (by omega) hI) (fun j kc ks S M hj _ _ hI => v_19 l j kc ks S M (by omega) hI) (fun j kc ks S M hj _ _ hI => v_20 l j kc ks S M (by omega) hI) (fun j kc ks S M hj _ _ hI => v_21 l j kc ks S M (by omega) hI) (fun j kc ks S M hj _ _ hI => v_22 l j kc ks S M (by omega) hI) (fun j kc ks S M hj _ _ hI => v_23 l j kc ks S M (by omega) hI) (fun j kc ks S M hj _ _ hI => v_24 l j kc ks S M (by omega) hI) (fun j kc ks S M hj _ _ hI => v_25 l j kc ks S M (by omega) hI) (fun j kc ks S M hj _ _ hI => v_26 l j kc ks S M (by omega) hI) (fun j kc ks S M hj _ _ hI => v_27 l j kc ks S M (by omega) hI) (fun j kc ks S M hj _ _ hI => v_28 l j kc ks S M (by omega) hI) (fun j kc ks S M hj _ _ hI => v_29 l j kc ks S M (by omega) hI) (fun j kc ks S M hj _ _ hI => v_30 l j kc ks S M (by omega) hI) (fun j kc ks S M hj _ _ hI => v_31 l j kc ks S M (by omega) hI) (L + 1) 0 0 0 cS0 mS0 ad ad am H locs ls (by omega) (by omega) (Nat.zero_le _) (Nat.zero_le _) Iv0 hP hD hS hl
