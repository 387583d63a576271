section
-- the room that the searches take: the sizes of yards
def Vp : List Nat := [2, 4, 8, 16, 32, 64, 128, 3, 9, 27, 81, 243, 729, 2187, 4, 16, 64, 256, 1024, 4096, 16384, 5, 25, 125, 625, 3125, 15625, 78125]
def CT (L : Nat) : Nat := (Vp.filter (fun v => decide (v ≤ L))).length
def TS (L : Nat) : Nat := (Vp.filter (fun v => decide (v ≤ L))).foldr (· + ·) 0
theorem Vp_has : ∀ P, P < 4 → ∀ n, n < 7 → Vp.contains ((P + 2) ^ (n + 1)) = true := by decide
theorem Vp_mem (P : Nat) (h1 : P < 6) (n : Nat) (h2 : n < 8) (h3 : 2 ≤ P) (h4 : 1 ≤ n) : P ^ n ∈ Vp := by
  have := Vp_has (P - 2) (by omega) (n - 1) (by omega)
  rw [Nat.sub_add_cancel h3, Nat.sub_add_cancel h4] at this
  exact List.contains_iff_mem.mp this
theorem flt_mono {L L' : Nat} (h : L ≤ L') : ∀ V : List Nat, (V.filter (fun v => decide (v ≤ L))).length ≤ (V.filter (fun v => decide (v ≤ L'))).length ∧ (V.filter (fun v => decide (v ≤ L))).foldr (· + ·) 0 ≤ (V.filter (fun v => decide (v ≤ L'))).foldr (· + ·) 0 := by
  intro V
  induction V with
  | nil => exact ⟨Nat.le_refl _, Nat.le_refl _⟩
  | cons a V ih =>
    rw [List.filter_cons, List.filter_cons]
    by_cases e : a ≤ L
    · have e2 : a ≤ L' := by omega
      simp only [decide_eq_true e, decide_eq_true e2, if_true, List.length_cons, List.foldr_cons]
      omega
    · by_cases e2 : a ≤ L'
      · simp only [decide_eq_false e, decide_eq_true e2, if_true, List.length_cons, List.foldr_cons]
        simp only [Bool.false_eq_true, if_false]
        omega
      · simp only [decide_eq_false e, decide_eq_false e2, Bool.false_eq_true, if_false]
        exact ih
theorem flt_step {L v : Nat} (h : L < v) : ∀ V : List Nat, v ∈ V → (V.filter (fun w => decide (w ≤ L))).length + 1 ≤ (V.filter (fun w => decide (w ≤ v))).length ∧ (V.filter (fun w => decide (w ≤ L))).foldr (· + ·) 0 + v ≤ (V.filter (fun w => decide (w ≤ v))).foldr (· + ·) 0 := by
  intro V
  induction V with
  | nil => intro q; cases q
  | cons a V ih =>
    intro hv
    rw [List.filter_cons, List.filter_cons]
    by_cases e : a = v
    · subst e
      have m := flt_mono (show L ≤ a by omega) V
      have e1 : ¬ a ≤ L := by omega
      simp only [decide_eq_false e1, decide_eq_true (Nat.le_refl a), if_true, List.length_cons, List.foldr_cons, Bool.false_eq_true, if_false]
      omega
    · have hv : v ∈ V := by
        rcases List.mem_cons.mp hv with q | q
        · exact absurd q.symm e
        · exact q
      have m := ih hv
      by_cases e1 : a ≤ L
      · have e2 : a ≤ v := by omega
        simp only [decide_eq_true e1, decide_eq_true e2, if_true, List.length_cons, List.foldr_cons]
        omega
      · by_cases e2 : a ≤ v
        · simp only [decide_eq_false e1, decide_eq_true e2, if_true, List.length_cons, List.foldr_cons, Bool.false_eq_true, if_false]
          omega
        · simp only [decide_eq_false e1, decide_eq_false e2, Bool.false_eq_true, if_false]
          exact m
theorem CT_step {L P n : Nat} (hP : 2 ≤ P ∧ P ≤ 5) (hn : 1 ≤ n ∧ n ≤ 7) (h : L < P ^ n) : CT L + 1 ≤ CT (P ^ n) ∧ TS L + P ^ n ≤ TS (P ^ n) := flt_step h Vp (Vp_mem P (by omega) n (by omega) hP.1 hn.1)
theorem CT_max {L : Nat} (h : L ≤ 20000) : CT L ≤ 27 ∧ TS L ≤ 50000 := by
  have m := flt_mono h Vp
  have e1 : CT 20000 = 27 := by decide
  have e2 : TS 20000 ≤ 50000 := by decide
  unfold CT TS at *
  omega
/-- the room that was taken, at most -/
def Fc (S : CS) : Nat := 6 * CT (S.2.2.2 24) + 8 * CT (S.2.2.2 30) + S.2.2.2 22
def Fs (S : CS) : Nat := 6 * TS (S.2.2.2 24) + 8 * TS (S.2.2.2 30) + 2 * S.2.2.2 22
def OKa {α : Type} (S : CS) (mc ms : Nat) (r1 : α) (S1 : CS) (r2 : α) (M1 : MS) : Prop := r1 = r2 ∧ Rel S1 M1 ∧ Fc S + mc ≤ Fc S1 + 3 ∧ Fs S + ms ≤ Fs S1 + 55
-- the searching calls
def hA : Nat → Bool := fun k => fA k || decide (k = 2)
def uA : Nat → Bool := fun k => fA k || decide (k = 2) || decide (k = 11)
def uB : Nat → Bool := fun k => fB k || decide (k = 22)
def uC : Nat → Bool := fun k => pC k || decide (k = 22)
theorem hA_u (k : Nat) (h : uA k = false) : hA k = false := by
  unfold uA at h; unfold hA
  rw [Bool.or_eq_false_iff] at h; exact h.1
theorem fA_h (k : Nat) (h : hA k = false) : fA k = false := by
  unfold hA at h
  rw [Bool.or_eq_false_iff] at h; exact h.1
theorem fB_u (k : Nat) (h : uB k = false) : fB k = false := by
  unfold uB at h
  rw [Bool.or_eq_false_iff] at h; exact h.1
theorem pC_u (k : Nat) (h : uC k = false) : pC k = false := by
  unfold uC at h
  rw [Bool.or_eq_false_iff] at h; exact h.1
theorem tgN_P {n P : Nat} {kd ct sg : Nat → Nat} (s a b t : Nat) (h : tgN n P kd ct sg s a b = some t) : a < P ∧ b < P := by
  unfold tgN at h
  split at h
  · rename_i w; exact ⟨w.1, w.2.1⟩
  · cases h
theorem tgN_pos {n P : Nat} {kd ct sg : Nat → Nat} (s a b t : Nat) (h : tgN n P kd ct sg s a b = some t) : 0 < ct (5 * a + b) := Nat.pos_of_ne_zero (tgN_cost h)
section Srch
variable {S : CS} {M : MS} {n P x y : Nat} {kd ct sc sm : Nat → Nat}
theorem Rl.srch {T : CS} {N : MS} {LA : Nat} (h : Rl S M n P kd ct sc sm x y) (fT : CFr uA uB uC S T) (hl : CL T LA) (hLA : LA ≤ 20000) (hN : P ^ n ≤ LA) (h12 : T.1 12 = nI x) (hS : SOK T n P kd ct sc x) (h2 : T.1 2 = 0) (fN : MKp (mf (mf M 3 0) 2 0) N) (hp : RPl (T.1 11) (T.2.1 22) (T.2.2.2 22) (N.1 6) (N.2.1 7)) : Rl T N n P kd ct sc sm x y := by
  obtain ⟨⟨b1, b2, b3, b4⟩, q2, q3, q4, q5, q6, q7, -, q9, q10⟩ := id h
  refine ⟨⟨b1.fr fT, fN.my ((b2.mf _ (by decide) (by decide)).mf _ (by decide) (by decide)), b3, b4⟩, ?_, ?_, ?_, ?_, hp, ?_, fN.2.2, ⟨LA, hl, hLA, Or.inr ⟨x, h12, h.hx, hN, hS⟩⟩, q10.fr fT⟩
  · rw [fT.1 0 rfl, fN.2.1 2 (by decide)]; exact q2
  · rw [fT.1 1 rfl, fN.2.1 3 (by decide)]; exact q3
  · rw [h2, fN.1 2 (by decide) (by decide) (by decide) (by decide)]; rfl
  · rw [fT.1 9 rfl, fT.1 10 rfl, (fT.2.1 20 rfl).1, (fT.2.1 21 rfl).1, fN.1 4 (by decide) (by decide) (by decide) (by decide), fN.1 5 (by decide) (by decide) (by decide) (by decide), fN.2.1 6 (by decide)]; exact q5
  · rw [fT.1 19 rfl, (fT.2.1 38 rfl).1, (fT.2.1 39 rfl).1, (fT.2.1 40 rfl).1, (fT.2.1 41 rfl).1, (fT.2.1 42 rfl).2, fN.1 9 (by decide) (by decide) (by decide) (by decide), fN.2.1 29 (by decide), fN.2.1 30 (by decide), fN.2.1 31 (by decide), fN.2.1 32 (by decide)]; exact q7
theorem Rl.srch0 {T : CS} {N : MS} {LA : Nat} (h : Rl S M n P kd ct sc sm x y) (fT : CFr hA fB pC S T) (hl : CL T LA) (hLA : LA ≤ 20000) (hN : P ^ n ≤ LA) (h12 : T.1 12 = nI x) (hS : SOK T n P kd ct sc x) (h2 : T.1 2 = 0) (fN : MK (mf (mf M 3 0) 2 0) N) : Rl T N n P kd ct sc sm x y := by
  refine h.srch (fT.mono hA_u fB_u pC_u) hl hLA hN h12 hS h2 fN.p ?_
  rw [fT.1 11 rfl, (fT.2.1 22 rfl).1, fT.2.2 22 rfl, fN.1 6 (by decide) (by decide) (by decide), fN.2.1 7 (by decide)]
  exact h.2.2.2.2.2.1
/-- what a search asks for -/
def srC (LA N : Nat) : Nat := if LA < N ∧ N ≤ 20000 then 6 else 0
def srS (LA N : Nat) : Nat := if LA < N ∧ N ≤ 20000 then 6 * N else 0
theorem sr_b (LA N : Nat) : srC LA N ≤ 6 ∧ srS LA N ≤ 120000 := by
  unfold srC srS
  split <;> omega
theorem sr_F (hP : 2 ≤ P ∧ P ≤ 5) (hn : 1 ≤ n ∧ n ≤ 7) (LA : Nat) (hN : P ^ n ≤ 20000) : 6 * CT LA + srC LA (P ^ n) ≤ 6 * CT (max LA (P ^ n)) ∧ 6 * TS LA + srS LA (P ^ n) ≤ 6 * TS (max LA (P ^ n)) := by
  unfold srC srS
  by_cases e : LA < P ^ n
  · have := CT_step hP hn e
    rw [if_pos ⟨e, hN⟩, if_pos ⟨e, hN⟩, Nat.max_eq_right (by omega)]
    omega
  · rw [if_neg (fun q => e q.1), if_neg (fun q => e q.1), Nat.max_eq_left (by omega)]
    exact ⟨Nat.le_refl _, Nat.le_refl _⟩
theorem k_searched (l : Launch) (h : Rl S M n P kd ct sc sm x y) {LA : Nat} (hLA : S.2.2.2 24 = LA) (post : Bool → CS → Prop) (h0 : ¬ P ^ n ≤ 20000 → post false (cf S 2 2)) (h1 : P ^ n ≤ 20000 → ∀ T, CFr hA fB pC S T → CL T (max LA (P ^ n)) → max LA (P ^ n) ≤ 20000 → T.1 12 = nI x → SOK T n P kd ct sc x → T.1 2 = 0 → post true T) : cX_X8_searched l (srC LA (P ^ n)) (srS LA (P ^ n)) S post := by
  have hP2 := h.P2
  have hn2 := h.n2
  have hb := pow_b hP2 hn2.2
  refine c_X8_searched l _ _ S post ?_
  unfold cT_X8_searched_e
  rw [h.cy.2.2.1, h.sx]
  obtain ⟨LA', hl, hLA', hst⟩ := id h.2.2.2.2.2.2.2.2.1
  have : LA' = LA := by rw [← hLA, ← hl.1]
  subst this
  refine ⟨fun c => ?_, fun c => ⟨Nat.zero_le _, Nat.zero_le _, k_refuse l S 2 _ ⟨Nat.zero_le _, Nat.zero_le _, h0 (fun q => c (nI_le (b := 20000) q (by omega)))⟩⟩⟩
  have hN : P ^ n ≤ 20000 := (nI_leI (b := 20000) (by omega) (by omega)).mp c
  have g := h1 hN
  refine ⟨srC LA' (P ^ n), srS LA' (P ^ n), by omega, by omega, ?_⟩
  have fin : ∀ T, CFr fA fB pC S T → CL T (max LA' (P ^ n)) → T.1 12 = nI x → SOK T n P kd ct sc x → 0 + srC LA' (P ^ n) ≤ srC LA' (P ^ n) ∧ 0 + srS LA' (P ^ n) ≤ srS LA' (P ^ n) ∧ cX_X8_accept l T (fun b8 S7 => 0 + srC LA' (P ^ n) ≤ srC LA' (P ^ n) ∧ 0 + srS LA' (P ^ n) ≤ srS LA' (P ^ n) ∧ post b8 S7) := by
    intro T fT t1 t2 t3
    refine ⟨by omega, by omega, k_accept l _ _ ⟨by omega, by omega, ?_⟩⟩
    exact g _ ((fT.mono fA_h (fun _ q => q) (fun _ q => q)).cf _ rfl) t1 (by omega) t2 t3 rfl
  by_cases e : S.1 12 = nI x
  · rcases hst with q | ⟨s0, q1, q2, q3, q4⟩
    · rw [q] at e
      exact absurd e.symm (nI_m1 (by have := h.hx; omega))
    · have : s0 = x := (nI_eq (by omega) (by have := h.hx; omega)).mp (q1.symm.trans e)
      subst this
      refine c_X6_from l _ _ S _ _ ?_
      intro B35 B121 _ _
      unfold cT_X6_from_e
      refine ⟨fun w => absurd e w, fun _ => ⟨Nat.zero_le _, Nat.zero_le _, ?_⟩⟩
      refine fin S CFr.rf ?_ e q4
      rw [Nat.max_eq_left q3]; exact hl
  · refine k_from l h.cy h.dz hN h.hx hl hLA' (fun q => ?_) e _ fin
    unfold srC srS
    rw [if_pos ⟨q, hN⟩, if_pos ⟨q, hN⟩]
    exact ⟨Nat.le_refl _, Nat.le_refl _⟩
theorem F_srch {T : CS} {LA : Nat} (hP : 2 ≤ P ∧ P ≤ 5) (hn : 1 ≤ n ∧ n ≤ 7) (hN : P ^ n ≤ 20000) (hLA : S.2.2.2 24 = LA) (fT : CFr hA fB pC S T) (hl : CL T (max LA (P ^ n))) : Fc S + srC LA (P ^ n) ≤ Fc T + 3 ∧ Fs S + srS LA (P ^ n) ≤ Fs T + 55 := by
  have := sr_F hP hn LA hN
  unfold Fc Fs
  rw [hl.1, fT.2.2 30 rfl, fT.2.2 22 rfl, hLA]
  omega
theorem sr_none {LA : Nat} (h : ¬ P ^ n ≤ 20000) : srC LA (P ^ n) = 0 ∧ srS LA (P ^ n) = 0 := by
  unfold srC srS
  rw [if_neg (fun q => h q.2), if_neg (fun q => h q.2)]
  exact ⟨rfl, rfl⟩
theorem Rl.many (h : Rl S M n P kd ct sc sm x y) {LA : Nat} {α : Type} (v : α) (c : ¬ P ^ n ≤ 20000) : OKa S (srC LA (P ^ n)) (srS LA (P ^ n)) v (cf S 2 2) v (mf (mf M 3 0) 2 2) := by
  obtain ⟨e1, e2⟩ := sr_none (LA := LA) c
  refine ⟨rfl, ⟨n, P, kd, ct, sc, sm, x, y, (h.th 0).tr 2⟩, ?_, ?_⟩
  · rw [e1]; show Fc S + 0 ≤ Fc S + 3; omega
  · rw [e2]; show Fs S + 0 ≤ Fs S + 55; omega
theorem Rl.ds (h : Rl S M n P kd ct sc sm x y) {fr fr2 : Nat → Option Nat} (h1 : DS (P ^ n) x (tgN n P kd ct sc) (fun a b => ct (5 * a + b)) fr) (h2 : DS (P ^ n) x (tgN n P kd ct sm) (fun a b => ct (5 * a + b)) fr2) : fr2 = fr := by
  rw [← h.tg] at h2
  exact DS.uniq h2 h1 (c := fun a b => ct (5 * a + b)) tgN_pos
theorem o_fewest (l : Launch) (h : Rl S M n P kd ct sc sm x y) : ∃ mc ms, mc ≤ 50000 ∧ ms ≤ 300000 ∧ cX_X8_fewest l mc ms S (fun r1 S1 => mX_fewest l M (fun r2 M1 => OKa S mc ms r1 S1 r2 M1)) := by
  have hP2 := h.P2
  have hn2 := h.n2
  have hb := sr_b (S.2.2.2 24) (P ^ n)
  refine ⟨srC (S.2.2.2 24) (P ^ n), srS (S.2.2.2 24) (P ^ n), by omega, by omega, ?_⟩
  refine c_X8_fewest l _ _ S _ ?_
  unfold cT_X8_fewest_e
  refine ⟨_, _, Nat.le_of_eq (Nat.zero_add _), Nat.le_of_eq (Nat.zero_add _), k_searched l h rfl _ (fun c => ?_) (fun hN T fT hl hLA h12 hS h2 => ?_)⟩
  · refine ⟨fun w => absurd rfl w, fun _ => ⟨by omega, by omega, ?_⟩⟩
    exact s_fewest l h.my h.hx h.xa h.hy h.ya h.m8 h.m9 _ (fun _ => h.many _ c) (fun q => absurd q c)
  · refine ⟨fun _ => ⟨by omega, by omega, c_X6_costTo l _ _ _ ?_⟩, fun w => absurd w (by decide)⟩
    unfold cT_X6_costTo_e
    obtain ⟨fr, mt, hD, hnd, hmem, hsort, hfb, h24, h13, h26, hRI, hz⟩ := id hS
    have hy := h.hy
    rw [fT.1 1 rfl, h.sy, nI_clamp (show y < 2 ^ 31 by omega), h24 y hy, hl.1]
    have fin : mX_fewest l M (fun r2 M1 => OKa S (srC (S.2.2.2 24) (P ^ n)) (srS (S.2.2.2 24) (P ^ n)) (few (fr y)) T r2 M1) := by
      refine s_fewest l h.my h.hx h.xa h.hy h.ya h.m8 h.m9 _ (fun q => absurd hN q) (fun _ N fr2 mt2 fN hM => ?_)
      have e := h.ds hD hM.1
      subst e
      exact ⟨rfl, ⟨n, P, kd, ct, sc, sm, x, y, h.srch0 fT hl hLA (Nat.le_max_right _ _) h12 hS h2 fN⟩, F_srch hP2 hn2 hN rfl fT hl⟩
    refine ⟨vp_in_nI (by have := Nat.le_max_right (S.2.2.2 24) (P ^ n); omega) (by omega), fun c => ⟨by omega, by omega, ?_⟩, fun c => ⟨by omega, by omega, ?_⟩⟩
    · cases e : fr y with
      | none => rw [e] at c; exact absurd rfl c
      | some m => rw [e] at fin; exact fin
    · have e := (lab_none (fun m hm => by have := hfb y m hm; omega)).mp c
      rw [e] at fin
      exact fin
theorem o_reach (l : Launch) (h : Rl S M n P kd ct sc sm x y) : ∃ mc ms, mc ≤ 50000 ∧ ms ≤ 300000 ∧ cX_X8_reach l mc ms S (fun r1 S1 => mX_reach l M (fun r2 M1 => OKa S mc ms r1 S1 r2 M1)) := by
  have hP2 := h.P2
  have hn2 := h.n2
  have hb := sr_b (S.2.2.2 24) (P ^ n)
  refine ⟨srC (S.2.2.2 24) (P ^ n), srS (S.2.2.2 24) (P ^ n), by omega, by omega, ?_⟩
  refine c_X8_reach l _ _ S _ ?_
  unfold cT_X8_reach_e
  refine ⟨_, _, Nat.le_of_eq (Nat.zero_add _), Nat.le_of_eq (Nat.zero_add _), k_searched l h rfl _ (fun c => ?_) (fun hN T fT hl hLA h12 hS h2 => ?_)⟩
  · refine ⟨fun _ => ⟨by omega, by omega, ?_⟩, fun w => absurd rfl w⟩
    exact s_reach l h.my h.hx h.xa h.m8 h.m9 _ (fun _ => h.many _ c) (fun q => absurd q c)
  · refine ⟨fun w => absurd w (by decide), fun _ => ⟨by omega, by omega, ?_⟩⟩
    obtain ⟨fr, mt, hD, hnd, hmem, hsort, hfb, h24, h13, h26, hRI, hz⟩ := id hS
    refine s_reach l h.my h.hx h.xa h.m8 h.m9 _ (fun q => absurd hN q) (fun _ N fr2 mt2 fN hM => ?_)
    have e := h.ds hD hM.1
    subst e
    have ep := perm_of_mem mt mt2 hnd hM.2.1 (fun z => (hmem z).trans (hM.2.2.1 z).symm)
    exact ⟨by rw [h13, ep.length_eq], ⟨n, P, kd, ct, sc, sm, x, y, h.srch0 fT hl hLA (Nat.le_max_right _ _) h12 hS h2 fN⟩, F_srch hP2 hn2 hN rfl fT hl⟩
theorem o_ways (l : Launch) (h : Rl S M n P kd ct sc sm x y) : ∃ mc ms, mc ≤ 50000 ∧ ms ≤ 300000 ∧ cX_X8_ways l mc ms S (fun r1 S1 => mX_ways l M (fun r2 M1 => OKa S mc ms r1 S1 r2 M1)) := by
  have hP2 := h.P2
  have hn2 := h.n2
  have hb := sr_b (S.2.2.2 24) (P ^ n)
  refine ⟨srC (S.2.2.2 24) (P ^ n), srS (S.2.2.2 24) (P ^ n), by omega, by omega, ?_⟩
  refine c_X8_ways l _ _ S _ ?_
  unfold cT_X8_ways_e
  refine ⟨_, _, Nat.le_of_eq (Nat.zero_add _), Nat.le_of_eq (Nat.zero_add _), k_searched l h rfl _ (fun c => ?_) (fun hN T fT hl hLA h12 hS h2 => ?_)⟩
  · refine ⟨fun w => absurd rfl w, fun _ => ⟨by omega, by omega, ?_⟩⟩
    exact s_ways l h.my h.hx h.xa h.hy h.ya h.m8 h.m9 _ (fun _ => h.many _ c) (fun q => absurd q c) (fun q => absurd q c)
  · refine ⟨fun _ => ⟨by omega, by omega, c_X6_rowsTo l _ _ _ ?_⟩, fun w => absurd w (by decide)⟩
    unfold cT_X6_rowsTo_e
    obtain ⟨fr, mt, hD, hnd, hmem, hsort, hfb, h24, h13, h26, hRI, hz⟩ := id hS
    have hy := h.hy
    rw [fT.1 1 rfl, h.sy, nI_clamp (show y < 2 ^ 31 by omega), hl.2.1]
    refine ⟨vp_in_nI (by have := Nat.le_max_right (S.2.2.2 24) (P ^ n); omega) (by omega), by omega, by omega, ?_⟩
    refine s_ways l h.my h.hx h.xa h.hy h.ya h.m8 h.m9 _ (fun q => absurd hN q) (fun _ N fr2 mt2 fN hM hn => ?_) (fun _ N fr2 mt2 fN hM hn hR2 => ?_)
    · have e := h.ds hD hM.1
      subst e
      exact ⟨hz y hy hn, ⟨n, P, kd, ct, sc, sm, x, y, h.srch0 fT hl hLA (Nat.le_max_right _ _) h12 hS h2 fN⟩, F_srch hP2 hn2 hN rfl fT hl⟩
    · have e := h.ds hD hM.1
      subst e
      rw [← h.tg, ← h.mv] at hR2
      have ep := perm_of_mem mt mt2 hnd hM.2.1 (fun z => (hmem z).trans (hM.2.2.1 z).symm)
      obtain ⟨m, hm⟩ := Option.ne_none_iff_exists'.mp hn
      exact ⟨RI.uniq hRI hR2 (allE_perm ep) tgN_pos m y m (Nat.le_refl _) hm, ⟨n, P, kd, ct, sc, sm, x, y, h.srch0 fT hl hLA (Nat.le_max_right _ _) h12 hS h2 fN⟩, F_srch hP2 hn2 hN rfl fT hl⟩
/-- the last one settled -/
theorem last_max {N st : Nat} {tg : Nat → Nat → Nat → Option Nat} {c : Nat → Nat → Nat} {fr : Nat → Option Nat} {mt : List Nat} (hD : DS N st tg c fr) (hnd : mt.Nodup) (hmem : ∀ x, x ∈ mt ↔ fr x ≠ none) (hsort : mt.Pairwise fun x y => ∀ m k, fr x = some m → fr y = some k → m ≤ k) : ∃ (z m : Nat), mt[mt.length - 1]? = some z ∧ 0 < mt.length ∧ z < N ∧ fr z = some m ∧ mt.length ≤ N ∧ (∀ w k, fr w = some k → k ≤ m) := by
  have h0 : 0 < mt.length := by
    have : st ∈ mt := (hmem st).mpr (by rw [hD.1]; exact Option.some_ne_none 0)
    exact List.length_pos_of_mem this
  obtain ⟨z, hz⟩ : ∃ z, mt[mt.length - 1]? = some z := ⟨_, List.getElem?_eq_getElem (by omega)⟩
  obtain ⟨m, hm⟩ := Option.ne_none_iff_exists'.mp ((hmem z).mp (List.mem_of_getElem? hz))
  refine ⟨z, m, hz, h0, hD.2.1 z (by rw [hm]; exact Option.some_ne_none m), hm, nodup_len _ mt hnd (fun w hw => hD.2.1 w ((hmem w).mp hw)), fun w k hk => ?_⟩
  obtain ⟨i, hi⟩ := idx_of ((hmem w).mpr (by rw [hk]; exact Option.some_ne_none k))
  obtain ⟨li, ei⟩ := List.getElem?_eq_some_iff.mp hi
  obtain ⟨lj, ej⟩ := List.getElem?_eq_some_iff.mp hz
  rcases Nat.lt_or_ge i (mt.length - 1) with q | q
  · have := (List.pairwise_iff_getElem.mp hsort) i (mt.length - 1) li lj q
    rw [ei, ej] at this
    exact this k m hk hm
  · have : i = mt.length - 1 := by omega
    subst this
    rw [ei] at ej
    subst ej
    rw [hk] at hm
    cases hm
    exact Nat.le_refl _
theorem k_greatest (l : Launch) {T : CS} {LA m z : Nat} {fr : Nat → Option Nat} {mt : List Nat} (hl : CL T LA) (hLA : LA ≤ 20000) (hN : P ^ n ≤ LA) (h24 : ∀ x, x < P ^ n → T.2.1 24 x = lab (fr x)) (h13 : T.1 13 = nI mt.length) (h26 : ∀ k x, mt[k]? = some x → T.2.1 26 k = nI x) (hz : mt[mt.length - 1]? = some z) (h0 : 0 < mt.length) (hzN : z < P ^ n) (hm : fr z = some m) (hlen : mt.length ≤ P ^ n) (post : Int32 → CS → Prop) (h : post (nI m) T) : cX_X6_greatestCost l T post := by
  refine c_X6_greatestCost l T post ?_
  unfold cT_X6_greatestCost_e
  obtain ⟨r, hr⟩ : ∃ r, mt.length = r + 1 := ⟨mt.length - 1, by omega⟩
  rw [hr, Nat.add_sub_cancel] at hz
  rw [h13, hr, nI_pred, nI_clamp (show r < 2 ^ 31 by omega), h26 r z hz, nI_clamp (show z < 2 ^ 31 by omega), h24 z hzN, hm, hl.1, hl.2.2.1]
  refine ⟨fun _ => ⟨vp_in_nI (by omega) (by omega), vp_in_nI (by omega) (by omega), h⟩, fun w => ?_⟩
  exact absurd ((nI_is 0 rfl (by omega) (by omega)).mp w) (by omega)
theorem o_far (l : Launch) (h : Rl S M n P kd ct sc sm x y) : ∃ mc ms, mc ≤ 50000 ∧ ms ≤ 300000 ∧ cX_X8_far l mc ms S (fun r1 S1 => mX_far l M (fun r2 M1 => OKa S mc ms r1 S1 r2 M1)) := by
  have hP2 := h.P2
  have hn2 := h.n2
  have hb := sr_b (S.2.2.2 24) (P ^ n)
  refine ⟨srC (S.2.2.2 24) (P ^ n), srS (S.2.2.2 24) (P ^ n), by omega, by omega, ?_⟩
  refine c_X8_far l _ _ S _ ?_
  unfold cT_X8_far_e
  refine ⟨_, _, Nat.le_of_eq (Nat.zero_add _), Nat.le_of_eq (Nat.zero_add _), k_searched l h rfl _ (fun c => ?_) (fun hN T fT hl hLA h12 hS h2 => ?_)⟩
  · refine ⟨fun _ => ⟨by omega, by omega, ?_⟩, fun w => absurd rfl w⟩
    exact s_far l h.my h.hx h.xa h.m8 h.m9 _ (fun _ => h.many _ c) (fun q => absurd q c)
  · refine ⟨fun w => absurd w (by decide), fun _ => ⟨by omega, by omega, ?_⟩⟩
    obtain ⟨fr, mt, hD, hnd, hmem, hsort, hfb, h24, h13, h26, hRI, hz⟩ := id hS
    obtain ⟨z, m, z1, z2, z3, z4, z5, z6⟩ := last_max hD hnd hmem hsort
    refine k_greatest l hl hLA (Nat.le_max_right _ _) h24 h13 h26 z1 z2 z3 z4 z5 _ ⟨by omega, by omega, ?_⟩
    refine s_far l h.my h.hx h.xa h.m8 h.m9 _ (fun q => absurd hN q) (fun _ N fr2 mt2 z' m' fN hM hm1 hm2 => ?_)
    have e := h.ds hD hM.1
    subst e
    have em : m = m' := Nat.le_antisymm (hm2 z m z4) (z6 z' m' hm1)
    exact ⟨by rw [em], ⟨n, P, kd, ct, sc, sm, x, y, h.srch0 fT hl hLA (Nat.le_max_right _ _) h12 hS h2 fN⟩, F_srch hP2 hn2 hN rfl fT hl⟩
theorem o_farthest (l : Launch) (h : Rl S M n P kd ct sc sm x y) : ∃ mc ms, mc ≤ 50000 ∧ ms ≤ 300000 ∧ cX_X8_farthest l mc ms S (fun r1 S1 => mX_farthest l M (fun r2 M1 => OKa S mc ms r1 S1 r2 M1)) := by
  have hP2 := h.P2
  have hn2 := h.n2
  have hb := sr_b (S.2.2.2 24) (P ^ n)
  refine ⟨srC (S.2.2.2 24) (P ^ n), srS (S.2.2.2 24) (P ^ n), by omega, by omega, ?_⟩
  refine c_X8_farthest l _ _ S _ ?_
  unfold cT_X8_farthest_e
  refine ⟨_, _, Nat.le_of_eq (Nat.zero_add _), Nat.le_of_eq (Nat.zero_add _), k_searched l h rfl _ (fun c => ?_) (fun hN T fT hl hLA h12 hS h2 => ?_)⟩
  · refine ⟨fun _ => ⟨by omega, by omega, ?_⟩, fun w => absurd rfl w⟩
    exact s_farthest l h.my h.hx h.xa h.m8 h.m9 _ (fun _ => h.many _ c) (fun q => absurd q c)
  · refine ⟨fun w => absurd w (by decide), fun _ => ⟨by omega, by omega, ?_⟩⟩
    obtain ⟨fr, mt, hD, hnd, hmem, hsort, hfb, h24, h13, h26, hRI, hz⟩ := id hS
    obtain ⟨zl, m, z1, z2, z3, z4, z5, z6⟩ := last_max hD hnd hmem hsort
    have hmx := Nat.le_max_right (S.2.2.2 24) (P ^ n)
    have fin : ∀ z, fr z = some m → (∀ w, fr w = some m → z ≤ w) → 0 + srC (S.2.2.2 24) (P ^ n) ≤ srC (S.2.2.2 24) (P ^ n) ∧ 0 + srS (S.2.2.2 24) (P ^ n) ≤ srS (S.2.2.2 24) (P ^ n) ∧ mX_farthest l M (fun r2 M1 => OKa S (srC (S.2.2.2 24) (P ^ n)) (srS (S.2.2.2 24) (P ^ n)) (nI z) T r2 M1) := by
      intro z q1 q2
      refine ⟨by omega, by omega, ?_⟩
      refine s_farthest l h.my h.hx h.xa h.m8 h.m9 _ (fun q => absurd hN q) (fun _ N fr2 mt2 z' m' fN hM hm1 hm2 hm3 => ?_)
      have e := h.ds hD hM.1
      subst e
      have em : m = m' := Nat.le_antisymm (hm2 zl m z4) (z6 z' m' hm1)
      subst em
      have ez : z = z' := Nat.le_antisymm (q2 z' hm1) (hm3 z q1)
      exact ⟨by rw [ez], ⟨n, P, kd, ct, sc, sm, x, y, h.srch0 fT hl hLA (Nat.le_max_right _ _) h12 hS h2 fN⟩, F_srch hP2 hn2 hN rfl fT hl⟩
    refine c_X6_leastOfFarthest l T _ ?_
    intro B17 B56 B63 h17 h56 h63
    unfold cT_X6_leastOfFarthest_e
    refine k_greatest l hl hLA hmx h24 h13 h26 z1 z2 z3 z4 z5 _ (fun v ev v3 ev3 => ?_)
    rw [h12] at ev
    rw [h13] at ev3
    subst ev
    subst ev3
    have key : ∀ k, k ≤ mt.length → ∀ z, (k < mt.length → fr z = some m ∧ ∀ i w, k ≤ i → mt[i]? = some w → fr w = some m → z ≤ w) → B17 T (nI m) (nI z) (nI k - 1) := by
      intro k
      induction k with
      | zero =>
        intro _ z hzz
        refine h17 _ _ _ _ ?_
        unfold cT_X6_leastOfFarthest_17
        refine ⟨fun _ => fin z (hzz (by omega)).1 (fun w hw => ?_), fun w => absurd (by decide) w⟩
        obtain ⟨i, hi⟩ := idx_of ((hmem w).mpr (by rw [hw]; exact Option.some_ne_none m))
        exact (hzz (by omega)).2 i w (Nat.zero_le _) hi hw
      | succ k ih =>
        intro hk z hzz
        obtain ⟨u, hu⟩ : ∃ u, mt[k]? = some u := ⟨_, List.getElem?_eq_getElem (by omega)⟩
        obtain ⟨mu, hmu⟩ := Option.ne_none_iff_exists'.mp ((hmem u).mp (List.mem_of_getElem? hu))
        have huN := hD.2.1 u (by rw [hmu]; exact Option.some_ne_none mu)
        have hmuB := hfb u mu hmu
        have hmB := hfb zl m z4
        have nxt : ∀ z', fr z' = some m → (∀ i w, k ≤ i → mt[i]? = some w → fr w = some m → z' ≤ w) → B63 T (nI m) (nI z') (nI k) := by
          intro z' q1 q2
          refine h63 _ _ _ _ ?_
          unfold cT_X6_leastOfFarthest_63
          rw [i_sub1]
          exact ih (by omega) z' (fun _ => ⟨q1, q2⟩)
        have take56 : mu = m → (k + 1 < mt.length → u < z) → B56 T (nI m) (nI k) := by
          intro q1 q2
          refine h56 _ _ _ ?_
          unfold cT_X6_leastOfFarthest_56
          rw [nI_clamp (show k < 2 ^ 31 by omega), h26 k u hu, hl.2.2.1]
          refine ⟨vp_in_nI (by omega) (by omega), fun v hv => ?_⟩
          subst hv
          subst q1
          refine nxt u hmu (fun i w i1 i2 i3 => ?_)
          by_cases e : i = k
          · subst e
            rw [hu] at i2
            cases i2
            exact Nat.le_refl _
          · have hlt : k + 1 < mt.length := by
              have := (List.getElem?_eq_some_iff.mp i2).1
              omega
            have := (hzz hlt).2 i w (by omega) i2 i3
            have := q2 hlt
            omega
        refine h17 _ _ _ _ ?_
        unfold cT_X6_leastOfFarthest_17
        rw [nI_pred, nI_clamp (show k < 2 ^ 31 by omega), h26 k u hu, nI_clamp (show u < 2 ^ 31 by omega), h24 u huN, hmu, hl.1, hl.2.2.1, h13]
        refine ⟨fun w => absurd w (nI_pos (by omega)), fun _ => ⟨vp_in_nI (by omega) (by omega), vp_in_nI (by omega) (by omega), fun c => ?_, fun c => ?_⟩⟩
        · have c : mu ≠ m := fun q => c (by rw [q]; rfl)
          have hk1 : k + 1 < mt.length := by
            rcases Nat.lt_or_ge (k + 1) mt.length with q | q
            · exact q
            · have : mt.length - 1 = k := by omega
              rw [this, hu] at z1
              cases z1
              rw [hmu] at z4
              cases z4
              exact absurd rfl c
          refine fin z (hzz hk1).1 (fun w hw => ?_)
          obtain ⟨i, hi⟩ := idx_of ((hmem w).mpr (by rw [hw]; exact Option.some_ne_none m))
          rcases Nat.lt_or_ge k i with q | q
          · exact (hzz hk1).2 i w q hi hw
          · exfalso
            have hmu_le := z6 u mu hmu
            obtain ⟨li, ei⟩ := List.getElem?_eq_some_iff.mp hi
            obtain ⟨lj, ej⟩ := List.getElem?_eq_some_iff.mp hu
            rcases Nat.lt_or_ge i k with q3 | q3
            · have := (List.pairwise_iff_getElem.mp hsort) i k li lj q3
              rw [ei, ej] at this
              have := this m mu hw hmu
              omega
            · have : i = k := by omega
              subst this
              rw [hu] at hi
              cases hi
              rw [hmu] at hw
              cases hw
              exact c rfl
        · have c : mu = m := (nI_eq (show mu < 2 ^ 31 by omega) (by omega)).mp c
          refine ⟨fun c2 => take56 c (fun q => ?_), fun c2 => ⟨vp_in_nI (by omega) (by omega), fun c3 => ?_, fun c3 => ?_⟩⟩
          · obtain ⟨r, hr⟩ : ∃ r, mt.length = r + 1 := ⟨mt.length - 1, by omega⟩
            rw [hr, nI_pred] at c2
            have := (nI_eq (show k < 2 ^ 31 by omega) (by omega)).mp c2
            omega
          · have hk1 : k + 1 < mt.length := by
              rcases Nat.lt_or_ge (k + 1) mt.length with q | q
              · exact q
              · have : mt.length = k + 1 := by omega
                exact absurd (by rw [this, nI_pred]) c2
            obtain ⟨g1, g2⟩ := hzz hk1
            have hzN := hD.2.1 z (by rw [g1]; exact Option.some_ne_none m)
            have c3 : z ≤ u := (nI_leI (by omega) (by omega)).mp c3
            refine nxt z g1 (fun i w i1 i2 i3 => ?_)
            by_cases e : i = k
            · subst e
              rw [hu] at i2
              cases i2
              exact c3
            · exact g2 i w (by omega) i2 i3
          · refine take56 c (fun q => ?_)
            have hzN := hD.2.1 z (by rw [(hzz q).1]; exact Option.some_ne_none m)
            rcases Nat.lt_or_ge u z with q | q
            · exact q
            · exact absurd (nI_le q (by omega)) c3
    exact key mt.length (Nat.le_refl _) x (fun q => absurd q (Nat.lt_irrefl _))
end Srch
end
section
-- plan(), planned()
theorem wA_u (k : Nat) (h : uA k = false) : wA k = false := by
  simp only [uA, fA, wA, lA, Bool.or_eq_false_iff, Bool.and_eq_false_iff, decide_eq_false_iff_not] at *
  omega
theorem wB_u (k : Nat) (h : uB k = false) : wB k = false := by
  simp only [uB, fB, wB, lB, Bool.or_eq_false_iff, Bool.and_eq_false_iff, decide_eq_false_iff_not] at *
  omega
theorem aB_u (k : Nat) (h : uC k = false) : aB k = false := by
  simp only [uC, pC, aB, Bool.or_eq_false_iff, Bool.and_eq_false_iff, decide_eq_false_iff_not] at *
  omega
section PlanS
variable {S : CS} {M : MS} {n P x y : Nat} {kd ct sc sm : Nat → Nat}
theorem o_planned (l : Launch) (h : Rl S M n P kd ct sc sm x y) (a : Int32) : cX_X8_planned l S a (fun r1 S1 => mX_planned l M a (fun r2 M1 => OKr S r1 S1 r2 M1)) := by
  obtain ⟨L, hL, l1, l2, hco, hc1, hc2, hc3⟩ := id h.2.2.2.2.2.1
  have hR : Rel S (mf M 3 0) := ⟨n, P, kd, ct, sc, sm, x, y, h.th 0⟩
  refine c_X8_planned l S a _ ?_
  unfold cT_X8_planned_e
  rw [l1]
  have no : (¬ ∃ i, i < L ∧ a = nI i) → mX_planned l M a (fun r2 M1 => OKr S (-1) S r2 M1) := by
    intro q
    refine m_planned l M a _ ?_
    unfold mT_planned_e
    exact s_inB l _ a _ _ (N := L) (by rw [l2]) (by omega) (fun _ => ⟨fun _ => ⟨rfl, hR, rfl⟩, fun w => absurd rfl w⟩) (fun i hi ea => absurd ⟨i, hi, ea⟩ q)
  refine ⟨fun c => no (fun ⟨i, hi, e⟩ => absurd (e ▸ c) (nI_pos (by omega))), fun c => ⟨fun c2 => ?_, fun c2 => no (fun ⟨i, hi, e⟩ => c2 (e ▸ nI_lt hi (by omega)))⟩⟩
  obtain ⟨i, hi, e⟩ := nI_of c
  subst e
  have hiL : i < L := (nI_ltI hi (by omega)).mp c2
  rw [nI_clamp hi]
  refine ⟨vp_in_nI (by omega) (by omega), m_planned l M _ _ ?_⟩
  unfold mT_planned_e
  refine s_inB l _ _ _ _ (N := L) (by rw [l2]) (by omega) (fun q => absurd ⟨i, hiL, rfl⟩ q) (fun i' hi' ea => ⟨fun w => absurd w (by decide), fun _ => ⟨vp_in_nI (by omega) (by omega), ?_⟩⟩)
  rw [nI_clamp hi]
  exact ⟨hco i hiL, hR, rfl⟩
theorem plan_core (l : Launch) (h : Rl S M n P kd ct sc sm x y) {e : Nat} (he : e ≤ 40000) (h0 : ¬ P ^ n ≤ 20000 → e = 0) (h1 : ∀ fr, DS (P ^ n) x (tgN n P kd ct sc) (fun a b => ct (5 * a + b)) fr → fr y = none → e = 0) (h2 : P ^ n ≤ 20000 → ∀ fr, DS (P ^ n) x (tgN n P kd ct sc) (fun a b => ct (5 * a + b)) fr → fr y ≠ none → ∃ qs, PL (tgN n P kd ct sc) (fun a b => ct (5 * a + b)) fr y qs x ∧ e = capA (S.2.2.2 22) qs.length - S.2.2.2 22) : cX_X8_plan l (srC (S.2.2.2 24) (P ^ n) + e) (srS (S.2.2.2 24) (P ^ n) + 2 * e) S (fun r1 S1 => mX_plan l M (fun r2 M1 => OKa S (srC (S.2.2.2 24) (P ^ n) + e) (srS (S.2.2.2 24) (P ^ n) + 2 * e) r1 S1 r2 M1)) := by
  have hP2 := h.P2
  have hn2 := h.n2
  obtain ⟨L0, hL0, l1, l2, hco, hc1, hc2, hc3⟩ := id h.2.2.2.2.2.1
  refine c_X8_plan l _ _ S _ ?_
  unfold cT_X8_plan_e
  refine ⟨srC (S.2.2.2 24) (P ^ n), srS (S.2.2.2 24) (P ^ n), by omega, by omega, k_searched l h rfl _ (fun c => ?_) (fun hN T fT hl hLA h12 hS h2' => ?_)⟩
  · refine ⟨fun w => absurd rfl w, fun _ => ⟨by omega, by omega, ?_⟩⟩
    have e0 := h0 c
    subst e0
    exact s_plan l h.my h.hx h.xa h.hy h.ya h.m8 h.m9 _ (fun _ => h.many _ c) (fun q => absurd q c) (fun q => absurd q c)
  · refine ⟨fun _ => ⟨by omega, by omega, c_X6_costTo l _ _ _ ?_⟩, fun w => absurd w (by decide)⟩
    unfold cT_X6_costTo_e
    obtain ⟨fr, mt, hD, hnd, hmem, hsort, hfb, h24, h13, h26, hRI, hz⟩ := id hS
    have hy := h.hy
    have hF := F_srch hP2 hn2 hN rfl fT hl
    have hmx := Nat.le_max_right (S.2.2.2 24) (P ^ n)
    rw [fT.1 1 rfl, h.sy, nI_clamp (show y < 2 ^ 31 by omega), h24 y hy, hl.1]
    refine ⟨vp_in_nI (by omega) (by omega), fun c => ?_, fun c => ⟨by omega, by omega, ?_⟩⟩
    · have hne : fr y ≠ none := fun q => c (by rw [q]; rfl)
      obtain ⟨qs, hqs, he2⟩ := h2 hN fr hD hne
      refine ⟨e, 2 * e, by omega, by omega, ?_⟩
      have e22 : T.2.2.2 22 = S.2.2.2 22 := fT.2.2 22 rfl
      rw [fT.1 1 rfl, h.sy, he2]
      refine k_write l (h.cy.fr fT) h.dz hN hy hl hmx hLA h12 h.hx hD hnd hmem hsort h24 hfb h13 h26 hne e22 (by omega) hc3 hqs _ (fun U fU u11 u22 uco => ?_)
      rw [← he2]
      refine ⟨by omega, by omega, ?_⟩
      have hge := capA_ge (show 1 ≤ S.2.2.2 22 by omega) qs.length
      obtain ⟨vs, v1, v2, v3⟩ := PL.len (N := P ^ n) tgN_pos hD.2.1 qs x 0 hD.1 hqs
      have hlen : qs.length + 1 ≤ P ^ n := by
        rw [← v1]
        exact nodup_len _ vs v2 (fun w hw => (v3 w hw).1)
      have hcap : capA (S.2.2.2 22) qs.length ≤ 40000 := by
        cases hq : qs.length with
        | zero => exact hc3
        | succ r => exact capA_b hc3 r (by omega)
      have fU' : CFr uA uB uC S U := (fT.mono hA_u fB_u pC_u).tr (fU.mono wA_u wB_u aB_u)
      refine s_plan l h.my h.hx h.xa h.hy h.ya h.m8 h.m9 _ (fun q => absurd hN q) (fun _ N fr2 mt2 fN hM hn => ?_) (fun _ N fr2 qs2 fN hD2 hn hq2 n6 n7 => ?_)
      · have e := h.ds hD hM.1
        subst e
        exact absurd hn hne
      · have e := h.ds hD hD2
        subst e
        rw [← h.tg] at hq2
        have e2 : qs2 = qs := PL.uniq _ _ _ hq2 hqs
        subst e2
        refine ⟨u11, ⟨n, P, kd, ct, sc, sm, x, y, h.srch fU' (hl.fr fU) hLA hmx (by rw [fU.1 12 rfl]; exact h12) (hS.fr fU) (by rw [fU.1 2 rfl]; exact h2') fN ⟨qs2.length, by omega, u11, n6, fun i hi => ?_, by rw [u22]; exact hge.2, by rw [u22]; omega, by rw [u22]; exact hcap⟩⟩, ?_⟩
        · obtain ⟨q, hq⟩ : ∃ q, qs2[i]? = some q := ⟨_, List.getElem?_eq_getElem hi⟩
          rw [uco i q hq, n7 i q hq]
        · unfold Fc Fs at hF ⊢
          rw [u22, fU.2.2 24 rfl, fU.2.2 30 rfl]
          rw [e22] at hF
          omega
    · have hnone := (lab_none (fun m hm => by have := hfb y m hm; omega)).mp c
      have e0 := h1 fr hD hnone
      subst e0
      refine s_plan l h.my h.hx h.xa h.hy h.ya h.m8 h.m9 _ (fun q => absurd hN q) (fun _ N fr2 mt2 fN hM hn => ?_) (fun _ N fr2 qs2 fN hD2 hn hq2 n6 n7 => ?_)
      · exact ⟨rfl, ⟨n, P, kd, ct, sc, sm, x, y, h.srch0 fT hl hLA hmx h12 hS h2' fN⟩, hF⟩
      · have e := h.ds hD hD2
        subst e
        exact absurd hnone hn
theorem o_plan (l : Launch) (h : Rl S M n P kd ct sc sm x y) : ∃ mc ms, mc ≤ 50000 ∧ ms ≤ 300000 ∧ cX_X8_plan l mc ms S (fun r1 S1 => mX_plan l M (fun r2 M1 => OKa S mc ms r1 S1 r2 M1)) := by
  have hP2 := h.P2
  have hb := sr_b (S.2.2.2 24) (P ^ n)
  obtain ⟨L0, hL0, l1, l2, hco, hc1, hc2, hc3⟩ := id h.2.2.2.2.2.1
  by_cases hN : P ^ n ≤ 20000
  · obtain ⟨fr, hD⟩ := DS.exist (N := P ^ n) (tg := tgN n P kd ct sc) (c := fun a b => ct (5 * a + b)) h.hx (fun s a b t ht => tgN_lt (by omega) ht)
    have hu : ∀ fr2, DS (P ^ n) x (tgN n P kd ct sc) (fun a b => ct (5 * a + b)) fr2 → fr2 = fr := fun fr2 q => DS.uniq q hD tgN_pos
    by_cases hy : fr y = none
    · refine ⟨_, _, ?_, ?_, plan_core l h (e := 0) (by omega) (fun _ => rfl) (fun _ _ _ => rfl) (fun _ fr2 q w => ?_)⟩
      · omega
      · omega
      · rw [hu fr2 q] at w; exact absurd hy w
    · obtain ⟨mg, hmg⟩ := Option.ne_none_iff_exists'.mp hy
      obtain ⟨qs, hqs⟩ := PL.exist (N := P ^ n) (P := P) (g := y) (c := fun a b => ct (5 * a + b)) tgN_pos tgN_P hmg mg x 0 hD.1 (by omega) (Good.start hD tgN_pos mg y mg (Nat.le_refl _) hmg ⟨0, rfl⟩)
      obtain ⟨vs, v1, v2, v3⟩ := PL.len (N := P ^ n) tgN_pos hD.2.1 qs x 0 hD.1 hqs
      have hlen : qs.length + 1 ≤ P ^ n := by
        rw [← v1]
        exact nodup_len _ vs v2 (fun w hw => (v3 w hw).1)
      have hcap : capA (S.2.2.2 22) qs.length ≤ 40000 := by
        cases hq : qs.length with
        | zero => exact hc3
        | succ r => exact capA_b hc3 r (by omega)
      refine ⟨_, _, ?_, ?_, plan_core l h (e := capA (S.2.2.2 22) qs.length - S.2.2.2 22) (by omega) (fun q => absurd hN q) (fun fr2 q w => ?_) (fun _ fr2 q w => ?_)⟩
      · omega
      · omega
      · rw [hu fr2 q] at w; exact absurd w hy
      · rw [hu fr2 q]; exact ⟨qs, hqs, rfl⟩
  · refine ⟨_, _, ?_, ?_, plan_core l h (e := 0) (by omega) (fun _ => rfl) (fun _ _ _ => rfl) (fun q => absurd q hN)⟩
    · omega
    · omega
end PlanS
end
section
-- rearrangements
def NM (f : Nat → Int32) (K : Nat) (ν : Nat → Nat) : Prop := (∀ k, k < K → f k = nI (ν k) ∧ ν k < K) ∧ ∀ i j, i < K → j < K → ν i = ν j → i = j
theorem NM.congr {f g : Nat → Int32} {K : Nat} {ν : Nat → Nat} (h : NM f K ν) (e : ∀ k, k < K → f k = g k) : NM g K ν := ⟨fun k hk => by rw [← e k hk]; exact h.1 k hk, h.2⟩
theorem inj_surj {K : Nat} {ν : Nat → Nat} (h1 : ∀ k, k < K → ν k < K) (h2 : ∀ i j, i < K → j < K → ν i = ν j → i = j) {v : Nat} (hv : v < K) : ∃ i, i < K ∧ ν i = v := by
  have hm : v ∈ (List.range K).map ν := by
    refine full_mem (N := K) ?_ (fun x hx => ?_) (by rw [List.length_map, List.length_range]; exact Nat.le_refl _) hv
    · rw [List.nodup_iff_pairwise_ne, List.pairwise_map]
      refine List.Pairwise.imp_of_mem (fun {a b} ha hb hab e => hab (h2 a b (List.mem_range.mp ha) (List.mem_range.mp hb) e)) (List.nodup_iff_pairwise_ne.mp List.nodup_range)
    · obtain ⟨i, hi, e⟩ := List.mem_map.mp hx
      rw [← e]; exact h1 i (List.mem_range.mp hi)
  obtain ⟨i, hi, e⟩ := List.mem_map.mp hm
  exact ⟨i, List.mem_range.mp hi, e⟩
theorem surj_inj {K : Nat} {ν : Nat → Nat} (h : ∀ v, v < K → ∃ i, i < K ∧ ν i = v) : ∀ i j, i < K → j < K → ν i = ν j → i = j := by
  have hc : ∃ μ : Nat → Nat, ∀ v, v < K → μ v < K ∧ ν (μ v) = v := by
    refine ⟨fun v => if hv : v < K then (h v hv).choose else 0, fun v hv => ?_⟩
    simp only [dif_pos hv]
    exact (h v hv).choose_spec
  obtain ⟨μ, hμ⟩ := hc
  have key : ∀ i, i < K → ∃ v, v < K ∧ μ v = i := fun i hi => inj_surj (fun k hk => (hμ k hk).1) (fun a b ha hb e => by rw [← (hμ a ha).2, ← (hμ b hb).2, e]) hi
  intro i j hi hj e
  obtain ⟨v, hv, ev⟩ := key i hi
  obtain ⟨w, hw, ew⟩ := key j hj
  rw [← ev, ← ew, (hμ v hv).2, (hμ w hw).2] at e
  rw [← ev, ← ew, e]
def mskN (ν : Nat → Nat) : Nat → Nat
  | 0 => 0
  | k + 1 => mskN ν k ||| 1 <<< ν k
theorem msk_bit (ν : Nat → Nat) (v : Nat) : ∀ k, (mskN ν k).testBit v = true ↔ ∃ i, i < k ∧ ν i = v := by
  intro k
  induction k with
  | zero => exact ⟨fun h => (by unfold mskN at h; rw [Nat.zero_testBit] at h; cases h), fun ⟨i, hi, _⟩ => absurd hi (Nat.not_lt_zero _)⟩
  | succ k ih =>
    unfold mskN
    rw [Nat.testBit_or, Bool.or_eq_true, ih, Nat.one_shiftLeft, Nat.testBit_two_pow, decide_eq_true_eq]
    constructor
    · rintro (⟨i, hi, e⟩ | e)
      · exact ⟨i, by omega, e⟩
      · exact ⟨k, by omega, e⟩
    · rintro ⟨i, hi, e⟩
      by_cases q : i = k
      · subst q; exact Or.inr e
      · exact Or.inl ⟨i, by omega, e⟩
theorem msk_lt {ν : Nat → Nat} {K : Nat} : ∀ k, (∀ i, i < k → ν i < K) → mskN ν k < 2 ^ K := by
  intro k
  induction k with
  | zero => intro _; exact Nat.pow_pos (by omega)
  | succ k ih =>
    intro h
    unfold mskN
    refine Nat.or_lt_two_pow (ih (fun i hi => h i (by omega))) ?_
    rw [Nat.one_shiftLeft]
    exact Nat.pow_lt_pow_right (by omega) (h k (by omega))
theorem msk_full {ν : Nat → Nat} {K : Nat} (h : ∀ i, i < K → ν i < K) : mskN ν K = 2 ^ K - 1 ↔ ∀ v, v < K → ∃ i, i < K ∧ ν i = v := by
  constructor
  · intro e v hv
    refine (msk_bit ν v K).mp ?_
    rw [e, Nat.testBit_two_pow_sub_one]
    exact decide_eq_true hv
  · intro q
    refine Nat.eq_of_testBit_eq (fun v => ?_)
    rw [Nat.testBit_two_pow_sub_one]
    by_cases hv : v < K
    · rw [decide_eq_true hv]; exact (msk_bit ν v K).mpr (q v hv)
    · rw [decide_eq_false hv]
      exact Nat.testBit_lt_two_pow (Nat.lt_of_lt_of_le (msk_lt K h) (Nat.pow_le_pow_right (by omega) (by omega)))
theorem or_nI : ∀ a, a < 32 → ∀ v, v < 5 → nI a ||| (1 <<< (nI v &&& 31)) = nI (a ||| 1 <<< v) := by decide
theorem ones_nI : ∀ K, K < 6 → (1 <<< (nI K &&& 31)) - 1 = nI (2 ^ K - 1) := by decide
theorem k_isRearr (l : Launch) (S : CS) {n0 K : Nat} {f0 : Nat → Int32} (hK : K ≤ 5) (hn : K ≤ n0) (hn0 : n0 < 2 ^ 31) (post : Bool → CS → Prop) (h0 : (¬ ∃ ν, NM f0 K ν) → post false S) (h1 : ∀ ν, NM f0 K ν → post true S) : cX_X8_isRearrangement l S n0 f0 (nI K) post := by
  refine c_X8_isRearrangement l S n0 f0 _ post ?_
  intro B4 h4
  unfold cT_X8_isRearrangement_e
  have key : ∀ d k, k + d = K → (∀ i, i < k → f0 i = nI ((f0 i).toNatClampNeg) ∧ (f0 i).toNatClampNeg < K) → B4 S (nI (mskN (fun i => (f0 i).toNatClampNeg) k)) (nI k) := by
    intro d
    induction d with
    | zero =>
      intro k hk hg
      have : k = K := by omega
      subst this
      refine h4 _ _ _ ?_
      unfold cT_X8_isRearrangement_4
      have hlt := msk_lt (ν := fun i => (f0 i).toNatClampNeg) k (fun i hi => (hg i hi).2)
      have h32 : 2 ^ k ≤ 2 ^ 5 := Nat.pow_le_pow_right (by omega) hK
      rw [ones_nI k (by omega)]
      refine ⟨fun _ => ⟨fun c => h0 ?_, fun c => h1 (fun i => (f0 i).toNatClampNeg) ⟨fun i hi => hg i hi, ?_⟩⟩, fun w => absurd (nI_le (Nat.le_refl _) (by omega)) w⟩
      · rintro ⟨ν, hν⟩
        refine c ?_
        have e : ∀ i, i < k → (f0 i).toNatClampNeg = ν i := fun i hi => by
          rw [(hν.1 i hi).1, nI_clamp (by have := (hν.1 i hi).2; omega)]
        have := (msk_full (ν := fun i => (f0 i).toNatClampNeg) (fun i hi => (hg i hi).2)).mpr (fun v hv => by
          obtain ⟨i, hi, ei⟩ := inj_surj (fun k hk => (hν.1 k hk).2) hν.2 hv
          exact ⟨i, hi, by show (f0 i).toNatClampNeg = v; rw [e i hi, ei]⟩)
        rw [this]
      · have c : mskN (fun i => (f0 i).toNatClampNeg) k = 2 ^ k - 1 := (nI_eq (by omega) (by omega)).mp c
        exact surj_inj ((msk_full (ν := fun i => (f0 i).toNatClampNeg) (fun i hi => (hg i hi).2)).mp c)
    | succ d ih =>
      intro k hk hg
      refine h4 _ _ _ ?_
      unfold cT_X8_isRearrangement_4
      rw [nI_clamp (show k < 2 ^ 31 by omega)]
      refine ⟨fun w => absurd w (nI_ge (by omega) (by omega)), fun _ => ⟨vp_in_nI (by omega) (by omega), fun c => h0 ?_, fun c => ⟨vp_in_nI (by omega) (by omega), fun c2 => ⟨vp_in_nI (by omega) (by omega), fun v hv => ?_⟩, fun c2 => h0 ?_⟩⟩⟩
      · rintro ⟨ν, hν⟩
        have := hν.1 k (by omega)
        rw [this.1] at c
        exact absurd c (nI_pos (by omega))
      · obtain ⟨w, hw, ew⟩ := nI_of c
        have hwK : w < K := by
          rw [ew] at c2
          exact (nI_ltI hw (by omega)).mp c2
        have ec : (f0 k).toNatClampNeg = w := by rw [ew, nI_clamp hw]
        have hlt := msk_lt (ν := fun i => (f0 i).toNatClampNeg) k (fun i hi => (hg i hi).2)
        have h32 : 2 ^ K ≤ 2 ^ 5 := Nat.pow_le_pow_right (by omega) hK
        rw [ew, or_nI _ (by omega) w (by omega)] at hv
        rw [hv, ← nI_succ]
        have := ih (k + 1) (by omega) (fun i hi => by
          by_cases q : i = k
          · subst q; rw [ec]; exact ⟨ew, hwK⟩
          · exact hg i (by omega))
        unfold mskN at this
        simp only [ec] at this
        exact this
      · rintro ⟨ν, hν⟩
        have := hν.1 k (by omega)
        rw [this.1] at c2
        exact c2 (nI_lt this.2 (by omega))
  exact key K 0 (by omega) (fun i hi => absurd hi (Nat.not_lt_zero _))
def n5 (f : Nat → Int32) (a b c d e : Int32) : Nat → Int32 := upd (upd (upd (upd (upd f 0 a) 1 b) 2 c) 3 d) 4 e
theorem n5_eq (f g : Nat → Int32) (a b c d e : Int32) : ∀ k, k < 5 → n5 f a b c d e k = n5 g a b c d e k := by
  intro k hk
  unfold n5 upd
  have : k = 0 ∨ k = 1 ∨ k = 2 ∨ k = 3 ∨ k = 4 := by omega
  rcases this with q | q | q | q | q <;> subst q <;> rfl
theorem s_areNames (l : Launch) (S : MS) {P : Nat} (hP : S.1 0 = nI P) (hP2 : 2 ≤ P ∧ P ≤ 5) (a b c d e : Int32) (post : Bool → MS → Prop) (h0 : (¬ ∃ ν, NM (n5 (S.2.1 26) a b c d e) P ν) → post false (ma S 26 (n5 (S.2.1 26) a b c d e))) (h1 : ∀ ν, NM (n5 (S.2.1 26) a b c d e) P ν → post true (ma S 26 (n5 (S.2.1 26) a b c d e))) : mX_areNames l S a b c d e post := by
  refine m_areNames l S a b c d e post ?_
  intro B40 B68 h40 h68
  unfold mT_areNames_e
  refine ⟨vp_in_nI (n := 0) (by omega) (by omega), vp_in_nI (n := 1) (by omega) (by omega), vp_in_nI (n := 2) (by omega) (by omega), vp_in_nI (n := 3) (by omega) (by omega), vp_in_nI (n := 4) (by omega) (by omega), ?_⟩
  rw [ma_ma, ma_ma, ma_ma, ma_ma]
  show B40 (ma S 26 (n5 (S.2.1 26) a b c d e)) 0
  generalize n5 (S.2.1 26) a b c d e = f at *
  have hP' : (ma S 26 f).1 0 = nI P := hP
  have key : ∀ t k, k + t = P → ∀ ν : Nat → Nat, (∀ i, i < k → f i = nI (ν i) ∧ ν i < P) → (∀ i j, i < k → j < k → ν i = ν j → i = j) → B40 (ma S 26 f) (nI k) := by
    intro t
    induction t with
    | zero =>
      intro k hk ν g1 g2
      have : k = P := by omega
      subst this
      refine h40 _ _ ?_
      unfold mT_areNames_40
      rw [hP']
      exact ⟨fun _ => h1 ν ⟨g1, g2⟩, fun w => absurd (nI_le (Nat.le_refl _) (by omega)) w⟩
    | succ t ih =>
      intro k hk ν g1 g2
      refine h40 _ _ ?_
      unfold mT_areNames_40
      rw [hP', nI_clamp (show k < 2 ^ 31 by omega), ma_get]
      refine ⟨fun w => absurd w (nI_ge (by omega) (by omega)), fun _ => ⟨vp_in_nI (by omega) (by omega), ?_⟩⟩
      refine s_isPegC l _ (f k) _ (P := P) hP' hP2 (fun q => ⟨fun w => absurd rfl w, fun _ => h0 (fun ⟨ν', hν⟩ => q ⟨ν' k, (hν.1 k (by omega)).2, (hν.1 k (by omega)).1⟩)⟩) (fun v hv ev => ⟨fun _ => ?_, fun w => absurd w (by decide)⟩)
      have inner : ∀ t2 q, q + t2 = k → (∀ i, i < q → ν i ≠ v) → B68 (ma S 26 f) (nI k) (nI q) := by
        intro t2
        induction t2 with
        | zero =>
          intro q hq hn
          have : q = k := by omega
          subst this
          refine h68 _ _ _ ?_
          unfold mT_areNames_68
          rw [← nI_succ]
          refine ⟨fun _ => ?_, fun w => absurd (nI_le (Nat.le_refl _) (by omega)) w⟩
          refine ih (q + 1) (by omega) (va_up ν q v) (fun i hi => ?_) (fun i j hi hj e => ?_)
          · by_cases e : i = q
            · subst e; rw [va_up_same]; exact ⟨ev, hv⟩
            · rw [va_up_other _ _ e]; exact g1 i (by omega)
          · by_cases e1 : i = q
            · by_cases e2 : j = q
              · omega
              · subst e1
                rw [va_up_same, va_up_other _ _ e2] at e
                exact absurd e.symm (hn j (by omega))
            · by_cases e2 : j = q
              · subst e2
                rw [va_up_same, va_up_other _ _ e1] at e
                exact absurd e (hn i (by omega))
              · rw [va_up_other _ _ e1, va_up_other _ _ e2] at e
                exact g2 i j (by omega) (by omega) e
        | succ t2 ih2 =>
          intro q hq hn
          have gq := g1 q (by omega)
          refine h68 _ _ _ ?_
          unfold mT_areNames_68
          rw [nI_clamp (show k < 2 ^ 31 by omega), nI_clamp (show q < 2 ^ 31 by omega), ma_get, ev, gq.1, ← nI_succ, ← nI_succ]
          refine ⟨fun w => absurd w (nI_ge (by omega) (by omega)), fun _ => ⟨vp_in_nI (by omega) (by omega), vp_in_nI (by omega) (by omega), fun c => ?_, fun c => h0 ?_⟩⟩
          · refine ih2 (q + 1) (by omega) (fun i hi => ?_)
            by_cases e : i = q
            · subst e; exact fun w => c (by rw [w])
            · exact hn i (by omega)
          · rintro ⟨ν', hν⟩
            have c : ν q = v := (nI_eq (by omega) (by omega)).mp c
            have w1 := hν.1 q (by omega)
            have w2 := hν.1 k (by omega)
            have e1 : ν q = ν' q := (nI_eq (by omega) (by omega)).mp (gq.1.symm.trans w1.1)
            have e2 : v = ν' k := (nI_eq (by omega) (by omega)).mp (ev.symm.trans w2.1)
            have := hν.2 q k (by omega) (by omega) (by rw [← e1, ← e2, c])
            omega
      exact inner k 0 (by omega) (fun i hi => absurd hi (Nat.not_lt_zero _))
  exact key P 0 (by omega) (fun _ => 0) (fun i hi => absurd hi (Nat.not_lt_zero _)) (fun i j hi => absurd hi (Nat.not_lt_zero _))

-- a loop over the pairs p < q
theorem tri_loop {α : Type} {K : Nat} {Bo : α → Nat → Prop} {Bi : α → Nat → Nat → Prop} {I : Nat → Nat → α → Prop}
    (h1 : ∀ T p, p < K → I p (p + 1) T → Bi T p (p + 1) → Bo T p) (h2 : ∀ T, I K (K + 1) T → Bo T K) (h3 : ∀ T p q, p < q → q < K → I p q T → (∀ T', I p (q + 1) T' → Bi T' p (q + 1)) → Bi T p q)
    (h4 : ∀ T p, p < K → I p K T → Bo T (p + 1) → Bi T p K) (h5 : ∀ T p, p < K → I p K T → I (p + 1) (p + 1 + 1) T) : ∀ T, I 0 1 T → Bo T 0 := by
  have key : ∀ d p, p + d = K → ∀ T, I p (p + 1) T → Bo T p := by
    intro d
    induction d with
    | zero =>
      intro p hp T hT
      have : p = K := by omega
      subst this
      exact h2 T hT
    | succ d ih =>
      intro p hp T hT
      refine h1 T p (by omega) hT ?_
      have inner : ∀ e q, q + e = K → p < q → ∀ T, I p q T → Bi T p q := by
        intro e
        induction e with
        | zero =>
          intro q hq hpq T hT
          have : q = K := by omega
          subst this
          exact h4 T p (by omega) hT (ih (p + 1) (by omega) T (h5 T p (by omega) hT))
        | succ e ih2 =>
          intro q hq hpq T hT
          exact h3 T p q hpq (by omega) hT (fun T' hT' => ih2 (q + 1) (by omega) (by omega) T' hT')
      exact inner (K - (p + 1)) (p + 1) (by omega) (by omega) T hT
  exact fun T hT => key K 0 (by omega) T hT
/-- the lanes of the pegs below K, turned about up to the pair p, r -/
def tuN (K : Nat) (g : Nat → Nat) (p r : Nat) : Nat → Nat := fun j => if j < 25 ∧ j / 5 ≠ j % 5 ∧ max (j / 5) (j % 5) < K ∧ (min (j / 5) (j % 5) < p ∨ (min (j / 5) (j % 5) = p ∧ max (j / 5) (j % 5) < r)) then g (5 * (j % 5) + j / 5) else g j
theorem tuN_0 (K : Nat) (g : Nat → Nat) : tuN K g 0 1 = g := by
  funext j
  unfold tuN
  rw [if_neg]
  rintro ⟨w1, w2, w3⟩
  omega
theorem tuN_le {K : Nat} {g : Nat → Nat} {B : Nat} (h : ∀ j, j < 25 → g j ≤ B) (p r j : Nat) (hj : j < 25) : tuN K g p r j ≤ B := by
  unfold tuN
  split
  · exact h _ (by omega)
  · exact h _ hj
theorem tuN_at {K : Nat} {g : Nat → Nat} {p q : Nat} (hpq : p < q) (hq : q < 5) : tuN K g p q (5 * p + q) = g (5 * p + q) ∧ tuN K g p q (5 * q + p) = g (5 * q + p) := by
  unfold tuN
  rw [if_neg (by omega), if_neg (by omega)]
  exact ⟨rfl, rfl⟩
theorem tuN_step {K : Nat} (g : Nat → Nat) {p q : Nat} (hpq : p < q) (hq : q < K) (hK : K ≤ 5) : tuN K g p (q + 1) = va_up (va_up (tuN K g p q) (5 * p + q) (g (5 * q + p))) (5 * q + p) (g (5 * p + q)) := by
  funext j
  by_cases e1 : j = 5 * q + p
  · rw [e1, va_up_same]
    unfold tuN
    rw [if_pos (by omega)]
    congr 1
    omega
  · rw [va_up_other _ _ e1]
    by_cases e2 : j = 5 * p + q
    · rw [e2, va_up_same]
      unfold tuN
      rw [if_pos (by omega)]
      congr 1
      omega
    · rw [va_up_other _ _ e2]
      unfold tuN
      by_cases e3 : j < 25 ∧ j / 5 ≠ j % 5 ∧ max (j / 5) (j % 5) < K ∧ (min (j / 5) (j % 5) < p ∨ (min (j / 5) (j % 5) = p ∧ max (j / 5) (j % 5) < q))
      · rw [if_pos e3, if_pos (by omega)]
      · rw [if_neg e3, if_neg (by omega)]
theorem tuN_row {K : Nat} (g : Nat → Nat) {p : Nat} (hp : p < K) : tuN K g p K = tuN K g (p + 1) (p + 1 + 1) := by
  funext j
  unfold tuN
  by_cases e3 : j < 25 ∧ j / 5 ≠ j % 5 ∧ max (j / 5) (j % 5) < K ∧ (min (j / 5) (j % 5) < p ∨ (min (j / 5) (j % 5) = p ∧ max (j / 5) (j % 5) < K))
  · rw [if_pos e3, if_pos (by omega)]
  · rw [if_neg e3, if_neg (by omega)]
theorem tuN_end {K : Nat} (g : Nat → Nat) {a b : Nat} (ha : a < 5) (hb : b < 5) : tuN K g K (K + 1) (5 * a + b) = if a < K ∧ b < K then g (5 * b + a) else g (5 * a + b) := by
  unfold tuN
  have e1 : (5 * a + b) / 5 = a := by omega
  have e2 : (5 * a + b) % 5 = b := by omega
  rw [e1, e2]
  by_cases e : a = b
  · subst e
    rw [if_neg (by omega)]
    split <;> rfl
  · by_cases c : a < K ∧ b < K
    · rw [if_pos (by omega), if_pos c]
    · rw [if_neg (by omega), if_neg c]
def b01 (k : Nat) : Bool := decide (k = 1)
theorem b01_eq {k : Nat} (h : k ≤ 1) : nI k = bI (b01 k) ∧ bN (b01 k) = k := by
  have : k = 0 ∨ k = 1 := by omega
  rcases this with q | q <;> subst q <;> exact ⟨rfl, rfl⟩
theorem nar01 {k : Nat} (h : k ≤ 1) : vp_nar .boolean (nI k) = nI k := by
  have : k = 0 ∨ k = 1 := by omega
  rcases this with q | q <;> subst q <;> rfl

section About
variable {S : CS} {M : MS} {n P x y : Nat} {kd ct sc sm : Nat → Nat}
/-- all is forgotten that hangs on the lanes -/
theorem Rl.fresh {T : CS} {N : MS} {x' y' : Nat} {ct' sc' sm' : Nat → Nat} (h : Rl S M n P kd ct sc sm x y) (hle : T.2.2.2 = S.2.2.2) (hb : RB T N n P kd ct' sc' sm') (h0 : RS n P kd (T.1 0) (N.2.1 2) x') (h1 : RS n P kd (T.1 1) (N.2.1 3) y') (h2 : T.1 2 = N.1 2) (t9 : T.1 9 = 0) (t10 : T.1 10 = 0) (n4 : N.1 4 = 0) (n5 : N.1 5 = 0) (t12 : T.1 12 = -1) (t17 : T.1 17 = 0)
    (t11 : T.1 11 = S.1 11) (t22 : T.2.1 22 = S.2.1 22) (n6 : N.1 6 = M.1 6) (n7 : N.2.1 7 = M.2.1 7) (t19 : T.1 19 = S.1 19) (t38 : T.2.1 38 = S.2.1 38) (t39 : T.2.1 39 = S.2.1 39) (t40 : T.2.1 40 = S.2.1 40) (t41 : T.2.1 41 = S.2.1 41) (t42 : T.2.2.1 42 = S.2.2.1 42)
    (n9 : N.1 9 = M.1 9) (n29 : N.2.1 29 = M.2.1 29) (n30 : N.2.1 30 = M.2.1 30) (n31 : N.2.1 31 = M.2.1 31) (n32 : N.2.1 32 = M.2.1 32) (m8 : ∃ τ, MA N 8 τ) (m9 : ∃ τ, MA N 9 τ) : Rl T N n P kd ct' sc' sm' x' y' := by
  obtain ⟨-, -, -, -, -, q6, q7, -, q9, q10⟩ := h
  refine ⟨hb, h0, h1, h2, ?_, ?_, ?_, ⟨m8, m9⟩, q9.none hle t12, q10.none hle t17⟩
  · rw [t9, t10, n4, n5]; exact RP0
  · rw [t11, t22, hle, n6, n7]; exact q6
  · rw [t19, t38, t39, t40, t41, t42, n9, n29, n30, n31, n32]; exact q7
def q2B : Nat → Bool := fun k => decide (k = 11) || decide (k = 12)
theorem k_turn (l : Launch) (h : CY S n P kd ct sc) (post : CS → Prop) (hp : ∀ T, CFr nn q2B nn S T → CY T n P kd (tuN P ct P (P + 1)) (tuN P sc P (P + 1)) → post T) : cX_X0_turnLanes l S post := by
  have hP2 := h.2.2.2.1
  refine c_X0_turnLanes l S post ?_
  intro B2 B14 h2 h14
  unfold cT_X0_turnLanes_e
  refine tri_loop (α := CS) (K := P) (Bo := fun U p => B2 U (nI p)) (Bi := fun U p q => B14 U (nI p) (nI q)) (I := fun p r U => CFr nn q2B nn S U ∧ CY U n P kd (tuN P ct p r) (tuN P sc p r)) ?_ ?_ ?_ ?_ ?_ S ?_
  · rintro U p hp' ⟨k1, k2⟩ hBi
    refine h2 _ _ ?_
    unfold cT_X0_turnLanes_2
    rw [k2.1]
    refine ⟨fun w => absurd w (nI_ge hp' (by omega)), fun _ v hv => ?_⟩
    rw [hv, ← nI_succ]; exact hBi
  · rintro U ⟨k1, k2⟩
    refine h2 _ _ ?_
    unfold cT_X0_turnLanes_2
    rw [k2.1]
    exact ⟨fun _ => hp U k1 k2, fun w => absurd (nI_le (Nat.le_refl _) (by omega)) w⟩
  · rintro U p q hpq hq ⟨k1, k2⟩ nxt
    refine h14 _ _ _ ?_
    unfold cT_X0_turnLanes_14
    have a1 := tuN_at (K := P) (g := ct) hpq (show q < 5 by omega)
    have a2 := tuN_at (K := P) (g := sc) hpq (show q < 5 by omega)
    have r1 := k2.2.2.2.2.2.2.2.1 (5 * p + q) (by omega)
    have r2 := k2.2.2.2.2.2.2.2.1 (5 * q + p) (by omega)
    have r3 := k2.2.2.2.2.2.2.2.2 (5 * p + q) (by omega)
    have r4 := k2.2.2.2.2.2.2.2.2 (5 * q + p) (by omega)
    rw [a1.1] at r1
    rw [a1.2] at r2
    rw [a2.1] at r3
    rw [a2.2] at r4
    rw [k2.1, ix5, ix5, nI_clamp (show 5 * p + q < 2 ^ 31 by omega), nI_clamp (show 5 * q + p < 2 ^ 31 by omega), r1.1, r2.1, r3.1, r4.1]
    refine ⟨fun w => absurd w (nI_ge hq (by omega)), fun _ => ⟨vp_in_nI (by omega) (by omega), fun v3 e3 => ⟨vp_in_nI (by omega) (by omega), fun v4 e4 => ⟨vp_in_nI (by omega) (by omega), vp_in_nI (by omega) (by omega), b01 (sc (5 * q + p)), (b01_eq r4.2).1, ?_⟩⟩⟩⟩
    subst e3
    subst e4
    refine k_setLane l U (by omega) (by omega) _ _ _ ⟨b01 (sc (5 * p + q)), (b01_eq r3.2).1, ?_⟩
    refine k_setLane l _ (by omega) (by omega) _ _ _ ?_
    rw [(b01_eq r4.2).2, (b01_eq r3.2).2, ← nI_succ]
    refine nxt _ ⟨(((k1.ca _ rfl).ca _ rfl).ca _ rfl).ca _ rfl, ?_⟩
    rw [tuN_step ct hpq hq hP2.2, tuN_step sc hpq hq hP2.2]
    exact (k2.lane r2.2 r4.2).lane r1.2 r3.2
  · rintro U p hp' ⟨k1, k2⟩ hBo
    refine h14 _ _ _ ?_
    unfold cT_X0_turnLanes_14
    rw [k2.1]
    refine ⟨fun _ => ?_, fun w => absurd (nI_le (Nat.le_refl _) (by omega)) w⟩
    rw [← nI_succ]; exact hBo
  · rintro U p hp' ⟨k1, k2⟩
    rw [tuN_row ct hp', tuN_row sc hp'] at k2
    exact ⟨k1, k2⟩
  · exact ⟨CFr.rf, by rw [tuN_0, tuN_0]; exact h⟩
def aqB : Nat → Bool := fun k => decide (2 ≤ k) && decide (k ≤ 5)
theorem s_about (l : Launch) (h : MY M n P kd ct sm) {f g : Nat → Int32} (hf : M.2.1 2 = f) (hg : M.2.1 3 = g) (post : Int32 → MS → Prop) (hp : ∀ T, MFx (fun k => decide (k = 3)) aqB M T → MY T n P kd (tuN 5 ct 5 6) (tuN 5 sm 5 6) → T.2.1 2 = cpF f g n → T.2.1 3 = cpF g f n → post (nI (lnN (tuN 5 ct 5 6))) (mf (mf T 4 0) 5 0)) : mX_about l M post := by
  have hP2 := h.2.2.1
  have hn2 := h.2.2.2.1
  refine m_about l M post ?_
  intro B7 B16 B121 h7 h16 h121
  unfold mT_about_e
  refine tri_loop (α := MS) (K := 5) (Bo := fun U p => B7 U (nI p)) (Bi := fun U p q => B16 U (nI p) (nI q)) (I := fun p r U => MFx (fun k => decide (k = 3)) aqB M U ∧ MY U n P kd (tuN 5 ct p r) (tuN 5 sm p r) ∧ U.2.1 2 = f ∧ U.2.1 3 = g) ?_ ?_ ?_ ?_ ?_ (mf M 3 0) ?_
  · rintro U p hp' ⟨k1, k2, k3⟩ hBi
    refine h7 _ _ ?_
    unfold mT_about_7
    refine ⟨fun w => absurd w (nI_ge (a := p) (b := 5) hp' (by omega)), fun _ v hv => ?_⟩
    rw [hv, ← nI_succ]; exact hBi
  · rintro U ⟨k1, k2, k3, k4⟩
    refine h7 _ _ ?_
    unfold mT_about_7
    refine ⟨fun _ => ?_, fun w => absurd (show (5 : Int32) ≤ nI 5 by decide) w⟩
    have key : ∀ d k, k + d = n → ∀ V, MFx (fun k => decide (k = 3)) aqB M V → MY V n P kd (tuN 5 ct 5 6) (tuN 5 sm 5 6) → V.2.1 2 = cpF f g k → V.2.1 3 = cpF g f k → B121 V (nI k) := by
      intro d
      induction d with
      | zero =>
        intro k hk V v1 v2 v3 v4
        have : k = n := by omega
        subst this
        refine h121 _ _ ?_
        unfold mT_about_121
        rw [v2.2.1]
        exact ⟨fun _ => s_lanesThere l (M := mf (mf V 4 0) 5 0) v2.2.2.2.2.2.1 _ (hp V v1 v2 v3 v4), fun w => absurd (nI_le (Nat.le_refl _) (by omega)) w⟩
      | succ d ih =>
        intro k hk V v1 v2 v3 v4
        refine h121 _ _ ?_
        unfold mT_about_121
        rw [v2.2.1, nI_clamp (show k < 2 ^ 31 by omega), v3, v4, ← nI_succ]
        have c1 : cpF f g k k = f k := by unfold cpF; rw [if_neg (by omega)]
        have c2 : cpF g f k k = g k := by unfold cpF; rw [if_neg (by omega)]
        rw [c1, c2, cpF_s]
        refine ⟨fun w => absurd w (nI_ge (by omega) (by omega)), fun _ => ⟨vp_in_nI (by omega) (by omega), fun v hv => ⟨vp_in_nI (by omega) (by omega), vp_in_nI (by omega) (by omega), vp_in_nI (by omega) (by omega), ?_⟩⟩⟩
        rw [hv]
        have e3 : (ma V 2 (cpF f g (k + 1))).2.1 3 = cpF g f k := v4
        first
          | rw [cpF_s]
          | rw [e3, cpF_s]
        exact ih (k + 1) (by omega) _ ((v1.row _ rfl).row _ rfl) ((v2.ma _ (by decide) (by decide) (by decide)).ma _ (by decide) (by decide) (by decide)) rfl rfl
    exact key n 0 (by omega) U k1 k2 (by rw [cpF_0]; exact k3) (by rw [cpF_0]; exact k4)
  · rintro U p q hpq hq ⟨k1, k2, k3⟩ nxt
    refine h16 _ _ _ ?_
    unfold mT_about_16
    have a1 := tuN_at (K := 5) (g := ct) hpq (show q < 5 by omega)
    have a2 := tuN_at (K := 5) (g := sm) hpq (show q < 5 by omega)
    have r1 := k2.2.2.2.2.2.1 (5 * p + q) (by omega)
    have r2 := k2.2.2.2.2.2.1 (5 * q + p) (by omega)
    have r3 := k2.2.2.2.2.2.2 (5 * p + q) (by omega)
    have r4 := k2.2.2.2.2.2.2 (5 * q + p) (by omega)
    rw [a1.1] at r1
    rw [a1.2] at r2
    rw [a2.1] at r3
    rw [a2.2] at r4
    rw [ix25 (show p < 5 by omega) hq, ix25 hq (show p < 5 by omega), nI_clamp (show 5 * p + q < 2 ^ 31 by omega), nI_clamp (show 5 * q + p < 2 ^ 31 by omega), r1.1, r2.1, r3.1, r4.1, nar01 r4.2, ← nI_succ, ← nI_succ]
    refine ⟨fun w => absurd w (nI_ge (a := q) (b := 5) hq (by omega)), fun _ => ⟨vp_in_nI (by omega) (by omega), fun v3 e3 => ⟨vp_in_nI (by omega) (by omega), fun v4 e4 => ⟨vp_in_nI (by omega) (by omega), vp_in_nI (by omega) (by omega), vp_in_nI (by omega) (by omega), vp_in_nI (by omega) (by omega), vp_in_nI (by omega) (by omega), vp_in_nI (by omega) (by omega), ?_⟩⟩⟩⟩
    rw [e3, e4, nar01 r3.2]
    have g := MYlane (MYlane k2 (j := 5 * p + q) r2.2 r4.2) (j := 5 * q + p) r1.2 r3.2
    refine nxt _ ⟨(((k1.row _ rfl).row _ rfl).row _ rfl).row _ rfl, ?_, k3⟩
    rw [tuN_step ct hpq hq (Nat.le_refl _), tuN_step sm hpq hq (Nat.le_refl _)]
    exact g
  · rintro U p hp' ⟨k1, k2, k3⟩ hBo
    refine h16 _ _ _ ?_
    unfold mT_about_16
    refine ⟨fun _ => ?_, fun w => absurd (show (5 : Int32) ≤ nI 5 by decide) w⟩
    rw [← nI_succ]; exact hBo
  · rintro U p hp' ⟨k1, k2, k3⟩
    rw [tuN_row ct hp', tuN_row sm hp'] at k2
    exact ⟨k1, k2, k3⟩
  · exact ⟨MFx.rf.sc _ rfl, by rw [tuN_0, tuN_0]; exact h.mf 0 (by decide) (by decide), hf, hg⟩
theorem lnN_congr {c1 c2 : Nat → Nat} (h : ∀ j, j < 25 → c1 j = c2 j) : lnN c1 = lnN c2 := by
  unfold lnN
  have : ∀ k, k ≤ 25 → cntP (fun j => decide (c1 j ≠ 0)) k = cntP (fun j => decide (c2 j ≠ 0)) k := by
    intro k
    induction k with
    | zero => intro _; rfl
    | succ k ih =>
      intro hk
      unfold cntP
      rw [ih (by omega), h k (by omega)]
  exact this 25 (Nat.le_refl _)
theorem o_about (l : Launch) (h : Rl S M n P kd ct sc sm x y) : cX_X8_about l S (fun r1 S1 => mX_about l M (fun r2 M1 => OKr S r1 S1 r2 M1)) := by
  have hP2 := h.P2
  refine c_X8_about l S _ ?_
  unfold cT_X8_about_e
  refine k_turn l h.cy _ (fun T fT hT v hv => ?_)
  refine k_forgetAll l _ _ (k_countLanes l (S := cf (cf (cf (cf (cf (cf T 0 (T.1 1)) 1 v) 9 0) 10 0) 12 (-1)) 17 0) (ct := tuN P ct P (P + 1)) hT.2.2.2.2.2.2.2.1 _ ?_)
  have hz : ∀ a b, a < 5 → b < 5 → (a = b ∨ P ≤ a ∨ P ≤ b) → ct (5 * a + b) = 0 := h.1.2.2.2
  have ect : ∀ j, j < 25 → tuN P ct P (P + 1) j = tuN 5 ct 5 6 j := by
    intro j hj
    have ej : j = 5 * (j / 5) + j % 5 := by omega
    rw [ej, tuN_end ct (by omega) (by omega), tuN_end ct (by omega) (by omega), if_pos (show j / 5 < 5 ∧ j % 5 < 5 by omega)]
    by_cases c : j / 5 < P ∧ j % 5 < P
    · rw [if_pos c]
    · rw [if_neg c, hz (j / 5) (j % 5) (by omega) (by omega) (by omega), hz (j % 5) (j / 5) (by omega) (by omega) (by omega)]
  refine s_about l h.my rfl rfl _ (fun N fN hN n2 n3 => ⟨by rw [lnN_congr ect], ⟨n, P, kd, tuN 5 ct 5 6, tuN P sc P (P + 1), tuN 5 sm 5 6, y, x, ?_⟩, (have hq := lens_eq fT; hq)⟩)
  subst hv
  have hrow : ∀ (f g : Nat → Int32) (u v : Nat), u < P ^ n → v < P ^ n → (∀ j, j < 7 → f j = nI (dgs P u j)) → (∀ j, j < 7 → g j = nI (dgs P v j)) → ∀ j, j < 7 → cpF f g n j = nI (dgs P v j) := by
    intro f g u v hu hv hf hg
    refine row_of (by omega) hu hv hf (σ := dgs P v) (fun _ _ => rfl) _ (fun j hj => ?_)
    unfold cpF
    by_cases e : j < n
    · rw [if_pos e, if_pos e, hg j hj]
    · rw [if_neg e, if_neg e]
  obtain ⟨τ, m8⟩ := h.m8
  obtain ⟨ρ, m9⟩ := h.m9
  refine h.fresh (have hq := lens_eq fT; hq) ⟨?_, ?_, fun j hj hne => ?_, fun a b ha hb hab => ?_⟩ ?_ ?_ ?_ rfl rfl rfl rfl rfl rfl ?_ ?_ ?_ ?_ ?_ ?_ ?_ ?_ ?_ ?_ ?_ ?_ ?_ ?_ ?_ ?_ ?_
  · obtain ⟨c1, c2, c3, c4, c5, c6, c7, c8, c9⟩ := hT
    exact ⟨c1, c2, c3, c4, c5, c6, c7, fun j hj => by rw [← ect j hj]; exact c8 j hj, c9⟩
  · exact (hN.mf _ (by decide) (by decide)).mf _ (by decide) (by decide)
  · have ej : j = 5 * (j / 5) + j % 5 := by omega
    rw [ej, tuN_end ct (by omega) (by omega), if_pos (show j / 5 < 5 ∧ j % 5 < 5 by omega)] at hne
    rw [ej, tuN_end sc (by omega) (by omega), tuN_end sm (by omega) (by omega), if_pos (show j / 5 < 5 ∧ j % 5 < 5 by omega)]
    by_cases c : j / 5 < P ∧ j % 5 < P
    · rw [if_pos c]
      exact h.1.2.2.1 _ (by omega) hne
    · exact absurd (hz (j % 5) (j / 5) (by omega) (by omega) (by omega)) hne
  · rw [tuN_end ct ha hb, if_pos ⟨ha, hb⟩]
    exact hz b a hb ha (by omega)
  · show RS n P kd (T.1 1) (N.2.1 2) y
    rw [fT.1 1 rfl, h.sy, n2]
    exact ⟨rfl, h.hy, hrow _ _ x y h.hx h.hy h.2.1.2.2.1 h.2.2.1.2.2.1, h.2.2.1.2.2.2⟩
  · show RS n P kd (T.1 0) (N.2.1 3) x
    rw [fT.1 0 rfl, h.sx, n3]
    exact ⟨rfl, h.hx, hrow _ _ y x h.hy h.hx h.2.2.1.2.2.1 h.2.1.2.2.1, h.2.1.2.2.2⟩
  · show T.1 2 = N.1 2
    rw [fT.1 2 rfl, fN.1 2 rfl]; exact h.2.2.2.1
  · exact fT.1 11 rfl
  · exact (fT.2.1 22 rfl).1
  · exact fN.1 6 rfl
  · exact fN.2 7 rfl
  · exact fT.1 19 rfl
  · exact (fT.2.1 38 rfl).1
  · exact (fT.2.1 39 rfl).1
  · exact (fT.2.1 40 rfl).1
  · exact (fT.2.1 41 rfl).1
  · exact (fT.2.1 42 rfl).2
  · exact fN.1 9 rfl
  · exact fN.2 29 rfl
  · exact fN.2 30 rfl
  · exact fN.2 31 rfl
  · exact fN.2 32 rfl
  · exact ⟨τ, fun j hj => by show N.2.1 8 j = _ ∧ _; rw [fN.2 8 rfl]; exact m8 j hj⟩
  · exact ⟨ρ, fun j hj => by show N.2.1 9 j = _ ∧ _; rw [fN.2 9 rfl]; exact m9 j hj⟩
end About
end
section
-- rename()
def rn (μ : Nat → Nat) (P : Nat) (g : Nat → Nat) (p r : Nat) : Nat → Nat := fun j => if j < 25 ∧ j / 5 < P ∧ j % 5 < P ∧ (μ (j / 5) < p ∨ (μ (j / 5) = p ∧ μ (j % 5) < r)) then g (5 * μ (j / 5) + μ (j % 5)) else g j
theorem rn_0 (μ : Nat → Nat) (P : Nat) (g : Nat → Nat) : rn μ P g 0 0 = g := by
  funext j
  unfold rn
  rw [if_neg]
  rintro ⟨w1, w2, w3, w4⟩
  omega
section Ren
variable {S : CS} {M : MS} {n P x y : Nat} {kd ct sc sm μ ν : Nat → Nat}
theorem rn_le {g : Nat → Nat} {B : Nat} (hP : P ≤ 5) (h : ∀ j, j < 25 → g j ≤ B) (hμ : ∀ v, v < P → μ v < P) (p r j : Nat) (hj : j < 25) : rn μ P g p r j ≤ B := by
  unfold rn
  split
  · rename_i w
    have := hμ _ w.2.1
    have := hμ _ w.2.2.1
    exact h _ (by omega)
  · exact h _ hj
theorem rn_step (g : Nat → Nat) (hP : P ≤ 5) (h1 : ∀ i, i < P → ν i < P ∧ μ (ν i) = i) (h2 : ∀ v, v < P → μ v < P ∧ ν (μ v) = v) {p r : Nat} (hp : p < P) (hr : r < P) : rn μ P g p (r + 1) = va_up (rn μ P g p r) (5 * ν p + ν r) (g (5 * p + r)) := by
  have a1 := h1 p hp
  have a2 := h1 r hr
  funext j
  by_cases e : j = 5 * ν p + ν r
  · rw [e, va_up_same]
    unfold rn
    have e1 : (5 * ν p + ν r) / 5 = ν p := by omega
    have e2 : (5 * ν p + ν r) % 5 = ν r := by omega
    rw [e1, e2, a1.2, a2.2, if_pos (by omega)]
  · rw [va_up_other _ _ e]
    unfold rn
    by_cases c : j < 25 ∧ j / 5 < P ∧ j % 5 < P ∧ (μ (j / 5) < p ∨ (μ (j / 5) = p ∧ μ (j % 5) < r))
    · rw [if_pos c, if_pos (by omega)]
    · rw [if_neg c, if_neg]
      rintro ⟨w1, w2, w3, w4⟩
      have : μ (j / 5) = p ∧ μ (j % 5) = r := by omega
      have b1 := (h2 _ w2).2
      have b2 := (h2 _ w3).2
      rw [this.1] at b1
      rw [this.2] at b2
      omega
theorem rn_row (g : Nat → Nat) (h2 : ∀ v, v < P → μ v < P) {p : Nat} : rn μ P g p P = rn μ P g (p + 1) 0 := by
  funext j
  unfold rn
  by_cases c : j < 25 ∧ j / 5 < P ∧ j % 5 < P ∧ (μ (j / 5) < p ∨ (μ (j / 5) = p ∧ μ (j % 5) < P))
  · rw [if_pos c, if_pos (by omega)]
  · rw [if_neg c, if_neg]
    rintro ⟨w1, w2, w3, w4⟩
    have := h2 _ w3
    omega
theorem rn_end (g : Nat → Nat) (h2 : ∀ v, v < P → μ v < P) {a b : Nat} (ha : a < 5) (hb : b < 5) : rn μ P g P 0 (5 * a + b) = if a < P ∧ b < P then g (5 * μ a + μ b) else g (5 * a + b) := by
  unfold rn
  have e1 : (5 * a + b) / 5 = a := by omega
  have e2 : (5 * a + b) % 5 = b := by omega
  rw [e1, e2]
  by_cases c : a < P ∧ b < P
  · have := h2 _ c.1
    rw [if_pos (by omega), if_pos c]
  · rw [if_neg (by omega), if_neg c]
theorem RR.ren {σ : Nat → Nat} (h : RR kd σ n) (hσ : ∀ j, j < n → σ j < P) (hν : ∀ i j, i < P → j < P → ν i = ν j → i = j) : RR kd (fun j => ν (σ j)) n := by
  intro d c h1 h2 h3 h4 h5
  refine h d c h1 h2 (hν _ _ (hσ c h2) (hσ d (by omega)) h3) (fun i q1 q2 q3 => ?_) h5
  exact h4 i q1 q2 (by show ν (σ i) = ν (σ d); rw [q3])
theorem k_renamed (l : Launch) (hy : CY S n P kd ct sc) (hx : x < P ^ n) {f : Nat → Int32} (hf : ∀ k, k < P → f k = nI (ν k) ∧ ν k < P) (post : Int32 → CS → Prop) (hp : ∀ T, CFr lA lB nn S T → post (nI (numN (fun j => ν (dgs P x j)) P n)) T) : cX_X8_renamed l S (nI x) 5 f post := by
  have hP2 := hy.2.2.2.1
  have hn2 := hy.2.2.2.2.1
  refine c_X8_renamed l S _ 5 f post ?_
  intro B17 h17
  unfold cT_X8_renamed_e
  refine k_read l hy hx _ (fun T fT hT => ?_)
  have hyT := hy.fr fT
  have key : ∀ d k, k + d = n → B17 T (nI (numN (fun j => ν (dgs P x j)) P k)) (nI k) := by
    intro d
    induction d with
    | zero =>
      intro k hk
      have : k = n := by omega
      subst this
      refine h17 _ _ _ ?_
      unfold cT_X8_renamed_17
      rw [hyT.2.1]
      exact ⟨fun _ => hp T fT, fun w => absurd (nI_le (Nat.le_refl _) (by omega)) w⟩
    | succ d ih =>
      intro k hk
      refine h17 _ _ _ ?_
      unfold cT_X8_renamed_17
      have hd : dgs P x k < P := dgs_lt (by omega) x k
      have hk13 := hT.1 k (Nat.zero_le _) (by omega)
      rw [hyT.2.1, nI_clamp (show k < 2 ^ 31 by omega), hk13, nI_clamp (show dgs P x k < 2 ^ 31 by omega), (hf _ hd).1, hyT.2.2.2.2.2.1 k (by omega), pk_mul, nI_add, ← nI_succ]
      refine ⟨fun w => absurd w (nI_ge (by omega) (by omega)), fun _ => ⟨vp_in_nI (by omega) (by omega), vp_in_nI (by omega) (by omega), vp_in_nI (by omega) (by omega), fun v hv => ?_⟩⟩
      rw [hv]
      exact ih (k + 1) (by omega)
  exact key n 0 (by omega)
theorem k_renLanes (l : Launch) (h : CY S n P kd ct sc) (h1 : ∀ i, i < P → ν i < P ∧ μ (ν i) = i) (h2 : ∀ v, v < P → μ v < P ∧ ν (μ v) = v) {f : Nat → Int32} (hf : ∀ k, k < P → f k = nI (ν k)) (post : CS → Prop) (hp : ∀ T, CFr nn q2B nn S T → CY T n P kd (rn μ P ct P 0) (rn μ P sc P 0) → post T) : cX_X0_renameLanes l 2 50 S 5 f post := by
  have hP2 := h.2.2.2.1
  refine c_X0_renameLanes l 2 50 S 5 f post ?_
  intro B25 B37 h25 h37
  unfold cT_X0_renameLanes_e
  refine ⟨by omega, by omega, fun j hj => ?_, by omega, by omega, ?_⟩
  · have := h.2.2.2.2.2.2.2.2 j hj
    rw [this.1]
    have : sc j = 0 ∨ sc j = 1 := by omega
    rcases this with q | q
    · rw [q]; exact Or.inl rfl
    · rw [q]; exact Or.inr rfl
  · refine pair_loop (α := CS) (P := P) (Bo := fun U p => B25 2 50 U (nI p) (S.2.1 11) (S.2.1 12)) (Bi := fun U p r => B37 2 50 U (nI p) (nI r) (S.2.1 11) (S.2.1 12)) (I := fun p r U => CFr nn q2B nn S U ∧ CY U n P kd (rn μ P ct p r) (rn μ P sc p r)) ?_ ?_ ?_ ?_ ?_ S ?_
    · rintro U p hp' ⟨k1, k2⟩ hBi
      refine h25 _ _ _ _ _ _ ?_
      unfold cT_X0_renameLanes_25
      rw [k2.1]
      exact ⟨fun w => absurd w (nI_ge hp' (by omega)), fun _ => hBi⟩
    · rintro U ⟨k1, k2⟩
      refine h25 _ _ _ _ _ _ ?_
      unfold cT_X0_renameLanes_25
      rw [k2.1]
      exact ⟨fun _ => ⟨by omega, by omega, hp U k1 k2⟩, fun w => absurd (nI_le (Nat.le_refl _) (by omega)) w⟩
    · rintro U p r hp' hr ⟨k1, k2⟩ nxt
      have r1 := h.2.2.2.2.2.2.2.1 (5 * p + r) (by omega)
      have r3 := h.2.2.2.2.2.2.2.2 (5 * p + r) (by omega)
      have n1 := h1 p hp'
      have n2 := h1 r hr
      refine h37 _ _ _ _ _ _ _ ?_
      unfold cT_X0_renameLanes_37
      rw [k2.1, ix5, nI_clamp (show p < 2 ^ 31 by omega), nI_clamp (show r < 2 ^ 31 by omega), hf p hp', hf r hr]
      refine ⟨fun w => absurd w (nI_ge hr (by omega)), fun _ v hv => ?_⟩
      subst hv
      rw [nI_clamp (show 5 * p + r < 2 ^ 31 by omega), r1.1, r3.1]
      refine ⟨vp_in_nI (by omega) (by omega), vp_in_nI (by omega) (by omega), vp_in_nI (by omega) (by omega), vp_in_nI (by omega) (by omega), by omega, by omega, b01 (sc (5 * p + r)), (b01_eq r3.2).1, ?_⟩
      refine k_setLane l U (by omega) (by omega) _ _ _ ?_
      rw [(b01_eq r3.2).2, ← nI_succ]
      refine nxt _ ⟨(k1.ca _ rfl).ca _ rfl, ?_⟩
      rw [rn_step ct hP2.2 h1 h2 hp' hr, rn_step sc hP2.2 h1 h2 hp' hr]
      exact k2.lane r1.2 r3.2
    · rintro U p hp' ⟨k1, k2⟩ hBo
      refine h37 _ _ _ _ _ _ _ ?_
      unfold cT_X0_renameLanes_37
      rw [k2.1, ← nI_succ]
      exact ⟨fun _ => hBo, fun w => absurd (nI_le (Nat.le_refl _) (by omega)) w⟩
    · rintro U p hp' ⟨k1, k2⟩
      rw [rn_row ct (fun v hv => (h2 v hv).1), rn_row sc (fun v hv => (h2 v hv).1)] at k2
      exact ⟨k1, k2⟩
    · exact ⟨CFr.rf, by rw [rn_0, rn_0]; exact h⟩
def rnA : Nat → Bool := fun k => decide (k = 3)
def rnB : Nat → Bool := fun k => (decide (2 ≤ k) && decide (k ≤ 5)) || (decide (26 ≤ k) && decide (k ≤ 28))
theorem s_rename (l : Launch) (h : Rl S M n P kd ct sc sm x y) (a b c d e : Int32) (post : Bool → MS → Prop) (h0 : (¬ ∃ ν, NM (n5 (M.2.1 26) a b c d e) P ν) → post false (mf (ma (mf M 3 0) 26 (n5 (M.2.1 26) a b c d e)) 2 1))
    (hh : ∀ ν μ, NM (n5 (M.2.1 26) a b c d e) P ν → (∀ i, i < P → ν i < P ∧ μ (ν i) = i) → (∀ v, v < P → μ v < P ∧ ν (μ v) = v) → ∀ T, MFx rnA rnB M T → MY T n P kd (rn μ P ct P 0) (rn μ P sm P 0) → (∀ j, j < 7 → T.2.1 2 j = if j < n then nI (ν (dgs P x j)) else M.2.1 2 j) → (∀ j, j < 7 → T.2.1 3 j = if j < n then nI (ν (dgs P y j)) else M.2.1 3 j) → post true (mf (mf (mf T 4 0) 5 0) 2 0)) : mX_rename l M a b c d e post := by
  have hP2 := h.P2
  have hn2 := h.n2
  refine m_rename l M a b c d e post ?_
  intro B28 B72 B84 B176 h28 h72 h84 h176
  unfold mT_rename_e
  refine s_areNames l (mf M 3 0) (P := P) h.my.1 hP2 a b c d e _ (fun q => ⟨fun w => absurd rfl w, fun _ => s_not l _ 1 _ (h0 q)⟩) (fun ν hν => ⟨fun _ => ?_, fun w => absurd w (by decide)⟩)
  have hsur : ∀ v, v < P → ∃ i, i < P ∧ ν i = v := fun v hv => inj_surj (fun k hk => (hν.1 k hk).2) hν.2 hv
  have hc : ∃ μ : Nat → Nat, ∀ v, v < P → μ v < P ∧ ν (μ v) = v := by
    refine ⟨fun v => if hv : v < P then (hsur v hv).choose else 0, fun v hv => ?_⟩
    simp only [dif_pos hv]
    exact (hsur v hv).choose_spec
  obtain ⟨μ, h2⟩ := hc
  have h1 : ∀ i, i < P → ν i < P ∧ μ (ν i) = i := fun i hi => by
    have w1 := (hν.1 i hi).2
    have w2 := h2 (ν i) w1
    exact ⟨w1, hν.2 _ _ w2.1 hi w2.2⟩
  have fin := hh ν μ hν h1 h2
  generalize ef : n5 ((mf M 3 0).2.1 26) a b c d e = f at *
  have hν : NM f P ν := hν
  have hy : MY (ma (mf M 3 0) 26 f) n P kd ct sm := ((h.th 0).my).ma _ (by decide) (by decide) (by decide)
  -- the discs
  have e176 : ∀ d k, k + d = n → ∀ T, MFx rnA rnB M T → MY T n P kd (rn μ P ct P 0) (rn μ P sm P 0) → T.2.1 26 = f → (∀ j, j < 7 → T.2.1 2 j = if j < k then nI (ν (dgs P x j)) else M.2.1 2 j) → (∀ j, j < 7 → T.2.1 3 j = if j < k then nI (ν (dgs P y j)) else M.2.1 3 j) → B176 T (nI k) := by
    intro d
    induction d with
    | zero =>
      intro k hk T fT hT t26 t2 t3
      have : k = n := by omega
      subst this
      refine h176 _ _ ?_
      unfold mT_rename_176
      rw [hT.2.1]
      exact ⟨fun _ => s_nothingUndone l _ _ (fin T fT hT t2 t3), fun w => absurd (nI_le (Nat.le_refl _) (by omega)) w⟩
    | succ d ih =>
      intro k hk T fT hT t26 t2 t3
      have q2 : T.2.1 2 k = nI (dgs P x k) := by rw [t2 k (by omega), if_neg (by omega)]; exact (h.xa k (by omega)).1
      have q3 : T.2.1 3 k = nI (dgs P y k) := by rw [t3 k (by omega), if_neg (by omega)]; exact (h.ya k (by omega)).1
      have d2 : dgs P x k < P := dgs_lt (by omega) x k
      have d3 : dgs P y k < P := dgs_lt (by omega) y k
      refine h176 _ _ ?_
      unfold mT_rename_176
      rw [hT.2.1, nI_clamp (show k < 2 ^ 31 by omega), q2, q3, nI_clamp (show dgs P x k < 2 ^ 31 by omega), nI_clamp (show dgs P y k < 2 ^ 31 by omega), t26, (hν.1 _ d2).1, (hν.1 _ d3).1, ← nI_succ]
      refine ⟨fun w => absurd w (nI_ge (by omega) (by omega)), fun _ => ⟨vp_in_nI (by omega) (by omega), vp_in_nI (by omega) (by omega), vp_in_nI (by omega) (by omega), vp_in_nI (by omega) (by omega), vp_in_nI (by omega) (by omega), vp_in_nI (by omega) (by omega), ?_⟩⟩
      refine ih (k + 1) (by omega) _ ((fT.row _ rfl).row _ rfl) ((hT.ma _ (by decide) (by decide) (by decide)).ma _ (by decide) (by decide) (by decide)) t26 (fun j hj => ?_) (fun j hj => ?_)
      · show upd (T.2.1 2) k (nI (ν (dgs P x k))) j = _
        by_cases q : j = k
        · subst q; rw [upd_same, if_pos (by omega)]
        · rw [upd_other _ _ q, t2 j hj]
          by_cases q2 : j < k
          · rw [if_pos q2, if_pos (by omega)]
          · rw [if_neg q2, if_neg (by omega)]
      · show upd (T.2.1 3) k (nI (ν (dgs P y k))) j = _
        by_cases q : j = k
        · subst q; rw [upd_same, if_pos (by omega)]
        · rw [upd_other _ _ q, t3 j hj]
          by_cases q2 : j < k
          · rw [if_pos q2, if_pos (by omega)]
          · rw [if_neg q2, if_neg (by omega)]
  -- the lanes
  have e72 : ∀ T, MFx rnA rnB M T → MY T n P kd ct sm → T.2.1 26 = f → T.2.1 2 = M.2.1 2 → T.2.1 3 = M.2.1 3 → (∀ j, j < 25 → T.2.1 27 j = nI (ct j) ∧ T.2.1 28 j = nI (sm j)) → B72 T 0 := by
    intro T fT hT t26 t2 t3 tsp
    refine pair_loop (α := MS) (P := P) (Bo := fun U p => B72 U (nI p)) (Bi := fun U p r => B84 U (nI p) (nI r)) (I := fun p r U => MFx rnA rnB M U ∧ MY U n P kd (rn μ P ct p r) (rn μ P sm p r) ∧ U.2.1 26 = f ∧ U.2.1 2 = M.2.1 2 ∧ U.2.1 3 = M.2.1 3 ∧ (∀ j, j < 25 → U.2.1 27 j = nI (ct j) ∧ U.2.1 28 j = nI (sm j))) ?_ ?_ ?_ ?_ ?_ T ?_
    · rintro U p hp' ⟨k1, k2, k3⟩ hBi
      refine h72 _ _ ?_
      unfold mT_rename_72
      rw [k2.1]
      exact ⟨fun w => absurd w (nI_ge hp' (by omega)), fun _ => hBi⟩
    · rintro U ⟨k1, k2, k3, k4, k5, k6⟩
      refine h72 _ _ ?_
      unfold mT_rename_72
      rw [k2.1]
      refine ⟨fun _ => e176 n 0 (by omega) U k1 k2 k3 (fun j hj => ?_) (fun j hj => ?_), fun w => absurd (nI_le (Nat.le_refl _) (by omega)) w⟩
      · rw [if_neg (by omega), k4]
      · rw [if_neg (by omega), k5]
    · rintro U p r hp' hr ⟨k1, k2, k3, k4, k5, k6⟩ nxt
      have r1 := h.my.2.2.2.2.2.1 (5 * p + r) (by omega)
      have r3 := h.my.2.2.2.2.2.2 (5 * p + r) (by omega)
      have n1 := h1 p hp'
      have n2 := h1 r hr
      have sp := k6 (5 * p + r) (by omega)
      refine h84 _ _ _ ?_
      unfold mT_rename_84
      rw [k2.1, nI_clamp (show p < 2 ^ 31 by omega), nI_clamp (show r < 2 ^ 31 by omega), k3, (hν.1 p hp').1, (hν.1 r hr).1, ix25 (show p < 5 by omega) (show r < 5 by omega), ix25 (show ν p < 5 by omega) (show ν r < 5 by omega), nI_clamp (show 5 * p + r < 2 ^ 31 by omega), nI_clamp (show 5 * ν p + ν r < 2 ^ 31 by omega), sp.1, sp.2, nar01 r3.2]
      refine ⟨fun w => absurd w (nI_ge hr (by omega)), fun _ => ⟨vp_in_nI (by omega) (by omega), vp_in_nI (by omega) (by omega), vp_in_nI (by omega) (by omega), vp_in_nI (by omega) (by omega), vp_in_nI (by omega) (by omega), vp_in_nI (by omega) (by omega), vp_in_nI (by omega) (by omega), vp_in_nI (by omega) (by omega), ?_⟩⟩
      rw [← nI_succ]
      refine nxt _ ⟨(k1.row _ rfl).row _ rfl, ?_, k3, k4, k5, k6⟩
      rw [rn_step ct hP2.2 h1 h2 hp' hr, rn_step sm hP2.2 h1 h2 hp' hr]
      exact MYlane k2 r1.2 r3.2
    · rintro U p hp' ⟨k1, k2, k3⟩ hBo
      refine h84 _ _ _ ?_
      unfold mT_rename_84
      rw [k2.1]
      refine ⟨fun _ => ?_, fun w => absurd (nI_le (Nat.le_refl _) (by omega)) w⟩
      rw [← nI_succ]; exact hBo
    · rintro U p hp' ⟨k1, k2, k3⟩
      rw [rn_row ct (fun v hv => (h2 v hv).1), rn_row sm (fun v hv => (h2 v hv).1)] at k2
      exact ⟨k1, k2, k3⟩
    · exact ⟨fT, by rw [rn_0, rn_0]; exact hT, t26, t2, t3, tsp⟩
  -- the spares
  have e28 : ∀ d k, k + d = 25 → ∀ T, MFx rnA rnB M T → MY T n P kd ct sm → T.2.1 26 = f → T.2.1 2 = M.2.1 2 → T.2.1 3 = M.2.1 3 → (∀ j, j < k → T.2.1 27 j = nI (ct j) ∧ T.2.1 28 j = nI (sm j)) → B28 T (nI k) := by
    intro d
    induction d with
    | zero =>
      intro k hk T fT hT t26 t2 t3 tsp
      have : k = 25 := by omega
      subst this
      refine h28 _ _ ?_
      unfold mT_rename_28
      exact ⟨fun _ => e72 T fT hT t26 t2 t3 tsp, fun w => absurd (show (25 : Int32) ≤ nI 25 by decide) w⟩
    | succ d ih =>
      intro k hk T fT hT t26 t2 t3 tsp
      have r1 := hT.2.2.2.2.2.1 k (by omega)
      have r3 := hT.2.2.2.2.2.2 k (by omega)
      refine h28 _ _ ?_
      unfold mT_rename_28
      rw [nI_clamp (show k < 2 ^ 31 by omega), r1.1, r3.1, nar01 r3.2, ← nI_succ]
      refine ⟨fun w => absurd w (nI_ge (a := k) (b := 25) (by omega) (by omega)), fun _ => ⟨vp_in_nI (by omega) (by omega), vp_in_nI (by omega) (by omega), vp_in_nI (by omega) (by omega), vp_in_nI (by omega) (by omega), ?_⟩⟩
      refine ih (k + 1) (by omega) _ ((fT.row _ rfl).row _ rfl) ((hT.ma _ (by decide) (by decide) (by decide)).ma _ (by decide) (by decide) (by decide)) t26 t2 t3 (fun j hj => ?_)
      show upd (T.2.1 27) k (nI (ct k)) j = _ ∧ upd (T.2.1 28) k (nI (sm k)) j = _
      by_cases q : j = k
      · subst q; rw [upd_same, upd_same]; exact ⟨rfl, rfl⟩
      · rw [upd_other _ _ q, upd_other _ _ q]; exact tsp j (by omega)
  exact e28 25 0 (by omega) _ ((MFx.rf.sc _ rfl).row _ rfl) hy rfl rfl rfl (fun j hj => absurd hj (Nat.not_lt_zero _))
theorem o_rename (l : Launch) (h : Rl S M n P kd ct sc sm x y) (a b c d e : Int32) : ∃ mc ms, mc ≤ 50000 ∧ ms ≤ 300000 ∧ cX_X8_rename l mc ms S a b c d e (fun r1 S1 => mX_rename l M a b c d e (fun r2 M1 => OKa S mc ms r1 S1 r2 M1)) := by
  have hP2 := h.P2
  have hn2 := h.n2
  refine ⟨3, 55, by omega, by omega, ?_⟩
  refine c_X8_rename l 3 55 S a b c d e _ ?_
  unfold cT_X8_rename_e
  have e0 : upd (upd (upd (upd (upd (fun _ => (0 : Int32)) (0 : Int32).toNatClampNeg a) (1 : Int32).toNatClampNeg b) (2 : Int32).toNatClampNeg c) (3 : Int32).toNatClampNeg d) (4 : Int32).toNatClampNeg e = n5 (fun _ => 0) a b c d e := rfl
  rw [e0, h.cy.1]
  have eqf : ∀ k, k < P → n5 (fun _ => 0) a b c d e k = n5 (M.2.1 26) a b c d e k := fun k hk => n5_eq _ _ a b c d e k (by omega)
  refine ⟨by omega, by omega, by omega, by omega, k_isRearr l S hP2.2 hP2.2 (by omega) _ (fun q => ⟨fun w => absurd rfl w, fun _ => ⟨by omega, by omega, k_refuse l _ 1 _ ⟨by omega, by omega, ?_⟩⟩⟩) (fun ν hν => ⟨fun _ => ⟨by omega, by omega, ?_⟩, fun w => absurd w (by decide)⟩)⟩
  · refine s_rename l h a b c d e _ (fun _ => ⟨rfl, ⟨n, P, kd, ct, sc, sm, x, y, ((h.scr (N := ma (mf M 3 0) 26 (n5 (M.2.1 26) a b c d e)) ⟨fun k q1 q2 q3 => mf_get_ne _ _ q1, fun k hk => ma_get_ne _ _ (by omega), h.m8, h.m9⟩).tr 1)⟩, ?_, ?_⟩) (fun ν μ hν => absurd ⟨ν, hν.congr (fun k hk => (eqf k hk).symm)⟩ q)
    · show Fc S + 3 ≤ Fc S + 3; omega
    · show Fs S + 55 ≤ Fs S + 55; omega
  · rw [h.sx]
    refine k_renamed l h.cy h.hx hν.1 _ (fun T1 f1 => ⟨by omega, by omega, ?_⟩)
    rw [f1.1 1 rfl, h.sy]
    have hc1 : CY (cf T1 0 (nI (numN (fun j => ν (dgs P x j)) P n))) n P kd ct sc := (have hq := h.cy.fr f1; hq)
    refine k_renamed l hc1 h.hy hν.1 _ (fun T2 f2 => ⟨2, 50, by omega, by omega, ?_⟩)
    have hc2 : CY (cf T2 1 (nI (numN (fun j => ν (dgs P y j)) P n))) n P kd ct sc := (have hq := hc1.fr f2; hq)
    have hsur : ∀ v, v < P → ∃ i, i < P ∧ ν i = v := fun v hv => inj_surj (fun k hk => (hν.1 k hk).2) hν.2 hv
    have hc : ∃ μ : Nat → Nat, ∀ v, v < P → μ v < P ∧ ν (μ v) = v := by
      refine ⟨fun v => if hv : v < P then (hsur v hv).choose else 0, fun v hv => ?_⟩
      simp only [dif_pos hv]
      exact (hsur v hv).choose_spec
    obtain ⟨μ, h2⟩ := hc
    have h1 : ∀ i, i < P → ν i < P ∧ μ (ν i) = i := fun i hi => by
      have w1 := (hν.1 i hi).2
      have w2 := h2 (ν i) w1
      exact ⟨w1, hν.2 _ _ w2.1 hi w2.2⟩
    refine k_renLanes l hc2 h1 h2 (fun k hk => (hν.1 k hk).1) _ (fun T3 f3 hT3 => ⟨by omega, by omega, k_forgetAll l _ _ ⟨by omega, by omega, k_accept l _ _ ⟨by omega, by omega, ?_⟩⟩⟩)
    refine s_rename l h a b c d e _ (fun q => absurd ⟨ν, hν.congr eqf⟩ q) (fun ν' μ' hν' h1' h2' N fN hN n2 n3 => ?_)
    have eν : ∀ i, i < P → ν' i = ν i := fun i hi => by
      have w1 := hν'.1 i hi
      have w2 := hν.1 i hi
      rw [eqf i hi] at w2
      exact (nI_eq (by omega) (by omega)).mp (w1.1.symm.trans w2.1)
    have eμ : ∀ v, v < P → μ' v = μ v := fun v hv => by
      have w1 := h2' v hv
      have w2 := h2 v hv
      rw [eν _ w1.1] at w1
      exact hν.2 _ _ w1.1 w2.1 (w1.2.trans w2.2.symm)
    have hmu : ∀ v, v < P → μ v < P := fun v hv => (h2 v hv).1
    have hmu' : ∀ v, v < P → μ' v < P := fun v hv => (h2' v hv).1
    have hz : ∀ a b, a < 5 → b < 5 → (a = b ∨ P ≤ a ∨ P ≤ b) → ct (5 * a + b) = 0 := h.1.2.2.2
    have ern : ∀ g : Nat → Nat, ∀ j, j < 25 → rn μ' P g P 0 j = rn μ P g P 0 j := by
      intro g j hj
      have ej : j = 5 * (j / 5) + j % 5 := by omega
      rw [ej, rn_end g hmu' (by omega) (by omega), rn_end g hmu (by omega) (by omega)]
      by_cases q : j / 5 < P ∧ j % 5 < P
      · rw [if_pos q, if_pos q, eμ _ q.1, eμ _ q.2]
      · rw [if_neg q, if_neg q]
    have hst : ∀ (u : Nat) (g f : Nat → Int32), u < P ^ n → rgt n P kd u = true → (∀ j, j < 7 → f j = nI (dgs P u j)) → (∀ j, j < 7 → g j = if j < n then nI (ν' (dgs P u j)) else f j) → RS n P kd (nI (numN (fun j => ν (dgs P u j)) P n)) g (numN (fun j => ν (dgs P u j)) P n) := by
      intro u g f hu hr hf hg
      have hlt : ∀ j, j < n → ν (dgs P u j) < P := fun j hj => (h1 _ (dgs_lt (by omega) u j)).1
      have hzz : numN (fun j => ν (dgs P u j)) P n < P ^ n := numN_lt n hlt
      have hdg : ∀ j, j < n → ν' (dgs P u j) = dgs P (numN (fun j => ν (dgs P u j)) P n) j := fun j hj => by
        rw [eν _ (dgs_lt (by omega) u j), dgs_num (by omega) n hlt j hj]
      refine ⟨rfl, hzz, row_of (by omega) hu hzz hf (σ := fun j => ν' (dgs P u j)) hdg g hg, ?_⟩
      rw [rgt_RR]
      exact RR.congr (RR.ren (P := P) (ν := ν) (rgt_RR.mp hr) (fun j hj => dgs_lt (by omega) u j) hν.2) (fun j hj => (dgs_num (by omega) n hlt j hj).symm)
    obtain ⟨τ, m8⟩ := h.m8
    obtain ⟨ρ, m9⟩ := h.m9
    have l1 := lens_eq f1
    have l2 := lens_eq f2
    have l3 := lens_eq f3
    have hl3 : T3.2.2.2 = S.2.2.2 := l3.trans (l2.trans l1)
    have s3 : ∀ k, k ≠ 0 → k ≠ 1 → lA k = false → T3.1 k = S.1 k := fun k k0 k1 kl => by
      rw [f3.1 k rfl, cf_get_ne _ _ k1, f2.1 k kl, cf_get_ne _ _ k0, f1.1 k kl]
    have r3 : ∀ k, q2B k = false → lB k = false → T3.2.1 k = S.2.1 k ∧ T3.2.2.1 k = S.2.2.1 k := fun k kq kl => by
      have w1 := f3.2.1 k kq
      have w2 := f2.2.1 k kl
      have w3 := f1.2.1 k kl
      exact ⟨w1.1.trans (w2.1.trans w3.1), w1.2.trans (w2.2.trans w3.2)⟩
    refine ⟨rfl, ⟨n, P, kd, rn μ P ct P 0, rn μ P sc P 0, rn μ' P sm P 0, numN (fun j => ν (dgs P x j)) P n, numN (fun j => ν (dgs P y j)) P n, ?_⟩, ?_, ?_⟩
    · refine h.fresh hl3 ⟨?_, ?_, fun j hj hne => ?_, fun a b ha hb hab => ?_⟩ ?_ ?_ rfl rfl rfl rfl rfl rfl rfl ?_ ?_ ?_ ?_ ?_ ?_ ?_ ?_ ?_ ?_ ?_ ?_ ?_ ?_ ?_ ?_ ?_
      · exact hT3
      · obtain ⟨c1, c2, c3, c4, c5, c6, c7⟩ := hN
        exact ⟨c1, c2, c3, c4, c5, fun j hj => by rw [← ern ct j hj]; exact c6 j hj, c7⟩
      · have ej : j = 5 * (j / 5) + j % 5 := by omega
        rw [ern sm j hj]
        rw [ej, rn_end ct hmu (by omega) (by omega)] at hne
        rw [ej, rn_end sc hmu (by omega) (by omega), rn_end sm hmu (by omega) (by omega)]
        by_cases q : j / 5 < P ∧ j % 5 < P
        · rw [if_pos q] at hne
          rw [if_pos q, if_pos q]
          have := hmu _ q.1
          have := hmu _ q.2
          exact h.1.2.2.1 _ (by omega) hne
        · rw [if_neg q] at hne
          exact absurd (hz (j / 5) (j % 5) (by omega) (by omega) (by omega)) hne
      · rw [rn_end ct hmu ha hb]
        by_cases q : a < P ∧ b < P
        · rw [if_pos q]
          have hab : a = b := by omega
          subst hab
          have := hmu _ q.1
          exact hz _ _ (by omega) (by omega) (Or.inl rfl)
        · rw [if_neg q]
          exact hz a b ha hb hab
      · show RS n P kd (T3.1 0) (N.2.1 2) _
        rw [f3.1 0 rfl, cf_get_ne _ _ (by decide), f2.1 0 rfl, cf_get]
        exact hst x _ _ h.hx h.2.1.2.2.2 h.2.1.2.2.1 n2
      · show RS n P kd (T3.1 1) (N.2.1 3) _
        rw [f3.1 1 rfl, cf_get]
        exact hst y _ _ h.hy h.2.2.1.2.2.2 h.2.2.1.2.2.1 n3
      · exact s3 11 (by decide) (by decide) rfl
      · exact (r3 22 rfl rfl).1
      · exact fN.1 6 rfl
      · exact fN.2 7 rfl
      · exact s3 19 (by decide) (by decide) rfl
      · exact (r3 38 rfl rfl).1
      · exact (r3 39 rfl rfl).1
      · exact (r3 40 rfl rfl).1
      · exact (r3 41 rfl rfl).1
      · exact (r3 42 rfl rfl).2
      · exact fN.1 9 rfl
      · exact fN.2 29 rfl
      · exact fN.2 30 rfl
      · exact fN.2 31 rfl
      · exact fN.2 32 rfl
      · exact ⟨τ, fun j hj => by show N.2.1 8 j = _ ∧ _; rw [fN.2 8 rfl]; exact m8 j hj⟩
      · exact ⟨ρ, fun j hj => by show N.2.1 9 j = _ ∧ _; rw [fN.2 9 rfl]; exact m9 j hj⟩
    · show Fc S + 3 ≤ Fc T3 + 3
      unfold Fc; rw [hl3]; omega
    · show Fs S + 55 ≤ Fs T3 + 55
      unfold Fs; rw [hl3]; omega
end Ren
end
section
-- scheme(), single(), call()
theorem KSt.mono {q q' : Nat} {of : Nat → Option Nat} {le ro : Nat → Nat} {cal les rol : Nat → Int32} {k : Nat} (h : KSt q of le ro cal les rol k) (hq : q ≤ q') : KSt q' of le ro cal les rol k := by
  rcases h with h | ⟨o, h1, h2, h3⟩
  · exact Or.inl h
  · exact Or.inr ⟨o, h1, by omega, h3⟩
theorem KSt.congr {q : Nat} {of of' : Nat → Option Nat} {le le' ro ro' : Nat → Nat} {cal les rol cal' les' rol' : Nat → Int32} {k : Nat} (h : KSt q of le ro cal les rol k) (h1 : of' k = of k) (h2 : le' k = le k) (h3 : ∀ j, 5 * k ≤ j → j < 5 * k + 5 → ro' j = ro j) (h4 : cal' k = cal k) (h5 : les' k = les k) (h6 : ∀ j, 5 * k ≤ j → j < 5 * k + 5 → rol' j = rol j) : KSt q of' le' ro' cal' les' rol' k := by
  rcases h with ⟨w1, w2, w3⟩ | ⟨o, w1, w2, w3, w4, w5, w6, w7⟩
  · refine Or.inl ⟨by rw [h1, w1], by rw [h4, w2], fun j hj => ?_⟩
    rw [h3 _ (by omega) (by omega), h6 _ (by omega) (by omega)]; exact w3 j hj
  · refine Or.inr ⟨o, by rw [h1, w1], w2, by rw [h2]; exact w3, by rw [h2]; exact w4, by rw [h4, w5], by rw [h5, h2, w6], fun j hj => ?_⟩
    rw [h3 _ (by omega) (by omega), h6 _ (by omega) (by omega)]; exact w7 j hj
theorem KSc.opn {q : Nat} {w : Nat → Nat} {of : Nat → Option Nat} {le ro : Nat → Nat} {made : Int32} {ln cal les rol : Nat → Int32} (h : KSc q w of le ro made ln cal les rol) (hq : q < 8) : KSc (q + 1) (va_up w q 0) of le ro (nI (q + 1)) (upd ln q 0) cal les rol := by
  obtain ⟨h1, h2, h3, h4⟩ := h
  refine ⟨by omega, rfl, fun s hs => ?_, fun s i hs hi => ?_⟩
  · by_cases e : s = q
    · subst e; rw [va_up_same, upd_same]; exact ⟨by omega, rfl⟩
    · rw [va_up_other _ _ e, upd_other _ _ e]; exact h3 s (by omega)
  · by_cases e : s = q
    · subst e; rw [va_up_same] at hi; exact absurd hi (Nat.not_lt_zero _)
    · rw [va_up_other _ _ e] at hi
      exact (h4 s i (by omega) hi).mono (by omega)
theorem KSc.put {q : Nat} {w : Nat → Nat} {of of' : Nat → Option Nat} {le ro le' ro' : Nat → Nat} {made : Int32} {ln cal les rol cal' les' rol' : Nat → Int32} (h : KSc q w of le ro made ln cal les rol) {s : Nat} (hs : s < q) (hw : w s < 8) (e1 : ∀ j, j ≠ 8 * s + w s → of' j = of j ∧ le' j = le j ∧ cal' j = cal j ∧ les' j = les j) (e2 : ∀ j, (j < 5 * (8 * s + w s) ∨ 5 * (8 * s + w s) + 5 ≤ j) → ro' j = ro j ∧ rol' j = rol j) (hk : KSt q of' le' ro' cal' les' rol' (8 * s + w s)) : KSc q (va_up w s (w s + 1)) of' le' ro' made (upd ln s (nI (w s + 1))) cal' les' rol' := by
  obtain ⟨h1, h2, h3, h4⟩ := h
  refine ⟨h1, h2, fun t ht => ?_, fun t i ht hi => ?_⟩
  · by_cases e : t = s
    · subst e; rw [va_up_same, upd_same]; exact ⟨by omega, rfl⟩
    · rw [va_up_other _ _ e, upd_other _ _ e]; exact h3 t ht
  · have hb := (h3 t ht).1
    by_cases e : t = s
    · subst e
      rw [va_up_same] at hi
      by_cases e3 : i = w t
      · subst e3; exact hk
      · have a := e1 (8 * t + i) (by omega)
        exact (h4 t i ht (by omega)).congr a.1 a.2.1 (fun j q1 q2 => (e2 j (by omega)).1) a.2.2.1 a.2.2.2 (fun j q1 q2 => (e2 j (by omega)).2)
    · rw [va_up_other _ _ e] at hi
      have a := e1 (8 * t + i) (by omega)
      exact (h4 t i ht hi).congr a.1 a.2.1 (fun j q1 q2 => (e2 j (by omega)).1) a.2.2.1 a.2.2.2 (fun j q1 q2 => (e2 j (by omega)).2)
def bkA : Nat → Bool := fun k => decide (k = 2) || decide (k = 19)
def bkB : Nat → Bool := fun k => decide (38 ≤ k) && decide (k ≤ 41)
def bkM : Nat → Bool := fun k => decide (k = 2) || decide (k = 3) || decide (k = 9)
def bkR : Nat → Bool := fun k => decide (29 ≤ k) && decide (k ≤ 32)
section Book
variable {S : CS} {M : MS} {n P x y : Nat} {kd ct sc sm : Nat → Nat}
theorem Rl.book {T : CS} {N : MS} (h : Rl S M n P kd ct sc sm x y) (fT : CFr bkA bkB nn S T) (fN : MFx bkM bkR M N) (h2 : T.1 2 = N.1 2) (hk : ∃ q w of le ro, KSc q w of le ro (T.1 19) (T.2.1 38) (T.2.1 39) (T.2.1 40) (T.2.1 41) ∧ KSc q w of le ro (N.1 9) (N.2.1 29) (N.2.1 30) (N.2.1 31) (N.2.1 32)) : Rl T N n P kd ct sc sm x y := by
  obtain ⟨⟨b1, b2, b3, b4⟩, q2, q3, -, q5, q6, q7, ⟨⟨τ, m8⟩, ⟨ρ, m9⟩⟩, q9, q10⟩ := h
  refine ⟨⟨b1.fr fT, ?_, b3, b4⟩, ?_, ?_, h2, ?_, ?_, ⟨hk, ?_⟩, ⟨⟨τ, fun j hj => ?_⟩, ⟨ρ, fun j hj => ?_⟩⟩, q9.fr fT, q10.fr fT⟩
  · obtain ⟨c1, c2, c3, c4, c5, c6, c7⟩ := b2
    refine ⟨?_, ?_, c3, c4, ?_, ?_, ?_⟩
    · rw [fN.1 0 rfl]; exact c1
    · rw [fN.1 1 rfl]; exact c2
    · rw [fN.2 1 rfl]; exact c5
    · rw [fN.2 4 rfl]; exact c6
    · rw [fN.2 5 rfl]; exact c7
  · rw [fT.1 0 rfl, fN.2 2 rfl]; exact q2
  · rw [fT.1 1 rfl, fN.2 3 rfl]; exact q3
  · rw [fT.1 9 rfl, fT.1 10 rfl, (fT.2.1 20 rfl).1, (fT.2.1 21 rfl).1, fN.1 4 rfl, fN.1 5 rfl, fN.2 6 rfl]; exact q5
  · rw [fT.1 11 rfl, (fT.2.1 22 rfl).1, fT.2.2 22 rfl, fN.1 6 rfl, fN.2 7 rfl]; exact q6
  · rw [(fT.2.1 42 rfl).2]; exact q7.2
  · rw [fN.2 8 rfl]; exact m8 j hj
  · rw [fN.2 9 rfl]; exact m9 j hj
theorem o_scheme (l : Launch) (h : Rl S M n P kd ct sc sm x y) : cX_X8_scheme l S (fun r1 S1 => mX_scheme l M (fun r2 M1 => OKr S r1 S1 r2 M1)) := by
  obtain ⟨⟨q, w, of, le, ro, kc, km⟩, tz⟩ := id h.2.2.2.2.2.2.1
  have hq := kc.1
  refine c_X8_scheme l S _ ?_
  unfold cT_X8_scheme_e
  rw [kc.2.1]
  refine ⟨fun c => ?_, fun c => ?_⟩
  · have c : q < 8 := (nI_ltI (b := 8) (by omega) (by omega)).mp c
    refine c_X1_open l _ _ ?_
    unfold cT_X1_open_e
    rw [show (cf S 2 0).1 19 = nI q from kc.2.1, nI_clamp (show q < 2 ^ 31 by omega), ← nI_succ]
    refine ⟨vp_in_nI (by omega) (by omega), m_scheme l M _ ?_⟩
    unfold mT_scheme_e
    rw [km.2.1, nI_clamp (show q < 2 ^ 31 by omega), ← nI_succ]
    refine ⟨fun _ => ⟨vp_in_nI (by omega) (by omega), rfl, ⟨n, P, kd, ct, sc, sm, x, y, ?_⟩, rfl⟩, fun w => absurd ((nI_is 8 rfl (by omega) (by omega)).mp w) (by omega)⟩
    exact h.book (((CFr.rf.cf _ rfl).ca _ rfl).cf _ rfl) ((((MFx.rf.sc _ rfl).row _ rfl).sc _ rfl).sc _ rfl) rfl ⟨q + 1, va_up w q 0, of, le, ro, kc.opn c, km.opn c⟩
  · have c : q = 8 := by
      rcases Nat.lt_or_ge q 8 with w | w
      · exact absurd (nI_lt (b := 8) w (by omega)) c
      · omega
    subst c
    refine k_none l _ 5 _ (m_scheme l M _ ?_)
    unfold mT_scheme_e
    rw [km.2.1]
    exact ⟨fun w => absurd rfl w, fun _ => s_no l _ 5 _ ⟨rfl, ⟨n, P, kd, ct, sc, sm, x, y, (h.th 0).tr 5⟩, rfl⟩⟩
def apF (f : Nat → Int32) (k m : Nat) (g : Nat → Int32) : Nat → Int32 := fun j => if 5 * k ≤ j ∧ j < 5 * k + m then g (j - 5 * k) else f j
theorem apF_0 (f : Nat → Int32) (k : Nat) (g : Nat → Int32) : apF f k 0 g = f := by
  funext j
  unfold apF
  rw [if_neg (by omega)]
theorem apF_s (f : Nat → Int32) (k m : Nat) (g : Nat → Int32) : upd (apF f k m g) (5 * k + m) (g m) = apF f k (m + 1) g := by
  funext j
  by_cases e : j = 5 * k + m
  · rw [e, upd_same]
    unfold apF
    rw [if_pos (by omega)]
    congr 1
    omega
  · rw [upd_other _ _ e]
    unfold apF
    by_cases c : 5 * k ≤ j ∧ j < 5 * k + m
    · rw [if_pos c, if_pos (by omega)]
    · rw [if_neg c, if_neg (by omega)]
theorem k_append (l : Launch) {S : CS} {s w m : Nat} {of less : Int32} {g : Nat → Int32} (hs : s < 8) (hw : w < 8) (h38 : S.2.1 38 s = nI w) (hm : m ≤ 5) (post : Int32 → CS → Prop) (h : post (nI (w + 1)) (ca (ca (ca (ca S 39 (upd (S.2.1 39) (8 * s + w) of)) 40 (upd (S.2.1 40) (8 * s + w) less)) 41 (apF (S.2.1 41) (8 * s + w) m g)) 38 (upd (S.2.1 38) s (nI (w + 1))))) : cX_X1_append l S (nI s) of less m g post := by
  refine c_X1_append l S _ of less m g post ?_
  intro B32 B69 h32 h69
  unfold cT_X1_append_e
  rw [nI_clamp (show s < 2 ^ 31 by omega), h38]
  refine ⟨vp_in_nI (by omega) (by omega), fun v hv => ?_⟩
  have hv : v = nI (8 * s + w) := by rw [hv, show (8 : Int32) = nI 8 from rfl, pk_mul, nI_add]; congr 1; omega
  subst hv
  rw [nI_clamp (show 8 * s + w < 2 ^ 31 by omega)]
  refine ⟨vp_in_nI (by omega) (by omega), vp_in_nI (by omega) (by omega), ?_⟩
  have fin : B69 (ca (ca (ca S 39 (upd (S.2.1 39) (8 * s + w) of)) 40 (upd (S.2.1 40) (8 * s + w) less)) 41 (apF (S.2.1 41) (8 * s + w) m g)) := by
    refine h69 _ ?_
    unfold cT_X1_append_69
    rw [nI_clamp (show s < 2 ^ 31 by omega), upd_same]
    have e : (ca (ca (ca S 39 (upd (S.2.1 39) (8 * s + w) of)) 40 (upd (S.2.1 40) (8 * s + w) less)) 41 (apF (S.2.1 41) (8 * s + w) m g)).2.1 38 = S.2.1 38 := rfl
    rw [e, h38, ← nI_succ]
    exact ⟨vp_in_nI (by omega) (by omega), vp_in_nI (by omega) (by omega), vp_in_nI (by omega) (by omega), h⟩
  have key : ∀ d k, k + d = m → B32 (ca (ca (ca S 39 (upd (S.2.1 39) (8 * s + w) of)) 40 (upd (S.2.1 40) (8 * s + w) less)) 41 (apF (S.2.1 41) (8 * s + w) k g)) (nI (8 * s + w)) (nI k) := by
    intro d
    induction d with
    | zero =>
      intro k hk
      have : k = m := by omega
      subst this
      refine h32 _ _ _ ?_
      unfold cT_X1_append_32
      exact ⟨fun _ => fin, fun c => absurd (nI_le (Nat.le_refl _) (by omega)) c⟩
    | succ d ih =>
      intro k hk
      refine h32 _ _ _ ?_
      unfold cT_X1_append_32
      rw [ix5, nI_clamp (show k < 2 ^ 31 by omega), nI_clamp (show 5 * (8 * s + w) + k < 2 ^ 31 by omega), ← nI_succ]
      refine ⟨fun c => absurd c (nI_ge (by omega) (by omega)), fun _ => ⟨fun c => absurd c (nI_ge (a := k) (b := 5) (by omega) (by omega)), fun _ => ⟨vp_in_nI (by omega) (by omega), vp_in_nI (by omega) (by omega), ?_⟩⟩⟩
      have e : ∀ (U : CS) (f g : Nat → Int32), ca (ca U 41 f) 41 g = ca U 41 g := by
        intro U f g
        unfold ca
        have : va_up (va_up U.2.1 41 f) 41 g = va_up U.2.1 41 g := by
          funext j
          unfold va_up
          by_cases q : j = 41
          · rw [if_pos q, if_pos q]
          · rw [if_neg q, if_neg q, if_neg q]
        simp only [this]
      rw [e, ca_get, apF_s]
      exact ih (k + 1) (by omega)
  have := key m 0 (by omega)
  rw [apF_0] at this
  have e2 : ca (ca (ca S 39 (upd (S.2.1 39) (8 * s + w) of)) 40 (upd (S.2.1 40) (8 * s + w) less)) 41 (S.2.1 41) = ca (ca S 39 (upd (S.2.1 39) (8 * s + w) of)) 40 (upd (S.2.1 40) (8 * s + w) less) := by
    unfold ca
    simp only
    congr 2
    funext j
    unfold va_up
    by_cases q : j = 41
    · rw [if_pos q, if_neg (by omega), if_neg (by omega), q]
    · rw [if_neg q]
  rw [e2] at this
  exact this
theorem k_addStep (l : Launch) {S : CS} {s w m : Nat} {of less : Int32} {g : Nat → Int32} (hs : s < 8) (hw : w ≤ 8) (h38 : S.2.1 38 s = nI w) (hm : m ≤ 5) (post : Int32 → CS → Prop) (h0 : w = 8 → post (-1) (cf S 2 5)) (h : w < 8 → post (nI (w + 1)) (ca (ca (ca (ca (cf S 2 0) 39 (upd (S.2.1 39) (8 * s + w) of)) 40 (upd (S.2.1 40) (8 * s + w) less)) 41 (apF (S.2.1 41) (8 * s + w) m g)) 38 (upd (S.2.1 38) s (nI (w + 1))))) : cX_X8_addStep l S (nI s) of less m g post := by
  refine c_X8_addStep l S _ of less m g post ?_
  unfold cT_X8_addStep_e
  refine c_X1_isFull l S _ _ ?_
  unfold cT_X1_isFull_e
  rw [nI_clamp (show s < 2 ^ 31 by omega), h38]
  refine ⟨vp_in_nI (by omega) (by omega), fun c => ⟨fun _ => ?_, fun q => absurd rfl q⟩, fun c => ⟨fun q => absurd q (by decide), fun _ => k_none l _ 5 _ (h0 ?_)⟩⟩
  · have c : w < 8 := (nI_ltI (b := 8) (by omega) (by omega)).mp c
    exact k_append l (S := cf S 2 0) hs c h38 hm _ (h c)
  · rcases Nat.lt_or_ge w 8 with q | q
    · exact absurd (nI_lt (b := 8) q (by omega)) c
    · omega
theorem s_isScheme (l : Launch) (M : MS) {q : Nat} (h9 : M.1 9 = nI q) (hq : q ≤ 8) (a : Int32) (post : Bool → MS → Prop) (h0 : (¬ ∃ i, i < q ∧ a = nI i) → post false M) (h1 : ∀ i, i < q → a = nI i → post true M) : mX_isScheme l M a post := by
  refine m_isScheme l M a post ?_
  unfold mT_isScheme_e
  exact s_inB l M a _ _ (N := q) (by rw [h9]) (by omega) h0 h1
theorem k_isRole (l : Launch) (S : CS) (a : Int32) (post : Bool → CS → Prop) (h0 : (¬ ∃ i, i < 5 ∧ a = nI i) → post false S) (h1 : ∀ i, i < 5 → a = nI i → post true S) : cX_X8_isRole l S a post := by
  refine c_X8_isRole l S a post ?_
  unfold cT_X8_isRole_e
  exact k_below (N := 5) (by omega) h0 h1
end Book
end
section
-- single(), call()
theorem i8 {s w : Nat} : (8 : Int32) * nI s + nI w = nI (8 * s + w) := by rw [show (8 : Int32) = nI 8 from rfl, pk_mul, nI_add]
theorem i5 {k : Nat} : (5 : Int32) * nI k = nI (5 * k) := by rw [show (5 : Int32) = nI 5 from rfl, pk_mul]
theorem i5a {k c : Nat} {v : Int32} (h : v = nI c) : (5 : Int32) * nI k + v = nI (5 * k + c) := by rw [i5, h, nI_add]
theorem KSc.single {q : Nat} {w : Nat → Nat} {of : Nat → Option Nat} {le ro : Nat → Nat} {made : Int32} {ln cal les rol les' rol' : Nat → Int32} (h : KSc q w of le ro made ln cal les rol) {s i j : Nat} (hs : s < q) (hw : w s < 8) (hi : i < 5) (hj : j < 5) (hl : ∀ t, t ≠ 8 * s + w s → les' t = les t) (hr0 : rol' (5 * (8 * s + w s)) = nI i) (hr1 : rol' (5 * (8 * s + w s) + 1) = nI j) (hr : ∀ t, t ≠ 5 * (8 * s + w s) → t ≠ 5 * (8 * s + w s) + 1 → rol' t = rol t) : KSc q (va_up w s (w s + 1)) (va_up of (8 * s + w s) none) le (va_up (va_up ro (5 * (8 * s + w s)) i) (5 * (8 * s + w s) + 1) j) made (upd ln s (nI (w s + 1))) (upd cal (8 * s + w s) (-1)) les' rol' := by
  refine h.put hs hw (fun t ht => ⟨va_up_other _ _ ht, rfl, upd_other _ _ ht, hl t ht⟩) (fun t ht => ⟨?_, hr t (by omega) (by omega)⟩) (Or.inl ⟨va_up_same _ _ _, upd_same _ _ _, fun t ht => ?_⟩)
  · rw [va_up_other _ _ (by omega), va_up_other _ _ (by omega)]
  · have : t = 0 ∨ t = 1 := by omega
    rcases this with e | e
    · subst e
      rw [Nat.add_zero (5 * (8 * s + w s)), va_up_other _ _ (by omega), va_up_same]
      exact ⟨hi, hr0⟩
    · subst e
      rw [va_up_same]
      exact ⟨hj, hr1⟩
theorem KSc.call {q : Nat} {w : Nat → Nat} {of : Nat → Option Nat} {le ro ν : Nat → Nat} {made : Int32} {ln cal les rol rol' : Nat → Int32} (h : KSc q w of le ro made ln cal les rol) {s o L : Nat} (hs : s < q) (hw : w s < 8) (ho : o < q) (hL : 1 ≤ L ∧ L ≤ 4) (hν : ∀ t, t < 5 → ν t < 5 ∧ rol' (5 * (8 * s + w s) + t) = nI (ν t)) (hr : ∀ t, (t < 5 * (8 * s + w s) ∨ 5 * (8 * s + w s) + 5 ≤ t) → rol' t = rol t) : KSc q (va_up w s (w s + 1)) (va_up of (8 * s + w s) (some o)) (va_up le (8 * s + w s) L) (fun t => if 5 * (8 * s + w s) ≤ t ∧ t < 5 * (8 * s + w s) + 5 then ν (t - 5 * (8 * s + w s)) else ro t) made (upd ln s (nI (w s + 1))) (upd cal (8 * s + w s) (nI o)) (upd les (8 * s + w s) (nI L)) rol' := by
  refine h.put hs hw (fun t ht => ⟨va_up_other _ _ ht, va_up_other _ _ ht, upd_other _ _ ht, upd_other _ _ ht⟩) (fun t ht => ⟨?_, hr t ht⟩) (Or.inr ⟨o, va_up_same _ _ _, ho, ?_, ?_, upd_same _ _ _, ?_, fun t ht => ?_⟩)
  · show (if 5 * (8 * s + w s) ≤ t ∧ t < 5 * (8 * s + w s) + 5 then ν (t - 5 * (8 * s + w s)) else ro t) = ro t
    rw [if_neg (by omega)]
  · rw [va_up_same]; exact hL.1
  · rw [va_up_same]; exact hL.2
  · rw [upd_same, va_up_same]
  · show (if 5 * (8 * s + w s) ≤ 5 * (8 * s + w s) + t ∧ 5 * (8 * s + w s) + t < 5 * (8 * s + w s) + 5 then ν (5 * (8 * s + w s) + t - 5 * (8 * s + w s)) else ro (5 * (8 * s + w s) + t)) < 5 ∧ rol' (5 * (8 * s + w s) + t) = nI (if 5 * (8 * s + w s) ≤ 5 * (8 * s + w s) + t ∧ 5 * (8 * s + w s) + t < 5 * (8 * s + w s) + 5 then ν (5 * (8 * s + w s) + t - 5 * (8 * s + w s)) else ro (5 * (8 * s + w s) + t))
    rw [if_pos (by omega), Nat.add_sub_cancel_left]
    exact hν t ht
section Steps
variable {S : CS} {M : MS} {n P x y : Nat} {kd ct sc sm : Nat → Nat}
theorem s_single (l : Launch) {q : Nat} {w : Nat → Nat} (h9 : M.1 9 = nI q) (hq : q ≤ 8) (hw : ∀ s, s < q → w s ≤ 8 ∧ M.2.1 29 s = nI (w s)) (a b c : Int32) (post : Int32 → MS → Prop)
    (h0 : (¬ ((∃ s, s < q ∧ a = nI s) ∧ (∃ i, i < 5 ∧ b = nI i) ∧ (∃ j, j < 5 ∧ c = nI j) ∧ b ≠ c)) → post (-1) (mf (mf M 3 0) 2 1))
    (h1 : ∀ s i j, s < q → a = nI s → i < 5 → b = nI i → j < 5 → c = nI j → b ≠ c → w s = 8 → post (-1) (mf (mf M 3 0) 2 5))
    (h2 : ∀ s i j, s < q → a = nI s → i < 5 → b = nI i → j < 5 → c = nI j → b ≠ c → w s < 8 → post (nI (w s + 1)) (mf (ma (ma (ma (ma (mf M 3 0) 30 (upd (M.2.1 30) (8 * s + w s) (-1))) 32 (upd (M.2.1 32) (5 * (8 * s + w s)) (nI i))) 32 (upd (upd (M.2.1 32) (5 * (8 * s + w s)) (nI i)) (5 * (8 * s + w s) + 1) (nI j))) 29 (upd (M.2.1 29) s (nI (w s + 1)))) 2 0)) : mX_single l M a b c post := by
  refine m_single l M a b c post ?_
  intro B38 h38
  unfold mT_single_e
  have no : (¬ ((∃ s, s < q ∧ a = nI s) ∧ (∃ i, i < 5 ∧ b = nI i) ∧ (∃ j, j < 5 ∧ c = nI j) ∧ b ≠ c)) → B38 (mf M 3 0) := fun w => h38 _ (s_no l _ 1 _ (h0 w))
  refine s_isScheme l (mf M 3 0) h9 hq a _ (fun w => ⟨fun _ => no (fun z => w z.1), fun z => absurd rfl z⟩) (fun s hs ea => ⟨fun z => absurd z (by decide), fun _ => ?_⟩)
  refine s_inC l _ b 0 4 _ (L := 0) (H := 4) rfl rfl (by decide) (by decide) (fun w => ⟨fun _ => no (fun z => w (by obtain ⟨i, hi, e⟩ := z.2.1; exact ⟨i, by omega, by omega, e⟩)), fun z => absurd rfl z⟩) (fun i _ hi eb => ⟨fun z => absurd z (by decide), fun _ => ?_⟩)
  refine s_inC l _ c 0 4 _ (L := 0) (H := 4) rfl rfl (by decide) (by decide) (fun w => ⟨fun _ => no (fun z => w (by obtain ⟨i, hi, e⟩ := z.2.2.1; exact ⟨i, by omega, by omega, e⟩)), fun z => absurd rfl z⟩) (fun j _ hj ec => ⟨fun z => absurd z (by decide), fun _ => ⟨fun hne => ?_, fun e => no (fun z => z.2.2.2 e)⟩⟩)
  subst ea
  subst eb
  subst ec
  have hws := hw s hs
  have e29 : (mf M 3 0).2.1 29 s = nI (w s) := hws.2
  rw [nI_clamp (show s < 2 ^ 31 by omega), e29]
  refine ⟨vp_in_nI (by omega) (by omega), fun v hv => ?_⟩
  subst hv
  refine ⟨fun c8 => ?_, fun c8 => s_no l _ 5 _ (h1 s i j hs rfl (by omega) rfl (by omega) rfl hne ((nI_is 8 rfl (by omega) (by omega)).mp c8))⟩
  have c8 : w s < 8 := by
    rcases Nat.lt_or_ge (w s) 8 with z | z
    · exact z
    · exact absurd (by rw [show w s = 8 by omega]; rfl) c8
  intro v hv
  rw [i8] at hv
  subst hv
  rw [i5, show nI (5 * (8 * s + w s)) + 1 = nI (5 * (8 * s + w s) + 1) from nI_add .., nI_clamp (show 8 * s + w s < 2 ^ 31 by omega), nI_clamp (show 5 * (8 * s + w s) < 2 ^ 31 by omega), nI_clamp (show 5 * (8 * s + w s) + 1 < 2 ^ 31 by omega), ← nI_succ]
  exact ⟨vp_in_nI (by omega) (by omega), vp_in_nI (by omega) (by omega), vp_in_nI (by omega) (by omega), vp_in_nI (by omega) (by omega), vp_in_nI (by omega) (by omega), h2 s i j hs rfl (by omega) rfl (by omega) rfl hne c8⟩
theorem OKa.of {α : Type} {S S1 : CS} {M1 : MS} {mc ms : Nat} {r1 r2 : α} (hmc : mc ≤ 3) (hms : ms ≤ 55) (hr : r1 = r2) (hR : Rel S1 M1) (hl : S1.2.2.2 = S.2.2.2) : OKa S mc ms r1 S1 r2 M1 := by
  refine ⟨hr, hR, ?_, ?_⟩
  · unfold Fc; rw [hl]; omega
  · unfold Fs; rw [hl]; omega
theorem o_single (l : Launch) (h : Rl S M n P kd ct sc sm x y) (a b c : Int32) : ∃ mc ms, mc ≤ 50000 ∧ ms ≤ 300000 ∧ cX_X8_single l mc ms S a b c (fun r1 S1 => mX_single l M a b c (fun r2 M1 => OKa S mc ms r1 S1 r2 M1)) := by
  obtain ⟨⟨q, w, of, le, ro, kc, km⟩, tz⟩ := id h.2.2.2.2.2.2.1
  have hq := kc.1
  refine ⟨1, 2, by omega, by omega, c_X8_single l 1 2 S a b c _ ?_⟩
  intro B30 h30
  unfold cT_X8_single_e
  have ss := s_single l (M := M) km.2.1 hq km.2.2.1 a b c
  have no : (¬ ((∃ s, s < q ∧ a = nI s) ∧ (∃ i, i < 5 ∧ b = nI i) ∧ (∃ j, j < 5 ∧ c = nI j) ∧ b ≠ c)) → B30 0 0 S := by
    intro z
    refine h30 _ _ _ ⟨by omega, by omega, k_none l _ 1 _ ⟨by omega, by omega, ?_⟩⟩
    exact ss _ (fun _ => OKa.of (by omega) (by omega) rfl ⟨n, P, kd, ct, sc, sm, x, y, (h.th 0).tr 1⟩ rfl) (fun s i j hs ea hi eb hj ec hne _ => absurd ⟨⟨s, hs, ea⟩, ⟨i, hi, eb⟩, ⟨j, hj, ec⟩, hne⟩ z) (fun s i j hs ea hi eb hj ec hne _ => absurd ⟨⟨s, hs, ea⟩, ⟨i, hi, eb⟩, ⟨j, hj, ec⟩, hne⟩ z)
  refine ⟨by omega, by omega, k_has l kc.2.1 hq a _ (fun z => ⟨fun _ => no (fun v => z v.1), fun v => absurd rfl v⟩) (fun s hs ea => ⟨fun v => absurd v (by decide), fun _ => ⟨by omega, by omega, ?_⟩⟩)⟩
  refine k_isRole l S b _ (fun z => ⟨fun _ => no (fun v => z v.2.1), fun v => absurd rfl v⟩) (fun i hi eb => ⟨fun v => absurd v (by decide), fun _ => ⟨by omega, by omega, ?_⟩⟩)
  refine k_isRole l S c _ (fun z => ⟨fun _ => no (fun v => z v.2.2.1), fun v => absurd rfl v⟩) (fun j hj ec => ⟨fun v => absurd v (by decide), fun _ => ⟨fun hne => ⟨by omega, by omega, by omega, by omega, ?_⟩, fun e => no (fun v => v.2.2.2 e)⟩⟩)
  subst ea
  subst eb
  subst ec
  have hws := kc.2.2.1 s hs
  refine k_addStep l (by omega) hws.1 hws.2 (by omega) _ (fun h8 => ⟨by omega, by omega, ?_⟩) (fun h8 => ⟨by omega, by omega, ?_⟩)
  · refine ss _ (fun v => absurd ⟨⟨s, hs, rfl⟩, ⟨i, hi, rfl⟩, ⟨j, hj, rfl⟩, hne⟩ v) (fun s' i' j' hs' ea _ _ _ _ _ _ => OKa.of (by omega) (by omega) rfl ⟨n, P, kd, ct, sc, sm, x, y, (h.th 0).tr 5⟩ rfl) (fun s' i' j' hs' ea _ _ _ _ _ h8' => ?_)
    have e : s = s' := (nI_eq (by omega) (by omega)).mp ea
    subst e
    omega
  · refine ss _ (fun v => absurd ⟨⟨s, hs, rfl⟩, ⟨i, hi, rfl⟩, ⟨j, hj, rfl⟩, hne⟩ v) (fun s' i' j' hs' ea _ _ _ _ _ h8' => ?_) (fun s' i' j' hs' ea hi' eb hj' ec _ h8' => ?_)
    · have e : s = s' := (nI_eq (by omega) (by omega)).mp ea
      subst e
      omega
    · have e : s = s' := (nI_eq (by omega) (by omega)).mp ea
      have e1 : i = i' := (nI_eq (by omega) (by omega)).mp eb
      have e2 : j = j' := (nI_eq (by omega) (by omega)).mp ec
      subst e
      subst e1
      subst e2
      refine OKa.of (by omega) (by omega) rfl ⟨n, P, kd, ct, sc, sm, x, y, ?_⟩ rfl
      refine h.book (((((CFr.rf.cf _ rfl).ca _ rfl).ca _ rfl).ca _ rfl).ca _ rfl) ((((((MFx.rf.sc _ rfl).row _ rfl).row _ rfl).row _ rfl).row _ rfl).sc _ rfl) rfl ⟨q, va_up w s (w s + 1), va_up of (8 * s + w s) none, le, va_up (va_up ro (5 * (8 * s + w s)) i) (5 * (8 * s + w s) + 1) j, ?_, ?_⟩
      · refine kc.single hs h8 hi hj (fun t ht => upd_other _ _ ht) ?_ ?_ (fun t t1 t2 => ?_)
        · show apF _ _ _ _ _ = _
          unfold apF
          rw [if_pos (by omega), Nat.sub_self]
          rfl
        · show apF _ _ _ _ _ = _
          unfold apF
          rw [if_pos (by omega), Nat.add_sub_cancel_left]
          rfl
        · show apF _ _ _ _ _ = _
          unfold apF
          rw [if_neg (by omega)]
      · refine km.single hs h8 hi hj (fun t ht => rfl) ?_ ?_ (fun t t1 t2 => ?_)
        · show upd (upd (M.2.1 32) (5 * (8 * s + w s)) (nI i)) (5 * (8 * s + w s) + 1) (nI j) _ = _
          rw [upd_other _ _ (by omega), upd_same]
        · exact upd_same _ _ _
        · show upd (upd (M.2.1 32) (5 * (8 * s + w s)) (nI i)) (5 * (8 * s + w s) + 1) (nI j) _ = _
          rw [upd_other _ _ t2, upd_other _ _ t1]
-- the model's roles of a call
theorem bit_nI : ∀ m, m < 32 → ∀ v, v < 5 → ((nI m >>> (nI v &&& 31)) &&& 1 = 1 ↔ m.testBit v = true) := by decide
theorem s_role (l : Launch) (S : MS) {f : Nat → Int32} {ν : Nat → Nat} {k : Nat} (hk : k < 5) {B118 : MS → Prop} {B43 : MS → Int32 → Int32 → Prop} {a : Int32} (ha : f k = a) (h0 : (¬ ∃ ν, NM f 5 ν) → B118 S) (g1 : ∀ i, i < k → f i = nI (ν i) ∧ ν i < 5) (g2 : ∀ i j, i < k → j < k → ν i = ν j → i = j) (nxt : ∀ ν' : Nat → Nat, (∀ i, i < k + 1 → f i = nI (ν' i) ∧ ν' i < 5) → (∀ i j, i < k + 1 → j < k + 1 → ν' i = ν' j → i = j) → B43 S (nI (mskN ν' (k + 1))) (nI k + 1)) :
    mX_in l S a 0 4 (fun b S' => (bI b = 0 → B118 S') ∧ (¬ bI b = 0 → (¬ (nI (mskN ν k) >>> (a &&& 31)) &&& 1 = 1 → ∀ v : Int32, v = nI (mskN ν k) ||| (1 <<< (a &&& 31)) → B43 S' v (nI k + 1)) ∧ ((nI (mskN ν k) >>> (a &&& 31)) &&& 1 = 1 → B118 S'))) := by
  have hlt : mskN ν k < 2 ^ 5 := msk_lt k (fun i hi => (g1 i hi).2)
  refine s_inC l S a 0 4 _ (L := 0) (H := 4) rfl rfl (by decide) (by decide) (fun q => ⟨fun _ => h0 (fun ⟨ν', hν⟩ => q ⟨ν' k, by omega, by have := (hν.1 k hk).2; omega, by rw [← ha]; exact (hν.1 k hk).1⟩), fun w => absurd rfl w⟩) (fun v _ hv ev => ⟨fun w => absurd w (by decide), fun _ => ?_⟩)
  subst ev
  refine ⟨fun c u hu => ?_, fun c => h0 (fun ⟨ν', hν⟩ => ?_)⟩
  · have c : ¬ ∃ i, i < k ∧ ν i = v := fun q => c ((bit_nI _ (by omega) v (by omega)).mpr ((msk_bit ν v k).mpr q))
    rw [or_nI _ (by omega) v (by omega)] at hu
    have e : mskN (va_up ν k v) (k + 1) = mskN ν k ||| 1 <<< v := by
      have : ∀ j, j ≤ k → mskN (va_up ν k v) j = mskN ν j := by
        intro j
        induction j with
        | zero => intro _; rfl
        | succ j ih =>
          intro hj
          unfold mskN
          rw [ih (by omega), va_up_other _ _ (by omega)]
      conv => lhs; unfold mskN
      rw [this k (Nat.le_refl _), va_up_same]
    rw [hu, ← e]
    refine nxt (va_up ν k v) (fun i hi => ?_) (fun i j hi hj e => ?_)
    · by_cases q : i = k
      · subst q; rw [va_up_same]; exact ⟨ha, by omega⟩
      · rw [va_up_other _ _ q]; exact g1 i (by omega)
    · by_cases q1 : i = k
      · by_cases q2 : j = k
        · omega
        · subst q1
          rw [va_up_same, va_up_other _ _ q2] at e
          exact absurd ⟨j, by omega, e.symm⟩ c
      · by_cases q2 : j = k
        · subst q2
          rw [va_up_same, va_up_other _ _ q1] at e
          exact absurd ⟨i, by omega, e⟩ c
        · rw [va_up_other _ _ q1, va_up_other _ _ q2] at e
          exact g2 i j (by omega) (by omega) e
  · obtain ⟨i, hi, ei⟩ := (msk_bit ν v k).mp ((bit_nI _ (by omega) v (by omega)).mp c)
    have w1 := hν.1 i (by omega)
    have w2 := hν.1 k hk
    have g := g1 i hi
    have e1 : ν i = ν' i := (nI_eq (by omega) (by omega)).mp (g.1.symm.trans w1.1)
    have e2 : v = ν' k := (nI_eq (by omega) (by omega)).mp (ha.symm.trans w2.1)
    have := hν.2 i k (by omega) hk (by rw [← e1, ← e2, ei])
    omega
theorem s_call (l : Launch) {q : Nat} {w : Nat → Nat} (h9 : M.1 9 = nI q) (hq : q ≤ 8) (hw : ∀ s, s < q → w s ≤ 8 ∧ M.2.1 29 s = nI (w s)) (a b c a0 a1 a2 a3 a4 : Int32) (post : Int32 → MS → Prop)
    (h0 : (¬ ((∃ s, s < q ∧ a = nI s) ∧ (∃ o, o < q ∧ b = nI o) ∧ (∃ L, 1 ≤ L ∧ L ≤ 4 ∧ c = nI L) ∧ ∃ ν, NM (n5 (fun _ => 0) a0 a1 a2 a3 a4) 5 ν)) → post (-1) (mf (mf M 3 0) 2 1))
    (h1 : ∀ s o L ν, s < q → a = nI s → o < q → b = nI o → 1 ≤ L → L ≤ 4 → c = nI L → NM (n5 (fun _ => 0) a0 a1 a2 a3 a4) 5 ν → w s = 8 → post (-1) (mf (mf M 3 0) 2 5))
    (h2 : ∀ s o L ν, s < q → a = nI s → o < q → b = nI o → 1 ≤ L → L ≤ 4 → c = nI L → NM (n5 (fun _ => 0) a0 a1 a2 a3 a4) 5 ν → w s < 8 → ∀ T, MFx bkM bkR M T → T.1 2 = 0 → T.1 9 = M.1 9 → T.2.1 29 = upd (M.2.1 29) s (nI (w s + 1)) → T.2.1 30 = upd (M.2.1 30) (8 * s + w s) (nI o) → T.2.1 31 = upd (M.2.1 31) (8 * s + w s) (nI L) → T.2.1 32 = upd (upd (upd (upd (upd (M.2.1 32) (5 * (8 * s + w s)) a0) (5 * (8 * s + w s) + 1) a1) (5 * (8 * s + w s) + 2) a2) (5 * (8 * s + w s) + 3) a3) (5 * (8 * s + w s) + 4) a4 → post (nI (w s + 1)) T) : mX_call l M a b c a0 a1 a2 a3 a4 post := by
  refine m_call l M a b c a0 a1 a2 a3 a4 post ?_
  intro B31 B43 B118 h31 h43 h118
  unfold mT_call_e
  have no : (¬ ((∃ s, s < q ∧ a = nI s) ∧ (∃ o, o < q ∧ b = nI o) ∧ (∃ L, 1 ≤ L ∧ L ≤ 4 ∧ c = nI L) ∧ ∃ ν, NM (n5 (fun _ => 0) a0 a1 a2 a3 a4) 5 ν)) → B31 (mf M 3 0) := fun w => h31 _ (s_no l _ 1 _ (h0 w))
  refine s_isScheme l (mf M 3 0) h9 hq a _ (fun w => ⟨fun _ => no (fun z => w z.1), fun z => absurd rfl z⟩) (fun s hs ea => ⟨fun z => absurd z (by decide), fun _ => ?_⟩)
  refine s_isScheme l (mf M 3 0) h9 hq b _ (fun w => ⟨fun _ => no (fun z => w z.2.1), fun z => absurd rfl z⟩) (fun o ho eb => ⟨fun z => absurd z (by decide), fun _ => ?_⟩)
  refine s_inC l _ c 1 4 _ (L := 1) (H := 4) rfl rfl (by decide) (by decide) (fun w => ⟨fun z => absurd rfl z, fun _ => no (fun z => w z.2.2.1)⟩) (fun L hL1 hL2 ec => ⟨fun _ => ?_, fun z => absurd z (by decide)⟩)
  have no2 : (¬ ∃ ν, NM (n5 (fun _ => 0) a0 a1 a2 a3 a4) 5 ν) → B118 (mf M 3 0) := fun w => h118 _ (s_no l _ 1 _ (h0 (fun z => w z.2.2.2)))
  have hws := hw s hs
  have e29 : (mf M 3 0).2.1 29 s = nI (w s) := hws.2
  have e5 : ∀ ν : Nat → Nat, (∀ i, i < 5 → n5 (fun _ => 0) a0 a1 a2 a3 a4 i = nI (ν i) ∧ ν i < 5) → (∀ i j, i < 5 → j < 5 → ν i = ν j → i = j) → B43 (mf M 3 0) (nI (mskN ν 5)) (nI 5) := by
    intro ν g1 g2
    refine h43 _ _ _ ?_
    unfold mT_call_43
    refine ⟨fun _ => ?_, fun z => absurd (show (5 : Int32) ≤ nI 5 by decide) z⟩
    rw [ea, nI_clamp (show s < 2 ^ 31 by omega), e29]
    refine ⟨vp_in_nI (by omega) (by omega), fun v hv => ?_⟩
    subst hv
    refine ⟨fun c8 => ?_, fun c8 => s_no l _ 5 _ (h1 s o L ν hs ea ho eb hL1 hL2 ec ⟨g1, g2⟩ ((nI_is 8 rfl (by omega) (by omega)).mp c8))⟩
    have c8 : w s < 8 := by
      rcases Nat.lt_or_ge (w s) 8 with z | z
      · exact z
      · exact absurd (by rw [show w s = 8 by omega]; rfl) c8
    intro v hv
    rw [i8] at hv
    subst hv
    rw [i5, show nI (5 * (8 * s + w s)) + 1 = nI (5 * (8 * s + w s) + 1) from nI_add .., show nI (5 * (8 * s + w s)) + 2 = nI (5 * (8 * s + w s) + 2) from nI_add .., show nI (5 * (8 * s + w s)) + 3 = nI (5 * (8 * s + w s) + 3) from nI_add .., show nI (5 * (8 * s + w s)) + 4 = nI (5 * (8 * s + w s) + 4) from nI_add .., nI_clamp (show 8 * s + w s < 2 ^ 31 by omega), nI_clamp (show 5 * (8 * s + w s) < 2 ^ 31 by omega), nI_clamp (show 5 * (8 * s + w s) + 1 < 2 ^ 31 by omega), nI_clamp (show 5 * (8 * s + w s) + 2 < 2 ^ 31 by omega), nI_clamp (show 5 * (8 * s + w s) + 3 < 2 ^ 31 by omega), nI_clamp (show 5 * (8 * s + w s) + 4 < 2 ^ 31 by omega), ← nI_succ]
    refine ⟨vp_in_nI (by omega) (by omega), vp_in_nI (by omega) (by omega), vp_in_nI (by omega) (by omega), vp_in_nI (by omega) (by omega), vp_in_nI (by omega) (by omega), vp_in_nI (by omega) (by omega), vp_in_nI (by omega) (by omega), vp_in_nI (by omega) (by omega), vp_in_nI (by omega) (by omega), ?_⟩
    rw [eb, ec]
    exact h2 s o L ν hs ea ho eb hL1 hL2 ec ⟨g1, g2⟩ c8 _ ((((((((((MFx.rf.sc _ rfl).row _ rfl).row _ rfl).row _ rfl).row _ rfl).row _ rfl).row _ rfl).row _ rfl).row _ rfl).sc _ rfl) rfl rfl rfl rfl rfl rfl
  have e4 : ∀ ν : Nat → Nat, (∀ i, i < 4 → n5 (fun _ => 0) a0 a1 a2 a3 a4 i = nI (ν i) ∧ ν i < 5) → (∀ i j, i < 4 → j < 4 → ν i = ν j → i = j) → B43 (mf M 3 0) (nI (mskN ν 4)) (nI 4) := by
    intro ν g1 g2
    refine h43 _ _ _ ?_
    unfold mT_call_43
    refine ⟨fun z => absurd z (by decide), fun _ => ⟨fun _ => ⟨fun _ => ⟨fun _ => ⟨fun _ => ?_, fun z => absurd z (by decide)⟩, fun z => absurd z (by decide)⟩, fun z => absurd z (by decide)⟩, fun z => absurd z (by decide)⟩⟩
    exact s_role l (mf M 3 0) (f := n5 (fun _ => 0) a0 a1 a2 a3 a4) (k := 4) (by omega) rfl no2 g1 g2 (fun ν' w1 w2 => e5 ν' w1 w2)
  have e3 : ∀ ν : Nat → Nat, (∀ i, i < 3 → n5 (fun _ => 0) a0 a1 a2 a3 a4 i = nI (ν i) ∧ ν i < 5) → (∀ i j, i < 3 → j < 3 → ν i = ν j → i = j) → B43 (mf M 3 0) (nI (mskN ν 3)) (nI 3) := by
    intro ν g1 g2
    refine h43 _ _ _ ?_
    unfold mT_call_43
    refine ⟨fun z => absurd z (by decide), fun _ => ⟨fun _ => ⟨fun _ => ⟨fun _ => ⟨fun z => absurd rfl z, fun _ => ?_⟩, fun z => absurd z (by decide)⟩, fun z => absurd z (by decide)⟩, fun z => absurd z (by decide)⟩⟩
    exact s_role l (mf M 3 0) (f := n5 (fun _ => 0) a0 a1 a2 a3 a4) (k := 3) (by omega) rfl no2 g1 g2 (fun ν' w1 w2 => e4 ν' w1 w2)
  have e2 : ∀ ν : Nat → Nat, (∀ i, i < 2 → n5 (fun _ => 0) a0 a1 a2 a3 a4 i = nI (ν i) ∧ ν i < 5) → (∀ i j, i < 2 → j < 2 → ν i = ν j → i = j) → B43 (mf M 3 0) (nI (mskN ν 2)) (nI 2) := by
    intro ν g1 g2
    refine h43 _ _ _ ?_
    unfold mT_call_43
    refine ⟨fun z => absurd z (by decide), fun _ => ⟨fun _ => ⟨fun _ => ⟨fun z => absurd rfl z, fun _ => ?_⟩, fun z => absurd z (by decide)⟩, fun z => absurd z (by decide)⟩⟩
    exact s_role l (mf M 3 0) (f := n5 (fun _ => 0) a0 a1 a2 a3 a4) (k := 2) (by omega) rfl no2 g1 g2 (fun ν' w1 w2 => e3 ν' w1 w2)
  have e1 : ∀ ν : Nat → Nat, (∀ i, i < 1 → n5 (fun _ => 0) a0 a1 a2 a3 a4 i = nI (ν i) ∧ ν i < 5) → (∀ i j, i < 1 → j < 1 → ν i = ν j → i = j) → B43 (mf M 3 0) (nI (mskN ν 1)) (nI 1) := by
    intro ν g1 g2
    refine h43 _ _ _ ?_
    unfold mT_call_43
    refine ⟨fun z => absurd z (by decide), fun _ => ⟨fun _ => ⟨fun z => absurd rfl z, fun _ => ?_⟩, fun z => absurd z (by decide)⟩⟩
    exact s_role l (mf M 3 0) (f := n5 (fun _ => 0) a0 a1 a2 a3 a4) (k := 1) (by omega) rfl no2 g1 g2 (fun ν' w1 w2 => e2 ν' w1 w2)
  refine h43 _ _ _ ?_
  unfold mT_call_43
  refine ⟨fun z => absurd z (by decide), fun _ => ⟨fun z => absurd rfl z, fun _ => ?_⟩⟩
  exact s_role l (mf M 3 0) (f := n5 (fun _ => 0) a0 a1 a2 a3 a4) (ν := fun _ => 0) (k := 0) (by omega) rfl no2 (fun i hi => absurd hi (Nat.not_lt_zero _)) (fun i j hi => absurd hi (Nat.not_lt_zero _)) (fun ν' w1 w2 => e1 ν' w1 w2)
theorem o_call (l : Launch) (h : Rl S M n P kd ct sc sm x y) (a b c a0 a1 a2 a3 a4 : Int32) : ∃ mc ms, mc ≤ 50000 ∧ ms ≤ 300000 ∧ cX_X8_call l mc ms S a b c a0 a1 a2 a3 a4 (fun r1 S1 => mX_call l M a b c a0 a1 a2 a3 a4 (fun r2 M1 => OKa S mc ms r1 S1 r2 M1)) := by
  obtain ⟨⟨q, w, of, le, ro, kc, km⟩, tz⟩ := id h.2.2.2.2.2.2.1
  have hq := kc.1
  refine ⟨1, 5, by omega, by omega, c_X8_call l 1 5 S a b c a0 a1 a2 a3 a4 _ ?_⟩
  intro B71 h71
  unfold cT_X8_call_e
  have e0 : upd (upd (upd (upd (upd (fun _ => (0 : Int32)) (0 : Int32).toNatClampNeg a0) (1 : Int32).toNatClampNeg a1) (2 : Int32).toNatClampNeg a2) (3 : Int32).toNatClampNeg a3) (4 : Int32).toNatClampNeg a4 = n5 (fun _ => 0) a0 a1 a2 a3 a4 := rfl
  rw [e0]
  have ss := s_call l (M := M) km.2.1 hq km.2.2.1 a b c a0 a1 a2 a3 a4
  have no : (¬ ((∃ s, s < q ∧ a = nI s) ∧ (∃ o, o < q ∧ b = nI o) ∧ (∃ L, 1 ≤ L ∧ L ≤ 4 ∧ c = nI L) ∧ ∃ ν, NM (n5 (fun _ => 0) a0 a1 a2 a3 a4) 5 ν)) → ∀ f, B71 (0 + 1) (0 + 5) S f := by
    intro z f
    refine h71 _ _ _ _ ⟨by omega, by omega, k_none l _ 1 _ ⟨by omega, by omega, ?_⟩⟩
    exact ss _ (fun _ => OKa.of (by omega) (by omega) rfl ⟨n, P, kd, ct, sc, sm, x, y, (h.th 0).tr 1⟩ rfl) (fun s o L ν hs ea ho eb hL1 hL2 ec hν _ => absurd ⟨⟨s, hs, ea⟩, ⟨o, ho, eb⟩, ⟨L, hL1, hL2, ec⟩, ν, hν⟩ z) (fun s o L ν hs ea ho eb hL1 hL2 ec hν _ => absurd ⟨⟨s, hs, ea⟩, ⟨o, ho, eb⟩, ⟨L, hL1, hL2, ec⟩, ν, hν⟩ z)
  refine ⟨by omega, by omega, by omega, by omega, k_has l kc.2.1 hq a _ (fun z => ⟨fun _ => no (fun v => z v.1) _, fun v => absurd rfl v⟩) (fun s hs ea => ⟨fun v => absurd v (by decide), fun _ => ⟨by omega, by omega, ?_⟩⟩)⟩
  refine k_has l kc.2.1 hq b _ (fun z => ⟨fun _ => no (fun v => z v.2.1) _, fun v => absurd rfl v⟩) (fun o ho eb => ⟨fun v => absurd v (by decide), fun _ => ?_⟩)
  refine ⟨fun z => no (fun v => ?_) _, fun z1 => ⟨fun z => no (fun v => ?_) _, fun z2 => ⟨by omega, by omega, ?_⟩⟩⟩
  · obtain ⟨L, hL1, hL2, ec⟩ := v.2.2.1
    rw [ec] at z
    exact absurd z (nI_nlt (b := 1) hL1 (by omega))
  · obtain ⟨L, hL1, hL2, ec⟩ := v.2.2.1
    rw [ec] at z
    exact absurd z (nI_nlt (a := 4) hL2 (by omega))
  obtain ⟨L, hL1, hL2, ec⟩ := (in_rng (L := 1) (H := 4) (a := c) (by decide) (by decide)).mp ⟨Int32.not_lt.mp z1, Int32.not_lt.mp z2⟩
  refine k_isRearr l S (K := 5) (by omega) (by omega) (by omega) _ (fun z => ⟨fun v => absurd rfl v, fun _ => no (fun v => z v.2.2.2) _⟩) (fun ν hν => ⟨fun _ => ⟨by omega, by omega, ?_⟩, fun v => absurd v (by decide)⟩)
  subst ea
  subst eb
  subst ec
  have hws := kc.2.2.1 s hs
  refine k_addStep l (by omega) hws.1 hws.2 (by omega) _ (fun h8 => ⟨by omega, by omega, ?_⟩) (fun h8 => ⟨by omega, by omega, ?_⟩)
  · refine ss _ (fun v => absurd ⟨⟨s, hs, rfl⟩, ⟨o, ho, rfl⟩, ⟨L, hL1, hL2, rfl⟩, ν, hν⟩ v) (fun s' o' L' ν' hs' ea _ _ _ _ _ _ _ => OKa.of (by omega) (by omega) rfl ⟨n, P, kd, ct, sc, sm, x, y, (h.th 0).tr 5⟩ rfl) (fun s' o' L' ν' hs' ea _ _ _ _ _ _ h8' => ?_)
    have e : s = s' := (nI_eq (by omega) (by omega)).mp ea
    subst e
    omega
  · refine ss _ (fun v => absurd ⟨⟨s, hs, rfl⟩, ⟨o, ho, rfl⟩, ⟨L, hL1, hL2, rfl⟩, ν, hν⟩ v) (fun s' o' L' ν' hs' ea _ _ _ _ _ _ h8' => ?_) (fun s' o' L' ν' hs' ea ho' eb hL1' hL2' ec hν' h8' N fN n2 n9 n29 n30 n31 n32 => ?_)
    · have e : s = s' := (nI_eq (by omega) (by omega)).mp ea
      subst e
      omega
    · have e : s = s' := (nI_eq (by omega) (by omega)).mp ea
      have e1 : o = o' := (nI_eq (by omega) (by omega)).mp eb
      have e2 : L = L' := (nI_eq (by omega) (by omega)).mp ec
      subst e
      subst e1
      subst e2
      refine OKa.of (by omega) (by omega) rfl ⟨n, P, kd, ct, sc, sm, x, y, ?_⟩ rfl
      refine h.book (((((CFr.rf.cf _ rfl).ca _ rfl).ca _ rfl).ca _ rfl).ca _ rfl) fN n2.symm ⟨q, va_up w s (w s + 1), va_up of (8 * s + w s) (some o), va_up le (8 * s + w s) L, (fun t => if 5 * (8 * s + w s) ≤ t ∧ t < 5 * (8 * s + w s) + 5 then ν (t - 5 * (8 * s + w s)) else ro t), ?_, ?_⟩
      · refine kc.call (ν := ν) hs h8 ho ⟨hL1, hL2⟩ (fun t ht => ⟨(hν.1 t ht).2, ?_⟩) (fun t ht => ?_)
        · show apF _ _ _ _ _ = _
          unfold apF
          rw [if_pos (by omega), Nat.add_sub_cancel_left]
          exact (hν.1 t ht).1
        · show apF _ _ _ _ _ = _
          unfold apF
          rw [if_neg (by omega)]
      · rw [n9, n29, n30, n31, n32]
        refine km.call (ν := ν) hs h8 ho ⟨hL1, hL2⟩ (fun t ht => ⟨(hν.1 t ht).2, ?_⟩) (fun t ht => ?_)
        · rw [← (hν.1 t ht).1]
          have : t = 0 ∨ t = 1 ∨ t = 2 ∨ t = 3 ∨ t = 4 := by omega
          rcases this with e | e | e | e | e <;> subst e
          · rw [upd_other _ _ (by omega), upd_other _ _ (by omega), upd_other _ _ (by omega), upd_other _ _ (by omega)]
            exact upd_same _ _ _
          · rw [upd_other _ _ (by omega), upd_other _ _ (by omega), upd_other _ _ (by omega)]
            exact upd_same _ _ _
          · rw [upd_other _ _ (by omega), upd_other _ _ (by omega)]
            exact upd_same _ _ _
          · rw [upd_other _ _ (by omega)]
            exact upd_same _ _ _
          · exact upd_same _ _ _
        · rw [upd_other _ _ (by omega), upd_other _ _ (by omega), upd_other _ _ (by omega), upd_other _ _ (by omega), upd_other _ _ (by omega)]
end Steps
end
section
-- count()
def jN (n : Nat) : Int64 := Int64.ofNat n
def mx : Nat := 1000000000000000000
theorem jN_toInt {n : Nat} (h : n < 2 ^ 63) : (jN n).toInt = (n : Int) := Int64.toInt_ofNat_of_lt h
theorem jN_add (a b : Nat) : jN a + jN b = jN (a + b) := (Int64.ofNat_add a b).symm
theorem jN_le {a b : Nat} (ha : a < 2 ^ 63) (hb : b < 2 ^ 63) : jN a ≤ jN b ↔ a ≤ b := by
  rw [Int64.le_iff_toInt_le, jN_toInt ha, jN_toInt hb]; omega
theorem jN_lt {a b : Nat} (ha : a < 2 ^ 63) (hb : b < 2 ^ 63) : jN a < jN b ↔ a < b := by
  rw [Int64.lt_iff_toInt_lt, jN_toInt ha, jN_toInt hb]; omega
theorem mx_sub {a : Nat} (h : a ≤ mx) : (1000000000000000000 : Int64) - jN a = jN (mx - a) := by
  have e : (1000000000000000000 : Int64) = jN (mx - a) + jN a := by
    rw [jN_add, Nat.sub_add_cancel h]; rfl
  rw [e, Int64.add_sub_cancel]
theorem lgc_le (x y : Int64) : lg_cmp x y ≤ 0 ↔ x ≤ y := by
  unfold lg_cmp
  by_cases c : x > y
  · rw [if_pos c]
    exact ⟨fun q => absurd q (by decide), fun q => absurd (Int64.lt_of_lt_of_le c q) (Int64.lt_irrefl)⟩
  · rw [if_neg c]
    have c : x ≤ y := Int64.not_lt.mp c
    refine ⟨fun _ => c, fun _ => ?_⟩
    split <;> decide
theorem hsub {h d : Nat} (q : d ≤ h) : nI h - nI d = nI (h - d) := by
  have e : nI h = nI (h - d) + nI d := by rw [nI_add, Nat.sub_add_cancel q]
  rw [e, Int32.add_sub_cancel]
theorem ml_g (S : MS) (k : Nat) (f : Nat → Int64) : (ml S k f).2.2 k = f := by
  unfold ml
  exact va_up_same _ _ _
section Tab
variable (w : Nat → Nat) (of : Nat → Option Nat) (le : Nat → Nat)
/-- MOVES of a step at height h, the table tb holds those of lesser heights -/
def stV (h : Nat) (tb : Nat → Nat → Nat) (k : Nat) : Nat := match of k with
  | none => 1
  | some o => if h ≤ le k then 0 else tb (h - le k) o
def rawS (h : Nat) (tb : Nat → Nat → Nat) (s : Nat) : Nat → Nat
  | 0 => 0
  | i + 1 => rawS h tb s i + stV of le h tb (8 * s + i)
def tab : Nat → Nat → Nat → Nat
  | 0 => fun _ _ => 0
  | h + 1 => fun h' s => if h' = h + 1 then min mx (rawS of le (h + 1) (tab h) s (w s)) else tab h h' s
def vl (h s : Nat) : Nat := min mx (rawS of le (h + 1) (tab w of le h) s (w s))
def TB (T : Nat → Int64) (q h s : Nat) : Prop := (∀ t, t < 8 → T t = 0) ∧ (∀ h' t, h' ≤ h → t < q → T (8 * h' + t) = jN (tab w of le h h' t)) ∧ ∀ t, t < s → T (8 * (h + 1) + t) = jN (vl w of le h t)
end Tab
section TabS
variable {w : Nat → Nat} {of : Nat → Option Nat} {le : Nat → Nat}
theorem tab_le (h : Nat) : ∀ h' s, tab w of le h h' s ≤ mx := by
  induction h with
  | zero => intro h' s; exact Nat.zero_le _
  | succ h ih =>
    intro h' s
    show (if h' = h + 1 then min mx (rawS of le (h + 1) (tab w of le h) s (w s)) else tab w of le h h' s) ≤ mx
    split
    · exact Nat.min_le_left _ _
    · exact ih h' s
theorem stV_le {h : Nat} {tb : Nat → Nat → Nat} (htb : ∀ h' s, tb h' s ≤ mx) (k : Nat) : stV of le h tb k ≤ mx := by
  unfold stV
  split
  · unfold mx; omega
  · split
    · exact Nat.zero_le _
    · exact htb _ _
theorem rawS_le {h s : Nat} {tb : Nat → Nat → Nat} (htb : ∀ h' s, tb h' s ≤ mx) : ∀ i, rawS of le h tb s i ≤ i * mx := by
  intro i
  induction i with
  | zero => exact Nat.zero_le _
  | succ i ih =>
    have := stV_le (of := of) (le := le) (h := h) htb (8 * s + i)
    show rawS of le h tb s i + stV of le h tb (8 * s + i) ≤ (i + 1) * mx
    have e : (i + 1) * mx = i * mx + mx := Nat.succ_mul i mx
    omega
theorem TB.step {T : Nat → Int64} {q h s : Nat} (hq : q ≤ 8) (hs : s < q) (H : TB w of le T q h s) : TB w of le (vp_updL T (8 * (h + 1) + s) (jN (vl w of le h s))) q h (s + 1) := by
  obtain ⟨h1, h2, h3⟩ := H
  have up : ∀ j, j ≠ 8 * (h + 1) + s → vp_updL T (8 * (h + 1) + s) (jN (vl w of le h s)) j = T j := fun j hj => by
    unfold vp_updL; rw [if_neg hj]
  have ups : vp_updL T (8 * (h + 1) + s) (jN (vl w of le h s)) (8 * (h + 1) + s) = jN (vl w of le h s) := by
    unfold vp_updL; rw [if_pos rfl]
  refine ⟨fun t ht => ?_, fun h' t hh ht => ?_, fun t ht => ?_⟩
  · rw [up t (by omega)]; exact h1 t ht
  · rw [up _ (by omega)]; exact h2 h' t hh ht
  · by_cases e : t = s
    · subst e; exact ups
    · rw [up _ (by omega)]; exact h3 t (by omega)
theorem TB.next {T : Nat → Int64} {q h : Nat} (H : TB w of le T q h q) : TB w of le T q (h + 1) 0 := by
  obtain ⟨h1, h2, h3⟩ := H
  refine ⟨h1, fun h' t hh ht => ?_, fun t ht => absurd ht (Nat.not_lt_zero _)⟩
  show T (8 * h' + t) = jN (if h' = h + 1 then min mx (rawS of le (h + 1) (tab w of le h) t (w t)) else tab w of le h h' t)
  by_cases e : h' = h + 1
  · rw [if_pos e, e]; exact h3 t ht
  · rw [if_neg e]; exact h2 h' t (by omega) ht
theorem TB.start {T : Nat → Int64} {q : Nat} (hq : q ≤ 8) (hT : ∀ t, t < 8 → T t = 0) : TB w of le T q 0 0 := ⟨hT, fun h' t hh ht => by
  have : h' = 0 := by omega
  subst this
  rw [Nat.mul_zero, Nat.zero_add]
  exact hT t (by omega), fun t ht => absurd ht (Nat.not_lt_zero _)⟩
end TabS
section Count
variable {S : CS} {M : MS} {n P x y : Nat} {kd ct sc sm : Nat → Nat} {q : Nat} {w : Nat → Nat} {of : Nat → Option Nat} {le ro : Nat → Nat}
theorem k_sumSteps (l : Launch) (kc : KSc q w of le ro (S.1 19) (S.2.1 38) (S.2.1 39) (S.2.1 40) (S.2.1 41)) {h s : Nat} (hh : h < 60) (hs : s < q) (ht : TB w of le (S.2.2.1 42) q h s) (post : Int64 → CS → Prop) (hp : post (jN (vl w of le h s)) S) : cX_X1_sumOfSteps l S (nI s) (nI (h + 1)) post := by
  obtain ⟨hq, -, hlen, hst⟩ := kc
  have hws := hlen s hs
  refine c_X1_sumOfSteps l S _ _ post ?_
  intro B5 B82 h5 h82
  unfold cT_X1_sumOfSteps_e
  have hb := rawS_le (of := of) (le := le) (h := h + 1) (s := s) (tab_le (w := w) (of := of) (le := le) h)
  have key : ∀ d i, i + d = w s → B5 S (jN (rawS of le (h + 1) (tab w of le h) s i)) (nI i) := by
    intro d
    induction d with
    | zero =>
      intro i hi
      have e : i = w s := by omega
      have hbi := hb (w s)
      refine h5 _ _ _ ?_
      unfold cT_X1_sumOfSteps_5
      rw [nI_clamp (show s < 2 ^ 31 by omega), hws.2, e]
      refine ⟨vp_in_nI (by omega) (by omega), fun _ => ?_, fun z => absurd (nI_le (Nat.le_refl _) (by omega)) z⟩
      have hbi2 : rawS of le (h + 1) (tab w of le h) s (w s) ≤ 8 * mx := Nat.le_trans hbi (Nat.mul_le_mul_right _ hws.1)
      have e2 : (if (1000000000000000000 : Int64) < jN (rawS of le (h + 1) (tab w of le h) s (w s)) then (1000000000000000000 : Int64) else jN (rawS of le (h + 1) (tab w of le h) s (w s))) = jN (vl w of le h s) := by
        have e3 : (1000000000000000000 : Int64) = jN mx := rfl
        unfold vl
        rw [e3]
        by_cases c : mx < rawS of le (h + 1) (tab w of le h) s (w s)
        · rw [if_pos ((jN_lt (by unfold mx; omega) (by unfold mx at hbi2; omega)).mpr c), Nat.min_eq_left (by omega)]
        · rw [if_neg (fun z => c ((jN_lt (by unfold mx; omega) (by unfold mx at hbi2; omega)).mp z)), Nat.min_eq_right (by omega)]
      rw [e2]
      exact hp
    | succ d ih =>
      intro i hi
      have hk := hst s i hs (by omega)
      have nxt : ∀ v, v = jN (rawS of le (h + 1) (tab w of le h) s i) + jN (stV of le (h + 1) (tab w of le h) (8 * s + i)) → B82 S v (nI i) := by
        intro v hv
        refine h82 _ _ _ ?_
        unfold cT_X1_sumOfSteps_82
        rw [hv, jN_add, ← nI_succ]
        exact ih (i + 1) (by omega)
      refine h5 _ _ _ ?_
      unfold cT_X1_sumOfSteps_5
      rw [nI_clamp (show s < 2 ^ 31 by omega), hws.2]
      refine ⟨vp_in_nI (by omega) (by omega), fun z => absurd z (nI_ge (by omega) (by omega)), fun _ v hv => ?_⟩
      have hv : v = nI (8 * s + i) := by rw [hv, show (8 : Int32) = nI 8 from rfl, pk_mul, nI_add]; congr 1; omega
      subst hv
      rw [nI_clamp (show 8 * s + i < 2 ^ 31 by omega)]
      refine ⟨vp_in_nI (by omega) (by omega), ?_⟩
      rcases hk with ⟨k1, k2, -⟩ | ⟨o, k1, k2, k3, k4, k5, k6, -⟩
      · rw [k2]
        refine ⟨fun z => absurd rfl z, fun _ v hv => nxt v ?_⟩
        rw [hv]
        unfold stV
        rw [k1]
        rfl
      · rw [k5, k6]
        refine ⟨fun _ => ⟨vp_in_nI (by omega) (by omega), fun c => nxt _ ?_, fun c => ?_⟩, fun z => absurd z (nI_m1 (by omega))⟩
        · have c : h + 1 ≤ le (8 * s + i) := (nI_leI (by omega) (by omega)).mp c
          unfold stV
          rw [k1]
          simp only [if_pos c]
          rw [jN_add]; rfl
        · have c : ¬ h + 1 ≤ le (8 * s + i) := fun z => c (nI_le z (by omega))
          rw [hsub (show le (8 * s + i) ≤ h + 1 by omega), show nI (h + 1 - le (8 * s + i)) * 8 + nI o = nI (8 * (h + 1 - le (8 * s + i)) + o) by rw [show (8 : Int32) = nI 8 from rfl, pk_mul, nI_add]; congr 1; omega, nI_clamp (show 8 * (h + 1 - le (8 * s + i)) + o < 2 ^ 31 by omega)]
          refine ⟨vp_in_nI (by omega) (by omega), vp_in_nI (by omega) (by omega), vp_in_nI (by omega) (by omega), fun v hv => nxt v ?_⟩
          rw [hv, ht.2.1 (h + 1 - le (8 * s + i)) o (by omega) k2]
          unfold stV
          rw [k1]
          simp only [if_neg c]
  exact key (w s) 0 (by omega)
def cjF (S T : CS) : Prop := T.1 = S.1 ∧ T.2.1 = S.2.1 ∧ T.2.2.2 = S.2.2.2 ∧ ∀ k, k ≠ 42 → T.2.2.1 k = S.2.2.1 k
theorem k_tally (l : Launch) (kc : KSc q w of le ro (S.1 19) (S.2.1 38) (S.2.1 39) (S.2.1 40) (S.2.1 41)) (hz : ∀ t, t < 8 → S.2.2.1 42 t = 0) {H s : Nat} (hH : H ≤ 60) (hs : s < q) (post : Int64 → CS → Prop) (hp : ∀ T, cjF S T → (∀ t, t < 8 → T.2.2.1 42 t = 0) → post (jN (tab w of le H H s)) T) : cX_X1_tally l S (nI s) (nI H) post := by
  have hq := kc.1
  refine c_X1_tally l S _ _ post ?_
  intro B2 B10 h2 h10
  unfold cT_X1_tally_e
  have key : ∀ d h, h + d = H → ∀ T, cjF S T → TB w of le (T.2.2.1 42) q h 0 → B2 T (nI (h + 1)) := by
    intro d
    induction d with
    | zero =>
      intro h hh T fT tT
      have : h = H := by omega
      subst this
      refine h2 _ _ ?_
      unfold cT_X1_tally_2
      rw [show nI h * 8 + nI s = nI (8 * h + s) by rw [show (8 : Int32) = nI 8 from rfl, pk_mul, nI_add]; congr 1; omega, nI_clamp (show 8 * h + s < 2 ^ 31 by omega)]
      refine ⟨fun _ => ⟨vp_in_nI (by omega) (by omega), ?_⟩, fun z => absurd (nI_lt (by omega) (by omega)) z⟩
      rw [tT.2.1 h s (Nat.le_refl _) hs]
      exact hp T fT tT.1
    | succ d ih =>
      intro h hh T fT tT
      refine h2 _ _ ?_
      unfold cT_X1_tally_2
      refine ⟨fun z => absurd z (nI_nlt (by omega) (by omega)), fun _ => ?_⟩
      have inner : ∀ e t, t + e = q → ∀ U, cjF S U → TB w of le (U.2.2.1 42) q h t → B10 U (nI (h + 1)) (nI t) := by
        intro e
        induction e with
        | zero =>
          intro t ht U fU tU
          have : t = q := by omega
          subst this
          refine h10 _ _ _ ?_
          unfold cT_X1_tally_10
          rw [fU.1, kc.2.1, ← nI_succ]
          exact ⟨fun _ => ih (h + 1) (by omega) U fU tU.next, fun z => absurd (nI_le (Nat.le_refl _) (by omega)) z⟩
        | succ e ih2 =>
          intro t ht U fU tU
          refine h10 _ _ _ ?_
          unfold cT_X1_tally_10
          rw [fU.1, kc.2.1]
          refine ⟨fun z => absurd z (nI_ge (by omega) (by omega)), fun _ => ?_⟩
          refine k_sumSteps l (by rw [fU.1, fU.2.1]; exact kc) (by omega) (by omega) tU _ ?_
          rw [show nI (h + 1) * 8 + nI t = nI (8 * (h + 1) + t) by rw [show (8 : Int32) = nI 8 from rfl, pk_mul, nI_add]; congr 1; omega, nI_clamp (show 8 * (h + 1) + t < 2 ^ 31 by omega), ← nI_succ]
          refine ⟨vp_in_nI (by omega) (by omega), ih2 (t + 1) (by omega) _ ⟨fU.1, fU.2.1, fU.2.2.1, fun k hk => ?_⟩ ?_⟩
          · rw [cj_get_ne _ _ hk]; exact fU.2.2.2 k hk
          · rw [cj_get]; exact tU.step hq (by omega)
      exact inner q 0 (by omega) T fT tT
  exact key H 0 (by omega) S ⟨rfl, rfl, rfl, fun _ _ => rfl⟩ (TB.start hq hz)
def mlF (S T : MS) : Prop := T.1 = S.1 ∧ T.2.1 = S.2.1
theorem s_count (l : Launch) (km : KSc q w of le ro (M.1 9) (M.2.1 29) (M.2.1 30) (M.2.1 31) (M.2.1 32)) (a b : Int32) (post : Int64 → MS → Prop) (h0 : (¬ ((∃ s, s < q ∧ a = nI s) ∧ ∃ H, H ≤ 60 ∧ b = nI H)) → post (-1) (mf (mf M 3 0) 2 1)) (h1 : ∀ s H, s < q → H ≤ 60 → a = nI s → b = nI H → ∀ T, mlF (mf (mf M 3 0) 2 0) T → post (jN (tab w of le H H s)) T) : mX_count l M a b post := by
  obtain ⟨hq, h9, hlen, hst⟩ := km
  refine m_count l M a b post ?_
  intro B24 B38 B59 B67 B82 h24 h38 h59 h67 h82
  unfold mT_count_e
  have no : (¬ ((∃ s, s < q ∧ a = nI s) ∧ ∃ H, H ≤ 60 ∧ b = nI H)) → B24 (mf M 3 0) := fun z => h24 _ (s_no l _ 1 _ (h0 z))
  refine s_isScheme l (mf M 3 0) h9 hq a _ (fun z => ⟨fun _ => no (fun v => z v.1), fun v => absurd rfl v⟩) (fun s hs ea => ⟨fun v => absurd v (by decide), fun _ => ?_⟩)
  refine s_inC l _ b 0 60 _ (L := 0) (H := 60) rfl rfl (by decide) (by decide) (fun z => ⟨fun v => absurd rfl v, fun _ => no (fun v => z (by obtain ⟨H, hH, e⟩ := v.2; exact ⟨H, by omega, hH, e⟩))⟩) (fun H _ hH eb => ⟨fun _ => ?_, fun v => absurd v (by decide)⟩)
  have g := h1 s H hs hH ea eb
  have F9 : ∀ T, mlF (mf (mf M 3 0) 2 0) T → T.1 9 = nI q := fun T fT => by rw [fT.1]; exact h9
  have F29 : ∀ T, mlF (mf (mf M 3 0) 2 0) T → T.2.1 29 = M.2.1 29 ∧ T.2.1 30 = M.2.1 30 ∧ T.2.1 31 = M.2.1 31 := fun T fT => by rw [fT.2]; exact ⟨rfl, rfl, rfl⟩
  have key : ∀ d h, h + d = H → ∀ T, mlF (mf (mf M 3 0) 2 0) T → TB w of le (T.2.2 33) q h 0 → B59 T (nI (h + 1)) := by
    intro d
    induction d with
    | zero =>
      intro h hh T fT tT
      have : h = H := by omega
      subst this
      refine h59 _ _ ?_
      unfold mT_count_59
      rw [ea, eb, i8, nI_clamp (show 8 * h + s < 2 ^ 31 by omega)]
      refine ⟨fun _ => ⟨vp_in_nI (by omega) (by omega), ?_⟩, fun z => absurd (nI_lt (by omega) (by omega)) z⟩
      rw [tT.2.1 h s (Nat.le_refl _) hs]
      exact g T fT
    | succ d ih =>
      intro h hh T fT tT
      refine h59 _ _ ?_
      unfold mT_count_59
      rw [eb]
      refine ⟨fun z => absurd z (nI_nlt (by omega) (by omega)), fun _ => ?_⟩
      have inner : ∀ e t, t + e = q → ∀ U, mlF (mf (mf M 3 0) 2 0) U → TB w of le (U.2.2 33) q h t → B67 U (nI (h + 1)) (nI t) := by
        intro e
        induction e with
        | zero =>
          intro t ht U fU tU
          have : t = q := by omega
          subst this
          refine h67 _ _ _ ?_
          unfold mT_count_67
          rw [F9 U fU, ← nI_succ]
          exact ⟨fun _ => ih (h + 1) (by omega) U fU tU.next, fun z => absurd (nI_le (Nat.le_refl _) (by omega)) z⟩
        | succ e ih2 =>
          intro t ht U fU tU
          have hws := hlen t (by omega)
          refine h67 _ _ _ ?_
          unfold mT_count_67
          rw [F9 U fU]
          refine ⟨fun z => absurd z (nI_ge (by omega) (by omega)), fun _ => ?_⟩
          have steps : ∀ f i, i + f = w t → B82 U (nI (h + 1)) (nI t) (jN (min mx (rawS of le (h + 1) (tab w of le h) t i))) (nI i) := by
            intro f
            induction f with
            | zero =>
              intro i hi
              have ei : i = w t := by omega
              refine h82 _ _ _ _ _ ?_
              unfold mT_count_82
              rw [nI_clamp (show t < 2 ^ 31 by omega), (F29 U fU).1, hws.2, ei, i8, nI_clamp (show 8 * (h + 1) + t < 2 ^ 31 by omega), ← nI_succ]
              refine ⟨vp_in_nI (by omega) (by omega), fun _ => ⟨vp_in_nI (by omega) (by omega), ?_⟩, fun z => absurd (nI_le (Nat.le_refl _) (by omega)) z⟩
              refine ih2 (t + 1) (by omega) _ ⟨fU.1, fU.2⟩ ?_
              have e33 : (ml U 33 (vp_updL (U.2.2 33) (8 * (h + 1) + t) (jN (min mx (rawS of le (h + 1) (tab w of le h) t (w t)))))).2.2 33 = vp_updL (U.2.2 33) (8 * (h + 1) + t) (jN (vl w of le h t)) := by rw [ml_g]; rfl
              rw [e33]
              exact tU.step hq (by omega)
            | succ f ih3 =>
              intro i hi
              have hk := hst t i (by omega) (by omega)
              have hstv := stV_le (of := of) (le := le) (h := h + 1) (tab_le (w := w) (of := of) (le := le) h) (8 * t + i)
              have sat : ∀ V : Nat, V = stV of le (h + 1) (tab w of le h) (8 * t + i) → (lg_cmp (jN V) (1000000000000000000 - jN (min mx (rawS of le (h + 1) (tab w of le h) t i))) ≤ 0 → ∀ v : Int64, v = jN (min mx (rawS of le (h + 1) (tab w of le h) t i)) + jN V → B82 U (nI (h + 1)) (nI t) v (nI i + 1)) ∧ (¬ lg_cmp (jN V) (1000000000000000000 - jN (min mx (rawS of le (h + 1) (tab w of le h) t i))) ≤ 0 → B82 U (nI (h + 1)) (nI t) 1000000000000000000 (nI i + 1)) := by
                intro V hV
                have hn := ih3 (i + 1) (by omega)
                have er : rawS of le (h + 1) (tab w of le h) t (i + 1) = rawS of le (h + 1) (tab w of le h) t i + V := by rw [hV]; rfl
                rw [er] at hn
                rw [mx_sub (Nat.min_le_left _ _), lgc_le, jN_le (by unfold mx at hstv; omega) (by unfold mx; omega), ← nI_succ]
                refine ⟨fun c v hv => ?_, fun c => ?_⟩
                · rw [hv, jN_add]
                  have e4 : min mx (rawS of le (h + 1) (tab w of le h) t i) + V = min mx (rawS of le (h + 1) (tab w of le h) t i + V) := by omega
                  rw [e4]; exact hn
                · have e4 : min mx (rawS of le (h + 1) (tab w of le h) t i + V) = mx := by omega
                  rw [e4] at hn
                  exact hn
              refine h82 _ _ _ _ _ ?_
              unfold mT_count_82
              rw [nI_clamp (show t < 2 ^ 31 by omega), (F29 U fU).1, hws.2]
              refine ⟨vp_in_nI (by omega) (by omega), fun z => absurd z (nI_ge (by omega) (by omega)), fun _ v hv => ?_⟩
              rw [i8] at hv
              subst hv
              rw [nI_clamp (show 8 * t + i < 2 ^ 31 by omega), (F29 U fU).2.1, (F29 U fU).2.2]
              refine ⟨vp_in_nI (by omega) (by omega), ?_⟩
              rcases hk with ⟨k1, k2, -⟩ | ⟨o, k1, k2, k3, k4, k5, k6, -⟩
              · rw [k2]
                refine ⟨fun z => absurd rfl z, fun _ => sat 1 ?_⟩
                unfold stV
                rw [k1]
              · rw [k5, k6]
                refine ⟨fun _ => ⟨vp_in_nI (by omega) (by omega), fun c => sat 0 ?_, fun c => ?_⟩, fun z => absurd z (nI_m1 (by omega))⟩
                · have c : h + 1 ≤ le (8 * t + i) := (nI_leI (by omega) (by omega)).mp c
                  unfold stV
                  rw [k1]
                  simp only [if_pos c]
                · have c : ¬ h + 1 ≤ le (8 * t + i) := fun z => c (nI_le z (by omega))
                  rw [hsub (show le (8 * t + i) ≤ h + 1 by omega), i8, nI_clamp (show 8 * (h + 1 - le (8 * t + i)) + o < 2 ^ 31 by omega)]
                  refine ⟨vp_in_nI (by omega) (by omega), vp_in_nI (by omega) (by omega), vp_in_nI (by omega) (by omega), fun v hv => ?_⟩
                  rw [tU.2.1 (h + 1 - le (8 * t + i)) o (by omega) k2] at hv
                  rw [hv]
                  refine sat _ ?_
                  unfold stV
                  rw [k1]
                  simp only [if_neg c]
          exact steps (w t) 0 (by omega)
      exact inner q 0 (by omega) T fT tT
  have e38 : ∀ d k, k + d = 8 → ∀ T, mlF (mf (mf M 3 0) 2 0) T → (∀ t, t < k → T.2.2 33 t = 0) → B38 T (nI k) := by
    intro d
    induction d with
    | zero =>
      intro k hk T fT tT
      have : k = 8 := by omega
      subst this
      refine h38 _ _ ?_
      unfold mT_count_38
      exact ⟨fun _ => key H 0 (by omega) T fT (TB.start hq tT), fun z => absurd (show (8 : Int32) ≤ nI 8 by decide) z⟩
    | succ d ih =>
      intro k hk T fT tT
      refine h38 _ _ ?_
      unfold mT_count_38
      rw [nI_clamp (show k < 2 ^ 31 by omega), ← nI_succ]
      refine ⟨fun z => absurd z (nI_ge (a := k) (b := 8) (by omega) (by omega)), fun _ => ⟨vp_in_nI (by omega) (by omega), ih (k + 1) (by omega) _ ⟨fT.1, fT.2⟩ (fun t ht => ?_)⟩⟩
      have e33 : (ml T 33 (vp_updL (T.2.2 33) k 0)).2.2 33 = vp_updL (T.2.2 33) k 0 := ml_g _ _ _
      rw [e33]
      unfold vp_updL
      by_cases e : t = k
      · rw [if_pos e]
      · rw [if_neg e]; exact tT t (by omega)
  exact e38 8 0 (by omega) _ ⟨rfl, rfl⟩ (fun t ht => absurd ht (Nat.not_lt_zero _))
theorem o_count (l : Launch) (h : Rl S M n P kd ct sc sm x y) (a b : Int32) : cX_X8_count l S a b (fun r1 S1 => mX_count l M a b (fun r2 M1 => OKr S r1 S1 r2 M1)) := by
  obtain ⟨⟨q, w, of, le, ro, kc, km⟩, tz⟩ := id h.2.2.2.2.2.2.1
  have hq := kc.1
  refine c_X8_count l S a b _ ?_
  intro B21 h21
  unfold cT_X8_count_e
  have no : (¬ ((∃ s, s < q ∧ a = nI s) ∧ ∃ H, H ≤ 60 ∧ b = nI H)) → B21 S := by
    intro z
    refine h21 _ ?_
    unfold cT_X8_count_21
    exact k_none l _ 1 _ (s_count l km a b _ (fun _ => ⟨rfl, ⟨n, P, kd, ct, sc, sm, x, y, (h.th 0).tr 1⟩, rfl⟩) (fun s H hs hH ea eb => absurd ⟨⟨s, hs, ea⟩, H, hH, eb⟩ z))
  refine k_has l kc.2.1 hq a _ (fun z => ⟨fun _ => no (fun v => z v.1), fun v => absurd rfl v⟩) (fun s hs ea => ⟨fun v => absurd v (by decide), fun _ => ⟨fun c => no (fun v => ?_), fun c => ⟨fun c2 => ?_, fun c2 => no (fun v => ?_)⟩⟩⟩)
  · obtain ⟨H, hH, e⟩ := v.2
    rw [e] at c
    exact absurd c (nI_pos (by omega))
  · obtain ⟨H, hH', eb⟩ := nI_of c
    subst ea
    subst eb
    have hH : H ≤ 60 := (nI_leI (b := 60) (by omega) (by omega)).mp c2
    refine k_tally l (S := cf S 2 0) kc tz hH hs _ (fun T fT tT => ?_)
    refine s_count l km _ _ _ (fun z => absurd ⟨⟨s, hs, rfl⟩, H, hH, rfl⟩ z) (fun s' H' hs' hH'' ea eb N fN => ?_)
    have e1 : s = s' := (nI_eq (by omega) (by omega)).mp ea
    have e2 : H = H' := (nI_eq (by omega) (by omega)).mp eb
    subst e1
    subst e2
    refine ⟨rfl, ⟨n, P, kd, ct, sc, sm, x, y, ?_⟩, fT.2.2.1⟩
    have h' := (h.th 0).tr 0
    obtain ⟨⟨b1, b2, b3, b4⟩, q2, q3, q4, q5, q6, q7, q8, q9, q10⟩ := h'
    have fC : CFr nn (fun k => decide (k = 42)) nn (cf S 2 0) T := ⟨fun k _ => by rw [fT.1], fun k hk => ⟨by rw [fT.2.1], fT.2.2.2 k (by simpa using hk)⟩, fun k _ => by rw [fT.2.2.1]⟩
    refine ⟨⟨b1.fr fC, ?_, b3, b4⟩, ?_, ?_, ?_, ?_, ?_, ⟨⟨q, w, of, le, ro, ?_, ?_⟩, tT⟩, ?_, q9.fr fC, q10.fr fC⟩
    · unfold MY; rw [fN.1, fN.2]; exact b2
    · rw [fT.1, fN.2]; exact q2
    · rw [fT.1, fN.2]; exact q3
    · rw [fT.1, fN.1]; exact q4
    · rw [fT.1, fT.2.1, fN.1, fN.2]; exact q5
    · rw [fT.1, fT.2.1, fT.2.2.1, fN.1, fN.2]; exact q6
    · rw [fT.1, fT.2.1]; exact kc
    · rw [fN.1, fN.2]; exact km
    · unfold MA; rw [fN.2]; exact q8
  · obtain ⟨H, hH, e⟩ := v.2
    rw [e] at c2
    exact c2 (nI_le (b := 60) hH (by omega))
end Count
end
