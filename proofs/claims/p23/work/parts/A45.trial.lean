-- tried(): what both sides do
abbrev TSt := Nat × Nat × Nat
section Abs
variable (n P : Nat) (kd ct sg : Nat → Nat) (w : Nat → Nat) (of : Nat → Option Nat) (le ro : Nat → Nat)
/-- one MOVE: begun, done, stand; 0 fine, 2 cannot, 4 too long -/
def sh1 (h : Nat) (f t : Option Nat) (st : TSt) : Nat × TSt :=
  if st.1 = 5000 then (4, st) else match f, t with
    | some a, some c => if topN (dgs P st.2.2) a n = h - 1 ∧ pkE kd (dgs P st.2.2) n (h - 1) = h - 1 ∧ whyN n kd ct sg (dgs P st.2.2) a c = 0 then (0, st.1 + 1, st.2.1 + 1, packN (movN n kd (dgs P st.2.2) a c) P n 0) else (2, st)
    | _, _ => (2, st)
def perfS (rec : Nat → Nat → (Nat → Option Nat) → TSt → Nat × TSt) (h s : Nat) (pg : Nat → Option Nat) : Nat → Nat → TSt → Nat × TSt
  | 0, _, st => (0, st)
  | m + 1, k, st =>
    let r := match of (8 * s + k) with
      | none => sh1 n P kd ct sg h (pg (ro (5 * (8 * s + k)))) (pg (ro (5 * (8 * s + k) + 1))) st
      | some o => if h ≤ le (8 * s + k) then (0, st) else if st.1 = 5000 then (4, st) else rec o (h - le (8 * s + k)) (fun j => pg (ro (5 * (8 * s + k) + j))) (st.1 + 1, st.2)
    if r.1 = 0 then perfS rec h s pg m (k + 1) r.2 else r
def perf : Nat → Nat → Nat → (Nat → Option Nat) → TSt → Nat × TSt
  | 0 => fun _ _ _ st => (0, st)
  | f + 1 => fun s h pg st => perfS n P kd ct sg of le ro (perf f) h s pg (w s) 0 st
end Abs
/-- what is told of an end -/
def cd (c : Nat) : Int32 := if c = 0 then 0 else if c = 2 then -2 else -4
def tOK (n P : Nat) (st : TSt) : Prop := st.1 ≤ 5000 ∧ st.2.1 ≤ st.1 ∧ st.2.2 < P ^ n
def pOK (P : Nat) (pg : Nat → Option Nat) : Prop := ∀ j v, pg j = some v → v < P
section AbsS
variable {n P : Nat} {kd ct sg : Nat → Nat} {w : Nat → Nat} {of : Nat → Option Nat} {le ro : Nat → Nat}
theorem sh1_ok {h : Nat} {f t : Option Nat} {st : TSt} (hP : 0 < P) (ht : ∀ v, t = some v → v < P) (hs : tOK n P st) : tOK n P (sh1 n P kd ct sg h f t st).2 ∧ ((sh1 n P kd ct sg h f t st).1 = 0 ∨ (sh1 n P kd ct sg h f t st).1 = 2 ∨ (sh1 n P kd ct sg h f t st).1 = 4) := by
  unfold sh1
  by_cases e : st.1 = 5000
  · rw [if_pos e]; exact ⟨hs, Or.inr (Or.inr rfl)⟩
  · rw [if_neg e]
    cases f with
    | none => exact ⟨hs, Or.inr (Or.inl rfl)⟩
    | some a =>
      cases t with
      | none => exact ⟨hs, Or.inr (Or.inl rfl)⟩
      | some c =>
        simp only
        split
        · refine ⟨⟨?_, ?_, ?_⟩, Or.inl rfl⟩
          · have := hs.1; show st.1 + 1 ≤ 5000; omega
          · have := hs.2.1; show st.2.1 + 1 ≤ st.1 + 1; omega
          · show packN (movN n kd (dgs P st.2.2) a c) P n 0 < P ^ n
            rw [packN0]
            refine numN_lt n (fun j hj => ?_)
            unfold movN
            split
            · exact ht c rfl
            · exact dgs_lt hP _ _
        · exact ⟨hs, Or.inr (Or.inl rfl)⟩
end AbsS
def trA : Nat → Bool := fun k => (decide (6 ≤ k) && decide (k ≤ 8)) || (decide (20 ≤ k) && decide (k ≤ 23))
def trB : Nat → Bool := fun k => (decide (13 ≤ k) && decide (k ≤ 19)) || (decide (44 ≤ k) && decide (k ≤ 50))
theorem lA_tr (k : Nat) (h : trA k = false) : lA k = false := by
  simp only [trA, lA, Bool.or_eq_false_iff, Bool.and_eq_false_iff, decide_eq_false_iff_not] at *
  omega
theorem lB_tr (k : Nat) (h : trB k = false) : lB k = false := by
  simp only [trB, lB, Bool.or_eq_false_iff, Bool.and_eq_false_iff, decide_eq_false_iff_not] at *
  omega
section ClsT
variable {S : CS} {M : MS} {n P x y : Nat} {kd ct sc sm : Nat → Nat} {q : Nat} {w : Nat → Nat} {of : Nat → Option Nat} {le ro : Nat → Nat}
def TC (S : CS) (st : TSt) : Prop := S.1 20 = nI st.1 ∧ S.1 21 = nI st.2.1 ∧ S.1 22 = nI st.2.2
theorem k_shift (l : Launch) (hy : CY S n P kd ct sc) {h : Nat} (hh : 1 ≤ h ∧ h ≤ n) {f t : Option Nat} (hf : ∀ v, f = some v → v < P) (ht : ∀ v, t = some v → v < P) {st : TSt} (hs : tOK n P st) (hT : TC S st) (post : Int32 → CS → Prop) (hp : ∀ T, CFr trA lB nn S T → ((sh1 n P kd ct sc h f t st).1 = 0 → TC T (sh1 n P kd ct sc h f t st).2) → post (cd (sh1 n P kd ct sc h f t st).1) T) : cX_X7_shift l S (nI (h - 1)) (lab f) (lab t) post := by
  have hP2 := hy.2.2.2.1
  have hn2 := hy.2.2.2.2.1
  have hb := pow_b hP2 hn2.2
  obtain ⟨b, d, z⟩ := st
  obtain ⟨hb1, hd1, hz1⟩ := hs
  obtain ⟨t20, t21, t22⟩ := hT
  have hb1 : b ≤ 5000 := hb1
  have hd1 : d ≤ b := hd1
  have hz1 : z < P ^ n := hz1
  have t20 : S.1 20 = nI b := t20
  have t21 : S.1 21 = nI d := t21
  have t22 : S.1 22 = nI z := t22
  refine c_X7_shift l S _ _ _ post ?_
  unfold cT_X7_shift_e
  rw [t20, t22, ← nI_succ]
  have f0 : CFr trA lB nn S (cf S 20 (nI (b + 1))) := CFr.rf.cf _ rfl
  by_cases e : b = 5000
  · have es : sh1 n P kd ct sc h f t (b, d, z) = (4, b, d, z) := by unfold sh1; rw [if_pos e]
    rw [es] at hp
    refine ⟨fun c => absurd ((nI_leI (b := 5000) (by omega) (by omega)).mp c) (by omega), fun _ => hp _ f0 (fun c => absurd (show (4 : Nat) = 0 from c) (by decide))⟩
  · refine ⟨fun _ => ?_, fun c => absurd (nI_le (b := 5000) (show b + 1 ≤ 5000 by omega) (by omega)) c⟩
    cases f with
    | none =>
      have es : sh1 n P kd ct sc h none t (b, d, z) = (2, b, d, z) := by unfold sh1; rw [if_neg e]
      rw [es] at hp
      exact ⟨fun _ => hp _ f0 (fun c => absurd (show (2 : Nat) = 0 from c) (by decide)), fun c => absurd rfl c⟩
    | some a =>
      have ha := hf a rfl
      refine ⟨fun c => absurd c (nI_m1 (by omega)), fun _ => ?_⟩
      cases t with
      | none =>
        have es : sh1 n P kd ct sc h (some a) none (b, d, z) = (2, b, d, z) := by unfold sh1; rw [if_neg e]
        rw [es] at hp
        exact ⟨fun c => absurd rfl c, fun _ => hp _ f0 (fun c => absurd (show (2 : Nat) = 0 from c) (by decide))⟩
      | some c =>
        have hc := ht c rfl
        refine ⟨fun _ => ?_, fun z => absurd z (nI_m1 (by omega))⟩
        have hy0 : CY (cf S 20 (nI (b + 1))) n P kd ct sc := hy
        refine k_read l hy0 hz1 _ (fun T fT hLK => ?_)
        have f1 : CFr trA lB nn S T := f0.tr (fT.mono lA_tr (fun _ q => q))
        have hyT : CY T n P kd ct sc := hy.fr f1
        have bad : ¬ (topN (dgs P z) a n = h - 1 ∧ pkE kd (dgs P z) n (h - 1) = h - 1 ∧ whyN n kd ct sc (dgs P z) a c = 0) → post (-2) T := by
          intro q
          have es : sh1 n P kd ct sc h (some a) (some c) (b, d, z) = (2, b, d, z) := by unfold sh1; rw [if_neg e]; simp only; rw [if_neg q]
          rw [es] at hp
          exact hp T f1 (fun c => absurd (show (2 : Nat) = 0 from c) (by decide))
        show vp_in (nI a) 5 ∧ _
        rw [show lab (some a) = nI a from rfl, show lab (some c) = nI c from rfl, nI_clamp (show a < 2 ^ 31 by omega)]
        refine ⟨vp_in_nI (by omega) (by omega), fun w1 => bad (fun q => ?_), fun w1 => ?_⟩
        · have := (LK.top hLK (show a < 5 by omega) (by omega)).1
          rw [q.1] at this
          exact w1 this
        · have htop : topN (dgs P z) a n < n := by
            rcases Nat.lt_or_ge (topN (dgs P z) a n) n with q | q
            · exact q
            · have := LK.bare hLK (show a < 5 by omega) (by have := topN_le (dgs P z) a n; omega)
              rw [this] at w1
              exact absurd w1.symm (nI_m1 (by omega))
          have et : topN (dgs P z) a n = h - 1 := by
            have := (LK.top hLK (show a < 5 by omega) htop).1
            rw [this] at w1
            exact (nI_eq (by omega) (by omega)).mp w1
          have hpk := pkE_lt (kd := kd) (σ := dgs P z) htop
          refine k_size l hLK (by omega) htop _ ⟨fun w2 => bad (fun q => ?_), fun w2 => ?_⟩
          · rw [et, q.2.1] at w2
            exact w2 (by rw [Nat.sub_self]; rfl)
          · have w2 : pkE kd (dgs P z) n (topN (dgs P z) a n) - topN (dgs P z) a n + 1 = 1 := (nI_is 1 rfl (by omega) (by omega)).mp w2
            have ep : pkE kd (dgs P z) n (h - 1) = h - 1 := by rw [et] at w2 hpk; omega
            have hw5 : whyN n kd ct sc (dgs P z) a c ≤ 5 := by
              unfold whyN
              repeat' split
              all_goals omega
            refine k_hind l hyT hLK (by omega) (by omega) _ ⟨fun w3 => ?_, fun w3 => bad (fun q => w3 (by rw [q.2.2]; rfl))⟩
            have w3 : whyN n kd ct sc (dgs P z) a c = 0 := (nI_is 0 rfl (by omega) (by omega)).mp w3
            refine k_land l hz1 hLK (by omega) htop _ ?_
            have es : sh1 n P kd ct sc h (some a) (some c) (b, d, z) = (0, b + 1, d + 1, packN (movN n kd (dgs P z) a c) P n 0) := by unfold sh1; rw [if_neg e]; simp only; rw [if_pos ⟨et, ep, w3⟩]
            rw [es] at hp
            have e20 : T.1 20 = nI (b + 1) := by rw [fT.1 20 rfl, cf_get]
            have e21 : T.1 21 = nI d := by rw [fT.1 21 rfl, cf_get_ne _ _ (by decide)]; exact t21
            rw [e21, ← nI_succ]
            exact hp _ ((f1.cf _ rfl).cf _ rfl) (fun _ => ⟨e20, rfl, rfl⟩)
/-- the pegs of the roles, at a depth -/
def PG (S : CS) (dp : Nat) (pg : Nat → Option Nat) : Prop := ∀ j, j < 5 → S.2.1 (44 + dp) j = lab (pg j)
theorem k_cast (l : Launch) {dp k : Nat} {pg : Nat → Option Nat} (hd : dp + 1 < 7) (hk : k < 64) (hro : ∀ j, j < 5 → ro (5 * k + j) < 5 ∧ S.2.1 41 (5 * k + j) = nI (ro (5 * k + j))) (hpg : PG S dp pg) (post : CS → Prop) (hp : ∀ T, CFr nn (fun i => decide (i = 44 + dp + 1)) nn S T → PG T (dp + 1) (fun j => pg (ro (5 * k + j))) → post T) : cX_X7_castRoles l S (nI k) (nI dp) post := by
  refine c_X7_castRoles l S _ _ post ?_
  intro B3 h3
  unfold cT_X7_castRoles_e
  have key : ∀ d j, j + d = 5 → ∀ T, CFr nn (fun i => decide (i = 44 + dp + 1)) nn S T → (∀ i, i < j → T.2.1 (44 + (dp + 1)) i = lab (pg (ro (5 * k + i)))) → B3 T (nI j) := by
    intro d
    induction d with
    | zero =>
      intro j hj T fT hT
      have : j = 5 := by omega
      subst this
      refine h3 _ _ ?_
      unfold cT_X7_castRoles_3
      exact ⟨fun _ => hp T fT hT, fun c => absurd (show (5 : Int32) ≤ nI 5 by decide) c⟩
    | succ d ih =>
      intro j hj T fT hT
      have r := hro j (by omega)
      have e41 : T.2.1 41 = S.2.1 41 := (fT.2.1 41 (by simp; omega)).1
      have e44 : T.2.1 (44 + dp) = S.2.1 (44 + dp) := (fT.2.1 (44 + dp) (by simp)).1
      refine h3 _ _ ?_
      unfold cT_X7_castRoles_3
      rw [← nI_succ, ← nI_succ, nI_clamp (show dp + 1 < 2 ^ 31 by omega), nI_clamp (show dp < 2 ^ 31 by omega), nI_clamp (show j < 2 ^ 31 by omega), ix5, nI_clamp (show 5 * k + j < 2 ^ 31 by omega), e41, r.2, nI_clamp (show ro (5 * k + j) < 2 ^ 31 by omega), e44, hpg _ r.1]
      refine ⟨fun c => absurd c (nI_ge (a := j) (b := 5) (by omega) (by omega)), fun _ => ⟨vp_in_nI (by omega) (by omega), vp_in_nI (by omega) (by omega), vp_in_nI (by omega) (by omega), vp_in_nI (by omega) (by omega), vp_in_nI (by omega) (by omega), ?_⟩⟩
      refine ih (j + 1) (by omega) _ (fT.ca _ (by simp; omega)) (fun i hi => ?_)
      rw [ca_get]
      by_cases e : i = j
      · subst e; rw [upd_same]
      · rw [upd_other _ _ e]; exact hT i (by omega)
  exact key 5 0 (by omega) S CFr.rf (fun i hi => absurd hi (Nat.not_lt_zero _))
/-- what a performance leaves: the rows of pegs up to its depth -/
def PF (dp : Nat) (S T : CS) : Prop := CFr trA trB nn S T ∧ ∀ i, i ≤ dp → T.2.1 (44 + i) = S.2.1 (44 + i)
theorem PF.tr {dp : Nat} {S T U : CS} (h1 : PF dp S T) (h2 : PF dp T U) : PF dp S U := ⟨h1.1.tr h2.1, fun i hi => (h2.2 i hi).trans (h1.2 i hi)⟩
theorem PF.pg {dp : Nat} {S T : CS} {pg : Nat → Option Nat} (h : PF dp S T) (hp : PG S dp pg) : PG T dp pg := fun j hj => by rw [h.2 dp (Nat.le_refl _)]; exact hp j hj
end ClsT
