section
-- tried(): what both sides do
abbrev TSt := Nat × Nat × Nat
section Abs
variable (n P : Nat) (kd ct sg : Nat → Nat) (w : Nat → Nat) (of : Nat → Option Nat) (le ro : Nat → Nat)
/-- one MOVE: begun, done, stand; 0 fine, 2 cannot, 4 too long -/
def sh1 (h : Nat) (f t : Option Nat) (st : TSt) : Nat × TSt :=
  if st.1 = 5000 then (4, st) else match f, t with
    | some a, some c => if topN (dgs P st.2.2) a n = h - 1 ∧ pkE kd (dgs P st.2.2) n (h - 1) = h - 1 ∧ whyN n kd ct sg (dgs P st.2.2) a c = 0 then (0, st.1 + 1, st.2.1 + 1, packN (movN n kd (dgs P st.2.2) a c) P n 0) else (2, st)
    | _, _ => (2, st)
def perfS (rec : Nat → Nat → (Nat → Option Nat) → TSt → Nat × TSt) (h s : Nat) (pg : Nat → Option Nat) : Nat → Nat → TSt → Nat × TSt
  | 0, _, st => (0, st)
  | m + 1, k, st =>
    let r := match of (8 * s + k) with
      | none => sh1 n P kd ct sg h (pg (ro (5 * (8 * s + k)))) (pg (ro (5 * (8 * s + k) + 1))) st
      | some o => if h ≤ le (8 * s + k) then (0, st) else if st.1 = 5000 then (4, st) else rec o (h - le (8 * s + k)) (fun j => pg (ro (5 * (8 * s + k) + j))) (st.1 + 1, st.2)
    if r.1 = 0 then perfS rec h s pg m (k + 1) r.2 else r
def perf : Nat → Nat → Nat → (Nat → Option Nat) → TSt → Nat × TSt
  | 0 => fun _ _ _ st => (0, st)
  | f + 1 => fun s h pg st => perfS n P kd ct sg of le ro (perf f) h s pg (w s) 0 st
end Abs
/-- what is told of an end -/
def cd (c : Nat) : Int32 := if c = 0 then 0 else if c = 2 then -2 else -4
def tOK (n P : Nat) (st : TSt) : Prop := st.1 ≤ 5000 ∧ st.2.1 ≤ st.1 ∧ st.2.2 < P ^ n
def pOK (P : Nat) (pg : Nat → Option Nat) : Prop := ∀ j v, pg j = some v → v < P
section AbsS
variable {n P : Nat} {kd ct sg : Nat → Nat} {w : Nat → Nat} {of : Nat → Option Nat} {le ro : Nat → Nat}
theorem sh1_ok {h : Nat} {f t : Option Nat} {st : TSt} (hP : 0 < P) (ht : ∀ v, t = some v → v < P) (hs : tOK n P st) : tOK n P (sh1 n P kd ct sg h f t st).2 ∧ ((sh1 n P kd ct sg h f t st).1 = 0 ∨ (sh1 n P kd ct sg h f t st).1 = 2 ∨ (sh1 n P kd ct sg h f t st).1 = 4) := by
  unfold sh1
  by_cases e : st.1 = 5000
  · rw [if_pos e]; exact ⟨hs, Or.inr (Or.inr rfl)⟩
  · rw [if_neg e]
    cases f with
    | none => exact ⟨hs, Or.inr (Or.inl rfl)⟩
    | some a =>
      cases t with
      | none => exact ⟨hs, Or.inr (Or.inl rfl)⟩
      | some c =>
        simp only
        split
        · refine ⟨⟨?_, ?_, ?_⟩, Or.inl rfl⟩
          · have := hs.1; show st.1 + 1 ≤ 5000; omega
          · have := hs.2.1; show st.2.1 + 1 ≤ st.1 + 1; omega
          · show packN (movN n kd (dgs P st.2.2) a c) P n 0 < P ^ n
            rw [packN0]
            refine numN_lt n (fun j hj => ?_)
            unfold movN
            split
            · exact ht c rfl
            · exact dgs_lt hP _ _
        · exact ⟨hs, Or.inr (Or.inl rfl)⟩
end AbsS
def trA : Nat → Bool := fun k => (decide (6 ≤ k) && decide (k ≤ 8)) || (decide (20 ≤ k) && decide (k ≤ 23))
def trB : Nat → Bool := fun k => (decide (13 ≤ k) && decide (k ≤ 19)) || (decide (44 ≤ k) && decide (k ≤ 50))
theorem lA_tr (k : Nat) (h : trA k = false) : lA k = false := by
  simp only [trA, lA, Bool.or_eq_false_iff, Bool.and_eq_false_iff, decide_eq_false_iff_not] at *
  omega
theorem lB_tr (k : Nat) (h : trB k = false) : lB k = false := by
  simp only [trB, lB, Bool.or_eq_false_iff, Bool.and_eq_false_iff, decide_eq_false_iff_not] at *
  omega
section ClsT
variable {S : CS} {M : MS} {n P x y : Nat} {kd ct sc sm : Nat → Nat} {q : Nat} {w : Nat → Nat} {of : Nat → Option Nat} {le ro : Nat → Nat}
def TC (S : CS) (st : TSt) : Prop := S.1 20 = nI st.1 ∧ S.1 21 = nI st.2.1 ∧ S.1 22 = nI st.2.2
theorem k_shift (l : Launch) (hy : CY S n P kd ct sc) {h : Nat} (hh : 1 ≤ h ∧ h ≤ n) {f t : Option Nat} (hf : ∀ v, f = some v → v < P) (ht : ∀ v, t = some v → v < P) {st : TSt} (hs : tOK n P st) (hT : TC S st) (post : Int32 → CS → Prop) (hp : ∀ T, CFr trA lB nn S T → ((sh1 n P kd ct sc h f t st).1 = 0 → TC T (sh1 n P kd ct sc h f t st).2) → post (cd (sh1 n P kd ct sc h f t st).1) T) : cX_X7_shift l S (nI (h - 1)) (lab f) (lab t) post := by
  have hP2 := hy.2.2.2.1
  have hn2 := hy.2.2.2.2.1
  have hb := pow_b hP2 hn2.2
  obtain ⟨b, d, z⟩ := st
  obtain ⟨hb1, hd1, hz1⟩ := hs
  obtain ⟨t20, t21, t22⟩ := hT
  have hb1 : b ≤ 5000 := hb1
  have hd1 : d ≤ b := hd1
  have hz1 : z < P ^ n := hz1
  have t20 : S.1 20 = nI b := t20
  have t21 : S.1 21 = nI d := t21
  have t22 : S.1 22 = nI z := t22
  refine c_X7_shift l S _ _ _ post ?_
  unfold cT_X7_shift_e
  rw [t20, t22, ← nI_succ]
  have f0 : CFr trA lB nn S (cf S 20 (nI (b + 1))) := CFr.rf.cf _ rfl
  by_cases e : b = 5000
  · have es : sh1 n P kd ct sc h f t (b, d, z) = (4, b, d, z) := by unfold sh1; rw [if_pos e]
    rw [es] at hp
    refine ⟨fun c => absurd ((nI_leI (b := 5000) (by omega) (by omega)).mp c) (by omega), fun _ => hp _ f0 (fun c => absurd (show (4 : Nat) = 0 from c) (by decide))⟩
  · refine ⟨fun _ => ?_, fun c => absurd (nI_le (b := 5000) (show b + 1 ≤ 5000 by omega) (by omega)) c⟩
    cases f with
    | none =>
      have es : sh1 n P kd ct sc h none t (b, d, z) = (2, b, d, z) := by unfold sh1; rw [if_neg e]
      rw [es] at hp
      exact ⟨fun _ => hp _ f0 (fun c => absurd (show (2 : Nat) = 0 from c) (by decide)), fun c => absurd rfl c⟩
    | some a =>
      have ha := hf a rfl
      refine ⟨fun c => absurd c (nI_m1 (by omega)), fun _ => ?_⟩
      cases t with
      | none =>
        have es : sh1 n P kd ct sc h (some a) none (b, d, z) = (2, b, d, z) := by unfold sh1; rw [if_neg e]
        rw [es] at hp
        exact ⟨fun c => absurd rfl c, fun _ => hp _ f0 (fun c => absurd (show (2 : Nat) = 0 from c) (by decide))⟩
      | some c =>
        have hc := ht c rfl
        refine ⟨fun _ => ?_, fun z => absurd z (nI_m1 (by omega))⟩
        have hy0 : CY (cf S 20 (nI (b + 1))) n P kd ct sc := hy
        refine k_read l hy0 hz1 _ (fun T fT hLK => ?_)
        have f1 : CFr trA lB nn S T := f0.tr (fT.mono lA_tr (fun _ q => q))
        have hyT : CY T n P kd ct sc := hy.fr f1
        have bad : ¬ (topN (dgs P z) a n = h - 1 ∧ pkE kd (dgs P z) n (h - 1) = h - 1 ∧ whyN n kd ct sc (dgs P z) a c = 0) → post (-2) T := by
          intro q
          have es : sh1 n P kd ct sc h (some a) (some c) (b, d, z) = (2, b, d, z) := by unfold sh1; rw [if_neg e]; simp only; rw [if_neg q]
          rw [es] at hp
          exact hp T f1 (fun c => absurd (show (2 : Nat) = 0 from c) (by decide))
        show vp_in (nI a) 5 ∧ _
        rw [show lab (some a) = nI a from rfl, show lab (some c) = nI c from rfl, nI_clamp (show a < 2 ^ 31 by omega)]
        refine ⟨vp_in_nI (by omega) (by omega), fun w1 => bad (fun q => ?_), fun w1 => ?_⟩
        · have := (LK.top hLK (show a < 5 by omega) (by omega)).1
          rw [q.1] at this
          exact w1 this
        · have htop : topN (dgs P z) a n < n := by
            rcases Nat.lt_or_ge (topN (dgs P z) a n) n with q | q
            · exact q
            · have := LK.bare hLK (show a < 5 by omega) (by have := topN_le (dgs P z) a n; omega)
              rw [this] at w1
              exact absurd w1.symm (nI_m1 (by omega))
          have et : topN (dgs P z) a n = h - 1 := by
            have := (LK.top hLK (show a < 5 by omega) htop).1
            rw [this] at w1
            exact (nI_eq (by omega) (by omega)).mp w1
          have hpk := pkE_lt (kd := kd) (σ := dgs P z) htop
          refine k_size l hLK (by omega) htop _ ⟨fun w2 => bad (fun q => ?_), fun w2 => ?_⟩
          · rw [et, q.2.1] at w2
            exact w2 (by rw [Nat.sub_self]; rfl)
          · have w2 : pkE kd (dgs P z) n (topN (dgs P z) a n) - topN (dgs P z) a n + 1 = 1 := (nI_is 1 rfl (by omega) (by omega)).mp w2
            have ep : pkE kd (dgs P z) n (h - 1) = h - 1 := by rw [et] at w2 hpk; omega
            have hw5 : whyN n kd ct sc (dgs P z) a c ≤ 5 := by
              unfold whyN
              repeat' split
              all_goals omega
            refine k_hind l hyT hLK (by omega) (by omega) _ ⟨fun w3 => ?_, fun w3 => bad (fun q => w3 (by rw [q.2.2]; rfl))⟩
            have w3 : whyN n kd ct sc (dgs P z) a c = 0 := (nI_is 0 rfl (by omega) (by omega)).mp w3
            refine k_land l hz1 hLK (by omega) htop _ ?_
            have es : sh1 n P kd ct sc h (some a) (some c) (b, d, z) = (0, b + 1, d + 1, packN (movN n kd (dgs P z) a c) P n 0) := by unfold sh1; rw [if_neg e]; simp only; rw [if_pos ⟨et, ep, w3⟩]
            rw [es] at hp
            have e20 : T.1 20 = nI (b + 1) := by rw [fT.1 20 rfl, cf_get]
            have e21 : T.1 21 = nI d := by rw [fT.1 21 rfl, cf_get_ne _ _ (by decide)]; exact t21
            rw [e21, ← nI_succ]
            exact hp _ ((f1.cf _ rfl).cf _ rfl) (fun _ => ⟨e20, rfl, rfl⟩)
/-- the pegs of the roles, at a depth -/
def PG (S : CS) (dp : Nat) (pg : Nat → Option Nat) : Prop := ∀ j, j < 5 → S.2.1 (44 + dp) j = lab (pg j)
theorem k_cast (l : Launch) {dp k : Nat} {pg : Nat → Option Nat} (hd : dp + 1 < 7) (hk : k < 64) (hro : ∀ j, j < 5 → ro (5 * k + j) < 5 ∧ S.2.1 41 (5 * k + j) = nI (ro (5 * k + j))) (hpg : PG S dp pg) (post : CS → Prop) (hp : ∀ T, CFr nn (fun i => decide (i = 44 + dp + 1)) nn S T → PG T (dp + 1) (fun j => pg (ro (5 * k + j))) → post T) : cX_X7_castRoles l S (nI k) (nI dp) post := by
  refine c_X7_castRoles l S _ _ post ?_
  intro B3 h3
  unfold cT_X7_castRoles_e
  have key : ∀ d j, j + d = 5 → ∀ T, CFr nn (fun i => decide (i = 44 + dp + 1)) nn S T → (∀ i, i < j → T.2.1 (44 + (dp + 1)) i = lab (pg (ro (5 * k + i)))) → B3 T (nI j) := by
    intro d
    induction d with
    | zero =>
      intro j hj T fT hT
      have : j = 5 := by omega
      subst this
      refine h3 _ _ ?_
      unfold cT_X7_castRoles_3
      exact ⟨fun _ => hp T fT hT, fun c => absurd (show (5 : Int32) ≤ nI 5 by decide) c⟩
    | succ d ih =>
      intro j hj T fT hT
      have r := hro j (by omega)
      have e41 : T.2.1 41 = S.2.1 41 := (fT.2.1 41 (by simp; omega)).1
      have e44 : T.2.1 (44 + dp) = S.2.1 (44 + dp) := (fT.2.1 (44 + dp) (by simp)).1
      refine h3 _ _ ?_
      unfold cT_X7_castRoles_3
      rw [← nI_succ, ← nI_succ, nI_clamp (show dp + 1 < 2 ^ 31 by omega), nI_clamp (show dp < 2 ^ 31 by omega), nI_clamp (show j < 2 ^ 31 by omega), ix5, nI_clamp (show 5 * k + j < 2 ^ 31 by omega), e41, r.2, nI_clamp (show ro (5 * k + j) < 2 ^ 31 by omega), e44, hpg _ r.1]
      refine ⟨fun c => absurd c (nI_ge (a := j) (b := 5) (by omega) (by omega)), fun _ => ⟨vp_in_nI (by omega) (by omega), vp_in_nI (by omega) (by omega), vp_in_nI (by omega) (by omega), vp_in_nI (by omega) (by omega), vp_in_nI (by omega) (by omega), ?_⟩⟩
      refine ih (j + 1) (by omega) _ (fT.ca _ (by simp; omega)) (fun i hi => ?_)
      rw [ca_get]
      by_cases e : i = j
      · subst e; rw [upd_same]
      · rw [upd_other _ _ e]; exact hT i (by omega)
  exact key 5 0 (by omega) S CFr.rf (fun i hi => absurd hi (Nat.not_lt_zero _))
/-- what a performance leaves: the rows of pegs up to its depth -/
def PF (dp : Nat) (S T : CS) : Prop := CFr trA trB nn S T ∧ ∀ i, i ≤ dp → T.2.1 (44 + i) = S.2.1 (44 + i)
theorem PF.tr {dp : Nat} {S T U : CS} (h1 : PF dp S T) (h2 : PF dp T U) : PF dp S U := ⟨h1.1.tr h2.1, fun i hi => (h2.2 i hi).trans (h1.2 i hi)⟩
theorem PF.pg {dp : Nat} {S T : CS} {pg : Nat → Option Nat} (h : PF dp S T) (hp : PG S dp pg) : PG T dp pg := fun j hj => by rw [h.2 dp (Nat.le_refl _)]; exact hp j hj
end ClsT
end
section
-- the class's performance
theorem sub_le0 : ∀ h, h < 8 → ∀ d, d < 5 → (nI h - nI d ≤ 0 ↔ h ≤ d) := by decide
theorem cd_0 {c : Nat} : cd c = 0 ↔ c = 0 := by
  unfold cd
  by_cases e : c = 0
  · rw [if_pos e]; exact ⟨fun _ => e, fun _ => rfl⟩
  · rw [if_neg e]
    refine ⟨fun q => ?_, fun q => absurd q e⟩
    split at q
    · exact absurd q (by decide)
    · exact absurd q (by decide)
section AbsP
variable {n P : Nat} {kd ct sg : Nat → Nat} {w : Nat → Nat} {of : Nat → Option Nat} {le ro : Nat → Nat}
def cOK (c : Nat) : Prop := c = 0 ∨ c = 2 ∨ c = 4
theorem perfS_ok {rec : Nat → Nat → (Nat → Option Nat) → TSt → Nat × TSt} (hP : 0 < P) (hrec : ∀ o h pg st, pOK P pg → tOK n P st → tOK n P (rec o h pg st).2 ∧ cOK (rec o h pg st).1) {h s : Nat} {pg : Nat → Option Nat} (hpg : pOK P pg) : ∀ m k st, tOK n P st → tOK n P (perfS n P kd ct sg of le ro rec h s pg m k st).2 ∧ cOK (perfS n P kd ct sg of le ro rec h s pg m k st).1 := by
  intro m
  induction m with
  | zero => intro k st hs; exact ⟨hs, Or.inl rfl⟩
  | succ m ih =>
    intro k st hs
    unfold perfS
    have key : ∀ r : Nat × TSt, tOK n P r.2 ∧ cOK r.1 → tOK n P (if r.1 = 0 then perfS n P kd ct sg of le ro rec h s pg m (k + 1) r.2 else r).2 ∧ cOK (if r.1 = 0 then perfS n P kd ct sg of le ro rec h s pg m (k + 1) r.2 else r).1 := by
      intro r hr
      by_cases e : r.1 = 0
      · rw [if_pos e]; exact ih _ _ hr.1
      · rw [if_neg e]; exact hr
    refine key _ ?_
    cases of (8 * s + k) with
    | none => exact sh1_ok hP (fun v hv => hpg _ v hv) hs
    | some o =>
      simp only
      by_cases c1 : h ≤ le (8 * s + k)
      · rw [if_pos c1]; exact ⟨hs, Or.inl rfl⟩
      · rw [if_neg c1]
        by_cases c2 : st.1 = 5000
        · rw [if_pos c2]; exact ⟨hs, Or.inr (Or.inr rfl)⟩
        · rw [if_neg c2]
          have := hs.1
          have := hs.2.1
          exact hrec _ _ _ _ (fun j v hv => hpg _ v hv) ⟨by show st.1 + 1 ≤ 5000; omega, by show st.2.1 ≤ st.1 + 1; omega, hs.2.2⟩
theorem perf_ok (hP : 0 < P) : ∀ f s h pg st, pOK P pg → tOK n P st → tOK n P (perf n P kd ct sg w of le ro f s h pg st).2 ∧ cOK (perf n P kd ct sg w of le ro f s h pg st).1 := by
  intro f
  induction f with
  | zero => intro s h pg st _ hs; exact ⟨hs, Or.inl rfl⟩
  | succ f ih =>
    intro s h pg st hpg hs
    exact perfS_ok hP (fun o h pg st a b => ih o h pg st a b) hpg (w s) 0 st hs
/-- a CALL, its beginning counted -/
def callR (rec : Nat → Nat → (Nat → Option Nat) → TSt → Nat × TSt) (o h : Nat) (pg : Nat → Option Nat) (st : TSt) : Nat × TSt := if st.1 = 5000 then (4, st) else rec o h pg (st.1 + 1, st.2)
end AbsP
section ClsP
variable {S : CS} {n P x y : Nat} {kd ct sc : Nat → Nat} {q : Nat} {w : Nat → Nat} {of : Nat → Option Nat} {le ro : Nat → Nat}
abbrev KS (S : CS) (q : Nat) (w : Nat → Nat) (of : Nat → Option Nat) (le ro : Nat → Nat) : Prop := KSc q w of le ro (S.1 19) (S.2.1 38) (S.2.1 39) (S.2.1 40) (S.2.1 41)
theorem KS.fr {S T : CS} (h : KS S q w of le ro) (f : CFr trA trB nn S T) : KS T q w of le ro := by
  unfold KS
  rw [f.1 19 rfl, (f.2.1 38 rfl).1, (f.2.1 39 rfl).1, (f.2.1 40 rfl).1, (f.2.1 41 rfl).1]
  exact h
theorem k_perform (l : Launch) : ∀ gd dp, dp + gd = 7 → ∀ (S : CS) s h pg st, CY S n P kd ct sc → KS S q w of le ro → s < q → 1 ≤ h → h ≤ gd → h ≤ n → pOK P pg → tOK n P st → TC S st → PG S dp pg → ∀ post : Int32 → CS → Prop, (∀ T, PF dp S T → ((callR (perf n P kd ct sc w of le ro gd) s h pg st).1 = 0 → TC T (callR (perf n P kd ct sc w of le ro gd) s h pg st).2) → post (cd (callR (perf n P kd ct sc w of le ro gd) s h pg st).1) T) → cX_X7_perform l gd S (nI s) (nI h) (nI dp) post := by
  intro gd
  induction gd with
  | zero => intro dp _ S s h pg st _ _ _ h1 h2; omega
  | succ f ih =>
    intro dp hdp S s h pg st hy hks hs h1 hgd hn hpg hst hT hPG post hp
    have hP2 := hy.2.2.2.1
    have hn2 := hy.2.2.2.2.1
    refine c_X7_perform l (f + 1) S _ _ _ post ?_
    intro B26 B178 h26 h178
    unfold cT_X7_perform_e
    have hb5 := hst.1
    rw [hT.1, ← nI_succ]
    have f0 : PF dp S (cf S 20 (nI (st.1 + 1))) := ⟨CFr.rf.cf _ rfl, fun i _ => rfl⟩
    by_cases e5 : st.1 = 5000
    · have er : callR (perf n P kd ct sc w of le ro (f + 1)) s h pg st = (4, st) := by unfold callR; rw [if_pos e5]
      rw [er] at hp
      exact ⟨fun c => absurd ((nI_leI (b := 5000) (by omega) (by omega)).mp c) (by omega), fun _ => hp _ f0 (fun c => absurd (show (4 : Nat) = 0 from c) (by decide))⟩
    · have er : callR (perf n P kd ct sc w of le ro (f + 1)) s h pg st = perfS n P kd ct sc of le ro (perf n P kd ct sc w of le ro f) h s pg (w s) 0 (st.1 + 1, st.2) := by unfold callR; rw [if_neg e5]; rfl
      rw [er] at hp
      refine ⟨fun _ => ?_, fun c => absurd (nI_le (b := 5000) (show st.1 + 1 ≤ 5000 by omega) (by omega)) c⟩
      have hws := hks.2.2.1 s hs
      have hq := hks.1
      have key : ∀ m k, k + m = w s → ∀ T st', PF dp S T → TC T st' → tOK n P st' → (∀ U, PF dp S U → ((perfS n P kd ct sc of le ro (perf n P kd ct sc w of le ro f) h s pg m k st').1 = 0 → TC U (perfS n P kd ct sc of le ro (perf n P kd ct sc w of le ro f) h s pg m k st').2) → post (cd (perfS n P kd ct sc of le ro (perf n P kd ct sc w of le ro f) h s pg m k st').1) U) → B26 T (nI k) := by
        intro m
        induction m with
        | zero =>
          intro k hk T st' fT tT oT cont
          refine h26 _ _ ?_
          unfold cT_X7_perform_26
          rw [nI_clamp (show s < 2 ^ 31 by omega), (fT.1.2.1 38 rfl).1, hws.2]
          refine ⟨vp_in_nI (by omega) (by omega), fun _ => cont T fT (fun _ => tT), fun c => absurd (nI_le (show w s ≤ k by omega) (by omega)) c⟩
        | succ m ihm =>
          intro k hk T st' fT tT oT cont
          have hkst := hks.2.2.2 s k hs (by omega)
          have hyT : CY T n P kd ct sc := hy.fr fT.1
          have hksT : KS T q w of le ro := hks.fr fT.1
          have hkT := hksT.2.2.2 s k hs (by omega)
          -- what follows a step
          have nxt : ∀ (r : Nat × TSt) (U : CS), perfS n P kd ct sc of le ro (perf n P kd ct sc w of le ro f) h s pg (m + 1) k st' = (if r.1 = 0 then perfS n P kd ct sc of le ro (perf n P kd ct sc w of le ro f) h s pg m (k + 1) r.2 else r) → PF dp S U → (r.1 = 0 → TC U r.2) → tOK n P r.2 → B178 U (nI k) (cd r.1) := by
            intro r U hr fU tU oU
            refine h178 _ _ _ ?_
            unfold cT_X7_perform_178
            rw [hr] at cont
            refine ⟨fun c => ?_, fun c => ?_⟩
            · have c := cd_0.mp c
              rw [if_pos c] at cont
              rw [← nI_succ]
              exact ihm (k + 1) (by omega) U r.2 fU (tU c) oU cont
            · have c : r.1 ≠ 0 := fun q => c (cd_0.mpr q)
              rw [if_neg c] at cont
              exact cont U fU (fun q => absurd q c)
          refine h26 _ _ ?_
          unfold cT_X7_perform_26
          rw [nI_clamp (show s < 2 ^ 31 by omega), (fT.1.2.1 38 rfl).1, hws.2]
          refine ⟨vp_in_nI (by omega) (by omega), fun c => absurd c (nI_ge (by omega) (by omega)), fun _ v hv => ?_⟩
          have hv : v = nI (8 * s + k) := by rw [hv, show (8 : Int32) = nI 8 from rfl, pk_mul, nI_add]; congr 1; omega
          subst hv
          rw [nI_clamp (show 8 * s + k < 2 ^ 31 by omega)]
          refine ⟨vp_in_nI (by omega) (by omega), fun v9 hv9 => ⟨vp_in_nI (by omega) (by omega), ?_⟩⟩
          have hPGT := fT.pg hPG
          rcases hkT with ⟨k1, k2, k3⟩ | ⟨o, k1, k2, k3, k4, k5, k6, k7⟩
          · rw [k2]
            refine ⟨fun z => absurd rfl z, fun _ => ?_⟩
            have r0 := k3 0 (by omega)
            have r1 := k3 1 (by omega)
            rw [Nat.add_zero] at r0
            rw [show nI (8 * s + k) * 5 = nI (5 * (8 * s + k)) by rw [show (5 : Int32) = nI 5 from rfl, pk_mul, Nat.mul_comm], show nI (5 * (8 * s + k)) + 1 = nI (5 * (8 * s + k) + 1) from nI_add .., nI_clamp (show 5 * (8 * s + k) < 2 ^ 31 by omega), nI_clamp (show 5 * (8 * s + k) + 1 < 2 ^ 31 by omega), nI_clamp (show dp < 2 ^ 31 by omega), r0.2, r1.2, nI_clamp (show ro (5 * (8 * s + k)) < 2 ^ 31 by omega), nI_clamp (show ro (5 * (8 * s + k) + 1) < 2 ^ 31 by omega), hPGT _ r0.1, hPGT _ r1.1]
            refine ⟨vp_in_nI (by omega) (by omega), vp_in_nI (by omega) (by omega), vp_in_nI (by omega) (by omega), fun v11 e11 => ⟨vp_in_nI (by omega) (by omega), vp_in_nI (by omega) (by omega), vp_in_nI (by omega) (by omega), fun v12 e12 => ?_⟩⟩
            subst e11
            subst e12
            obtain ⟨h', rfl⟩ : ∃ h', h = h' + 1 := ⟨h - 1, by omega⟩
            rw [nI_pred]
            refine k_shift l hyT (h := h' + 1) ⟨by omega, hn⟩ (fun v hv => hpg _ v hv) (fun v hv => hpg _ v hv) oT tT _ (fun U fU tU => ?_)
            refine nxt _ U ?_ (fT.tr ⟨fU.mono (fun _ z => z) lB_tr, fun i hi => (fU.2.1 (44 + i) (by simp [lB]; omega)).1⟩) tU (sh1_ok (by omega) (fun v hv => hpg _ v hv) oT).1
            conv => lhs; unfold perfS
            rw [k1]
          · rw [k6] at hv9
            rw [k5]
            refine ⟨fun _ => ?_, fun z => absurd z (nI_m1 (by omega))⟩
            subst hv9
            by_cases c1 : h ≤ le (8 * s + k)
            · refine ⟨fun _ => ?_, fun z => absurd ((sub_le0 h (by omega) _ (by omega)).mpr c1) z⟩
              have := nxt (0, st') T (by conv => lhs; unfold perfS
                                         rw [k1]
                                         simp only [if_pos c1]) fT (fun _ => tT) oT
              exact this
            · refine ⟨fun z => absurd ((sub_le0 h (by omega) _ (by omega)).mp z) c1, fun _ => ?_⟩
              rw [← nI_succ, hsub (show le (8 * s + k) ≤ h by omega)]
              refine ⟨fun z => absurd z (nI_ge (a := dp + 1) (b := 7) (by omega) (by omega)), fun _ => ?_⟩
              refine k_cast l (by omega) (show 8 * s + k < 64 by omega) k7 hPGT _ (fun T1 f1 pg1 => ⟨vp_in_nI (by omega) (by omega), f, rfl, ?_⟩)
              have f1' : CFr trA trB nn T T1 := f1.mono (fun _ _ => rfl) (fun i hi => by
                simp only [trB, Bool.or_eq_false_iff, Bool.and_eq_false_iff, decide_eq_false_iff_not] at hi
                simp only [decide_eq_false_iff_not]
                omega)
              have e39 : T1.2.1 39 (8 * s + k) = nI o := by rw [(f1.2.1 39 (by simp; omega)).1]; exact k5
              rw [e39]
              refine ih (dp + 1) (by omega) T1 o (h - le (8 * s + k)) _ st' (hyT.fr f1') (hksT.fr f1') k2 (by omega) (by omega) (by omega) (fun j v hv => hpg _ v hv) oT ⟨by rw [f1.1 20 rfl]; exact tT.1, by rw [f1.1 21 rfl]; exact tT.2.1, by rw [f1.1 22 rfl]; exact tT.2.2⟩ pg1 _ (fun U fU tU => ?_)
              refine nxt _ U ?_ ⟨fT.1.tr (f1'.tr fU.1), fun i hi => ?_⟩ tU ?_
              · conv => lhs; unfold perfS
                rw [k1]
                simp only [if_neg c1]
                rfl
              · rw [fU.2 i (by omega), (f1.2.1 (44 + i) (by simp; omega)).1, fT.2 i hi]
              · unfold callR
                by_cases z : st'.1 = 5000
                · rw [if_pos z]; exact oT
                · rw [if_neg z]
                  have := oT.1
                  have := oT.2.1
                  exact (perf_ok (by omega) f o (h - le (8 * s + k)) (fun j => pg (ro (5 * (8 * s + k) + j))) (st'.1 + 1, st'.2) (fun j v hv => hpg _ v hv) ⟨by show st'.1 + 1 ≤ 5000; omega, by show st'.2.1 ≤ st'.1 + 1; omega, oT.2.2⟩).1
      have := hst.2.1
      exact key (w s) 0 (by omega) _ (st.1 + 1, st.2) f0 ⟨rfl, hT.2.1, hT.2.2⟩ ⟨by show st.1 + 1 ≤ 5000; omega, by show st.2.1 ≤ st.1 + 1; omega, hst.2.2⟩ hp
/-- the stand at the start: all on the first role's peg -/
def z0 (n P : Nat) (ν : Nat → Nat) : Nat := numN (fun _ => ν 0) P n
def pg0 (P : Nat) (ν : Nat → Nat) : Nat → Option Nat := fun j => if j < P then some (ν j) else none
theorem k_prep7 (l : Launch) {f : Nat → Int32} {ν : Nat → Nat} (hy : CY S n P kd ct sc) (hf : ∀ k, k < P → f k = nI (ν k) ∧ ν k < P) (post : CS → Prop) (hp : ∀ T, CFr trA trB nn S T → TC T (0, 0, z0 n P ν) → PG T 0 (pg0 P ν) → T.1 2 = S.1 2 → post T) : cX_X7_prepare l S 5 f post := by
  have hP2 := hy.2.2.2.1
  have hn2 := hy.2.2.2.2.1
  refine c_X7_prepare l S 5 f post ?_
  intro B17 B53 h17 h53
  unfold cT_X7_prepare_e
  have e44 : (44 + (0 : Int32).toNatClampNeg) = 44 := rfl
  have e53 : ∀ d k, k + d = n → ∀ T, CFr trA trB nn S T → TC T (0, 0, numN (fun _ => ν 0) P k) → PG T 0 (pg0 P ν) → T.1 2 = S.1 2 → B53 T (nI k) := by
    intro d
    induction d with
    | zero =>
      intro k hk T fT tT pT t2
      have : k = n := by omega
      subst this
      refine h53 _ _ ?_
      unfold cT_X7_prepare_53
      rw [(hy.fr fT).2.1]
      exact ⟨fun _ => hp T fT tT pT t2, fun c => absurd (nI_le (Nat.le_refl _) (by omega)) c⟩
    | succ d ih =>
      intro k hk T fT tT pT t2
      have hyT := hy.fr fT
      have p0 : T.2.1 44 0 = nI (ν 0) := by
        have := pT 0 (by omega)
        unfold pg0 at this
        rw [if_pos (by omega)] at this
        exact this
      refine h53 _ _ ?_
      unfold cT_X7_prepare_53
      rw [hyT.2.1, e44, nI_clamp (show k < 2 ^ 31 by omega), show (0 : Int32).toNatClampNeg = 0 from rfl, p0, hyT.2.2.2.2.2.1 k (by omega), pk_mul, show T.1 22 = nI (numN (fun _ => ν 0) P k) from tT.2.2, nI_add, ← nI_succ]
      refine ⟨fun c => absurd c (nI_ge (by omega) (by omega)), fun _ => ⟨vp_in_nI (n := 0) (by omega) (by omega), vp_in_nI (n := 0) (by omega) (by omega), vp_in_nI (by omega) (by omega), ?_⟩⟩
      exact ih (k + 1) (by omega) _ (fT.cf _ rfl) ⟨tT.1, tT.2.1, rfl⟩ pT t2
  have e17 : ∀ d k, k + d = 5 → ∀ T, CFr trA trB nn S T → TC T (0, 0, 0) → (∀ j, j < k → T.2.1 44 j = lab (pg0 P ν j)) → T.1 2 = S.1 2 → B17 T (nI k) := by
    intro d
    induction d with
    | zero =>
      intro k hk T fT tT pT t2
      have : k = 5 := by omega
      subst this
      refine h17 _ _ ?_
      unfold cT_X7_prepare_17
      exact ⟨fun _ => e53 n 0 (by omega) T fT tT pT t2, fun c => absurd (show (5 : Int32) ≤ nI 5 by decide) c⟩
    | succ d ih =>
      intro k hk T fT tT pT t2
      refine h17 _ _ ?_
      unfold cT_X7_prepare_17
      rw [(hy.fr fT).1, e44, nI_clamp (show k < 2 ^ 31 by omega), ← nI_succ]
      refine ⟨fun c => absurd c (nI_ge (a := k) (b := 5) (by omega) (by omega)), fun _ => ⟨vp_in_nI (n := 0) (by omega) (by omega), fun c => ⟨vp_in_nI (by omega) (by omega), ?_⟩, fun c => ⟨vp_in_nI (by omega) (by omega), vp_in_nI (by omega) (by omega), ?_⟩⟩⟩
      · have c : P ≤ k := (nI_leI (by omega) (by omega)).mp c
        refine ih (k + 1) (by omega) _ (fT.ca _ rfl) tT (fun j hj => ?_) t2
        show upd (T.2.1 44) k (-1) j = _
        by_cases e : j = k
        · subst e; rw [upd_same]; unfold pg0; rw [if_neg (by omega)]; rfl
        · rw [upd_other _ _ e]; exact pT j (by omega)
      · have c : k < P := by
          rcases Nat.lt_or_ge k P with z | z
          · exact z
          · exact absurd (nI_le z (by omega)) c
        rw [(hf k c).1]
        refine ih (k + 1) (by omega) _ (fT.ca _ rfl) tT (fun j hj => ?_) t2
        show upd (T.2.1 44) k (nI (ν k)) j = _
        by_cases e : j = k
        · subst e; rw [upd_same]; unfold pg0; rw [if_pos (by omega)]; rfl
        · rw [upd_other _ _ e]; exact pT j (by omega)
  exact e17 5 0 (by omega) _ (((CFr.rf.cf _ rfl).cf _ rfl).cf _ rfl) ⟨rfl, rfl, rfl⟩ (fun j hj => absurd hj (Nat.not_lt_zero _)) rfl
/-- are the discs below h on the peg a? -/
def allOn (σ : Nat → Nat) (a : Nat) : Nat → Bool
  | 0 => true
  | h + 1 => allOn σ a h && decide (σ h = a)
/-- what tried() tells -/
def tryV (P : Nat) (a h : Nat) (r : Nat × TSt) : Int32 := if r.1 = 0 then (if allOn (dgs P r.2.2.2) a h then nI r.2.2.1 else -3) else cd r.1
theorem allOn_at {σ : Nat → Nat} {a : Nat} : ∀ h, allOn σ a h = true ↔ ∀ j, j < h → σ j = a := by
  intro h
  induction h with
  | zero => exact ⟨fun _ j hj => absurd hj (Nat.not_lt_zero _), fun _ => rfl⟩
  | succ h ih =>
    unfold allOn
    rw [Bool.and_eq_true, ih, decide_eq_true_eq]
    constructor
    · rintro ⟨h1, h2⟩ j hj
      by_cases e : j = h
      · subst e; exact h2
      · exact h1 j (by omega)
    · intro q
      exact ⟨fun j hj => q j (by omega), q h (by omega)⟩
theorem k_run (l : Launch) {ν : Nat → Nat} (hy : CY S n P kd ct sc) (hks : KS S q w of le ro) {s h : Nat} (hs : s < q) (h1 : 1 ≤ h) (hn : h ≤ n) (hν : ∀ k, k < P → ν k < P) (hT : TC S (0, 0, z0 n P ν)) (hPG : PG S 0 (pg0 P ν)) (post : Int32 → CS → Prop) (hp : ∀ T, CFr trA trB nn S T → post (tryV P (ν 1) h (perf n P kd ct sc w of le ro 7 s h (pg0 P ν) (1, 0, z0 n P ν))) T) : cX_X7_run l S (nI s) (nI h) post := by
  have hP2 := hy.2.2.2.1
  have hn2 := hy.2.2.2.2.1
  have hzz : z0 n P ν < P ^ n := numN_lt n (fun j _ => hν 0 (by omega))
  have hpg : pOK P (pg0 P ν) := fun j v hv => by
    unfold pg0 at hv
    split at hv
    · cases hv; exact hν j (by assumption)
    · cases hv
  refine c_X7_run l S _ _ post ?_
  intro B29 B49 h29 h49
  unfold cT_X7_run_e
  have hok := perf_ok (n := n) (P := P) (kd := kd) (ct := ct) (sg := sc) (w := w) (of := of) (le := le) (ro := ro) (by omega) 7 s h (pg0 P ν) (1, 0, z0 n P ν) hpg ⟨by show 1 ≤ 5000; omega, by show 0 ≤ 1; omega, hzz⟩
  have er : callR (perf n P kd ct sc w of le ro 7) s h (pg0 P ν) (0, 0, z0 n P ν) = perf n P kd ct sc w of le ro 7 s h (pg0 P ν) (1, 0, z0 n P ν) := rfl
  refine k_perform l 7 0 (by omega) S s h (pg0 P ν) (0, 0, z0 n P ν) hy hks hs h1 (by omega) hn hpg ⟨by show 0 ≤ 5000; omega, by show 0 ≤ 0; omega, hzz⟩ hT hPG _ (fun T fT tT => ?_)
  rw [er] at tT ⊢
  generalize perf n P kd ct sc w of le ro 7 s h (pg0 P ν) (1, 0, z0 n P ν) = r at *
  have fin : ∀ U, CFr trA trB nn T U → (r.1 = 0 → TC U r.2) → U.2.1 44 = T.2.1 44 → B29 U (cd r.1) := by
    intro U fU tU u44
    refine h29 _ _ ?_
    unfold cT_X7_run_29
    refine ⟨fun c => ?_, fun c => ?_⟩
    · have c := cd_0.mp c
      have tU := tU c
      have hyU : CY U n P kd ct sc := hy.fr (fT.1.tr fU)
      rw [tU.2.2]
      refine k_read l hyU hok.1.2.2 _ (fun V fV hV => ?_)
      have v44 : V.2.1 44 1 = nI (ν 1) := by
        rw [(fV.2.1 44 rfl).1, u44, fT.2 0 (Nat.le_refl _)]
        have := hPG 1 (by omega)
        unfold pg0 at this
        rw [if_pos (by omega)] at this
        exact this
      have v21 : V.1 21 = nI r.2.2.1 := by rw [fV.1 21 rfl]; exact tU.2.1
      have hpV : post (if allOn (dgs P r.2.2.2) (ν 1) h then nI r.2.2.1 else -3) V := by
        have := hp V ((fT.1.tr fU).tr (fV.mono lA_tr lB_tr))
        unfold tryV at this
        rw [if_pos c] at this
        exact this
      have key : ∀ d k, k + d = h → (∀ j, j < k → dgs P r.2.2.2 j = ν 1) → B49 V (nI k) := by
        intro d
        induction d with
        | zero =>
          intro k hk hall
          have : k = h := by omega
          subst this
          refine h49 _ _ ?_
          unfold cT_X7_run_49
          rw [v21]
          rw [(allOn_at k).mpr hall] at hpV
          exact ⟨fun _ => hpV, fun c => absurd (nI_le (Nat.le_refl _) (by omega)) c⟩
        | succ d ih =>
          intro k hk hall
          have d1 : dgs P r.2.2.2 k < P := dgs_lt (by omega) _ _
          have d2 := hν 1 (by omega)
          refine h49 _ _ ?_
          unfold cT_X7_run_49
          rw [nI_clamp (show k < 2 ^ 31 by omega), hV.1 k (Nat.zero_le _) (by omega), show (44 + (0 : Int32).toNatClampNeg) = 44 from rfl, show (1 : Int32).toNatClampNeg = 1 from rfl, v44, ← nI_succ]
          refine ⟨fun c => absurd c (nI_ge (by omega) (by omega)), fun _ => ⟨vp_in_nI (by omega) (by omega), vp_in_nI (n := 0) (by omega) (by omega), vp_in_nI (n := 1) (by omega) (by omega), fun c => ?_, fun c => ?_⟩⟩
          · have c : dgs P r.2.2.2 k = ν 1 := (nI_eq (by omega) (by omega)).mp c
            refine ih (k + 1) (by omega) (fun j hj => ?_)
            by_cases e : j = k
            · subst e; exact c
            · exact hall j (by omega)
          · have c : dgs P r.2.2.2 k ≠ ν 1 := fun z => c (by rw [z])
            have hno : allOn (dgs P r.2.2.2) (ν 1) h = false := by
              cases e : allOn (dgs P r.2.2.2) (ν 1) h with
              | false => rfl
              | true => exact absurd ((allOn_at h).mp e k (by omega)) c
            rw [hno] at hpV
            exact hpV
      exact key h 0 (by omega) (fun j hj => absurd hj (Nat.not_lt_zero _))
    · have c : r.1 ≠ 0 := fun z => c (cd_0.mpr z)
      have := hp U (fT.1.tr fU)
      unfold tryV at this
      rw [if_neg c] at this
      exact this
  refine ⟨fun c => fin T CFr.rf tT rfl, fun c => fin _ (CFr.rf.cf _ rfl) (fun z => ?_) rfl⟩
  rw [z] at c
  exact absurd c (by decide)
end ClsP
end
section
-- the reference's performance
def tmA : Nat → Bool := fun k => decide (k = 10)
def tmB : Nat → Bool := fun k => decide (k = 8) || (decide (34 ≤ k) && decide (k ≤ 37))
theorem MY.frx {a b : Nat → Bool} {S T : MS} {n P : Nat} {kd ct sg : Nat → Nat} (h : MY S n P kd ct sg) (f : MFx a b S T) (h0 : a 0 = false := by rfl) (h1 : a 1 = false := by rfl) (r1 : b 1 = false := by rfl) (r4 : b 4 = false := by rfl) (r5 : b 5 = false := by rfl) : MY T n P kd ct sg := by
  unfold MY
  rw [f.1 0 h0, f.1 1 h1, f.2 1 r1, f.2 4 r4, f.2 5 r5]
  exact h
abbrev KM (S : MS) (q : Nat) (w : Nat → Nat) (of : Nat → Option Nat) (le ro : Nat → Nat) : Prop := KSc q w of le ro (S.1 9) (S.2.1 29) (S.2.1 30) (S.2.1 31) (S.2.1 32)
def FRm (T : MS) (i s h k : Nat) (pg : Nat → Option Nat) : Prop := T.2.1 34 i = nI s ∧ T.2.1 35 i = nI h ∧ T.2.1 36 i = nI k ∧ ∀ j, j < 5 → T.2.1 37 (5 * i + j) = lab (pg j)
def MB (dp : Nat) (S T : MS) : Prop := MFx tmA tmB S T ∧ (∀ i, i < dp → T.2.1 34 i = S.2.1 34 i ∧ T.2.1 35 i = S.2.1 35 i ∧ T.2.1 36 i = S.2.1 36 i) ∧ ∀ j, j < 5 * dp → T.2.1 37 j = S.2.1 37 j
section MdlP
variable {n P : Nat} {kd ct sg : Nat → Nat} {q : Nat} {w : Nat → Nat} {of : Nat → Option Nat} {le ro : Nat → Nat}
theorem KM.fr {S T : MS} (h : KM S q w of le ro) (f : MFx tmA tmB S T) : KM T q w of le ro := by
  unfold KM
  rw [f.1 9 rfl, f.2 29 rfl, f.2 30 rfl, f.2 31 rfl, f.2 32 rfl]
  exact h
theorem MB.tr {dp : Nat} {S T U : MS} (h1 : MB dp S T) (h2 : MB dp T U) : MB dp S U := ⟨h1.1.tr h2.1, fun i hi => ⟨(h2.2.1 i hi).1.trans (h1.2.1 i hi).1, (h2.2.1 i hi).2.1.trans (h1.2.1 i hi).2.1, (h2.2.1 i hi).2.2.trans (h1.2.1 i hi).2.2⟩, fun j hj => (h2.2.2 j hj).trans (h1.2.2 j hj)⟩
theorem MB.mono {dp dq : Nat} {S T : MS} (h : MB dq S T) (hd : dp ≤ dq) : MB dp S T := ⟨h.1, fun i hi => h.2.1 i (by omega), fun j hj => h.2.2 j (by omega)⟩
theorem MB.frm {dp i s h k : Nat} {S T : MS} {pg : Nat → Option Nat} (hm : MB dp S T) (hi : i < dp) (hf : FRm S i s h k pg) : FRm T i s h k pg := by
  obtain ⟨a1, a2, a3⟩ := hm.2.1 i hi
  exact ⟨a1.trans hf.1, a2.trans hf.2.1, a3.trans hf.2.2.1, fun j hj => (hm.2.2 _ (by omega)).trans (hf.2.2.2 j hj)⟩
/-- the move of one disc -/
theorem U8.mv {T : MS} {z a c h : Nat} (hP : 2 ≤ P ∧ P ≤ 5) (hn : n ≤ 7) (hU : U8 T n P z) (hc : c < P) (hh : 1 ≤ h ∧ h ≤ n) (e1 : topN (dgs P z) a n = h - 1) (e2 : pkE kd (dgs P z) n (h - 1) = h - 1) : U8 (ma T 8 (upd (T.2.1 8) (h - 1) (nI c))) n P (packN (movN n kd (dgs P z) a c) P n 0) := by
  obtain ⟨σ, h1, h2⟩ := hU
  have hmv : ∀ k, k < n → movN n kd (dgs P z) a c k < P := fun k _ => by
    unfold movN
    split
    · exact hc
    · exact dgs_lt (by omega) _ _
  refine ⟨va_up σ (h - 1) c, fun j hj => ?_, fun j hj => ?_⟩
  · show upd (T.2.1 8) (h - 1) (nI c) j = _ ∧ _
    by_cases e : j = h - 1
    · rw [e, upd_same, va_up_same]; exact ⟨rfl, by omega⟩
    · rw [upd_other _ _ e, va_up_other _ _ e]; exact h1 j hj
  · rw [packN0, dgs_num (by omega) n hmv j hj]
    unfold movN
    rw [e1, e2]
    by_cases e : j = h - 1
    · rw [e, va_up_same, if_pos ⟨Nat.le_refl _, Nat.le_refl _⟩]
    · rw [va_up_other _ _ e, if_neg (by omega)]
      exact h2 j hj
theorem m_perf (l : Launch) {a1 a2 a3 a4 a5 a6 a7 : Int32} {post : Int32 → MS → Prop} {B42 : MS → Prop} {B61 : MS → Int32 → Prop} {B121 : MS → Int32 → Int32 → Prop} {B169 : MS → Int32 → Int32 → Int32 → Int32 → Prop} {B274 B341 : MS → Int32 → Int32 → Int32 → Int32 → Int32 → Int32 → Int32 → Prop} {B504 : MS → Int32 → Int32 → Int32 → Int32 → Int32 → Int32 → Prop} {B541 : MS → Int32 → Int32 → Int32 → Prop} {x8 : Int32}
    (h169 : ∀ (S : MS) (x8 x9 x10 x11 : Int32), mT_tried_169 l a1 a2 a3 a4 a5 a6 a7 post B42 B61 B121 B169 B274 B341 B504 B541 S x8 x9 x10 x11 → B169 S x8 x9 x10 x11)
    (h274 : ∀ (S : MS) (x8 x9 x10 x11 x12 x13 x14 : Int32), mT_tried_274 l a1 a2 a3 a4 a5 a6 a7 post B42 B61 B121 B169 B274 B341 B504 B541 S x8 x9 x10 x11 x12 x13 x14 → B274 S x8 x9 x10 x11 x12 x13 x14)
    (h341 : ∀ (S : MS) (x8 x9 x10 x11 x12 x13 x15 : Int32), mT_tried_341 l a1 a2 a3 a4 a5 a6 a7 post B42 B61 B121 B169 B274 B341 B504 B541 S x8 x9 x10 x11 x12 x13 x15 → B341 S x8 x9 x10 x11 x12 x13 x15)
    (h504 : ∀ (S : MS) (x8 x9 x10 x11 x14 x16 : Int32), mT_tried_504 l a1 a2 a3 a4 a5 a6 a7 post B42 B61 B121 B169 B274 B341 B504 B541 S x8 x9 x10 x11 x14 x16 → B504 S x8 x9 x10 x11 x14 x16) :
    ∀ f dp, dp + (f + 1) = 7 → ∀ s h pg, s < q → 1 ≤ h → h ≤ f + 1 → h ≤ n → pOK P pg → ∀ m k, k + m = w s → ∀ (T : MS) (st : TSt), MY T n P kd ct sg → KM T q w of le ro → FRm T dp s h k pg → U8 T n P st.2.2 → tOK n P st →
    ((perfS n P kd ct sg of le ro (perf n P kd ct sg w of le ro f) h s pg m k st).1 = 0 → ∀ T', MB dp T T' → U8 T' n P (perfS n P kd ct sg of le ro (perf n P kd ct sg w of le ro f) h s pg m k st).2.2.2 → B169 T' x8 (nI dp) (nI (perfS n P kd ct sg of le ro (perf n P kd ct sg w of le ro f) h s pg m k st).2.1) (nI (perfS n P kd ct sg of le ro (perf n P kd ct sg w of le ro f) h s pg m k st).2.2.1)) →
    ((perfS n P kd ct sg of le ro (perf n P kd ct sg w of le ro f) h s pg m k st).1 ≠ 0 → ∀ T', MFx tmA tmB T T' → (∃ τ, MA T' 8 τ) → post (cd (perfS n P kd ct sg of le ro (perf n P kd ct sg w of le ro f) h s pg m k st).1) T') →
    B169 T x8 (nI (dp + 1)) (nI st.1) (nI st.2.1) := by
  intro f
  induction f using Nat.strongRecOn with
  | _ f ih =>
    intro dp hdp s h pg hs h1 hf hn hpg m
    induction m with
    | zero =>
      intro k hk T st hy hkm hfr hU hst cont err
      have hws := hkm.2.2.1 s hs
      have hq := hkm.1
      have hP2 := hy.2.2.1
      refine h169 _ _ _ _ _ ?_
      unfold mT_tried_169
      refine ⟨fun c => absurd ((nI_leI (b := 0) (by omega) (by omega)).mp c) (by omega), fun _ v hv => ?_⟩
      rw [nI_pred] at hv
      subst hv
      rw [nI_clamp (show dp < 2 ^ 31 by omega), hfr.1, hfr.2.2.1, nI_clamp (show s < 2 ^ 31 by omega), hws.2, show k = w s by omega]
      refine ⟨vp_in_nI (by omega) (by omega), vp_in_nI (by omega) (by omega), vp_in_nI (by omega) (by omega), fun c => absurd rfl c, fun _ => ?_⟩
      rw [i_sub1, nI_pred]
      exact cont rfl T ⟨MFx.rf, fun _ _ => ⟨rfl, rfl, rfl⟩, fun _ _ => rfl⟩ hU
    | succ m ihm =>
      intro k hk T st hy hkm hfr hU hst cont err
      have hws := hkm.2.2.1 s hs
      have hq := hkm.1
      have hP2 := hy.2.2.1
      have hn2 := hy.2.2.2.1
      have hb5 := hst.1
      have hd5 := hst.2.1
      have hkst := hkm.2.2.2 s k hs (by omega)
      obtain ⟨g1, g2, g3, g4⟩ := id hfr
      -- the step is counted
      have m0 : MB dp T (ma T 36 (upd (T.2.1 36) dp (nI (k + 1)))) := ⟨MFx.rf.row _ rfl, fun i hi => ⟨rfl, rfl, upd_other _ _ (by omega)⟩, fun _ _ => rfl⟩
      have fr0 : FRm (ma T 36 (upd (T.2.1 36) dp (nI (k + 1)))) dp s h (k + 1) pg := ⟨g1, g2, upd_same _ _ _, g4⟩
      have u0 : U8 (ma T 36 (upd (T.2.1 36) dp (nI (k + 1)))) n P st.2.2 := hU
      generalize eT1 : ma T 36 (upd (T.2.1 36) dp (nI (k + 1))) = T1 at *
      have hy1 : MY T1 n P kd ct sg := hy.frx m0.1
      have hk1 : KM T1 q w of le ro := hkm.fr m0.1
      have nxt : ∀ (r : Nat × TSt) (T2 : MS), perfS n P kd ct sg of le ro (perf n P kd ct sg w of le ro f) h s pg (m + 1) k st = (if r.1 = 0 then perfS n P kd ct sg of le ro (perf n P kd ct sg w of le ro f) h s pg m (k + 1) r.2 else r) → r.1 = 0 → MB dp T T2 → FRm T2 dp s h (k + 1) pg → U8 T2 n P r.2.2.2 → tOK n P r.2 → B169 T2 x8 (nI (dp + 1)) (nI r.2.1) (nI r.2.2.1) := by
        intro r T2 hr r0 m2 f2 u2 o2
        rw [hr, if_pos r0] at cont err
        refine ihm (k + 1) (by omega) T2 r.2 (hy.frx m2.1) (hkm.fr m2.1) f2 u2 o2 (fun z T' m' u' => cont z T' (m2.tr m') u') (fun z T' m' u' => err z T' (m2.1.tr m') u')
      have bad : ∀ (r : Nat × TSt) (T2 : MS), perfS n P kd ct sg of le ro (perf n P kd ct sg w of le ro f) h s pg (m + 1) k st = (if r.1 = 0 then perfS n P kd ct sg of le ro (perf n P kd ct sg w of le ro f) h s pg m (k + 1) r.2 else r) → r.1 ≠ 0 → MFx tmA tmB T T2 → (∃ τ, MA T2 8 τ) → post (cd r.1) T2 := by
        intro r T2 hr r0 m2 u2
        rw [hr, if_neg r0] at err
        exact err r0 T2 m2 u2
      refine h169 _ _ _ _ _ ?_
      unfold mT_tried_169
      refine ⟨fun c => absurd ((nI_leI (b := 0) (by omega) (by omega)).mp c) (by omega), fun _ v hv => ?_⟩
      rw [nI_pred] at hv
      subst hv
      rw [nI_clamp (show dp < 2 ^ 31 by omega), g1, g3, g2, nI_clamp (show s < 2 ^ 31 by omega), hws.2, ← nI_succ, eT1]
      refine ⟨vp_in_nI (by omega) (by omega), vp_in_nI (by omega) (by omega), vp_in_nI (by omega) (by omega), fun _ => ⟨vp_in_nI (by omega) (by omega), vp_in_nI (by omega) (by omega), fun v13 hv13 => ⟨vp_in_nI (by omega) (by omega), vp_in_nI (by omega) (by omega), vp_in_nI (by omega) (by omega), fun v14 hv14 => ?_⟩⟩, fun c => absurd ((nI_eq (by omega) (by omega)).mp c) (by omega)⟩
      rw [i8] at hv13
      subst hv13
      subst hv14
      rw [nI_clamp (show 8 * s + k < 2 ^ 31 by omega)]
      refine ⟨vp_in_nI (by omega) (by omega), ?_⟩
      rcases hkst with ⟨k1, k2, k3⟩ | ⟨o, k1, k2, k3, k4, k5, k6, k7⟩
      · -- a single one
        rw [k2]
        refine ⟨fun _ => ?_, fun c => absurd rfl c⟩
        have hr : perfS n P kd ct sg of le ro (perf n P kd ct sg w of le ro f) h s pg (m + 1) k st = (if (sh1 n P kd ct sg h (pg (ro (5 * (8 * s + k)))) (pg (ro (5 * (8 * s + k) + 1))) st).1 = 0 then perfS n P kd ct sg of le ro (perf n P kd ct sg w of le ro f) h s pg m (k + 1) (sh1 n P kd ct sg h (pg (ro (5 * (8 * s + k)))) (pg (ro (5 * (8 * s + k) + 1))) st).2 else sh1 n P kd ct sg h (pg (ro (5 * (8 * s + k)))) (pg (ro (5 * (8 * s + k) + 1))) st) := by
          conv => lhs; unfold perfS
          rw [k1]
        have hok := sh1_ok (kd := kd) (ct := ct) (sg := sg) (h := h) (f := pg (ro (5 * (8 * s + k)))) (t := pg (ro (5 * (8 * s + k) + 1))) (by omega) (fun v hv => hpg _ v hv) hst
        have r0 := k3 0 (by omega)
        have r1 := k3 1 (by omega)
        rw [Nat.add_zero (5 * (8 * s + k))] at r0
        have e32 : T1.2.1 32 = T.2.1 32 := m0.1.2 32 rfl
        have e30 : T1.2.1 30 = T.2.1 30 := m0.1.2 30 rfl
        have p0 := fr0.2.2.2 _ r0.1
        have p1 := fr0.2.2.2 _ r1.1
        refine h274 _ _ _ _ _ _ _ _ ?_
        unfold mT_tried_274
        rw [nI_clamp (show 8 * s + k < 2 ^ 31 by omega), e30, k2, i5, show nI (5 * (8 * s + k)) + 1 = nI (5 * (8 * s + k) + 1) from nI_add .., nI_clamp (show 5 * (8 * s + k) < 2 ^ 31 by omega), nI_clamp (show 5 * (8 * s + k) + 1 < 2 ^ 31 by omega), e32, r0.2, r1.2, i5, nI_add, nI_add, nI_clamp (show 5 * dp + ro (5 * (8 * s + k)) < 2 ^ 31 by omega), nI_clamp (show 5 * dp + ro (5 * (8 * s + k) + 1) < 2 ^ 31 by omega), p0, p1]
        by_cases e5 : st.1 = 5000
        · have es : sh1 n P kd ct sg h (pg (ro (5 * (8 * s + k)))) (pg (ro (5 * (8 * s + k) + 1))) st = (4, st) := by unfold sh1; rw [if_pos e5]
          refine ⟨fun c => absurd (by rw [e5]; rfl) c, fun _ => ?_⟩
          have := bad _ T1 hr (by rw [es]; exact (by decide : (4 : Nat) ≠ 0)) m0.1 u0.at
          rw [es] at this
          exact this
        · refine ⟨fun _ => ⟨vp_in_nI (by omega) (by omega), fun _ => ⟨vp_in_nI (by omega) (by omega), vp_in_nI (by omega) (by omega), fun v15 e15 => ⟨vp_in_nI (by omega) (by omega), vp_in_nI (by omega) (by omega), fun v16 e16 => ?_⟩⟩, fun c => absurd rfl c⟩, fun c => absurd ((nI_is 5000 rfl (by omega) (by omega)).mp c) e5⟩
          subst e15
          subst e16
          have no : (sh1 n P kd ct sg h (pg (ro (5 * (8 * s + k)))) (pg (ro (5 * (8 * s + k) + 1))) st).1 = 2 → ∀ x9 x10 x16, B504 T1 x8 x9 x10 (nI st.2.1) (nI h) x16 := by
            intro z x9 x10 x16
            refine h504 _ _ _ _ _ _ _ ?_
            unfold mT_tried_504
            refine ⟨fun c => absurd rfl c, fun _ => ?_⟩
            have := bad _ (mf T1 10 (nI st.2.1)) hr (by rw [z]; decide) (m0.1.sc _ rfl) u0.at
            rw [z] at this
            exact this
          cases ef : pg (ro (5 * (8 * s + k))) with
          | none =>
            rw [ef] at no
            exact ⟨fun _ => no (by unfold sh1; rw [if_neg e5]) _ _ _, fun c => absurd rfl c⟩
          | some a =>
            have ha := hpg _ a ef
            refine ⟨fun c => absurd c (nI_m1 (by omega)), fun _ => ?_⟩
            cases et : pg (ro (5 * (8 * s + k) + 1)) with
            | none =>
              rw [ef, et] at no
              exact ⟨fun _ => no (by unfold sh1; rw [if_neg e5]) _ _ _, fun c => absurd rfl c⟩
            | some c =>
              have hc := hpg _ c et
              refine ⟨fun z => absurd z (nI_m1 (by omega)), fun _ => ?_⟩
              rw [ef, et] at no hr hok
              have no2 : ¬ (topN (dgs P st.2.2) a n = h - 1 ∧ pkE kd (dgs P st.2.2) n (h - 1) = h - 1 ∧ whyN n kd ct sg (dgs P st.2.2) a c = 0) → ∀ x9 x10 x16, B504 T1 x8 x9 x10 (nI st.2.1) (nI h) x16 := by
                intro z
                exact no (by unfold sh1; rw [if_neg e5]; simp only; rw [if_neg z])
              obtain ⟨σ, hσ, hσ2⟩ := id u0
              obtain ⟨h', rfl⟩ : ∃ h', h = h' + 1 := ⟨h - 1, by omega⟩
              show mX_top l T1 8 (nI a) _
              refine s_topN l T1 8 a (by unfold m7; decide) _ hy1.2.1 hn2.2 hσ (by omega) ?_
              rw [nI_pred]
              have etop : topN σ a n = topN (dgs P st.2.2) a n := topN_congr hσ2
              refine ⟨fun z => no2 (fun z2 => z ?_) _ _ _, fun z => ?_⟩
              · unfold topV
                rw [etop, z2.1, if_pos (by omega)]
                rfl
              · have ht : topN (dgs P st.2.2) a n = h' := by
                  unfold topV at z
                  rw [etop] at z
                  split at z
                  · exact (nI_eq (by omega) (by omega)).mp z
                  · exact absurd z.symm (nI_m1 (by omega))
                refine s_packOf l T1 8 h' (by unfold m7; decide) _ hy1 hσ (by omega) ?_
                have epk : pkE kd σ n h' = pkE kd (dgs P st.2.2) n h' := pkE_congr hσ2 (by omega)
                have hpk := pkE_lt (kd := kd) (σ := σ) (show h' < n by omega)
                refine ⟨fun z => no2 (fun z2 => z ?_) _ _ _, fun z => ?_⟩
                · rw [epk]
                  exact congrArg nI z2.2.1
                · have hp1 : pkE kd (dgs P st.2.2) n h' = h' := by
                    rw [← epk]
                    exact (nI_eq (by omega) (by omega)).mp z
                  refine s_whyOf l T1 8 a c (by unfold m7; decide) _ hy1 hσ (by omega) (by omega) ?_
                  have ew : whyN n kd ct sg σ a c = whyN n kd ct sg (dgs P st.2.2) a c := whyN_congr hσ2
                  have hw5 : whyN n kd ct sg σ a c ≤ 5 := by
                    unfold whyN
                    repeat' split
                    all_goals omega
                  refine ⟨fun z => no2 (fun z2 => z ?_) _ _ _, fun z => ⟨fun _ => ⟨vp_in_nI (by omega) (by omega), ?_⟩, fun z => absurd z (by decide)⟩⟩
                  · rw [ew, z2.2.2]; rfl
                  · have hw0 : whyN n kd ct sg (dgs P st.2.2) a c = 0 := by
                      rw [← ew]
                      exact (nI_is 0 rfl (by omega) (by omega)).mp z
                    have es : sh1 n P kd ct sg (h' + 1) (some a) (some c) st = (0, st.1 + 1, st.2.1 + 1, packN (movN n kd (dgs P st.2.2) a c) P n 0) := by
                      unfold sh1
                      rw [if_neg e5]
                      simp only
                      rw [if_pos ⟨ht, hp1, hw0⟩]
                    rw [es] at hr hok
                    rw [nI_clamp (show h' < 2 ^ 31 by omega), ← nI_succ, ← nI_succ]
                    have uv := U8.mv (kd := kd) (a := a) hP2 hn2.2 u0 hc ⟨h1, hn⟩ ht hp1
                    exact nxt _ (ma T1 8 (upd (T1.2.1 8) h' (nI c))) hr rfl ⟨m0.1.row _ rfl, m0.2.1, m0.2.2⟩ fr0 uv hok.1
      · -- a call
        rw [k5]
        refine ⟨fun c => absurd c (nI_m1 (by omega)), fun _ => ⟨vp_in_nI (by omega) (by omega), ?_⟩⟩
        rw [k6]
        by_cases c1 : h ≤ le (8 * s + k)
        · refine ⟨fun c => absurd c (nI_nlt c1 (by omega)), fun _ => ?_⟩
          refine nxt (0, st) T1 ?_ rfl m0 fr0 u0 hst
          conv => lhs; unfold perfS
          rw [k1]
          simp only [if_pos c1]
        · refine ⟨fun _ => ?_, fun c => absurd (nI_lt (by omega) (by omega)) c⟩
          have hr : perfS n P kd ct sg of le ro (perf n P kd ct sg w of le ro f) h s pg (m + 1) k st = (if (callR (perf n P kd ct sg w of le ro f) o (h - le (8 * s + k)) (fun j => pg (ro (5 * (8 * s + k) + j))) st).1 = 0 then perfS n P kd ct sg of le ro (perf n P kd ct sg w of le ro f) h s pg m (k + 1) (callR (perf n P kd ct sg w of le ro f) o (h - le (8 * s + k)) (fun j => pg (ro (5 * (8 * s + k) + j))) st).2 else callR (perf n P kd ct sg w of le ro f) o (h - le (8 * s + k)) (fun j => pg (ro (5 * (8 * s + k) + j))) st) := by
            conv => lhs; unfold perfS
            rw [k1]
            simp only [if_neg c1]
            rfl
          have e32 : T1.2.1 32 = T.2.1 32 := m0.1.2 32 rfl
          have e30 : T1.2.1 30 = T.2.1 30 := m0.1.2 30 rfl
          have e31 : T1.2.1 31 = T.2.1 31 := m0.1.2 31 rfl
          refine h274 _ _ _ _ _ _ _ _ ?_
          unfold mT_tried_274
          rw [nI_clamp (show 8 * s + k < 2 ^ 31 by omega), e30, k5, e31, k6]
          by_cases e5 : st.1 = 5000
          · have es : callR (perf n P kd ct sg w of le ro f) o (h - le (8 * s + k)) (fun j => pg (ro (5 * (8 * s + k) + j))) st = (4, st) := by unfold callR; rw [if_pos e5]
            refine ⟨fun c => absurd (by rw [e5]; rfl) c, fun _ => ?_⟩
            have := bad _ T1 hr (by rw [es]; exact (by decide : (4 : Nat) ≠ 0)) m0.1 u0.at
            rw [es] at this
            exact this
          · obtain ⟨f', rfl⟩ : ∃ f', f = f' + 1 := ⟨f - 1, by omega⟩
            have es : callR (perf n P kd ct sg w of le ro (f' + 1)) o (h - le (8 * s + k)) (fun j => pg (ro (5 * (8 * s + k) + j))) st = perfS n P kd ct sg of le ro (perf n P kd ct sg w of le ro f') (h - le (8 * s + k)) o (fun j => pg (ro (5 * (8 * s + k) + j))) (w o) 0 (st.1 + 1, st.2) := by unfold callR; rw [if_neg e5]; rfl
            have ho2 := hkm.2.2.1 o k2
            have hok2 : tOK n P (callR (perf n P kd ct sg w of le ro (f' + 1)) o (h - le (8 * s + k)) (fun j => pg (ro (5 * (8 * s + k) + j))) st).2 := by
              unfold callR
              rw [if_neg e5]
              exact (perf_ok (by omega) (f' + 1) o (h - le (8 * s + k)) (fun j => pg (ro (5 * (8 * s + k) + j))) (st.1 + 1, st.2) (fun j v hv => hpg _ v hv) ⟨by show st.1 + 1 ≤ 5000; omega, by show st.2.1 ≤ st.1 + 1; omega, hst.2.2⟩).1
            refine ⟨fun _ => ⟨vp_in_nI (by omega) (by omega), fun c => absurd c (nI_m1 (by omega)), fun _ => ⟨vp_in_nI (by omega) (by omega), vp_in_nI (by omega) (by omega), vp_in_nI (by omega) (by omega), vp_in_nI (by omega) (by omega), vp_in_nI (by omega) (by omega), ?_⟩⟩, fun c => absurd ((nI_is 5000 rfl (by omega) (by omega)).mp c) e5⟩
            rw [nI_clamp (show dp + 1 < 2 ^ 31 by omega), hsub (show le (8 * s + k) ≤ h by omega)]
            have m1 : MB (dp + 1) T1 (ma (ma (ma T1 34 (upd (T1.2.1 34) (dp + 1) (nI o))) 35 (upd (T1.2.1 35) (dp + 1) (nI (h - le (8 * s + k))))) 36 (upd (T1.2.1 36) (dp + 1) 0)) := ⟨((MFx.rf.row _ rfl).row _ rfl).row _ rfl, fun i hi => ⟨upd_other _ _ (by omega), upd_other _ _ (by omega), upd_other _ _ (by omega)⟩, fun _ _ => rfl⟩
            have u1 : U8 (ma (ma (ma T1 34 (upd (T1.2.1 34) (dp + 1) (nI o))) 35 (upd (T1.2.1 35) (dp + 1) (nI (h - le (8 * s + k))))) 36 (upd (T1.2.1 36) (dp + 1) 0)) n P st.2.2 := u0
            have w34 : (ma (ma (ma T1 34 (upd (T1.2.1 34) (dp + 1) (nI o))) 35 (upd (T1.2.1 35) (dp + 1) (nI (h - le (8 * s + k))))) 36 (upd (T1.2.1 36) (dp + 1) 0)).2.1 34 (dp + 1) = nI o := upd_same _ _ _
            have w35 : (ma (ma (ma T1 34 (upd (T1.2.1 34) (dp + 1) (nI o))) 35 (upd (T1.2.1 35) (dp + 1) (nI (h - le (8 * s + k))))) 36 (upd (T1.2.1 36) (dp + 1) 0)).2.1 35 (dp + 1) = nI (h - le (8 * s + k)) := upd_same _ _ _
            have w36 : (ma (ma (ma T1 34 (upd (T1.2.1 34) (dp + 1) (nI o))) 35 (upd (T1.2.1 35) (dp + 1) (nI (h - le (8 * s + k))))) 36 (upd (T1.2.1 36) (dp + 1) 0)).2.1 36 (dp + 1) = nI 0 := upd_same _ _ _
            generalize ma (ma (ma T1 34 (upd (T1.2.1 34) (dp + 1) (nI o))) 35 (upd (T1.2.1 35) (dp + 1) (nI (h - le (8 * s + k))))) 36 (upd (T1.2.1 36) (dp + 1) 0) = T2 at *
            have loop : ∀ d j, j + d = 5 → ∀ T3, MB (dp + 1) T2 T3 → U8 T3 n P st.2.2 → T3.2.1 34 = T2.2.1 34 → T3.2.1 35 = T2.2.1 35 → T3.2.1 36 = T2.2.1 36 → (∀ i, i < j → T3.2.1 37 (5 * (dp + 1) + i) = lab (pg (ro (5 * (8 * s + k) + i)))) → B341 T3 x8 (nI (dp + 1)) (nI st.1 + 1) (nI st.2.1) (nI dp) (nI (8 * s + k)) (nI j) := by
              intro d
              induction d with
              | zero =>
                intro j hj T3 m3 u3 q34 q35 q36 q37
                have : j = 5 := by omega
                subst this
                refine h341 _ _ _ _ _ _ _ _ ?_
                unfold mT_tried_341
                refine ⟨fun _ => ?_, fun c => absurd (show (5 : Int32) ≤ nI 5 by decide) c⟩
                rw [← nI_succ, ← nI_succ]
                have m13 : MB (dp + 1) T1 T3 := m1.tr m3
                have m03 : MB dp T T3 := m0.tr (m13.mono (by omega))
                refine ih f' (by omega) (dp + 1) (by omega) o (h - le (8 * s + k)) (fun j => pg (ro (5 * (8 * s + k) + j))) k2 (by omega) (by omega) (by omega) (fun j v hv => hpg _ v hv) (w o) 0 (by omega) T3 (st.1 + 1, st.2) (hy.frx m03.1) (hkm.fr m03.1) ⟨by rw [q34]; exact w34, by rw [q35]; exact w35, by rw [q36]; exact w36, q37⟩ u3 ⟨by show st.1 + 1 ≤ 5000; omega, by show st.2.1 ≤ st.1 + 1; omega, hst.2.2⟩ ?_ ?_
                · rw [← es]
                  intro z T' m' u'
                  exact nxt _ T' hr z (m03.tr (m'.mono (by omega))) ((m13.tr m').frm (by omega) fr0) u' hok2
                · rw [← es]
                  intro z T' m' u'
                  exact bad _ T' hr z (m03.1.tr m') u'
              | succ d ihd =>
                intro j hj T3 m3 u3 q34 q35 q36 q37
                have m13 : MB (dp + 1) T1 T3 := m1.tr m3
                have r := k7 j (by omega)
                have e32' : T3.2.1 32 = T.2.1 32 := by rw [m13.1.2 32 rfl]; exact e32
                have p := (m13.frm (by omega) fr0).2.2.2 _ r.1
                refine h341 _ _ _ _ _ _ _ _ ?_
                unfold mT_tried_341
                rw [i5, i5, i5, nI_add, nI_add, nI_clamp (show 5 * (8 * s + k) + j < 2 ^ 31 by omega), nI_clamp (show 5 * (dp + 1) + j < 2 ^ 31 by omega), e32', r.2, nI_add, nI_clamp (show 5 * dp + ro (5 * (8 * s + k) + j) < 2 ^ 31 by omega), p]
                refine ⟨fun c => absurd c (nI_ge (a := j) (b := 5) (by omega) (by omega)), fun _ => ⟨vp_in_nI (by omega) (by omega), vp_in_nI (by omega) (by omega), vp_in_nI (by omega) (by omega), ?_⟩⟩
                rw [show nI j + 1 = nI (j + 1) from (nI_succ j).symm]
                refine ihd (j + 1) (by omega) _ ⟨m3.1.row _ rfl, m3.2.1, fun t ht => ?_⟩ u3 q34 q35 q36 (fun i hi => ?_)
                · show upd (T3.2.1 37) (5 * (dp + 1) + j) _ t = _
                  rw [upd_other _ _ (by omega)]
                  exact m3.2.2 t ht
                · show upd (T3.2.1 37) (5 * (dp + 1) + j) _ (5 * (dp + 1) + i) = _
                  by_cases e : i = j
                  · subst e; exact upd_same _ _ _
                  · rw [upd_other _ _ (by omega)]
                    exact q37 i (by omega)
            exact loop 5 0 (by omega) T2 ⟨MFx.rf, fun _ _ => ⟨rfl, rfl, rfl⟩, fun _ _ => rfl⟩ u1 rfl rfl rfl (fun i hi => absurd hi (Nat.not_lt_zero _))
end MdlP
end
section
-- tried(), failed()
def trA2 : Nat → Bool := fun k => trA k || decide (k = 2)
theorem trA_2 (k : Nat) (h : trA2 k = false) : trA k = false := by
  unfold trA2 at h
  rw [Bool.or_eq_false_iff] at h; exact h.1
def tnA : Nat → Bool := fun k => decide (k = 2) || decide (k = 3) || decide (k = 10)
def tnB : Nat → Bool := fun k => decide (k = 8) || decide (k = 26) || (decide (34 ≤ k) && decide (k ≤ 37))
theorem tmA_n (k : Nat) (h : tnA k = false) : tmA k = false := by
  unfold tnA at h
  rw [Bool.or_eq_false_iff] at h; exact h.2
theorem tmB_n (k : Nat) (h : tnB k = false) : tmB k = false := by
  simp only [tnB, tmB, Bool.or_eq_false_iff, Bool.and_eq_false_iff, decide_eq_false_iff_not] at *
  omega
theorem MFx.mono {a b a' b' : Nat → Bool} {S T : MS} (h : MFx a b S T) (ha : ∀ k, a' k = false → a k = false) (hb : ∀ k, b' k = false → b k = false) : MFx a' b' S T := ⟨fun k hk => h.1 k (ha k hk), fun k hk => h.2 k (hb k hk)⟩
section Tri
variable {S : CS} {M : MS} {n P x y : Nat} {kd ct sc sm : Nat → Nat} {q : Nat} {w : Nat → Nat} {of : Nat → Option Nat} {le ro : Nat → Nat}
theorem Rl.tri {T : CS} {N : MS} (h : Rl S M n P kd ct sc sm x y) (fT : CFr trA2 trB nn S T) (fN : MFx tnA tnB M N) (h2 : T.1 2 = N.1 2) (h8 : ∃ τ, MA N 8 τ) : Rl T N n P kd ct sc sm x y := by
  obtain ⟨⟨b1, b2, b3, b4⟩, q2, q3, -, q5, q6, q7, ⟨-, ⟨ρ, m9⟩⟩, q9, q10⟩ := h
  refine ⟨⟨b1.fr fT, b2.frx fN, b3, b4⟩, ?_, ?_, h2, ?_, ?_, ?_, ⟨h8, ⟨ρ, fun j hj => ?_⟩⟩, q9.fr fT, q10.fr fT⟩
  · rw [fT.1 0 rfl, fN.2 2 rfl]; exact q2
  · rw [fT.1 1 rfl, fN.2 3 rfl]; exact q3
  · rw [fT.1 9 rfl, fT.1 10 rfl, (fT.2.1 20 rfl).1, (fT.2.1 21 rfl).1, fN.1 4 rfl, fN.1 5 rfl, fN.2 6 rfl]; exact q5
  · rw [fT.1 11 rfl, (fT.2.1 22 rfl).1, fT.2.2 22 rfl, fN.1 6 rfl, fN.2 7 rfl]; exact q6
  · rw [fT.1 19 rfl, (fT.2.1 38 rfl).1, (fT.2.1 39 rfl).1, (fT.2.1 40 rfl).1, (fT.2.1 41 rfl).1, (fT.2.1 42 rfl).2, fN.1 9 rfl, fN.2 29 rfl, fN.2 30 rfl, fN.2 31 rfl, fN.2 32 rfl]; exact q7
  · rw [fN.2 9 rfl]; exact m9 j hj
theorem o_failed (l : Launch) (h : Rl S M n P kd ct sc sm x y) : cX_X8_failed l S (fun _ S1 => mX_failed l M (fun _ M1 => Rel S1 M1 ∧ S1.2.2.2 = S.2.2.2)) :=
  c_X8_failed l S _ (m_failed l M _ ⟨⟨n, P, kd, ct, sc, sm, x, y, h.th 0⟩, rfl⟩)
theorem sh1_sg (h : Rl S M n P kd ct sc sm x y) {hh : Nat} {f t : Option Nat} {st : TSt} (hf : ∀ v, f = some v → v < P) (ht : ∀ v, t = some v → v < P) : sh1 n P kd ct sc hh f t st = sh1 n P kd ct sm hh f t st := by
  have hP2 := h.P2
  unfold sh1
  cases f with
  | none => rfl
  | some a =>
    cases t with
    | none => rfl
    | some c =>
      simp only
      rw [h.why (dgs P st.2.2) (show a < 5 by have := hf a rfl; omega) (show c < 5 by have := ht c rfl; omega)]
theorem perfS_sg (h : Rl S M n P kd ct sc sm x y) {r1 r2 : Nat → Nat → (Nat → Option Nat) → TSt → Nat × TSt} (hr : ∀ o hh pg st, pOK P pg → r1 o hh pg st = r2 o hh pg st) {hh s : Nat} {pg : Nat → Option Nat} (hpg : pOK P pg) : ∀ m k st, perfS n P kd ct sc of le ro r1 hh s pg m k st = perfS n P kd ct sm of le ro r2 hh s pg m k st := by
  intro m
  induction m with
  | zero => intro k st; rfl
  | succ m ih =>
    intro k st
    unfold perfS
    rw [sh1_sg h (fun v hv => hpg _ v hv) (fun v hv => hpg _ v hv)]
    simp only [ih]
    cases of (8 * s + k) with
    | none => rfl
    | some o => simp only; rw [hr _ _ _ _ (fun j v hv => hpg _ v hv)]
theorem perf_sg (h : Rl S M n P kd ct sc sm x y) : ∀ f s hh pg st, pOK P pg → perf n P kd ct sc w of le ro f s hh pg st = perf n P kd ct sm w of le ro f s hh pg st := by
  intro f
  induction f with
  | zero => intro s hh pg st _; rfl
  | succ f ih =>
    intro s hh pg st hpg
    exact perfS_sg h (fun o hh pg st q => ih o hh pg st q) hpg (w s) 0 st
theorem s_tried (l : Launch) (hr : Rl S M n P kd ct sc sm x y) (km : KM M q w of le ro) (a b c0 c1 c2 c3 c4 : Int32) (post : Int32 → MS → Prop)
    (h0 : (¬ ((∃ s, s < q ∧ a = nI s) ∧ (∃ h, 1 ≤ h ∧ h ≤ n ∧ b = nI h) ∧ ∃ ν, NM (n5 (M.2.1 26) c0 c1 c2 c3 c4) P ν)) → ∀ T, MFx tnA tnB M T → (∃ τ, MA T 8 τ) → post (-1) (mf T 2 1))
    (h1 : ∀ s h ν, s < q → a = nI s → 1 ≤ h → h ≤ n → b = nI h → NM (n5 (M.2.1 26) c0 c1 c2 c3 c4) P ν → ∀ T, MFx tnA tnB M T → T.1 2 = 0 → (∃ τ, MA T 8 τ) → post (tryV P (ν 1) h (perf n P kd ct sm w of le ro 7 s h (pg0 P ν) (1, 0, z0 n P ν))) T) : mX_tried l M a b c0 c1 c2 c3 c4 post := by
  have hP2 := hr.P2
  have hn2 := hr.n2
  have hq := km.1
  refine m_tried l M a b c0 c1 c2 c3 c4 post ?_
  intro B42 B61 B121 B169 B274 B341 B504 B541 h42 h61 h121 h169 h274 h341 h504 h541
  unfold mT_tried_e
  have no : (¬ ((∃ s, s < q ∧ a = nI s) ∧ (∃ h, 1 ≤ h ∧ h ≤ n ∧ b = nI h) ∧ ∃ ν, NM (n5 (M.2.1 26) c0 c1 c2 c3 c4) P ν)) → ∀ T, MFx tnA tnB M T → (∃ τ, MA T 8 τ) → B42 T := fun z T fT uT => h42 _ (s_no l _ 1 _ (h0 z T fT uT))
  have hy : MY (mf M 3 0) n P kd ct sm := (hr.th 0).my
  refine s_isScheme l (mf M 3 0) km.2.1 hq a _ (fun z => ⟨fun _ => no (fun v => z v.1) _ (MFx.rf.sc _ rfl) hr.m8, fun v => absurd rfl v⟩) (fun s hs ea => ⟨fun v => absurd v (by decide), fun _ => ?_⟩)
  refine s_inC l _ b 1 _ _ (L := 1) (H := n) rfl hy.2.1 (by decide) (by omega) (fun z => ⟨fun _ => no (fun v => z v.2.1) _ (MFx.rf.sc _ rfl) hr.m8, fun v => absurd rfl v⟩) (fun h hh1 hh2 eb => ⟨fun v => absurd v (by decide), fun _ => ?_⟩)
  refine s_areNames l (mf M 3 0) (P := P) hy.1 hP2 c0 c1 c2 c3 c4 _ (fun z => ⟨fun v => absurd rfl v, fun _ => no (fun v => z v.2.2) _ ((MFx.rf.sc _ rfl).row _ rfl) hr.m8⟩) (fun ν hν => ⟨fun _ => ?_, fun v => absurd v (by decide)⟩)
  have g := h1 s h ν hs ea hh1 hh2 eb hν
  have hνP : ∀ k, k < P → ν k < P := fun k hk => (hν.1 k hk).2
  have hzz : z0 n P ν < P ^ n := numN_lt n (fun j _ => hνP 0 (by omega))
  have hpg : pOK P (pg0 P ν) := fun j v hv => by
    unfold pg0 at hv
    split at hv
    · cases hv; exact hνP j (by assumption)
    · cases hv
  have f0 : MFx tnA tnB M (mf (mf (ma (mf M 3 0) 26 (n5 (M.2.1 26) c0 c1 c2 c3 c4)) 2 0) 10 (-1)) := (((MFx.rf.sc _ rfl).row _ rfl).sc _ rfl).sc _ rfl
  have n26 : ∀ T : MS, T.2.1 26 = n5 (M.2.1 26) c0 c1 c2 c3 c4 → ∀ k, k < P → T.2.1 26 k = nI (ν k) := fun T e k hk => by rw [e]; exact (hν.1 k hk).1
  -- the end: where are the discs?
  have eEnd : ∀ (T : MS) (r : Nat × TSt), r.1 = 0 → tOK n P r.2 → MFx tnA tnB M T → T.1 2 = 0 → U8 T n P r.2.2.2 → post (tryV P (ν 1) h r) T → B541 T (nI (ν 1)) (nI r.2.2.1) (nI 0) := by
    intro T r r0 ok fT t2 uT hp
    obtain ⟨σ, u1, u2⟩ := id uT
    unfold tryV at hp
    rw [if_pos r0] at hp
    have key : ∀ d k, k + d = h → (∀ j, j < k → dgs P r.2.2.2 j = ν 1) → B541 T (nI (ν 1)) (nI r.2.2.1) (nI k) := by
      intro d
      induction d with
      | zero =>
        intro k hk hall
        have : k = h := by omega
        subst this
        refine h541 _ _ _ _ ?_
        unfold mT_tried_541
        rw [eb]
        rw [(allOn_at k).mpr hall] at hp
        exact ⟨fun _ => hp, fun c => absurd (nI_le (Nat.le_refl _) (by omega)) c⟩
      | succ d ih =>
        intro k hk hall
        have d1 : dgs P r.2.2.2 k < P := dgs_lt (by omega) _ _
        have d2 := hνP 1 (by omega)
        refine h541 _ _ _ _ ?_
        unfold mT_tried_541
        rw [eb, nI_clamp (show k < 2 ^ 31 by omega), (u1 k (by omega)).1, u2 k (by omega), ← nI_succ]
        refine ⟨fun c => absurd c (nI_ge (by omega) (by omega)), fun _ => ⟨vp_in_nI (by omega) (by omega), fun c => ?_, fun c => ?_⟩⟩
        · have c : dgs P r.2.2.2 k = ν 1 := (nI_eq (by omega) (by omega)).mp c
          refine ih (k + 1) (by omega) (fun j hj => ?_)
          by_cases e : j = k
          · subst e; exact c
          · exact hall j (by omega)
        · have c : dgs P r.2.2.2 k ≠ ν 1 := fun z => c (by rw [z])
          have hno : allOn (dgs P r.2.2.2) (ν 1) h = false := by
            cases e : allOn (dgs P r.2.2.2) (ν 1) h with
            | false => rfl
            | true => exact absurd ((allOn_at h).mp e k (by omega)) c
          rw [hno] at hp
          exact hp
    exact key h 0 (by omega) (fun j hj => absurd hj (Nat.not_lt_zero _))
  -- the roles' pegs, then the performance
  have e121 : ∀ d k, k + d = 5 → ∀ T, MFx tnA tnB M T → T.1 2 = 0 → U8 T n P (z0 n P ν) → T.2.1 26 = n5 (M.2.1 26) c0 c1 c2 c3 c4 → T.2.1 34 0 = nI s → T.2.1 35 0 = nI h → T.2.1 36 0 = nI 0 → (∀ j, j < k → T.2.1 37 j = lab (pg0 P ν j)) → B121 T (nI (ν 1)) (nI k) := by
    intro d
    induction d with
    | zero =>
      intro k hk T fT t2 uT t26 t34 t35 t36 t37
      have : k = 5 := by omega
      subst this
      refine h121 _ _ _ ?_
      unfold mT_tried_121
      refine ⟨fun _ => ?_, fun c => absurd (show (5 : Int32) ≤ nI 5 by decide) c⟩
      have hok := perf_ok (n := n) (P := P) (kd := kd) (ct := ct) (sg := sm) (w := w) (of := of) (le := le) (ro := ro) (by omega) 7 s h (pg0 P ν) (1, 0, z0 n P ν) hpg ⟨by show 1 ≤ 5000; omega, by show 0 ≤ 1; omega, hzz⟩
      have hm : B169 T (nI (ν 1)) (nI (0 + 1)) (nI 1) (nI 0) := m_perf (n := n) (P := P) (kd := kd) (ct := ct) (sg := sm) (q := q) (w := w) (of := of) (le := le) (ro := ro) l h169 h274 h341 h504 6 0 (by omega) s h (pg0 P ν) hs hh1 (by omega) hh2 hpg (w s) 0 (by omega) T (1, 0, z0 n P ν) (hr.my.frx fT) (by unfold KM; rw [fT.1 9 rfl, fT.2 29 rfl, fT.2 30 rfl, fT.2 31 rfl, fT.2 32 rfl]; exact km) ⟨t34, t35, t36, fun j hj => by rw [Nat.mul_zero, Nat.zero_add]; exact t37 j hj⟩ uT ⟨by show 1 ≤ 5000; omega, by show 0 ≤ 1; omega, hzz⟩ (fun z T' m' u' => ?_) (fun z T' m' u' => ?_)
      · exact hm
      · refine h169 _ _ _ _ _ ?_
        unfold mT_tried_169
        refine ⟨fun _ => ?_, fun c => absurd (by decide) c⟩
        have fT' : MFx tnA tnB M T' := fT.tr (m'.1.mono tmA_n tmB_n)
        have t2' : T'.1 2 = 0 := by rw [m'.1.1 2 rfl]; exact t2
        exact eEnd T' _ z hok.1 fT' t2' u' (g T' fT' t2' u'.at)
      · have fT' : MFx tnA tnB M T' := fT.tr (m'.mono tmA_n tmB_n)
        have := g T' fT' (by rw [m'.1 2 rfl]; exact t2) u'
        unfold tryV at this
        rw [if_neg (show ¬ (perf n P kd ct sm w of le ro 7 s h (pg0 P ν) (1, 0, z0 n P ν)).1 = 0 from z)] at this
        exact this
    | succ d ih =>
      intro k hk T fT t2 uT t26 t34 t35 t36 t37
      refine h121 _ _ _ ?_
      unfold mT_tried_121
      rw [(hr.my.frx fT).1, nI_clamp (show k < 2 ^ 31 by omega), ← nI_succ]
      refine ⟨fun c => absurd c (nI_ge (a := k) (b := 5) (by omega) (by omega)), fun _ => ⟨fun c => ⟨vp_in_nI (by omega) (by omega), ?_⟩, fun c => ⟨vp_in_nI (by omega) (by omega), vp_in_nI (by omega) (by omega), ?_⟩⟩⟩
      · have c : P ≤ k := (nI_leI (by omega) (by omega)).mp c
        refine ih (k + 1) (by omega) _ (fT.row _ rfl) t2 uT t26 t34 t35 t36 (fun j hj => ?_)
        show upd (T.2.1 37) k (-1) j = _
        by_cases e : j = k
        · subst e; rw [upd_same]; unfold pg0; rw [if_neg (by omega)]; rfl
        · rw [upd_other _ _ e]; exact t37 j (by omega)
      · have c : k < P := by
          rcases Nat.lt_or_ge k P with z | z
          · exact z
          · exact absurd (nI_le z (by omega)) c
        rw [n26 T t26 k c]
        refine ih (k + 1) (by omega) _ (fT.row _ rfl) t2 uT t26 t34 t35 t36 (fun j hj => ?_)
        show upd (T.2.1 37) k (nI (ν k)) j = _
        by_cases e : j = k
        · subst e; rw [upd_same]; unfold pg0; rw [if_pos (by omega)]; rfl
        · rw [upd_other _ _ e]; exact t37 j (by omega)
  have e61 : ∀ d k, k + d = n → ∀ T, MFx tnA tnB M T → T.1 2 = 0 → (∃ τ, MA T 8 τ) → (∀ j, j < k → T.2.1 8 j = nI (ν 0)) → T.2.1 26 = n5 (M.2.1 26) c0 c1 c2 c3 c4 → B61 T (nI k) := by
    intro d
    induction d with
    | zero =>
      intro k hk T fT t2 uT t8 t26
      have : k = n := by omega
      subst this
      have hv0 := hνP 0 (by omega)
      refine h61 _ _ ?_
      unfold mT_tried_61
      rw [(hr.my.frx fT).2.1, show (1 : Int32).toNatClampNeg = 1 from rfl, show (0 : Int32).toNatClampNeg = 0 from rfl, n26 T t26 1 (by omega)]
      refine ⟨fun _ => ⟨vp_in_nI (n := 1) (by omega) (by omega), fun v hv => ⟨vp_in_nI (n := 0) (by omega) (by omega), vp_in_nI (n := 0) (by omega) (by omega), vp_in_nI (n := 0) (by omega) (by omega), ?_⟩⟩, fun c => absurd (nI_le (Nat.le_refl _) (by omega)) c⟩
      subst hv
      have uz : U8 T k P (z0 k P ν) := by
        obtain ⟨τ, hτ⟩ := uT
        refine ⟨fun j => if j < k then ν 0 else τ j, fun j hj => ?_, fun j hj => ?_⟩
        · show T.2.1 8 j = nI (if j < k then ν 0 else τ j) ∧ (if j < k then ν 0 else τ j) < 5
          by_cases e : j < k
          · rw [if_pos e]; exact ⟨t8 j e, by omega⟩
          · rw [if_neg e]; exact hτ j hj
        · show (if j < k then ν 0 else τ j) = _
          rw [if_pos hj]
          unfold z0
          rw [dgs_num (by omega) k (fun _ _ => hv0) j hj]
      refine e121 5 0 (by omega) _ (((fT.row _ rfl).row _ rfl).row _ rfl) t2 uz t26 ?_ ?_ ?_ (fun j hj => absurd hj (Nat.not_lt_zero _))
      · show upd (T.2.1 34) 0 a 0 = _
        rw [upd_same, ea]
      · show upd (T.2.1 35) 0 b 0 = _
        rw [upd_same, eb]
      · show upd (T.2.1 36) 0 0 0 = _
        rw [upd_same]; rfl
    | succ d ih =>
      intro k hk T fT t2 uT t8 t26
      have hv0 := hνP 0 (by omega)
      refine h61 _ _ ?_
      unfold mT_tried_61
      rw [(hr.my.frx fT).2.1, show (0 : Int32).toNatClampNeg = 0 from rfl, nI_clamp (show k < 2 ^ 31 by omega), n26 T t26 0 (by omega), ← nI_succ]
      refine ⟨fun c => absurd c (nI_ge (by omega) (by omega)), fun _ => ⟨vp_in_nI (n := 0) (by omega) (by omega), vp_in_nI (by omega) (by omega), ?_⟩⟩
      obtain ⟨τ, hτ⟩ := uT
      refine ih (k + 1) (by omega) _ (fT.row _ rfl) t2 ⟨va_up τ k (ν 0), fun j hj => ?_⟩ (fun j hj => ?_) t26
      · show upd (T.2.1 8) k (nI (ν 0)) j = _ ∧ _
        by_cases e : j = k
        · subst e; rw [upd_same, va_up_same]; exact ⟨rfl, by omega⟩
        · rw [upd_other _ _ e, va_up_other _ _ e]; exact hτ j hj
      · show upd (T.2.1 8) k (nI (ν 0)) j = _
        by_cases e : j = k
        · subst e; exact upd_same _ _ _
        · rw [upd_other _ _ e]; exact t8 j (by omega)
  exact e61 n 0 (by omega) _ f0 rfl hr.m8 (fun j hj => absurd hj (Nat.not_lt_zero _)) rfl
theorem o_tried (l : Launch) (h : Rl S M n P kd ct sc sm x y) (a b c0 c1 c2 c3 c4 : Int32) : ∃ mc ms, mc ≤ 50000 ∧ ms ≤ 300000 ∧ cX_X8_tried l mc ms S a b c0 c1 c2 c3 c4 (fun r1 S1 => mX_tried l M a b c0 c1 c2 c3 c4 (fun r2 M1 => OKa S mc ms r1 S1 r2 M1)) := by
  obtain ⟨⟨q, w, of, le, ro, kc, km⟩, tz⟩ := id h.2.2.2.2.2.2.1
  have hq := kc.1
  have hP2 := h.P2
  have hn2 := h.n2
  refine ⟨1, 5, by omega, by omega, c_X8_tried l 1 5 S a b c0 c1 c2 c3 c4 _ ?_⟩
  intro B79 h79
  unfold cT_X8_tried_e
  have e0 : upd (upd (upd (upd (upd (fun _ => (0 : Int32)) (0 : Int32).toNatClampNeg c0) (1 : Int32).toNatClampNeg c1) (2 : Int32).toNatClampNeg c2) (3 : Int32).toNatClampNeg c3) (4 : Int32).toNatClampNeg c4 = n5 (fun _ => 0) c0 c1 c2 c3 c4 := rfl
  rw [e0]
  have eqf : ∀ k, k < P → n5 (fun _ => 0) c0 c1 c2 c3 c4 k = n5 (M.2.1 26) c0 c1 c2 c3 c4 k := fun k hk => n5_eq _ _ c0 c1 c2 c3 c4 k (by omega)
  have hy0 : CY (cf S 23 (-1)) n P kd ct sc := h.cy
  have ss := s_tried l h km a b c0 c1 c2 c3 c4
  have no : (¬ ((∃ s, s < q ∧ a = nI s) ∧ (∃ h, 1 ≤ h ∧ h ≤ n ∧ b = nI h) ∧ ∃ ν, NM (n5 (M.2.1 26) c0 c1 c2 c3 c4) P ν)) → ∀ f, B79 (0 + 1) (0 + 5) (cf S 23 (-1)) f := by
    intro z f
    refine h79 _ _ _ _ ⟨by omega, by omega, k_none l _ 1 _ ⟨by omega, by omega, ?_⟩⟩
    refine ss _ (fun _ N fN uN => OKa.of (by omega) (by omega) rfl ⟨n, P, kd, ct, sc, sm, x, y, h.tri ((CFr.rf.cf _ rfl).cf _ rfl) (fN.sc _ rfl) rfl uN⟩ rfl) (fun s hh ν hs ea h1 h2 eb hν => absurd ⟨⟨s, hs, ea⟩, ⟨hh, h1, h2, eb⟩, ν, hν⟩ z)
  refine ⟨by omega, by omega, by omega, by omega, k_has l (S := cf S 23 (-1)) kc.2.1 hq a _ (fun z => ⟨fun _ => no (fun v => z v.1) _, fun v => absurd rfl v⟩) (fun s hs ea => ⟨fun v => absurd v (by decide), fun _ => ?_⟩)⟩
  rw [hy0.2.1, hy0.1]
  refine ⟨fun z => no (fun v => ?_) _, fun z1 => ⟨fun z => no (fun v => ?_) _, fun z2 => ⟨by omega, by omega, ?_⟩⟩⟩
  · obtain ⟨L, hL1, hL2, ec⟩ := v.2.1
    rw [ec] at z
    exact absurd z (nI_nlt (b := 1) hL1 (by omega))
  · obtain ⟨L, hL1, hL2, ec⟩ := v.2.1
    rw [ec] at z
    exact absurd z (nI_nlt hL2 (by omega))
  obtain ⟨H, hH1, hH2, eb⟩ := (in_rng (L := 1) (H := n) (a := b) (by decide) (by omega)).mp ⟨Int32.not_lt.mp z1, Int32.not_lt.mp z2⟩
  refine k_isRearr l (cf S 23 (-1)) (K := P) (by omega) (by omega) (by omega) _ (fun z => ⟨fun v => absurd rfl v, fun _ => no (fun v => z (by obtain ⟨ν, hν⟩ := v.2.2; exact ⟨ν, hν.congr (fun k hk => (eqf k hk).symm)⟩)) _⟩) (fun ν hν => ⟨fun _ => ⟨by omega, by omega, ?_⟩, fun v => absurd v (by decide)⟩)
  subst ea
  subst eb
  have hy1 : CY (cf (cf S 23 (-1)) 2 0) n P kd ct sc := h.cy
  have hk1 : KS (cf (cf S 23 (-1)) 2 0) q w of le ro := kc
  refine k_prep7 l hy1 hν.1 _ (fun T fT tT pT t2 => ⟨by omega, by omega, ?_⟩)
  have hpg : pOK P (pg0 P ν) := fun j v hv => by
    unfold pg0 at hv
    split at hv
    · cases hv; exact (hν.1 j (by assumption)).2
    · cases hv
  refine k_run l (hy1.fr fT) (hk1.fr fT) hs hH1 hH2 (fun k hk => (hν.1 k hk).2) tT pT _ (fun U fU => ⟨by omega, by omega, ?_⟩)
  refine ss _ (fun z => absurd ⟨⟨s, hs, rfl⟩, ⟨H, hH1, hH2, rfl⟩, ν, hν.congr eqf⟩ z) (fun s' h' ν' hs' ea h1' h2' eb hν' N fN n2 uN => ?_)
  have e1 : s = s' := (nI_eq (by omega) (by omega)).mp ea
  have e2 : H = h' := (nI_eq (by omega) (by omega)).mp eb
  subst e1
  subst e2
  have eν : ∀ i, i < P → ν' i = ν i := fun i hi => by
    have w1 := hν'.1 i hi
    have w2 := hν.1 i hi
    rw [eqf i hi] at w2
    exact (nI_eq (by omega) (by omega)).mp (w1.1.symm.trans w2.1)
  have epg : pg0 P ν' = pg0 P ν := by
    funext j
    unfold pg0
    by_cases e : j < P
    · rw [if_pos e, if_pos e, eν j e]
    · rw [if_neg e, if_neg e]
  have ez : z0 n P ν' = z0 n P ν := by unfold z0; rw [eν 0 (by omega)]
  refine OKa.of (by omega) (by omega) ?_ ⟨n, P, kd, ct, sc, sm, x, y, h.tri ?_ fN ?_ uN⟩ ?_
  · rw [epg, ez, eν 1 (by omega), perf_sg h 7 s H (pg0 P ν) (1, 0, z0 n P ν) hpg]
  · exact ((CFr.rf.cf _ rfl).cf _ rfl : CFr trA2 trB nn S (cf (cf S 23 (-1)) 2 0)).tr ((fT.tr fU).mono trA_2 (fun _ z => z))
  · rw [fU.1 2 rfl, t2, n2]; rfl
  · have l1 := lens_eq fT
    have l2 := lens_eq fU
    exact l2.trans l1
end Tri
end
section
-- contracts are monotone in what they promise
theorem Met.imp' {l : Launch} {y : MethodName} {ws : List Cond} {rm : Room} {Pc : Array Value → State → Prop} {Qc Qd : Array Value → State → Outcome → State → Prop} {mc ms : Nat} {free : Addr → Prop} (h : Met l y ws rm Pc Qc mc ms free) (hq : ∀ a st o t, Qc a st o t → Qd a st o t) : Met l y ws rm Pc Qd mc ms free := by
  unfold Met at h ⊢
  exact MetFree.imp h (fun a st o t q => ⟨hq a st o t q.1, q.2⟩)
theorem Qi_imp {α : Type} {p1 p2 : Int32 → α → Prop} {B : α → State → Prop} {A : Nat → Prop} (h : ∀ r s, p1 r s → p2 r s) : ∀ a st o t, va_Qi p1 B A a st o t → va_Qi p2 B A a st o t := fun _ _ _ _ ⟨⟨r, u, h1, h2, h3⟩, h4⟩ => ⟨⟨r, u, h1, h r u h2, h3⟩, h4⟩
theorem Ql_imp {α : Type} {p1 p2 : Int64 → α → Prop} {B : α → State → Prop} {A : Nat → Prop} (h : ∀ r s, p1 r s → p2 r s) : ∀ a st o t, va_Ql p1 B A a st o t → va_Ql p2 B A a st o t := fun _ _ _ _ ⟨⟨r, u, h1, h2, h3⟩, h4⟩ => ⟨⟨r, u, h1, h r u h2, h3⟩, h4⟩
theorem mI_imp {l : Launch} {y : MethodName} {cy : ByteArray} {ny fr lo : Nat} {av : (Nat → Nat) → List Value} {S : MS} {p1 p2 : Int32 → MS → Prop} (h : mCtI l y cy ny fr lo av S p1) (hp : ∀ r s, p1 r s → p2 r s) : mCtI l y cy ny fr lo av S p2 := fun D ad cI cZ cL sz => (h D ad cI cZ cL sz).imp' (Qi_imp hp)
theorem mJ_imp {l : Launch} {y : MethodName} {cy : ByteArray} {ny fr lo : Nat} {av : (Nat → Nat) → List Value} {S : MS} {p1 p2 : Int64 → MS → Prop} (h : mCtJ l y cy ny fr lo av S p1) (hp : ∀ r s, p1 r s → p2 r s) : mCtJ l y cy ny fr lo av S p2 := fun D ad cI cZ cL sz => (h D ad cI cZ cL sz).imp' (Ql_imp hp)
theorem mZ_imp {l : Launch} {y : MethodName} {cy : ByteArray} {ny fr lo : Nat} {av : (Nat → Nat) → List Value} {S : MS} {p1 p2 : Bool → MS → Prop} (h : mCtZ l y cy ny fr lo av S p1) (hp : ∀ r s, p1 r s → p2 r s) : mCtZ l y cy ny fr lo av S p2 := fun D ad cI cZ cL sz => (h D ad cI cZ cL sz).imp' (Qi_imp (fun _ s ⟨b, h1, h2⟩ => ⟨b, h1, hp b s h2⟩))
theorem cI_imp {l : Launch} {y : MethodName} {cy : ByteArray} {ny fr lo mc ms : Nat} {av : (Nat → Nat) → List Value} {S : CS} {p1 p2 : Int32 → CS → Prop} (h : cCtI l y cy ny fr lo mc ms av S p1) (hp : ∀ r s, p1 r s → p2 r s) : cCtI l y cy ny fr lo mc ms av S p2 := fun D ad vd cI cZ cL cG X sz => (h D ad vd cI cZ cL cG X sz).imp' (Qi_imp hp)
theorem cJ_imp {l : Launch} {y : MethodName} {cy : ByteArray} {ny fr lo mc ms : Nat} {av : (Nat → Nat) → List Value} {S : CS} {p1 p2 : Int64 → CS → Prop} (h : cCtJ l y cy ny fr lo mc ms av S p1) (hp : ∀ r s, p1 r s → p2 r s) : cCtJ l y cy ny fr lo mc ms av S p2 := fun D ad vd cI cZ cL cG X sz => (h D ad vd cI cZ cL cG X sz).imp' (Ql_imp hp)
theorem cZ_imp {l : Launch} {y : MethodName} {cy : ByteArray} {ny fr lo mc ms : Nat} {av : (Nat → Nat) → List Value} {S : CS} {p1 p2 : Bool → CS → Prop} (h : cCtZ l y cy ny fr lo mc ms av S p1) (hp : ∀ r s, p1 r s → p2 r s) : cCtZ l y cy ny fr lo mc ms av S p2 := fun D ad vd cI cZ cL cG X sz => (h D ad vd cI cZ cL cG X sz).imp' (Qi_imp (fun _ s ⟨b, h1, h2⟩ => ⟨b, h1, hp b s h2⟩))
/-- what holds between calls -/
def Iv : Nat → Nat → Nat → CS → MS → Prop := fun j kc ks S M => Rel S M ∧ kc ≤ 3 * j + Fc S ∧ ks ≤ 55 * j + Fs S
theorem Iv.r {j kc ks : Nat} {S : CS} {M : MS} (h : Iv j kc ks S M) {α : Type} {r1 r2 : α} {S1 : CS} {M1 : MS} (o : OKr S r1 S1 r2 M1) : r1 = r2 ∧ Iv (j + 1) kc ks S1 M1 := by
  obtain ⟨o1, o2, o3⟩ := o
  have e1 : Fc S1 = Fc S := by unfold Fc; rw [o3]
  have e2 : Fs S1 = Fs S := by unfold Fs; rw [o3]
  refine ⟨o1, o2, ?_, ?_⟩
  · have := h.2.1; rw [e1]; omega
  · have := h.2.2; rw [e2]; omega
theorem Iv.a {j kc ks : Nat} {S : CS} {M : MS} (h : Iv j kc ks S M) {α : Type} {r1 r2 : α} {S1 : CS} {M1 : MS} {mc ms : Nat} (o : OKa S mc ms r1 S1 r2 M1) : r1 = r2 ∧ Iv (j + 1) (kc + mc) (ks + ms) S1 M1 := by
  obtain ⟨o1, o2, o3, o4⟩ := o
  refine ⟨o1, o2, ?_, ?_⟩
  · have := h.2.1; omega
  · have := h.2.2; omega
theorem Iv.room {j kc ks : Nat} {S : CS} {M : MS} (h : Iv j kc ks S M) (hj : j ≤ 5000) {mc ms : Nat} (h1 : mc ≤ 50000) (h2 : ms ≤ 300000) : kc + mc ≤ 599911 ∧ ks + ms ≤ 6978994 := by
  obtain ⟨⟨n, P, kd, ct, sc, sm, x, y, hR⟩, h3, h4⟩ := h
  obtain ⟨L, -, -, -, -, -, -, hc⟩ := hR.2.2.2.2.2.1
  obtain ⟨LA, hl, hLA, -⟩ := hR.2.2.2.2.2.2.2.2.1
  obtain ⟨LK', hk, hLK, -⟩ := hR.2.2.2.2.2.2.2.2.2
  have m1 := CT_max hLA
  have m2 := CT_max hLK
  unfold Fc at h3
  unfold Fs at h4
  rw [hl.1, hk.1] at h3 h4
  omega
theorem Rel0 : Rel cS0 mS0 := by
  refine ⟨1, 3, fun _ => 0, fun _ => 0, fun _ => 0, fun _ => 0, 0, 0, ⟨⟨rfl, rfl, rfl, by decide, by decide, fun j hj => ?_, fun j hj => ⟨rfl, Nat.zero_le _⟩, fun j hj => ⟨rfl, Nat.zero_le _⟩, fun j hj => ⟨rfl, Nat.zero_le _⟩⟩, ⟨rfl, rfl, by decide, by decide, fun j hj => ⟨rfl, Nat.zero_le _⟩, fun j hj => ⟨rfl, Nat.zero_le _⟩, fun j hj => ⟨rfl, Nat.zero_le _⟩⟩, fun j _ q => absurd rfl q, fun _ _ _ _ _ => rfl⟩, ⟨rfl, by decide, fun j hj => by rw [dgs0]; rfl, rightN_plain _ _⟩, ⟨rfl, by decide, fun j hj => by rw [dgs0]; rfl, rightN_plain _ _⟩, rfl, RP0, ⟨0, by omega, rfl, rfl, fun i hi => absurd hi (Nat.not_lt_zero _), Nat.zero_le _, by decide, by decide⟩, ⟨⟨0, fun _ => 0, fun _ => none, fun _ => 0, fun _ => 0, ⟨by omega, rfl, fun s hs => absurd hs (Nat.not_lt_zero _), fun s i hs => absurd hs (Nat.not_lt_zero _)⟩, ⟨by omega, rfl, fun s hs => absurd hs (Nat.not_lt_zero _), fun s i hs => absurd hs (Nat.not_lt_zero _)⟩⟩, fun t ht => rfl⟩, ⟨⟨fun _ => 0, fun j hj => ⟨rfl, Nat.zero_lt_succ _⟩⟩, ⟨fun _ => 0, fun j hj => ⟨rfl, Nat.zero_lt_succ _⟩⟩⟩, ⟨0, ⟨rfl, rfl, rfl, rfl, rfl, rfl⟩, by omega, Or.inl rfl⟩, ⟨0, ⟨rfl, rfl, rfl, rfl, rfl, rfl, rfl, rfl⟩, by omega, Or.inl rfl⟩⟩
  have : j = 0 := by omega
  subst this
  rfl
theorem Iv0 : Iv 0 0 0 cS0 mS0 := ⟨Rel0, Nat.zero_le _, Nat.zero_le _⟩
end
section
-- joined(): what is told of the sets that were found
def mxN (f : Nat → Nat) : Nat → Nat
  | 0 => 0
  | k + 1 => max (mxN f k) (f k)
theorem mxN_le {f : Nat → Nat} {B : Nat} : ∀ k, (∀ i, i < k → f i ≤ B) → mxN f k ≤ B := by
  intro k
  induction k with
  | zero => intro _; exact Nat.zero_le _
  | succ k ih =>
    intro h
    have h1 := ih (fun i hi => h i (by omega))
    have h2 := h k (by omega)
    show max (mxN f k) (f k) ≤ B
    omega
/-- the sets: how many, of which stand, how great, and whether a row leads out -/
def KF (S : CS) (N m : Nat) (st : Nat → Option Nat) (sz lv : Nat → Nat) : Prop := m ≤ N ∧ S.1 18 = nI m ∧ (∀ x, x < N → S.2.1 35 x = lab (st x)) ∧ (∀ x k, st x = some k → k < m) ∧ (∀ k, k < m → S.2.1 36 k = nI (sz k) ∧ sz k ≤ N) ∧ ∀ k, k < m → S.2.1 37 k = nI (lv k) ∧ lv k ≤ 1
section Sets
variable {S : CS} {N m LK : Nat} {st : Nat → Option Nat} {sz lv : Nat → Nat}
theorem k_setSize (l : Launch) (h : KF S N m st sz lv) (hl : KL S LK) (hN : N ≤ LK) (hK : LK ≤ 20000) {x : Nat} (hx : x < N) (post : Int32 → CS → Prop) (hp : post (match st x with | none => 0 | some k => nI (sz k)) S) : cX_X2_sizeOfSet l S (nI x) post := by
  obtain ⟨h1, h2, h3, h4, h5, h6⟩ := h
  refine c_X2_sizeOfSet l S _ post ?_
  unfold cT_X2_sizeOfSet_e
  rw [nI_clamp (show x < 2 ^ 31 by omega), h3 x hx, hl.2.2.2.2.2.1]
  refine ⟨vp_in_nI (by omega) (by omega), fun v hv => ?_⟩
  subst hv
  cases e : st x with
  | none =>
    rw [e] at hp
    exact ⟨fun c => absurd rfl c, fun _ => hp⟩
  | some k =>
    rw [e] at hp
    have hk := h4 x k e
    refine ⟨fun _ => ?_, fun c => absurd c (nI_m1 (by omega))⟩
    show vp_in (nI k) _ ∧ post (S.2.1 36 (nI k).toNatClampNeg) S
    rw [nI_clamp (show k < 2 ^ 31 by omega), (h5 k hk).1, hl.2.2.2.2.2.2.1]
    exact ⟨vp_in_nI (by omega) (by omega), hp⟩
theorem k_closed (l : Launch) (h : KF S N m st sz lv) (hl : KL S LK) (hN : N ≤ LK) (hK : LK ≤ 20000) (post : Int32 → CS → Prop) (hp : post (nI (cntP (fun k => decide (lv k = 0)) m)) S) : cX_X2_countClosed l S post := by
  obtain ⟨h1, h2, h3, h4, h5, h6⟩ := h
  refine c_X2_countClosed l S post ?_
  intro B4 B24 h4' h24
  unfold cT_X2_countClosed_e
  have key : ∀ d k, k + d = m → B4 S (nI (cntP (fun k => decide (lv k = 0)) k)) (nI k) := by
    intro d
    induction d with
    | zero =>
      intro k hk
      have : k = m := by omega
      subst this
      refine h4' _ _ _ ?_
      unfold cT_X2_countClosed_4
      rw [h2]
      exact ⟨fun _ => hp, fun c => absurd (nI_le (Nat.le_refl _) (by omega)) c⟩
    | succ d ih =>
      intro k hk
      have hv := h6 k (by omega)
      have nxt := ih (k + 1) (by omega)
      refine h4' _ _ _ ?_
      unfold cT_X2_countClosed_4
      rw [h2, nI_clamp (show k < 2 ^ 31 by omega), hv.1, hl.2.2.2.2.2.2.2]
      refine ⟨fun c => absurd c (nI_ge (by omega) (by omega)), fun _ => ⟨vp_in_nI (by omega) (by omega), fun c => ?_, fun c => ?_⟩⟩
      · have c : ¬ lv k = 0 := fun z => c (by rw [z]; rfl)
        refine h24 _ _ _ ?_
        unfold cT_X2_countClosed_24
        rw [← nI_succ]
        unfold cntP at nxt
        simp only [decide_eq_false c] at nxt
        exact nxt
      · have c : lv k = 0 := (nI_is 0 rfl (by omega) (by omega)).mp c
        refine h24 _ _ _ ?_
        unfold cT_X2_countClosed_24
        rw [← nI_succ, ← nI_succ]
        unfold cntP at nxt
        simp only [decide_eq_true c] at nxt
        exact nxt
  exact key m 0 (by omega)
theorem k_greatS (l : Launch) (h : KF S N m st sz lv) (hl : KL S LK) (hN : N ≤ LK) (hK : LK ≤ 20000) (post : Int32 → CS → Prop) (hp : post (nI (mxN sz m)) S) : cX_X2_greatestSize l S post := by
  obtain ⟨h1, h2, h3, h4, h5, h6⟩ := h
  refine c_X2_greatestSize l S post ?_
  intro B4 h4'
  unfold cT_X2_greatestSize_e
  have key : ∀ d k, k + d = m → B4 S (nI (mxN sz k)) (nI k) := by
    intro d
    induction d with
    | zero =>
      intro k hk
      have : k = m := by omega
      subst this
      refine h4' _ _ _ ?_
      unfold cT_X2_greatestSize_4
      rw [h2]
      exact ⟨fun _ => hp, fun c => absurd (nI_le (Nat.le_refl _) (by omega)) c⟩
    | succ d ih =>
      intro k hk
      have hv := h5 k (by omega)
      have hb := mxN_le (f := sz) (B := N) k (fun i hi => (h5 i (by omega)).2)
      have nxt := ih (k + 1) (by omega)
      refine h4' _ _ _ ?_
      unfold cT_X2_greatestSize_4
      rw [h2, nI_clamp (show k < 2 ^ 31 by omega), hv.1, hl.2.2.2.2.2.2.1, ← nI_succ]
      refine ⟨fun c => absurd c (nI_ge (by omega) (by omega)), fun _ => ⟨vp_in_nI (by omega) (by omega), fun v hv' => ?_⟩⟩
      have e : v = nI (mxN sz (k + 1)) := by
        rw [hv']
        show _ = nI (max (mxN sz k) (sz k))
        by_cases c : mxN sz k < sz k
        · rw [if_pos (nI_lt c (by omega)), Nat.max_eq_right (by omega)]
        · rw [if_neg (nI_nlt (by omega) (by omega)), Nat.max_eq_left (by omega)]
      rw [e]
      exact nxt
  exact key m 0 (by omega)
end Sets
end
section
-- joined(): the ways out of a set
def tl (n P : Nat) (kd ct sg : Nat → Nat) (x : Nat) : List Nat := (mvL n P kd ct sg x).map (fun q => (tgN n P kd ct sg x q.1 q.2).getD 0)
theorem tl_at {T : CS} {n P : Nat} {kd ct sg : Nat → Nat} {x : Nat} (h : SPL T n P kd ct sg x (mvL n P kd ct sg x)) (hP : 0 < P) {i : Nat} (hi : i < (mvL n P kd ct sg x).length) : ∃ t, (tl n P kd ct sg x)[i]? = some t ∧ T.2.1 18 i = nI t ∧ t < P ^ n := by
  obtain ⟨q, hq⟩ : ∃ q, (mvL n P kd ct sg x)[i]? = some q := ⟨_, List.getElem?_eq_getElem hi⟩
  obtain ⟨a, b⟩ := q
  obtain ⟨t, h1, -, h2, -⟩ := h.2 i a b hq
  refine ⟨t, ?_, h2, tgN_lt hP h1⟩
  unfold tl
  rw [List.getElem?_map, hq]
  show some ((tgN n P kd ct sg x a b).getD 0) = some t
  rw [h1]; rfl
theorem tl_len (n P : Nat) (kd ct sg : Nat → Nat) (x : Nat) : (tl n P kd ct sg x).length = (mvL n P kd ct sg x).length := List.length_map ..
/-- does a row lead out of x's set? -/
def outB (n P : Nat) (kd ct sg : Nat → Nat) (st : Nat → Option Nat) (x : Nat) : Bool := (tl n P kd ct sg x).any (fun t => decide (st t ≠ st x))
def oA : Nat → Bool := lA
def okB : Nat → Bool := fun k => lB k || decide (k = 37)
theorem lB_ok (k : Nat) (h : okB k = false) : lB k = false := by
  unfold okB at h
  rw [Bool.or_eq_false_iff] at h; exact h.1
section Seek
variable {S : CS} {n P m LK : Nat} {kd ct sc : Nat → Nat} {st : Nat → Option Nat} {sz lv : Nat → Nat}
theorem k_seek (l : Launch) (hy : CY S n P kd ct sc) (hz : ∀ a, a < 5 → ct (5 * a + a) = 0) (h : KF S (P ^ n) m st sz lv) (hl : KL S LK) (hN : P ^ n ≤ LK) (hK : LK ≤ 20000) {x k : Nat} (hx : x < P ^ n) (hk : st x = some k) (post : CS → Prop) (hp : ∀ T, CFr lA okB nn S T → KF T (P ^ n) m st sz (va_up lv k (if outB n P kd ct sc st x then 1 else lv k)) → post T) : cX_X2_seekWayOut l S (nI x) post := by
  have hP2 := hy.2.2.2.1
  obtain ⟨h1, h2, h3, h4, h5, h6⟩ := id h
  have hkm := h4 x k hk
  have hlv := h6 k hkm
  refine c_X2_seekWayOut l S _ post ?_
  intro B34 B68 h34 h68
  unfold cT_X2_seekWayOut_e
  rw [nI_clamp (show x < 2 ^ 31 by omega), h3 x hx, hk, hl.2.2.2.2.2.1]
  refine ⟨vp_in_nI (by omega) (by omega), fun v hv => ?_⟩
  have hv : v = nI k := hv
  subst hv
  rw [nI_clamp (show k < 2 ^ 31 by omega), hlv.1, hl.2.2.2.2.2.2.2]
  refine ⟨vp_in_nI (by omega) (by omega), fun c => ?_, fun c => ?_⟩
  · have c : lv k ≠ 1 := fun z => c (by rw [z]; rfl)
    refine k_read l hy hx _ (fun T fT hT => k_spread l (hy.fr fT) hz hx hT _ (fun U fU hU => ?_))
    have fSU : CFr lA lB nn S U := fT.tr (fU.mono sA_l sB_l)
    have hlen := mvL_len (n := n) (kd := kd) (ct := ct) (sg := sc) (x := x) hP2.2
    have key : ∀ d i, i + d = (mvL n P kd ct sc x).length → ∀ V, CFr lA okB nn S V → SPL V n P kd ct sc x (mvL n P kd ct sc x) → KF V (P ^ n) m st sz (va_up lv k (if ((tl n P kd ct sc x).take i).any (fun t => decide (st t ≠ st x)) then 1 else lv k)) → B34 V (nI k) (nI i) := by
      intro d
      induction d with
      | zero =>
        intro i hi V fV sV kV
        refine h34 _ _ _ ?_
        unfold cT_X2_seekWayOut_34
        rw [sV.1]
        refine ⟨fun _ => hp V fV ?_, fun z => absurd (nI_le (by omega) (by omega)) z⟩
        rw [List.take_of_length_le (by rw [tl_len]; omega)] at kV
        exact kV
      | succ d ih =>
        intro i hi V fV sV kV
        obtain ⟨t, t1, t2, t3⟩ := tl_at sV (by omega) (show i < (mvL n P kd ct sc x).length by omega)
        have hlV : V.2.2.2 = S.2.2.2 := lens_eq fV
        have etk : (tl n P kd ct sc x).take (i + 1) = (tl n P kd ct sc x).take i ++ [t] := by
          rw [List.take_add_one, t1]; rfl
        have nxt : ∀ W, CFr lA okB nn S W → SPL W n P kd ct sc x (mvL n P kd ct sc x) → KF W (P ^ n) m st sz (va_up lv k (if ((tl n P kd ct sc x).take (i + 1)).any (fun t => decide (st t ≠ st x)) then 1 else lv k)) → B68 W (nI k) (nI i) := by
          intro W fW sW kW
          refine h68 _ _ _ ?_
          unfold cT_X2_seekWayOut_68
          rw [← nI_succ]
          exact ih (i + 1) (by omega) W fW sW kW
        refine h34 _ _ _ ?_
        unfold cT_X2_seekWayOut_34
        rw [sV.1, nI_clamp (show i < 2 ^ 31 by omega), t2, nI_clamp (show t < 2 ^ 31 by omega), kV.2.2.1 t t3, hlV, hl.2.2.2.2.2.1, hl.2.2.2.2.2.2.2, nI_clamp (show k < 2 ^ 31 by omega)]
        refine ⟨fun z => absurd z (nI_ge (by omega) (by omega)), fun _ => ⟨vp_in_nI (by omega) (by omega), vp_in_nI (by omega) (by omega), fun z => nxt V fV sV ?_, fun z => ⟨vp_in_nI (by omega) (by omega), nxt _ (fV.ca _ rfl) sV ?_⟩⟩⟩
        · have ez : st t = st x := by
            rw [hk]
            cases e : st t with
            | none => rw [e] at z; exact absurd z.symm (nI_m1 (by omega))
            | some k' =>
              rw [e] at z
              have := h4 t k' e
              exact congrArg some ((nI_eq (by omega) (by omega)).mp z)
          rw [etk, List.any_append, List.any_cons, List.any_nil, ez]
          simpa using kV
        · have ez : st t ≠ st x := by
            rw [hk]
            intro e
            rw [e] at z
            exact z rfl
          rw [etk, List.any_append, List.any_cons, decide_eq_true ez, Bool.true_or, Bool.or_true, if_pos rfl]
          obtain ⟨g1, g2, g3, g4, g5, g6⟩ := kV
          refine ⟨g1, g2, g3, g4, g5, fun j hj => ?_⟩
          show upd (V.2.1 37) k 1 j = _ ∧ _
          by_cases e : j = k
          · subst e; rw [upd_same, va_up_same]; exact ⟨rfl, Nat.le_refl _⟩
          · rw [upd_other _ _ e, va_up_other _ _ e]
            have := g6 j hj
            rw [va_up_other _ _ e] at this
            exact this
    refine key (mvL n P kd ct sc x).length 0 (Nat.zero_add _) U (fSU.mono (fun _ q => q) lB_ok) hU ?_
    rw [List.take_zero]
    show KF U (P ^ n) m st sz (va_up lv k (lv k))
    rw [va_up_id]
    unfold KF
    rw [fSU.1 18 rfl, (fSU.2.1 35 rfl).1, (fSU.2.1 36 rfl).1, (fSU.2.1 37 rfl).1]
    exact h
  · have c : lv k = 1 := (nI_is 1 rfl (by omega) (by omega)).mp c
    refine hp S CFr.rf ?_
    have e : (if outB n P kd ct sc st x then 1 else lv k) = lv k := by
      rw [c]; split <;> rfl
    rw [e, va_up_id]
    exact h
end Seek
end
section
-- joined(): the class's walk, its ranges
def kA : Nat → Bool := fun k => lA k || (decide (14 ≤ k) && decide (k ≤ 18) && decide (k ≠ 17))
def jA : Nat → Bool := fun k => lA k || (decide (14 ≤ k) && decide (k ≤ 18))
def kB : Nat → Bool := fun k => lB k || (decide (30 ≤ k) && decide (k ≤ 37))
def kC : Nat → Bool := fun k => decide (30 ≤ k) && decide (k ≤ 37)
theorem lA_k (k : Nat) (h : kA k = false) : lA k = false := by
  unfold kA at h
  rw [Bool.or_eq_false_iff] at h; exact h.1
theorem kA_j (k : Nat) (h : jA k = false) : kA k = false := by
  unfold jA at h; unfold kA
  simp only [Bool.or_eq_false_iff, Bool.and_eq_false_iff, decide_eq_false_iff_not] at h ⊢
  exact ⟨h.1, by omega⟩
theorem lB_k (k : Nat) (h : kB k = false) : lB k = false := by
  unfold kB at h
  rw [Bool.or_eq_false_iff] at h; exact h.1
theorem okB_k (k : Nat) (h : kB k = false) : okB k = false := by
  unfold kB at h; unfold okB
  simp only [Bool.or_eq_false_iff, Bool.and_eq_false_iff, decide_eq_false_iff_not] at h ⊢
  exact ⟨h.1, by omega⟩
set_option maxHeartbeats 1000000 in
theorem k_prepK (l : Launch) {mc ms : Nat} {S : CS} {LK N : Nat} (hl : KL S LK) (hLK : LK ≤ 20000) (hN : N ≤ 20000) (hb : LK < N → 8 ≤ mc ∧ 8 * N ≤ ms) (post : CS → Prop) (k : ∀ T, CFr kA kB kC S T → KL T (max LK N) → (∀ x, x < N → T.2.1 30 x = 0 ∧ T.2.1 35 x = -1 ∧ T.2.1 36 x = 0 ∧ T.2.1 37 x = 0) → T.1 14 = 0 → T.1 15 = 0 → T.1 16 = 0 → T.1 18 = 0 → post T) : cX_X2_prepare l mc ms S (nI N) post := by
  refine c_X2_prepare l mc ms S _ post ?_
  intro B65 h65
  have fin : ∀ (kc ks : Nat) (U : CS) (M : Nat), kc ≤ mc → ks ≤ ms → CFr kA kB kC S U → KL U M → M = max LK N → B65 kc ks U := by
    intro kc ks U M hkc hks fU hU hM
    have hM2 : M ≤ 20000 := by omega
    have hM3 : N ≤ M := by omega
    refine h65 _ _ _ ?_
    unfold cT_X2_prepare_65
    rw [hU.1, hU.2.2.2.2.2.1, hU.2.2.2.2.2.2.1, hU.2.2.2.2.2.2.2]
    refine ⟨by omega, hkc, hks, by omega, hkc, hks, by omega, hkc, hks, by omega, hkc, hks, hkc, hks, k _ ?_ ?_ (fun x hx => ⟨?_, ?_, ?_, ?_⟩) rfl rfl rfl rfl⟩
    · exact (((((((fU.ca _ rfl).ca _ rfl).ca _ rfl).ca _ rfl).cf _ rfl).cf _ rfl).cf _ rfl).cf _ rfl
    · rw [← hM]; exact hU
    · show filI (U.2.1 30) M 0 x = 0
      unfold filI
      rw [if_pos (by omega)]
    · show filI (U.2.1 35) M (-1) x = -1
      unfold filI
      rw [if_pos (by omega)]
    · show filI (U.2.1 36) M 0 x = 0
      unfold filI
      rw [if_pos (by omega)]
    · show filI (U.2.1 37) M 0 x = 0
      unfold filI
      rw [if_pos (by omega)]
  unfold cT_X2_prepare_e
  rw [hl.1, nI_clamp (show N < 2 ^ 31 by omega)]
  refine ⟨fun c => ?_, fun c => ?_⟩
  · have c : N ≤ LK := (nI_leI (by omega) (by omega)).mp c
    exact fin 0 0 S LK (Nat.zero_le _) (Nat.zero_le _) CFr.rf hl (by omega)
  · have c : LK < N := by
      rcases Nat.lt_or_ge LK N with q | q
      · exact q
      · exact absurd (nI_le q (by omega)) c
    obtain ⟨b1, b2⟩ := hb c
    have i0 : ¬ nI N < 0 := nI_pos (by omega)
    have i8 : N * 8 ≤ 536870912 := by omega
    refine ⟨i0, i8, by omega, by omega, i0, i8, by omega, by omega, i0, i8, by omega, by omega, i0, i8, by omega, by omega, i0, i8, by omega, by omega, i0, i8, by omega, by omega, i0, i8, by omega, by omega, i0, i8, by omega, by omega, fin _ _ _ N (by omega) (by omega) ?_ ⟨rfl, rfl, rfl, rfl, rfl, rfl, rfl, rfl⟩ (by omega)⟩
    exact (((((((((((((((CFr.rf.ca _ rfl).cn _ rfl).ca _ rfl).cn _ rfl).ca _ rfl).cn _ rfl).ca _ rfl).cn _ rfl).ca _ rfl).cn _ rfl).ca _ rfl).cn _ rfl).ca _ rfl).cn _ rfl).ca _ rfl).cn _ rfl
/-- the walk: how many are marked, on the path, on the pile; sets -/
def WI (T : CS) (N q d p m : Nat) : Prop := T.1 14 = nI q ∧ T.1 15 = nI d ∧ T.1 16 = nI p ∧ T.1 18 = nI m ∧ cntP (fun x => decide (T.2.1 30 x ≠ 0)) N = q ∧ m + d ≤ q ∧ p ≤ q ∧ (∀ i, i < d → ∃ x j, x < N ∧ j ≤ 25 ∧ T.2.1 33 i = nI x ∧ T.2.1 32 x = nI j) ∧ (∀ i, i < p → ∃ x, x < N ∧ T.2.1 34 i = nI x) ∧ (∀ x, x < N → T.2.1 35 x = -1 ∨ ∃ k, k < m ∧ T.2.1 35 x = nI k)
section WalkC
variable {S : CS} {n P LK : Nat} {kd ct sc : Nat → Nat}
theorem WI.look {N q d p m : Nat} {T : CS} (h : WI S N q d p m) (f : CFr lA lB nn S T) : WI T N q d p m := by
  unfold WI
  rw [f.1 14 rfl, f.1 15 rfl, f.1 16 rfl, f.1 18 rfl, (f.2.1 30 rfl).1, (f.2.1 33 rfl).1, (f.2.1 32 rfl).1, (f.2.1 34 rfl).1, (f.2.1 35 rfl).1]
  exact h
theorem w_enter (l : Launch) {N q d p m x : Nat} (h : WI S N q d p m) (hl : KL S LK) (hN : N ≤ LK) (hK : LK ≤ 20000) (hx : x < N) (h0 : S.2.1 30 x = 0) (post : CS → Prop) (hp : ∀ T, CFr kA kB nn S T → T.2.1 30 x ≠ 0 → WI T N (q + 1) (d + 1) (p + 1) m → post T) : cX_X2_enter l S (nI x) post := by
  obtain ⟨h1, h2, h3, h4, h5, h6, h7, h8, h9, h10⟩ := h
  have hc0 := cntP_le (fun y => decide (upd (S.2.1 30) x (nI (q + 1)) y ≠ 0)) N
  have hq0 := cntP_le (fun x => decide (S.2.1 30 x ≠ 0)) N
  rw [h5] at hq0
  have ne0 : nI (q + 1) ≠ 0 := fun e => absurd ((nI_is 0 rfl (by omega) (by omega)).mp e) (by omega)
  have hc := cntP_up (p := fun x => decide (S.2.1 30 x ≠ 0)) (q := fun y => decide (upd (S.2.1 30) x (nI (q + 1)) y ≠ 0)) (x := x) (decide_eq_false (fun c => c h0)) (decide_eq_true (by rw [upd_same]; exact ne0)) (fun y hy => by rw [upd_other _ _ hy]) N hx
  rw [h5] at hc
  refine c_X2_enter l S _ post ?_
  unfold cT_X2_enter_e
  rw [h1, h2, h3, hl.1, hl.2.1, hl.2.2.1, hl.2.2.2.1, hl.2.2.2.2.1, nI_clamp (show x < 2 ^ 31 by omega), nI_clamp (show d < 2 ^ 31 by omega), nI_clamp (show p < 2 ^ 31 by omega), ← nI_succ, ← nI_succ, ← nI_succ]
  refine ⟨vp_in_nI (by omega) (by omega), vp_in_nI (by omega) (by omega), vp_in_nI (by omega) (by omega), vp_in_nI (by omega) (by omega), vp_in_nI (by omega) (by omega), hp _ ?_ ?_ ⟨rfl, rfl, rfl, h4, hc, by omega, by omega, fun i hi => ?_, fun i hi => ?_, h10⟩⟩
  · exact (((((((CFr.rf.cf _ rfl).ca _ rfl).ca _ rfl).ca _ rfl).ca _ rfl).cf _ rfl).ca _ rfl).cf _ rfl
  · show upd (S.2.1 30) x (nI (q + 1)) x ≠ 0
    rw [upd_same]; exact ne0
  · show ∃ x' j, x' < N ∧ j ≤ 25 ∧ upd (S.2.1 33) d (nI x) i = nI x' ∧ upd (S.2.1 32) x 0 x' = nI j
    by_cases e : i = d
    · subst e
      exact ⟨x, 0, hx, by omega, upd_same _ _ _, upd_same _ _ _⟩
    · obtain ⟨z, j, z1, z2, z3, z4⟩ := h8 i (by omega)
      by_cases e2 : z = x
      · subst e2
        exact ⟨z, 0, z1, by omega, by rw [upd_other _ _ e]; exact z3, upd_same _ _ _⟩
      · exact ⟨z, j, z1, z2, by rw [upd_other _ _ e]; exact z3, by rw [upd_other _ _ e2]; exact z4⟩
  · show ∃ x', x' < N ∧ upd (S.2.1 34) p (nI x) i = nI x'
    by_cases e : i = p
    · subst e
      exact ⟨x, hx, upd_same _ _ _⟩
    · obtain ⟨z, z1, z3⟩ := h9 i (by omega)
      exact ⟨z, z1, by rw [upd_other _ _ e]; exact z3⟩
theorem w_next (l : Launch) (hy : CY S n P kd ct sc) (hz : ∀ a, a < 5 → ct (5 * a + a) = 0) {q d p m x j : Nat} (h : WI S (P ^ n) q d p m) (hl : KL S LK) (hN : P ^ n ≤ LK) (hK : LK ≤ 20000) (hx : x < P ^ n) (hj : j ≤ 25) (h32 : S.2.1 32 x = nI j) (post : Int32 → CS → Prop) (hp0 : ∀ T, CFr kA kB nn S T → WI T (P ^ n) q d p m → post (-1) T) (hp1 : ∀ T t, CFr kA kB nn S T → WI T (P ^ n) q d p m → t < P ^ n → T.2.1 30 t = 0 → post (nI t) T) : cX_X2_nextUnseen l S (nI x) post := by
  have hP2 := hy.2.2.2.1
  refine c_X2_nextUnseen l S _ post ?_
  intro B19 B91 h19 h91
  unfold cT_X2_nextUnseen_e
  refine k_read l hy hx _ (fun T fT hT => k_spread l (hy.fr fT) hz hx hT _ (fun U fU hU => ?_))
  have fSU : CFr lA lB nn S U := fT.tr (fU.mono sA_l sB_l)
  have hlen := mvL_len (n := n) (kd := kd) (ct := ct) (sg := sc) (x := x) hP2.2
  have key : ∀ e i, i + e = 25 → ∀ V, CFr kA kB nn S V → SPL V n P kd ct sc x (mvL n P kd ct sc x) → WI V (P ^ n) q d p m → B19 V (nI i) := by
    intro e
    induction e with
    | zero =>
      intro i hi V fV sV wV
      refine h19 _ _ ?_
      unfold cT_X2_nextUnseen_19
      rw [sV.1]
      exact ⟨fun _ => hp0 V fV wV, fun z => absurd (nI_le (by omega) (by omega)) z⟩
    | succ e ih =>
      intro i hi V fV sV wV
      have hlV : V.2.2.2 = S.2.2.2 := lens_eq fV
      refine h19 _ _ ?_
      unfold cT_X2_nextUnseen_19
      rw [sV.1]
      refine ⟨fun _ => hp0 V fV wV, fun z => ?_⟩
      have hi2 : i < (mvL n P kd ct sc x).length := by
        rcases Nat.lt_or_ge i (mvL n P kd ct sc x).length with c | c
        · exact c
        · exact absurd (nI_le c (by omega)) z
      obtain ⟨t, t1, t2, t3⟩ := tl_at sV (by omega) hi2
      rw [nI_clamp (show i < 2 ^ 31 by omega), t2, hlV, hl.1, hl.2.1, hl.2.2.1, hl.2.2.2.2.2.1]
      have nxt : ∀ W, CFr kA kB nn S W → SPL W n P kd ct sc x (mvL n P kd ct sc x) → WI W (P ^ n) q d p m → B91 W (nI i) := by
        intro W fW sW wW
        refine h91 _ _ ?_
        unfold cT_X2_nextUnseen_91
        rw [← nI_succ]
        exact ih (i + 1) (by omega) W fW sW wW
      refine ⟨vp_in_nI (by omega) (by omega), fun v hv => ?_⟩
      subst hv
      rw [nI_clamp (show t < 2 ^ 31 by omega), nI_clamp (show x < 2 ^ 31 by omega)]
      refine ⟨vp_in_nI (by omega) (by omega), fun _ => ⟨vp_in_nI (by omega) (by omega), fun _ => nxt V fV sV wV, fun _ => ⟨vp_in_nI (by omega) (by omega), vp_in_nI (by omega) (by omega), vp_in_nI (by omega) (by omega), nxt _ (fV.ca _ rfl) sV wV⟩⟩, fun c => ⟨vp_in_nI (by omega) (by omega), hp1 _ t (fV.ca _ rfl) ?_ t3 c⟩⟩
      obtain ⟨g1, g2, g3, g4, g5, g6, g7, g8, g9, g10⟩ := wV
      refine ⟨g1, g2, g3, g4, g5, g6, g7, fun i' hi' => ?_, g9, g10⟩
      obtain ⟨y, jj, z1, z2, z3, z4⟩ := g8 i' hi'
      show ∃ x' j, x' < P ^ n ∧ j ≤ 25 ∧ V.2.1 33 i' = nI x' ∧ upd (V.2.1 32) x (nI i) x' = nI j
      by_cases e2 : y = x
      · subst e2
        exact ⟨y, i, z1, by omega, z3, upd_same _ _ _⟩
      · exact ⟨y, jj, z1, z2, z3, by rw [upd_other _ _ e2]; exact z4⟩
  have h32U : U.2.1 32 x = nI j := by rw [(fSU.2.1 32 rfl).1]; exact h32
  have hlU : U.2.2.2 = S.2.2.2 := lens_eq fSU
  rw [hlU, hl.2.2.1, nI_clamp (show x < 2 ^ 31 by omega), h32U]
  refine ⟨vp_in_nI (by omega) (by omega), fun v hv => ?_⟩
  subst hv
  exact key (25 - j) j (by omega) U (fSU.mono lA_k lB_k) hU (h.look fSU)
theorem w_leave (l : Launch) {N q d p m x : Nat} (h : WI S N q (d + 1) p m) (hl : KL S LK) (hN : N ≤ LK) (hK : LK ≤ 20000) (hx : x < N) (post : CS → Prop) (hp : ∀ T p' m', CFr kA kB nn S T → T.2.1 30 = S.2.1 30 → WI T N q d p' m' → post T) : cX_X2_leave l S (nI x) post := by
  obtain ⟨h1, h2, h3, h4, h5, h6, h7, h8, h9, h10⟩ := id h
  have hq0 := cntP_le (fun x => decide (S.2.1 30 x ≠ 0)) N
  rw [h5] at hq0
  refine c_X2_leave l S _ post ?_
  intro B28 h28
  unfold cT_X2_leave_e
  rw [h2, hl.1, hl.2.1, nI_clamp (show x < 2 ^ 31 by omega), nI_pred]
  have key : ∀ p' (V : CS) (b : Int32), CFr kA kB nn S V → V.2.1 30 = S.2.1 30 → p' ≤ p → V.1 14 = nI q → V.1 15 = nI d → V.1 16 = nI p' → V.1 18 = nI m → V.2.1 33 = S.2.1 33 → V.2.1 32 = S.2.1 32 → V.2.1 34 = S.2.1 34 → (∀ x, x < N → V.2.1 35 x = -1 ∨ ∃ k, k < m + 1 ∧ V.2.1 35 x = nI k) → B28 V b := by
    intro p'
    induction p' with
    | zero =>
      intro V b fV v30 hp' v14 v15 v16 v18 v33 v32 v34 v35
      have fin : post (cf V 18 (V.1 18 + 1)) := by
        refine hp _ 0 (m + 1) (fV.cf _ rfl) v30 ?_
        rw [v18, ← nI_succ]
        refine ⟨v14, v15, v16, rfl, ?_, by omega, by omega, fun i hi => ?_, fun i hi => absurd hi (Nat.not_lt_zero _), v35⟩
        · show cntP (fun x => decide (V.2.1 30 x ≠ 0)) N = q
          rw [v30]; exact h5
        · show ∃ x j, x < N ∧ j ≤ 25 ∧ V.2.1 33 i = nI x ∧ V.2.1 32 x = nI j
          rw [v33, v32]; exact h8 i (by omega)
      refine h28 _ _ ?_
      unfold cT_X2_leave_28
      exact ⟨fun _ => fin, fun _ => ⟨fun _ => fin, fun c => absurd (by rw [v16]; decide) c⟩⟩
    | succ p' ih =>
      intro V b fV v30 hp' v14 v15 v16 v18 v33 v32 v34 v35
      have fin : post (cf V 18 (V.1 18 + 1)) := by
        refine hp _ (p' + 1) (m + 1) (fV.cf _ rfl) v30 ?_
        rw [v18, ← nI_succ]
        refine ⟨v14, v15, v16, rfl, ?_, by omega, by omega, fun i hi => ?_, fun i hi => ?_, v35⟩
        · show cntP (fun x => decide (V.2.1 30 x ≠ 0)) N = q
          rw [v30]; exact h5
        · show ∃ x j, x < N ∧ j ≤ 25 ∧ V.2.1 33 i = nI x ∧ V.2.1 32 x = nI j
          rw [v33, v32]; exact h8 i (by omega)
        · show ∃ x, x < N ∧ V.2.1 34 i = nI x
          rw [v34]; exact h9 i (by omega)
      refine h28 _ _ ?_
      unfold cT_X2_leave_28
      refine ⟨fun _ => fin, fun _ => ⟨fun _ => fin, fun _ => ?_⟩⟩
      obtain ⟨t, t1, t2⟩ := h9 p' (by omega)
      have hlV : V.2.2.2 = S.2.2.2 := lens_eq fV
      rw [v16, nI_pred, nI_clamp (show p' < 2 ^ 31 by omega), v34, t2, v18, hlV, hl.2.2.2.2.1, hl.2.2.2.2.2.1, hl.2.2.2.2.2.2.1]
      refine ⟨vp_in_nI (by omega) (by omega), fun v hv => ?_⟩
      subst hv
      rw [nI_clamp (show t < 2 ^ 31 by omega), nI_clamp (show m < 2 ^ 31 by omega)]
      have nx : ∀ b, B28 (ca (ca (cf V 16 (nI p')) 35 (upd (V.2.1 35) t (nI m))) 36 (upd (V.2.1 36) m (V.2.1 36 m + 1))) b := by
        intro b
        refine ih _ b (((fV.cf _ rfl).ca _ rfl).ca _ rfl) v30 (by omega) v14 v15 rfl v18 v33 v32 v34 (fun y hy => ?_)
        show upd (V.2.1 35) t (nI m) y = -1 ∨ ∃ k, k < m + 1 ∧ upd (V.2.1 35) t (nI m) y = nI k
        by_cases e : y = t
        · subst e
          exact Or.inr ⟨m, by omega, upd_same _ _ _⟩
        · rw [upd_other _ _ e]; exact v35 y hy
      exact ⟨vp_in_nI (by omega) (by omega), vp_in_nI (by omega) (by omega), vp_in_nI (by omega) (by omega), fun _ => nx 0, fun _ => nx 1⟩
  have f1 : CFr kA kB nn S (cf S 15 (nI d)) := CFr.rf.cf _ rfl
  refine ⟨vp_in_nI (by omega) (by omega), vp_in_nI (by omega) (by omega), fun _ => ?_, fun _ => ?_⟩
  · refine key p _ 1 f1 rfl (Nat.le_refl _) h1 rfl h3 h4 rfl rfl rfl (fun y hy => ?_)
    rcases h10 y hy with e | ⟨k, k1, k2⟩
    · exact Or.inl e
    · exact Or.inr ⟨k, by omega, k2⟩
  · exact hp _ p m f1 rfl ⟨h1, rfl, h3, h4, h5, by omega, h7, fun i hi => h8 i (by omega), h9, h10⟩
end WalkC
end
section
-- joined(): the class's search for the sets, its ranges
section FindC
variable {S : CS} {n P LK : Nat} {kd ct sc : Nat → Nat}
theorem KL.nn {a b : Nat → Bool} {S T : CS} {LK : Nat} (h : KL S LK) (f : CFr a b nn S T) : KL T LK := by
  have e : T.2.2.2 = S.2.2.2 := lens_eq f
  unfold KL
  rw [e]; exact h
theorem w_walk (l : Launch) (hy : CY S n P kd ct sc) (hz : ∀ a, a < 5 → ct (5 * a + a) = 0) {q d p m x : Nat} (h : WI S (P ^ n) q d p m) (hl : KL S LK) (hN : P ^ n ≤ LK) (hK : LK ≤ 20000) (hx : x < P ^ n) (h0 : S.2.1 30 x = 0) (post : CS → Prop) (hp : ∀ T q d p m, CFr kA kB nn S T → WI T (P ^ n) q d p m → post T) : cX_X2_walk l S (nI x) post := by
  refine c_X2_walk l S _ post ?_
  intro B8 B70 h8 h70
  unfold cT_X2_walk_e
  have key : ∀ e i, i + e = 2 * P ^ n → ∀ V q d p m, CFr kA kB nn S V → WI V (P ^ n) q d p m → B8 V (nI i) := by
    intro e
    induction e with
    | zero =>
      intro i hi V q d p m fV wV
      have hyV := hy.fr fV
      refine h8 _ _ ?_
      unfold cT_X2_walk_8
      rw [hyV.2.2.1, show (2 : Int32) * nI (P ^ n) = nI (2 * P ^ n) from pk_mul 2 (P ^ n)]
      exact ⟨fun _ => hp V q d p m fV wV, fun z => absurd (nI_le (by omega) (by omega)) z⟩
    | succ e ih =>
      intro i hi V q d p m fV wV
      have hyV := hy.fr fV
      have hlV := hl.nn fV
      refine h8 _ _ ?_
      unfold cT_X2_walk_8
      rw [hyV.2.2.1, show (2 : Int32) * nI (P ^ n) = nI (2 * P ^ n) from pk_mul 2 (P ^ n), wV.2.1]
      refine ⟨fun _ => hp V q d p m fV wV, fun _ => ⟨fun _ => hp V q d p m fV wV, fun c => ?_⟩⟩
      have hd0 : d ≠ 0 := fun z => c (by rw [z]; decide)
      obtain ⟨r, rfl⟩ : ∃ r, d = r + 1 := ⟨d - 1, by omega⟩
      obtain ⟨g1, g2, g3, g4, g5, g6, g7, g8, g9, g10⟩ := id wV
      have hq0 := cntP_le (fun x => decide (V.2.1 30 x ≠ 0)) (P ^ n)
      rw [g5] at hq0
      obtain ⟨y, j, y1, y2, y3, y4⟩ := g8 r (by omega)
      rw [nI_pred, nI_clamp (show r < 2 ^ 31 by omega), y3, hlV.2.2.2.1]
      refine ⟨vp_in_nI (by omega) (by omega), fun v hv => ?_⟩
      subst hv
      have nxt : ∀ W q d p m, CFr kA kB nn S W → WI W (P ^ n) q d p m → B70 W (nI i) := by
        intro W q d p m fW wW
        refine h70 _ _ ?_
        unfold cT_X2_walk_70
        rw [← nI_succ]
        exact ih (i + 1) (by omega) W q d p m fW wW
      refine w_next l hyV hz wV hlV hN hK y1 y2 y4 _ (fun W fW wW => ⟨fun c => absurd rfl c, fun _ => ?_⟩) (fun W t fW wW ht h0t => ⟨fun _ => ?_, fun c => absurd c (nI_m1 (by omega))⟩)
      · exact w_leave l wW (hlV.nn fW) hN hK y1 _ (fun X p' m' fX _ wX => nxt X q r p' m' (fV.tr (fW.tr fX)) wX)
      · exact w_enter l wW (hlV.nn fW) hN hK ht h0t _ (fun X fX _ wX => nxt X _ _ _ _ (fV.tr (fW.tr fX)) wX)
  exact w_enter l h hl hN hK hx h0 _ (fun X fX _ wX => key (2 * P ^ n) 0 (Nat.zero_add _) X _ _ _ _ fX wX)
theorem w_seek (l : Launch) (hy : CY S n P kd ct sc) (hz : ∀ a, a < 5 → ct (5 * a + a) = 0) {x k : Nat} (hl : KL S LK) (hN : P ^ n ≤ LK) (hK : LK ≤ 20000) (hx : x < P ^ n) (hk : k < P ^ n) (h35 : S.2.1 35 x = nI k) (post : CS → Prop) (hp : ∀ T, CFr lA okB nn S T → post T) : cX_X2_seekWayOut l S (nI x) post := by
  have hP2 := hy.2.2.2.1
  refine c_X2_seekWayOut l S _ post ?_
  intro B34 B68 h34 h68
  unfold cT_X2_seekWayOut_e
  rw [nI_clamp (show x < 2 ^ 31 by omega), h35, hl.2.2.2.2.2.1]
  refine ⟨vp_in_nI (by omega) (by omega), fun v hv => ?_⟩
  subst hv
  rw [nI_clamp (show k < 2 ^ 31 by omega), hl.2.2.2.2.2.2.2]
  refine ⟨vp_in_nI (by omega) (by omega), fun _ => ?_, fun _ => hp S CFr.rf⟩
  refine k_read l hy hx _ (fun T fT hT => k_spread l (hy.fr fT) hz hx hT _ (fun U fU hU => ?_))
  have fSU : CFr lA lB nn S U := fT.tr (fU.mono sA_l sB_l)
  have hlen := mvL_len (n := n) (kd := kd) (ct := ct) (sg := sc) (x := x) hP2.2
  have key : ∀ d i, i + d = (mvL n P kd ct sc x).length → ∀ V, CFr lA okB nn S V → SPL V n P kd ct sc x (mvL n P kd ct sc x) → B34 V (nI k) (nI i) := by
    intro d
    induction d with
    | zero =>
      intro i hi V fV sV
      refine h34 _ _ _ ?_
      unfold cT_X2_seekWayOut_34
      rw [sV.1]
      exact ⟨fun _ => hp V fV, fun z => absurd (nI_le (by omega) (by omega)) z⟩
    | succ d ih =>
      intro i hi V fV sV
      obtain ⟨t, t1, t2, t3⟩ := tl_at sV (by omega) (show i < (mvL n P kd ct sc x).length by omega)
      have hlV := hl.nn fV
      have nxt : ∀ W, CFr lA okB nn S W → SPL W n P kd ct sc x (mvL n P kd ct sc x) → B68 W (nI k) (nI i) := by
        intro W fW sW
        refine h68 _ _ _ ?_
        unfold cT_X2_seekWayOut_68
        rw [← nI_succ]
        exact ih (i + 1) (by omega) W fW sW
      refine h34 _ _ _ ?_
      unfold cT_X2_seekWayOut_34
      rw [sV.1, nI_clamp (show i < 2 ^ 31 by omega), t2, nI_clamp (show t < 2 ^ 31 by omega), hlV.2.2.2.2.2.1, hlV.2.2.2.2.2.2.2]
      exact ⟨fun z => absurd z (nI_ge (by omega) (by omega)), fun _ => ⟨vp_in_nI (by omega) (by omega), vp_in_nI (by omega) (by omega), fun _ => nxt V fV sV, fun _ => ⟨vp_in_nI (by omega) (by omega), nxt _ (fV.ca _ rfl) sV⟩⟩⟩
  exact key _ 0 (Nat.zero_add _) U (fSU.mono (fun _ q => q) lB_ok) hU
theorem kA_nn {S T U : CS} (h1 : CFr jA kB kC S T) (h2 : CFr kA kB nn T U) : CFr jA kB kC S U := h1.tr (h2.mono kA_j (fun _ q => q))
/-- find(), where nothing was found yet -/
theorem w_find (l : Launch) {mc ms : Nat} (hy : CY S n P kd ct sc) (hz : ∀ a, a < 5 → ct (5 * a + a) = 0) (h17 : S.1 17 = 0) (hl : KL S LK) (hK : LK ≤ 20000) (hN : P ^ n ≤ 20000) (hb : LK < P ^ n → 8 ≤ mc ∧ 8 * P ^ n ≤ ms) (post : CS → Prop) (hp : ∀ T, CFr jA kB kC S T → KL T (max LK (P ^ n)) → T.1 17 = 1 → KOK T n P kd ct sc → post T) : cX_X2_find l mc ms S post := by
  have hP2 := hy.2.2.2.1
  refine c_X2_find l mc ms S post ?_
  intro B23 B60 B68 B93 h23 h60 h68 h93
  unfold cT_X2_find_e
  refine ⟨fun _ => ⟨mc, ms, by omega, by omega, ?_⟩, fun c => absurd h17 c⟩
  have f0 : CFr jA kB kC S (cf S 17 1) := CFr.rf.cf _ rfl
  rw [hy.2.2.1]
  refine k_prepK l (S := cf S 17 1) (LK := LK) hl hK hN hb _ (fun T fT hT hr t14 t15 t16 t18 => ?_)
  have hT1 : T.1 17 = 1 := by rw [fT.1 17 rfl]; exact cf_get _ _ _
  have hM : max LK (P ^ n) ≤ 20000 := by omega
  have hM2 : P ^ n ≤ max LK (P ^ n) := by omega
  have second : ∀ e i, i + e = P ^ n → ∀ V m, CFr jA kB kC S V → KL V (max LK (P ^ n)) → V.1 17 = 1 → m ≤ P ^ n → V.1 18 = nI m → (∀ x, x < P ^ n → V.2.1 35 x = -1 ∨ ∃ k, k < m ∧ V.2.1 35 x = nI k) → B68 (0 + mc) (0 + ms) V (nI i) := by
    intro e
    induction e with
    | zero =>
      intro i hi V m fV hV v17 hm v18 v35
      refine h68 _ _ _ _ ?_
      unfold cT_X2_find_68
      have hyV := hy.fr fV
      rw [hyV.2.2.1]
      exact ⟨fun _ => ⟨by omega, by omega, hp V fV hV v17 ⟨m, hm, v18, v35⟩⟩, fun z => absurd (nI_le (by omega) (by omega)) z⟩
    | succ e ih =>
      intro i hi V m fV hV v17 hm v18 v35
      have hyV := hy.fr fV
      have nxt : ∀ W, CFr lA okB nn V W → B93 (0 + mc) (0 + ms) W (nI i) := by
        intro W fW
        refine h93 _ _ _ _ ?_
        unfold cT_X2_find_93
        rw [← nI_succ]
        refine ih (i + 1) (by omega) W m (kA_nn fV (fW.mono lA_k okB_k)) (hV.nn fW) ?_ hm ?_ ?_
        · rw [fW.1 17 rfl]; exact v17
        · rw [fW.1 18 rfl]; exact v18
        · rw [(fW.2.1 35 rfl).1]; exact v35
      refine h68 _ _ _ _ ?_
      unfold cT_X2_find_68
      rw [hyV.2.2.1, nI_clamp (show i < 2 ^ 31 by omega), hV.2.2.2.2.2.1]
      refine ⟨fun z => absurd z (nI_ge (by omega) (by omega)), fun _ => ⟨vp_in_nI (by omega) (by omega), fun _ => nxt V CFr.rf, fun c => ⟨by omega, by omega, ?_⟩⟩⟩
      rcases v35 i (by omega) with q | ⟨k, k1, k2⟩
      · exact absurd q c
      · exact w_seek l hyV hz hV hM2 hM (by omega) (by omega) k2 _ (fun W fW => nxt W fW)
  have first : ∀ e i, i + e = P ^ n → ∀ V q d p m, CFr jA kB kC S V → KL V (max LK (P ^ n)) → V.1 17 = 1 → WI V (P ^ n) q d p m → B23 (0 + mc) (0 + ms) V (nI i) := by
    intro e
    induction e with
    | zero =>
      intro i hi V q d p m fV hV v17 wV
      have hyV := hy.fr fV
      refine h23 _ _ _ _ ?_
      unfold cT_X2_find_23
      rw [hyV.2.2.1]
      refine ⟨fun _ => ?_, fun z => absurd (nI_le (by omega) (by omega)) z⟩
      obtain ⟨g1, g2, g3, g4, g5, g6, g7, g8, g9, g10⟩ := wV
      have hq0 := cntP_le (fun x => decide (V.2.1 30 x ≠ 0)) (P ^ n)
      rw [g5] at hq0
      exact second (P ^ n) 0 (Nat.zero_add _) V m fV hV v17 (by omega) g4 g10
    | succ e ih =>
      intro i hi V q d p m fV hV v17 wV
      have hyV := hy.fr fV
      have nxt : ∀ W q d p m, CFr kA kB nn V W → W.1 17 = 1 → WI W (P ^ n) q d p m → B60 (0 + mc) (0 + ms) W (nI i) := by
        intro W q d p m fW w17 wW
        refine h60 _ _ _ _ ?_
        unfold cT_X2_find_60
        rw [← nI_succ]
        exact ih (i + 1) (by omega) W q d p m (kA_nn fV fW) (hV.nn fW) w17 wW
      refine h23 _ _ _ _ ?_
      unfold cT_X2_find_23
      rw [hyV.2.2.1, nI_clamp (show i < 2 ^ 31 by omega), hV.1]
      refine ⟨fun z => absurd z (nI_ge (by omega) (by omega)), fun _ => ⟨vp_in_nI (by omega) (by omega), fun _ => nxt V q d p m CFr.rf v17 wV, fun c => ⟨by omega, by omega, ?_⟩⟩⟩
      refine k_read l hyV (show i < P ^ n by omega) _ (fun W fW hW => ⟨fun _ => nxt W q d p m (fW.mono lA_k lB_k) (by rw [fW.1 17 rfl]; exact v17) (wV.look fW), fun _ => ⟨by omega, by omega, ?_⟩⟩)
      refine w_walk l (hyV.fr fW) hz (wV.look fW) (hV.nn fW) hM2 hM (by omega) (by rw [(fW.2.1 30 rfl).1]; exact c) _ (fun X q d p m fX wX => ?_)
      exact nxt X q d p m ((fW.mono lA_k lB_k).tr fX) (by rw [fX.1 17 rfl, fW.1 17 rfl]; exact v17) wX
  refine first (P ^ n) 0 (Nat.zero_add _) T 0 0 0 0 (f0.tr (fT.mono kA_j (fun _ q => q))) hT hT1 ⟨t14, t15, t16, t18, ?_, by omega, by omega, fun i hi => absurd hi (Nat.not_lt_zero _), fun i hi => absurd hi (Nat.not_lt_zero _), fun x hx => Or.inl (hr x hx).2.1⟩
  have := cntP_congr (p := fun x => decide (T.2.1 30 x ≠ 0)) (q := fun _ => false) (P ^ n) (fun x hx => decide_eq_false (fun c => c (hr x hx).1))
  rw [this]
  have z : ∀ k, cntP (fun _ => false) k = 0 := by
    intro k
    induction k with
    | zero => rfl
    | succ k ih => unfold cntP; rw [ih]; rfl
  exact z _
end FindC
end
section
-- joined(): the reference's walk: path, pile, marks
theorem nI_d5 : ∀ m, m < 25 → nI m / 5 = nI (m / 5) ∧ nI m - nI m / 5 * 5 = nI (m % 5) := by decide +kernel
def JW (T : MS) (N q d p m : Nat) (sn : Nat → Bool) (ov lw mv pl ix : Nat → Nat) : Prop := (∀ x, x < N → T.2.1 18 x = if sn x then nI (ov x) else -1) ∧ (∀ x, sn x = true → x < N ∧ ov x < q) ∧ cntP sn N = q ∧ (∀ x, x < N → T.2.1 20 x = -1 ∨ ∃ k, k < m ∧ T.2.1 20 x = nI k) ∧ (∀ x, x < N → sn x = false → T.2.1 20 x = -1) ∧ (∀ x, x < N → sn x = true → T.2.1 20 x = -1 → ∃ i, i < p ∧ pl i = x) ∧
  (∀ i, i < p → sn (pl i) = true ∧ T.2.1 22 i = nI (pl i) ∧ T.2.1 20 (pl i) = -1 ∧ T.2.1 19 (pl i) = nI (lw (pl i)) ∧ ov (pl 0) ≤ lw (pl i) ∧ lw (pl i) ≤ ov (pl i) ∧ T.2.1 23 (pl i) = nI (mv (pl i)) ∧ mv (pl i) ≤ 25) ∧ (∀ i j, i < j → j < p → ov (pl i) < ov (pl j)) ∧ (∀ i, i < d → ix i < p ∧ T.2.1 21 i = nI (pl (ix i))) ∧ (∀ i j, i < j → j < d → ix i < ix j) ∧ (0 < d → ix 0 = 0) ∧ (d = 0 → p = 0) ∧ m + d ≤ q ∧ p ≤ q ∧ T.1 8 = nI m
section JWs
variable {T U : MS} {N q d p m : Nat} {sn : Nat → Bool} {ov lw mv pl ix : Nat → Nat}
theorem JW.fr (h : JW T N q d p m sn ov lw mv pl ix) (e : ∀ k, 18 ≤ k → k ≤ 23 → U.2.1 k = T.2.1 k) (e8 : U.1 8 = T.1 8) : JW U N q d p m sn ov lw mv pl ix := by
  unfold JW
  rw [e 18 (by omega) (by omega), e 19 (by omega) (by omega), e 20 (by omega) (by omega), e 21 (by omega) (by omega), e 22 (by omega) (by omega), e 23 (by omega) (by omega), e8]
  exact h
theorem JW.inj (h : JW T N q d p m sn ov lw mv pl ix) {i j : Nat} (hi : i < p) (hj : j < p) (e : pl i = pl j) : i = j := by
  obtain ⟨-, -, -, -, -, -, -, h8, -⟩ := h
  rcases Nat.lt_trichotomy i j with c | c | c
  · have := h8 i j c hj; rw [e] at this; omega
  · exact c
  · have := h8 j i c hi; rw [e] at this; omega
theorem JW.qN (h : JW T N q d p m sn ov lw mv pl ix) : q ≤ N := by
  have := cntP_le sn N
  rw [h.2.2.1] at this; exact this
/-- one more is entered -/
theorem JW.enter (h : JW T N q d p m sn ov lw mv pl ix) {t : Nat} (ht : t < N) (h0 : sn t = false) (e18 : U.2.1 18 = upd (T.2.1 18) t (nI q)) (e19 : U.2.1 19 = upd (T.2.1 19) t (nI q)) (e23 : U.2.1 23 = upd (T.2.1 23) t 0) (e22 : U.2.1 22 = upd (T.2.1 22) p (nI t)) (e21 : U.2.1 21 = upd (T.2.1 21) d (nI t)) (e20 : U.2.1 20 = T.2.1 20) (e8 : U.1 8 = T.1 8) : q < N ∧ JW U N (q + 1) (d + 1) (p + 1) m (va_up sn t true) (va_up ov t q) (va_up lw t q) (va_up mv t 0) (va_up pl p t) (va_up ix d p) := by
  have hqN := h.qN
  obtain ⟨h1, h2, h3, h4, h5, h6, h7, h8, h9, h10, h11, h12, h13, h14, h15⟩ := h
  have hc := cntP_up (p := sn) (q := va_up sn t true) (x := t) h0 (va_up_same _ _ _) (fun y hy => va_up_other _ _ hy) N ht
  have hc2 := cntP_le (va_up sn t true) N
  rw [h3] at hc
  have pne : ∀ i, i < p → pl i ≠ t := fun i hi e => by
    have := (h7 i hi).1
    rw [e, h0] at this; cases this
  have plo : ∀ i, i < p → va_up pl p t i = pl i := fun i hi => va_up_other _ _ (by omega)
  have ovo : ∀ i, i < p → va_up ov t q (pl i) = ov (pl i) := fun i hi => va_up_other _ _ (pne i hi)
  have ov0 : va_up ov t q (va_up pl p t 0) ≤ q ∧ (0 < p → va_up ov t q (va_up pl p t 0) = ov (pl 0)) := by
    refine ⟨?_, fun c => by rw [plo 0 c, ovo 0 c]⟩
    rcases Nat.eq_zero_or_pos p with c | c
    · subst c; rw [va_up_same, va_up_same]; exact Nat.le_refl _
    · rw [plo 0 c, ovo 0 c]
      have := (h2 _ (h7 0 c).1).2
      omega
  refine ⟨by omega, ?_⟩
  unfold JW
  rw [e18, e19, e23, e22, e21, e20, e8]
  refine ⟨fun x hx => ?_, fun x hx => ?_, hc, h4, fun x hx hs => ?_, fun x hx hs hx2 => ?_, fun i hi => ?_, fun i j hij hj => ?_, fun i hi => ?_, fun i j hij hj => ?_, fun _ => ?_, fun c => by omega, by omega, by omega, h15⟩
  · by_cases e : x = t
    · subst e; rw [upd_same, va_up_same, va_up_same]; rfl
    · rw [upd_other _ _ e, va_up_other _ _ e, va_up_other _ _ e]; exact h1 x hx
  · by_cases e : x = t
    · subst e; rw [va_up_same]; exact ⟨ht, by omega⟩
    · rw [va_up_other _ _ e] at hx
      rw [va_up_other _ _ e]
      have := h2 x hx
      exact ⟨this.1, by omega⟩
  · by_cases e : x = t
    · subst e; rw [va_up_same] at hs; cases hs
    · rw [va_up_other _ _ e] at hs; exact h5 x hx hs
  · by_cases e : x = t
    · subst e; exact ⟨p, by omega, va_up_same _ _ _⟩
    · rw [va_up_other _ _ e] at hs
      obtain ⟨i, i1, i2⟩ := h6 x hx hs hx2
      exact ⟨i, by omega, by rw [plo i i1]; exact i2⟩
  · by_cases e : i = p
    · subst e
      rw [va_up_same, va_up_same, va_up_same, va_up_same, va_up_same, upd_same, upd_same, upd_same]
      exact ⟨rfl, rfl, h5 t ht h0, rfl, ov0.1, Nat.le_refl _, rfl, by omega⟩
    · have hip : i < p := by omega
      have g := h7 i hip
      rw [plo i hip, ovo i hip, va_up_other _ _ (pne i hip), va_up_other _ _ (pne i hip), va_up_other _ _ (pne i hip), upd_other _ _ e, upd_other _ _ (pne i hip), upd_other _ _ (pne i hip), ov0.2 (by omega)]
      exact g
  · by_cases e : j = p
    · subst e
      have hip : i < j := hij
      rw [va_up_same, va_up_same, plo i hip, ovo i hip]
      exact (h2 _ (h7 i hip).1).2
    · have hjp : j < p := by omega
      rw [plo i (by omega), plo j hjp, ovo i (by omega), ovo j hjp]
      exact h8 i j hij hjp
  · by_cases e : i = d
    · subst e
      rw [va_up_same, va_up_same, upd_same]
      exact ⟨by omega, rfl⟩
    · have g := h9 i (by omega)
      rw [va_up_other _ _ e, plo _ g.1, upd_other _ _ e]
      exact ⟨by omega, g.2⟩
  · by_cases e : j = d
    · subst e
      rw [va_up_same, va_up_other _ _ (show i ≠ j by omega)]
      exact (h9 i hij).1
    · rw [va_up_other _ _ e, va_up_other _ _ (show i ≠ d by omega)]
      exact h10 i j hij (by omega)
  · by_cases e : d = 0
    · subst e; rw [va_up_same]; exact h12 rfl
    · rw [va_up_other _ _ (show 0 ≠ d by omega)]; exact h11 (by omega)
/-- one more move is looked at -/
theorem JW.more (h : JW T N q d p m sn ov lw mv pl ix) {s : Nat} (hs : mv s < 25) (e23 : U.2.1 23 = upd (T.2.1 23) s (nI (mv s + 1))) (e : ∀ k, 18 ≤ k → k < 23 → U.2.1 k = T.2.1 k) (e8 : U.1 8 = T.1 8) : JW U N q d p m sn ov lw (va_up mv s (mv s + 1)) pl ix := by
  obtain ⟨h1, h2, h3, h4, h5, h6, h7, h8, h9, h10, h11, h12, h13, h14, h15⟩ := h
  unfold JW
  rw [e 18 (by omega) (by omega), e 19 (by omega) (by omega), e 20 (by omega) (by omega), e 21 (by omega) (by omega), e 22 (by omega) (by omega), e23, e8]
  refine ⟨h1, h2, h3, h4, h5, h6, fun i hi => ?_, h8, h9, h10, h11, h12, h13, h14, h15⟩
  have g := h7 i hi
  refine ⟨g.1, g.2.1, g.2.2.1, g.2.2.2.1, g.2.2.2.2.1, g.2.2.2.2.2.1, ?_⟩
  by_cases c : pl i = s
  · rw [c, upd_same, va_up_same]; exact ⟨rfl, by omega⟩
  · rw [upd_other _ _ c, va_up_other _ _ c]; exact g.2.2.2.2.2.2
/-- a low mark sinks -/
theorem JW.low (h : JW T N q d p m sn ov lw mv pl ix) {s v : Nat} (hv : ov (pl 0) ≤ v) (hv2 : v ≤ ov s) (e19 : U.2.1 19 = upd (T.2.1 19) s (nI v)) (e : ∀ k, 18 ≤ k → k ≤ 23 → k ≠ 19 → U.2.1 k = T.2.1 k) (e8 : U.1 8 = T.1 8) : JW U N q d p m sn ov (va_up lw s v) mv pl ix := by
  obtain ⟨h1, h2, h3, h4, h5, h6, h7, h8, h9, h10, h11, h12, h13, h14, h15⟩ := h
  unfold JW
  rw [e 18 (by omega) (by omega) (by omega), e 23 (by omega) (by omega) (by omega), e 20 (by omega) (by omega) (by omega), e 21 (by omega) (by omega) (by omega), e 22 (by omega) (by omega) (by omega), e19, e8]
  refine ⟨h1, h2, h3, h4, h5, h6, fun i hi => ?_, h8, h9, h10, h11, h12, h13, h14, h15⟩
  have g := h7 i hi
  refine ⟨g.1, g.2.1, g.2.2.1, ?_⟩
  by_cases c : pl i = s
  · rw [c, upd_same, va_up_same]
    have g2 := g.2.2.2.2.2.2
    rw [c] at g2
    exact ⟨rfl, hv, hv2, g2⟩
  · rw [upd_other _ _ c, va_up_other _ _ c]; exact g.2.2.2
/-- the last of the path is left, its set isn't ended -/
theorem JW.back (h : JW T N q (d + 1) p m sn ov lw mv pl ix) (hd : 0 < d) : JW T N q d p m sn ov lw mv pl ix := by
  obtain ⟨h1, h2, h3, h4, h5, h6, h7, h8, h9, h10, h11, h12, h13, h14, h15⟩ := h
  exact ⟨h1, h2, h3, h4, h5, h6, h7, h8, fun i hi => h9 i (by omega), fun i j hij hj => h10 i j hij (by omega), fun _ => h11 (by omega), fun c => by omega, by omega, h14, h15⟩
/-- a set is ended -/
theorem JW.ended (h : JW T N q (d + 1) p m sn ov lw mv pl ix) (h20 : ∀ x, x < N → U.2.1 20 x = T.2.1 20 x ∨ U.2.1 20 x = nI m) (h20a : ∀ j, ix d ≤ j → j < p → U.2.1 20 (pl j) = nI m) (h20b : ∀ x, (∀ j, ix d ≤ j → j < p → x ≠ pl j) → U.2.1 20 x = T.2.1 20 x) (e : ∀ k, 18 ≤ k → k ≤ 23 → k ≠ 20 → U.2.1 k = T.2.1 k) (e8 : U.1 8 = nI (m + 1)) (hm : m < 2 ^ 31) : JW U N q d (ix d) (m + 1) sn ov lw mv pl ix := by
  have hinj := fun i j => h.inj (i := i) (j := j)
  obtain ⟨h1, h2, h3, h4, h5, h6, h7, h8, h9, h10, h11, h12, h13, h14, h15⟩ := h
  have hd := (h9 d (by omega)).1
  have keep : ∀ i, i < ix d → U.2.1 20 (pl i) = T.2.1 20 (pl i) := fun i hi => h20b _ (fun j j1 j2 e => by have := hinj i j (by omega) j2 e; omega)
  unfold JW
  rw [e 18 (by omega) (by omega) (by omega), e 23 (by omega) (by omega) (by omega), e 19 (by omega) (by omega) (by omega), e 21 (by omega) (by omega) (by omega), e 22 (by omega) (by omega) (by omega), e8]
  refine ⟨h1, h2, h3, fun x hx => ?_, fun x hx hs => ?_, fun x hx hs hu => ?_, fun i hi => ?_, fun i j hij hj => h8 i j hij (by omega), fun i hi => ⟨h10 i d hi (by omega), (h9 i (by omega)).2⟩, fun i j hij hj => h10 i j hij (by omega), fun _ => h11 (by omega), fun c => ?_, by omega, by omega, rfl⟩
  · rcases h20 x hx with c | c
    · rw [c]
      rcases h4 x hx with w | ⟨k, k1, k2⟩
      · exact Or.inl w
      · exact Or.inr ⟨k, by omega, k2⟩
    · exact Or.inr ⟨m, by omega, c⟩
  · rw [h20b x (fun j j1 j2 e => by rw [e, (h7 j j2).1] at hs; cases hs)]
    exact h5 x hx hs
  · have ht : T.2.1 20 x = -1 := by
      rcases h20 x hx with c | c
      · rw [← c]; exact hu
      · rw [c] at hu; exact absurd hu (nI_m1 hm)
    obtain ⟨i, i1, i2⟩ := h6 x hx hs ht
    refine ⟨i, ?_, i2⟩
    rcases Nat.lt_or_ge i (ix d) with c | c
    · exact c
    · have := h20a i c i1
      rw [i2, hu] at this
      exact absurd this.symm (nI_m1 hm)
  · have g := h7 i (by omega)
    rw [keep i hi]
    exact g
  · subst c; exact h11 (by omega)
end JWs
end
section
-- joined(): the reference's joinAll(), its ranges
theorem cntP_none : ∀ k, cntP (fun _ => false) k = 0 := by
  intro k
  induction k with
  | zero => rfl
  | succ k ih => unfold cntP; rw [ih]; rfl
section JAll
variable {S : MS} {n P : Nat} {kd ct sg : Nat → Nat}
set_option maxHeartbeats 4000000 in
theorem s_joinAll (l : Launch) (hy : MY S n P kd ct sg) (h8 : ∃ τ, MA S 8 τ) (h9 : ∃ τ, MA S 9 τ) (hN : P ^ n ≤ 20000) (post : MS → Prop) (hp : ∀ T m, MK S T → m ≤ P ^ n → T.1 8 = nI m → (∀ x, x < P ^ n → T.2.1 20 x = -1 ∨ ∃ k, k < m ∧ T.2.1 20 x = nI k) → (∀ x, x < P ^ n → rgt n P kd x = true → T.2.1 20 x ≠ -1) → post T) : mX_joinAll l S post := by
  have hP2 := hy.2.2.1
  have hn2 := hy.2.2.2.1
  refine m_joinAll l S post ?_
  intro B7 B41 B129 B398 B431 B502 h7 h41 h129 h398 h431 h502
  -- a set is popped
  have pop : ∀ (f : Int32) (T0 : MS) (q d p m : Nat) (sn : Nat → Bool) (ov lw mv pl ix : Nat → Nat), JW T0 (P ^ n) q (d + 1) p m sn ov lw mv pl ix → (∀ U, MK S U → JW U (P ^ n) q d (ix d) (m + 1) sn ov lw mv pl ix → B129 U (nI (P ^ n)) (nI q) f (nI d) (nI (ix d))) → ∀ r p', p' = ix d + r → p' ≤ p → ∀ V : MS, MK S V → V.1 8 = nI m → (∀ k, 18 ≤ k → k ≤ 23 → k ≠ 20 → V.2.1 k = T0.2.1 k) → (∀ x, x < P ^ n → V.2.1 20 x = T0.2.1 20 x ∨ V.2.1 20 x = nI m) → (∀ j, p' ≤ j → j < p → V.2.1 20 (pl j) = nI m) → (∀ x, (∀ j, p' ≤ j → j < p → x ≠ pl j) → V.2.1 20 x = T0.2.1 20 x) → B431 V (nI (P ^ n)) (nI q) f (nI d) (nI p') (nI (pl (ix d))) (if r = 0 then 0 else 1) := by
    intro f T0 q d p m sn ov lw mv pl ix hJ hk r
    have hqN := hJ.qN
    have hinj := fun i j => hJ.inj (i := i) (j := j)
    obtain ⟨g1, g2, g3, g4, g5, g6, g7, g8, g9, g10, g11, g12, g13, g14, g15⟩ := id hJ
    have hixd := (g9 d (by omega)).1
    induction r with
    | zero =>
      intro p' hp' hpp V mV v8 ve v20 v20a v20b
      have hp' : p' = ix d := hp'
      subst hp'
      refine h431 _ _ _ _ _ _ _ _ ?_
      unfold mT_joinAll_431
      rw [if_pos rfl]
      refine ⟨fun _ => ?_, fun c => absurd rfl c⟩
      rw [v8, ← nI_succ]
      refine hk _ (mV.mfs _ (by omega)) (hJ.ended v20 v20a v20b ve rfl (by omega))
    | succ r ih =>
      intro p' hp' hpp V mV v8 ve v20 v20a v20b
      subst hp'
      have hlt : ix d + r < p := by omega
      have gj := g7 _ hlt
      have hplN := (g2 _ gj.1).1
      have v22 : V.2.1 22 (ix d + r) = nI (pl (ix d + r)) := by rw [ve 22 (by omega) (by omega) (by omega)]; exact gj.2.1
      refine h431 _ _ _ _ _ _ _ _ ?_
      unfold mT_joinAll_431
      rw [if_neg (Nat.succ_ne_zero r), show nI (ix d + (r + 1)) + (-1) = nI (ix d + r) from by rw [i_sub1]; exact nI_pred (ix d + r), nI_clamp (show ix d + r < 2 ^ 31 by omega), v22, v8]
      refine ⟨fun c => absurd c (by decide), fun _ => ⟨vp_in_nI (by omega) (by omega), fun v hv => ?_⟩⟩
      subst hv
      rw [nI_clamp (show pl (ix d + r) < 2 ^ 31 by omega), nI_clamp (show m < 2 ^ 31 by omega)]
      have nx := ih (ix d + r) rfl (by omega) (ma (ma V 20 (upd (V.2.1 20) (pl (ix d + r)) (nI m))) 24 (upd (V.2.1 24) m (V.2.1 24 m + 1))) ((mV.mar _ (by omega)).mar _ (by omega)) v8 (fun k k1 k2 k3 => by
          rw [ma_get_ne _ _ (by omega), ma_get_ne _ _ k3]; exact ve k k1 k2 k3) (fun x hx => by
          show upd (V.2.1 20) (pl (ix d + r)) (nI m) x = _ ∨ upd (V.2.1 20) (pl (ix d + r)) (nI m) x = _
          by_cases e : x = pl (ix d + r)
          · subst e; exact Or.inr (upd_same _ _ _)
          · rw [upd_other _ _ e]; exact v20 x hx) (fun j j1 j2 => by
          show upd (V.2.1 20) (pl (ix d + r)) (nI m) (pl j) = _
          by_cases e : pl j = pl (ix d + r)
          · rw [e]; exact upd_same _ _ _
          · rw [upd_other _ _ e]
            refine v20a j ?_ j2
            rcases Nat.lt_or_ge j (ix d + (r + 1)) with c | c
            · exact absurd (by rw [show j = ix d + r by omega]) e
            · exact c) (fun x hx => by
          show upd (V.2.1 20) (pl (ix d + r)) (nI m) x = _
          rw [upd_other _ _ (hx (ix d + r) (Nat.le_refl _) hlt)]
          exact v20b x (fun j j1 j2 => hx j (by omega) j2))
      refine ⟨vp_in_nI (by omega) (by omega), vp_in_nI (by omega) (by omega), vp_in_nI (by omega) (by omega), fun c => ?_, fun c => ?_⟩
      · have hix := (g7 _ hixd).1
        have hixN := (g2 _ hix).1
        have e := hinj _ _ hlt hixd ((nI_eq (by omega) (by omega)).mp c)
        have e : r = 0 := by omega
        rw [if_pos e] at nx
        exact nx
      · have e : r ≠ 0 := fun e => c (by rw [e, Nat.add_zero])
        rw [if_neg e] at nx
        exact nx
  -- the walk from one root
  have walk : ∀ (f : Nat) (sn0 : Nat → Bool), (∀ T q m sn ov lw mv pl ix, (∀ x, sn0 x = true → sn x = true) → MK S T → JW T (P ^ n) q 0 0 m sn ov lw mv pl ix → B502 T (nI (P ^ n)) (nI q) (nI f)) → ∀ F T q d p m sn ov lw mv pl ix, (∀ x, sn0 x = true → sn x = true) → 52 * (P ^ n - q) + 26 * d + (if d = 0 then 0 else 25 - mv (pl (ix (d - 1)))) ≤ F → MK S T → JW T (P ^ n) q d p m sn ov lw mv pl ix → B129 T (nI (P ^ n)) (nI q) (nI f) (nI d) (nI p) := by
    intro f sn0 hend F
    induction F with
    | zero =>
      intro T q d p m sn ov lw mv pl ix hsn hF mT hJ
      have hd : d = 0 := by omega
      subst hd
      have hp0 : p = 0 := hJ.2.2.2.2.2.2.2.2.2.2.2.1 rfl
      subst hp0
      refine h129 _ _ _ _ _ _ ?_
      unfold mT_joinAll_129
      exact ⟨fun _ => hend T q m sn ov lw mv pl ix hsn mT hJ, fun c => absurd (by decide) c⟩
    | succ F ih =>
      intro T q d p m sn ov lw mv pl ix hsn hF mT hJ
      by_cases hd : d = 0
      · subst hd
        have hp0 : p = 0 := hJ.2.2.2.2.2.2.2.2.2.2.2.1 rfl
        subst hp0
        refine h129 _ _ _ _ _ _ ?_
        unfold mT_joinAll_129
        exact ⟨fun _ => hend T q m sn ov lw mv pl ix hsn mT hJ, fun c => absurd (by decide) c⟩
      · obtain ⟨r, rfl⟩ : ∃ r, d = r + 1 := ⟨d - 1, by omega⟩
        rw [if_neg (Nat.succ_ne_zero r), Nat.add_sub_cancel] at hF
        have hqN := hJ.qN
        obtain ⟨g1, g2, g3, g4, g5, g6, g7, g8, g9, g10, g11, g12, g13, g14, g15⟩ := id hJ
        obtain ⟨hix, h21⟩ := g9 r (by omega)
        obtain ⟨s, hs⟩ : ∃ s, s = pl (ix r) := ⟨_, rfl⟩
        have gs := g7 _ hix
        rw [← hs] at gs hF h21
        obtain ⟨s1, s2, s3, s4, s5, s6, s7, s8⟩ := gs
        obtain ⟨sN, sq⟩ := g2 s s1
        refine h129 _ _ _ _ _ _ ?_
        unfold mT_joinAll_129
        rw [nI_pred, nI_clamp (show r < 2 ^ 31 by omega), h21, show nI (r + 1) + (-1) = nI r from by rw [i_sub1]; exact nI_pred r]
        refine ⟨fun c => absurd c (nI_nle (by omega) (by omega)), fun _ => ⟨vp_in_nI (by omega) (by omega), fun v hv => ?_⟩⟩
        subst hv
        rw [nI_clamp (show s < 2 ^ 31 by omega), s7]
        refine ⟨vp_in_nI (by omega) (by omega), fun c => ?_, fun c => ?_⟩
        · -- leaving s
          have c398 : ∀ U lw', MK S U → JW U (P ^ n) q (r + 1) p m sn ov lw' mv pl ix → lw' s = lw s ∨ r = 0 → B398 U (nI (P ^ n)) (nI q) (nI f) (nI r) (nI p) (nI s) := by
            intro U lw' mU hU _
            obtain ⟨k1, k2, k3, k4, k5, k6, k7, k8, k9, k10, k11, k12, k13, k14, k15⟩ := id hU
            have ks := k7 _ hix
            rw [← hs] at ks
            have k18 : U.2.1 18 s = nI (ov s) := by rw [k1 s sN, s1]; rfl
            refine h398 _ _ _ _ _ _ _ ?_
            unfold mT_joinAll_398
            rw [nI_clamp (show s < 2 ^ 31 by omega), ks.2.2.2.1, k18, k15, nI_clamp (show m < 2 ^ 31 by omega)]
            refine ⟨vp_in_nI (by omega) (by omega), vp_in_nI (by omega) (by omega), fun _ => ⟨vp_in_nI (by omega) (by omega), ?_⟩, fun c2 => ?_⟩
            · have := pop (nI f) U q r p m sn ov lw' mv pl ix hU (fun W mW hW => ih W q r (ix r) (m + 1) sn ov lw' mv pl ix hsn (by split <;> omega) mW hW) (p - ix r) p (by omega) (Nat.le_refl _) (ma U 24 (upd (U.2.1 24) m 0)) (mU.mar _ (by omega)) k15 (fun k a1 a2 a3 => ma_get_ne _ _ (by omega)) (fun x hx => Or.inl rfl) (fun j j1 j2 => by omega) (fun x _ => rfl)
              rw [if_neg (by omega), ← hs] at this
              exact this
            · have hr : r ≠ 0 := fun e => by
                subst e
                have e0 := k11 (by omega)
                rw [e0] at hs
                have a1 := ks.2.2.2.2.1
                have a2 := ks.2.2.2.2.2.1
                rw [← hs] at a1
                exact c2 (by rw [show lw' s = ov s by omega])
              exact ih U q r p m sn ov lw' mv pl ix hsn (by split <;> omega) mU (hU.back (by omega))
          refine ⟨fun _ => c398 T lw mT hJ (Or.inl rfl), fun c2 => ?_⟩
          have hr : r ≠ 0 := fun e => c2 (by rw [e]; decide)
          obtain ⟨r', rfl⟩ : ∃ r', r = r' + 1 := ⟨r - 1, by omega⟩
          obtain ⟨hix', h21'⟩ := g9 r' (by omega)
          have gu := g7 _ hix'
          obtain ⟨u, hu⟩ : ∃ u, u = pl (ix r') := ⟨_, rfl⟩
          rw [← hu] at gu h21'
          obtain ⟨uN, uq⟩ := g2 u gu.1
          rw [nI_pred, nI_clamp (show r' < 2 ^ 31 by omega), h21', nI_clamp (show u < 2 ^ 31 by omega), s4, gu.2.2.2.1]
          refine ⟨vp_in_nI (by omega) (by omega), vp_in_nI (by omega) (by omega), vp_in_nI (by omega) (by omega), fun _ => c398 T lw mT hJ (Or.inl rfl), fun c3 => ⟨vp_in_nI (by omega) (by omega), vp_in_nI (by omega) (by omega), vp_in_nI (by omega) (by omega), ?_⟩⟩
          have c3 : lw s < lw u := by
            rcases Nat.lt_or_ge (lw s) (lw u) with q | q
            · exact q
            · exact absurd (nI_le q (by omega)) c3
          have hne : s ≠ u := fun e => by rw [e] at c3; omega
          exact c398 _ (va_up lw u (lw s)) (mT.mar _ (by omega)) (hJ.low s5 (by have := gu.2.2.2.2.2.1; omega) (ma_get _ _ _) (fun k _ _ k3 => ma_get_ne _ _ k3) rfl) (Or.inl (va_up_other _ _ hne))
        · -- one more move of s
          have hm : mv s < 25 := by
            rcases Nat.lt_or_ge (mv s) 25 with q | q
            · exact q
            · exact absurd (nI_le (a := 25) q (by omega)) c
          obtain ⟨e5, e6⟩ := nI_d5 (mv s) hm
          refine ⟨vp_in_nI (by omega) (by omega), fun v hv => ⟨vp_in_nI (by omega) (by omega), vp_in_nI (by omega) (by omega), ?_⟩⟩
          subst hv
          rw [e6, e5, ← nI_succ, (mT.my hy).1]
          have mU : MK S (ma T 23 (upd (T.2.1 23) s (nI (mv s + 1)))) := mT.mar _ (by omega)
          have hU : JW (ma T 23 (upd (T.2.1 23) s (nI (mv s + 1)))) (P ^ n) q (r + 1) p m sn ov lw (va_up mv s (mv s + 1)) pl ix := hJ.more hm (ma_get _ _ _) (fun k _ k2 => ma_get_ne _ _ (by omega)) rfl
          have on : ∀ W lw', MK S W → JW W (P ^ n) q (r + 1) p m sn ov lw' (va_up mv s (mv s + 1)) pl ix → B129 W (nI (P ^ n)) (nI q) (nI f) (nI (r + 1)) (nI p) := by
            intro W lw' mW hW
            refine ih W q (r + 1) p m sn ov lw' (va_up mv s (mv s + 1)) pl ix hsn ?_ mW hW
            rw [if_neg (Nat.succ_ne_zero r), Nat.add_sub_cancel, ← hs, va_up_same]
            omega
          refine ⟨fun _ => on _ lw mU hU, fun c1 => ⟨fun c2 => ?_, fun _ => on _ lw mU hU⟩⟩
          have ha : mv s / 5 < P := by
            rcases Nat.lt_or_ge (mv s / 5) P with q | q
            · exact q
            · exact absurd (nI_le q (by omega)) c1
          have hb : mv s % 5 < P := (nI_ltI (by omega) (by omega)).mp c2
          refine s_unp l (mU.my hy) (by omega) mU.2.2.1 _ (fun g hg => ?_)
          have mV := mU.m8 hg
          have hV := hU.fr (U := ma (ma T 23 (upd (T.2.1 23) s (nI (mv s + 1)))) 8 g) (fun k k1 k2 => ma_get_ne _ _ (by omega)) rfl
          refine s_ld l (mV.my hy) hg mV.2.2.2 ha hb _ (fun W hW => ?_)
          have mW : MK S W := mV.tr (MK.of9 hW mV.2.2.1)
          have hJW := hV.fr (U := W) (fun k k1 k2 => hW.2.2.1 k (by omega)) (by rw [hW.1])
          cases ht : tgN n P kd ct sg s (mv s / 5) (mv s % 5) with
          | none => exact ⟨fun c => absurd rfl c, fun _ => on W lw mW hJW⟩
          | some t =>
            have htN := tgN_lt (by omega) ht
            obtain ⟨k1, k2, k3, k4, k5, k6, k7, k8, k9, k10, k11, k12, k13, k14, k15⟩ := id hJW
            refine ⟨fun _ => ?_, fun c => absurd c (nI_m1 (by omega))⟩
            show vp_in (nI t) 20000 ∧ _
            have e1 : (lab (some t)).toNatClampNeg = t := nI_clamp (by omega)
            rw [e1, k1 t htN]
            have ks := k7 _ hix
            rw [← hs] at ks
            refine ⟨vp_in_nI (by omega) (by omega), fun c3 => ⟨vp_in_nI (by omega) (by omega), fun _ => on W lw mW hJW, fun c4 => ⟨vp_in_nI (by omega) (by omega), vp_in_nI (by omega) (by omega), fun _ => on W lw mW hJW, fun c5 => ⟨vp_in_nI (by omega) (by omega), vp_in_nI (by omega) (by omega), ?_⟩⟩⟩, fun c3 => ?_⟩
            · have hst : sn t = true := by
                cases e : sn t with
                | true => rfl
                | false => rw [e] at c3; exact absurd rfl c3
              rw [hst] at c5 ⊢
              have tq := (g2 t hst).2
              rw [ks.2.2.2.1] at c5
              have c5 : ov t < lw s := by
                rcases Nat.lt_or_ge (ov t) (lw s) with q | q
                · exact q
                · exact absurd (nI_le q (by omega)) c5
              obtain ⟨i, i1, i2⟩ := k6 t htN hst c4
              have hov : ov (pl 0) ≤ ov t := by
                rw [← i2]
                rcases Nat.eq_zero_or_pos i with e | e
                · rw [e]; exact Nat.le_refl _
                · exact Nat.le_of_lt (k8 0 i e i1)
              exact on _ (va_up lw s (ov t)) (mW.mar _ (by omega)) (hJW.low hov (by omega) (ma_get _ _ _) (fun k _ _ k3 => ma_get_ne _ _ k3) rfl)
            · have hst : sn t = false := by
                cases e : sn t with
                | false => rfl
                | true =>
                  rw [e] at c3
                  have tq := (g2 t e).2
                  exact absurd c3 (nI_m1 (by omega))
              have en := hJW.enter (U := ma (ma (ma (ma (ma W 18 (upd (W.2.1 18) t (nI q))) 19 (upd (W.2.1 19) t (nI q))) 23 (upd (W.2.1 23) t 0)) 22 (upd (W.2.1 22) p (nI t))) 21 (upd (W.2.1 21) (r + 1) (nI t))) htN hst rfl rfl rfl rfl rfl rfl rfl
              have hq := en.1
              rw [nI_clamp (show p < 2 ^ 31 by omega), nI_clamp (show r + 1 < 2 ^ 31 by omega), ← nI_succ, ← nI_succ, ← nI_succ]
              refine ⟨vp_in_nI (by omega) (by omega), vp_in_nI (by omega) (by omega), vp_in_nI (by omega) (by omega), vp_in_nI (by omega) (by omega), vp_in_nI (by omega) (by omega), ?_⟩
              refine ih _ (q + 1) (r + 1 + 1) (p + 1) m _ _ _ _ _ _ (fun x hx => ?_) ?_ (((((mW.mar _ (by omega)).mar _ (by omega)).mar _ (by omega)).mar _ (by omega)).mar _ (by omega)) en.2
              · by_cases e : x = t
                · rw [e]; exact va_up_same _ _ _
                · rw [va_up_other _ _ e]; exact hsn x hx
              · have := en.1
                rw [if_neg (Nat.succ_ne_zero _), Nat.add_sub_cancel, va_up_same, va_up_same, va_up_same]
                omega
  -- all roots
  have roots : ∀ e f, f + e = P ^ n → ∀ T q m sn ov lw mv pl ix, MK S T → JW T (P ^ n) q 0 0 m sn ov lw mv pl ix → (∀ x, x < f → rgt n P kd x = true → sn x = true) → B41 T (nI (P ^ n)) (nI q) (nI f) := by
    intro e
    induction e with
    | zero =>
      intro f hf T q m sn ov lw mv pl ix mT hJ hr
      have hqN := hJ.qN
      obtain ⟨g1, g2, g3, g4, g5, g6, g7, g8, g9, g10, g11, g12, g13, g14, g15⟩ := id hJ
      refine h41 _ _ _ _ ?_
      unfold mT_joinAll_41
      refine ⟨fun _ => hp T m mT (by omega) g15 g4 (fun x hx hxr c => ?_), fun c => absurd (nI_le (by omega) (by omega)) c⟩
      obtain ⟨i, i1, -⟩ := g6 x hx (hr x (by omega) hxr) c
      omega
    | succ e ih =>
      intro f hf T q m sn ov lw mv pl ix mT hJ hr
      have hfN : f < P ^ n := by omega
      have nxt : ∀ T q m sn ov lw mv pl ix, MK S T → JW T (P ^ n) q 0 0 m sn ov lw mv pl ix → (∀ x, x < f + 1 → rgt n P kd x = true → sn x = true) → B502 T (nI (P ^ n)) (nI q) (nI f) := by
        intro T q m sn ov lw mv pl ix mT hJ hr
        refine h502 _ _ _ _ ?_
        unfold mT_joinAll_502
        rw [← nI_succ]
        exact ih (f + 1) (by omega) T q m sn ov lw mv pl ix mT hJ hr
      refine h41 _ _ _ _ ?_
      unfold mT_joinAll_41
      refine ⟨fun c => absurd c (nI_ge (by omega) (by omega)), fun _ => ?_⟩
      refine s_unp l (mT.my hy) (by omega) mT.2.2.1 _ (fun g hg => ?_)
      have mV := mT.m8 hg
      have hV := hJ.fr (U := ma T 8 g) (fun k k1 k2 => ma_get_ne _ _ (by omega)) rfl
      have hqN := hV.qN
      obtain ⟨g1, g2, g3, g4, g5, g6, g7, g8, g9, g10, g11, g12, g13, g14, g15⟩ := id hV
      rw [nI_clamp (show f < 2 ^ 31 by omega), g1 f hfN]
      refine ⟨vp_in_nI (by omega) (by omega), fun c => ?_, fun c => ?_⟩
      · refine nxt _ q m sn ov lw mv pl ix mV hV (fun x hx hxr => ?_)
        by_cases e : x = f
        · subst e
          cases e2 : sn x with
          | true => rfl
          | false => rw [e2] at c; exact absurd rfl c
        · exact hr x (by omega) hxr
      · have hsf : sn f = false := by
          cases e2 : sn f with
          | false => rfl
          | true =>
            rw [e2] at c
            have := (g2 f e2).2
            exact absurd c (nI_m1 (by omega))
        obtain ⟨σ, hσ, hσ2⟩ := id hg
        refine s_isRight l _ 8 m7_8' _ (mV.my hy) hσ ?_
        rw [rightN_congr hσ2]
        refine ⟨fun c2 => ?_, fun c2 => ?_⟩
        · rw [← nI_succ]
          have en := hV.enter (U := ma (ma (ma (ma (ma (ma T 8 g) 21 (upd ((ma T 8 g).2.1 21) 0 (nI f))) 23 (upd ((ma T 8 g).2.1 23) f 0)) 18 (upd ((ma T 8 g).2.1 18) f (nI q))) 19 (upd ((ma T 8 g).2.1 19) f (nI q))) 22 (upd ((ma T 8 g).2.1 22) 0 (nI f))) hfN hsf rfl rfl rfl rfl rfl rfl rfl
          have hq := en.1
          refine ⟨vp_in_nI (n := 0) (by omega) (by omega), vp_in_nI (by omega) (by omega), vp_in_nI (by omega) (by omega), vp_in_nI (by omega) (by omega), vp_in_nI (n := 0) (by omega) (by omega), ?_⟩
          refine walk f (va_up sn f true) (fun T q m sn' ov lw mv pl ix hsn mT hJ => nxt T q m sn' ov lw mv pl ix mT hJ (fun x hx hxr => hsn x ?_)) (52 * (P ^ n) + 100) _ (q + 1) 1 1 m _ _ _ _ _ _ (fun x hx => hx) ?_ (((((mV.mar _ (by omega)).mar _ (by omega)).mar _ (by omega)).mar _ (by omega)).mar _ (by omega)) en.2
          · by_cases e : x = f
            · rw [e]; exact va_up_same _ _ _
            · rw [va_up_other _ _ e]; exact hr x (by omega) hxr
          · rw [if_neg (by decide)]
            omega
        · refine nxt _ q m sn ov lw mv pl ix mV hV (fun x hx hxr => ?_)
          by_cases e : x = f
          · subst e
            unfold rgt at hxr
            rw [hxr] at c2
            exact absurd c2 (by decide)
          · exact hr x (by omega) hxr
  -- the rows are laid
  have lay : ∀ e i, i + e = P ^ n → ∀ T, MK S T → (∀ x, x < i → T.2.1 18 x = -1 ∧ T.2.1 20 x = -1) → B7 T (nI (P ^ n)) (nI i) := by
    intro e
    induction e with
    | zero =>
      intro i hi T mT hT
      refine h7 _ _ _ ?_
      unfold mT_joinAll_7
      refine ⟨fun _ => ?_, fun c => absurd (nI_le (by omega) (by omega)) c⟩
      refine roots (P ^ n) 0 (Nat.zero_add _) (mf T 8 0) 0 0 (fun _ => false) (fun _ => 0) (fun _ => 0) (fun _ => 0) (fun _ => 0) (fun _ => 0) (mT.mfs _ (by omega)) ?_ (fun x hx => absurd hx (Nat.not_lt_zero _))
      refine ⟨fun x hx => (hT x (by omega)).1, fun x hx => (by cases hx), cntP_none _, fun x hx => Or.inl (hT x (by omega)).2, fun x hx _ => (hT x (by omega)).2, fun x hx hs => (by cases hs), fun i hi => absurd hi (Nat.not_lt_zero _), fun i j _ hj => absurd hj (Nat.not_lt_zero _), fun i hi => absurd hi (Nat.not_lt_zero _), fun i j _ hj => absurd hj (Nat.not_lt_zero _), fun c => absurd c (Nat.lt_irrefl _), fun _ => rfl, by omega, by omega, rfl⟩
    | succ e ih =>
      intro i hi T mT hT
      refine h7 _ _ _ ?_
      unfold mT_joinAll_7
      rw [nI_clamp (show i < 2 ^ 31 by omega), ← nI_succ]
      refine ⟨fun c => absurd c (nI_ge (by omega) (by omega)), fun _ => ⟨vp_in_nI (by omega) (by omega), vp_in_nI (by omega) (by omega), ih (i + 1) (by omega) _ ((mT.mar _ (by omega)).mar _ (by omega)) (fun x hx => ?_)⟩⟩
      show upd (T.2.1 18) i (-1) x = -1 ∧ upd (T.2.1 20) i (-1) x = -1
      by_cases e : x = i
      · subst e; exact ⟨upd_same _ _ _, upd_same _ _ _⟩
      · rw [upd_other _ _ e, upd_other _ _ e]; exact hT x (by omega)
  unfold mT_joinAll_e
  refine s_stands l S _ hy.2.1 hy.1 (by omega) (lay (P ^ n) 0 (Nat.zero_add _) S ⟨fun _ _ _ _ => rfl, fun _ _ => rfl, h8, h9⟩ (fun x hx => absurd hx (Nat.not_lt_zero _)))
end JAll
end
section
-- joined(), its ranges: the reference
section JRef
variable {S : MS} {n P x : Nat} {kd ct sg : Nat → Nat}
set_option maxHeartbeats 2000000 in
theorem s_joined (l : Launch) (hy : MY S n P kd ct sg) (hx : x < P ^ n) (hxa : MA S 2 (dgs P x)) (hxr : rgt n P kd x = true) (h8 : ∃ τ, MA S 8 τ) (h9 : ∃ τ, MA S 9 τ) (a : Int32) (post : Int32 → MS → Prop)
    (h0 : ¬ P ^ n ≤ 20000 → post (-1) (mf (mf S 3 0) 2 2)) (h1 : P ^ n ≤ 20000 → (¬ ∃ i, i ≤ 3 ∧ a = nI i) → post (-1) (mf (mf S 3 0) 2 1)) (h2 : P ^ n ≤ 20000 → (∃ i, i ≤ 3 ∧ a = nI i) → ∀ r T, MK (mf (mf S 3 0) 2 0) T → post r T) : mX_joined l S a post := by
  have hP2 := hy.2.2.1
  have hn2 := hy.2.2.2.1
  refine m_joined l S a post ?_
  intro B80 B137 B170 B182 B237 B249 B261 h80 h137 h170 h182 h237 h249 h261
  unfold mT_joined_e
  refine s_fits l _ _ (n := n) (P := P) hy.2.1 hy.1 (by omega) hP2 ⟨fun c => ?_, fun c => ?_⟩
  · have hN : P ^ n ≤ 20000 := of_decide_eq_true (bI_n0.mp c)
    refine s_inC l _ _ _ _ _ (L := 0) (H := 3) rfl rfl (by decide) (by decide) (fun q => ⟨fun w => absurd rfl w, fun _ => s_no l _ 1 _ (h1 hN (fun ⟨i, i1, i2⟩ => q ⟨i, Nat.zero_le _, i1, i2⟩))⟩) (fun i _ hi ea => ⟨fun _ => ?_, fun w => absurd w (by decide)⟩)
    have hy2 : MY (mf (mf S 3 0) 2 0) n P kd ct sg := (hy.mf 0 (by decide) (by decide)).mf 0 (by decide) (by decide)
    have fin := h2 hN ⟨i, hi, ea⟩
    refine s_joinAll l hy2 h8 h9 hN _ (fun T m mT hm t8 t20 tr => ?_)
    refine ⟨fun _ => ⟨fun _ => ?_, fun _ => ?_⟩, fun _ => fin _ T mT⟩
    · have Q261 : ∀ e k, k + e = m → ∀ V v, MK (mf (mf S 3 0) 2 0) V → V.1 8 = nI m → B261 V v (nI k) := by
        intro e
        induction e with
        | zero =>
          intro k hk V v mV v8
          refine h261 _ _ _ ?_
          unfold mT_joined_261
          rw [v8]
          exact ⟨fun _ => fin v V mV, fun c => absurd (nI_le (by omega) (by omega)) c⟩
        | succ e ih =>
          intro k hk V v mV v8
          refine h261 _ _ _ ?_
          unfold mT_joined_261
          rw [v8, ← nI_succ]
          exact ⟨fun c => absurd c (nI_ge (by omega) (by omega)), fun _ => ⟨vp_in_nI (by omega) (by omega), fun _ w _ => ih (k + 1) (by omega) V w mV v8, fun _ w _ => ih (k + 1) (by omega) V w mV v8⟩⟩
      have Q137 : ∀ e s, s + e = P ^ n → ∀ V, MK (mf (mf S 3 0) 2 0) V → V.1 8 = nI m → V.2.1 20 = T.2.1 20 → B137 V (nI (P ^ n)) (nI s) := by
        intro e
        induction e with
        | zero =>
          intro s hs V mV v8 v20
          refine h137 _ _ _ ?_
          unfold mT_joined_137
          exact ⟨fun _ => Q261 m 0 (Nat.zero_add _) V 0 mV v8, fun c => absurd (nI_le (by omega) (by omega)) c⟩
        | succ e ih =>
          intro s hs V mV v8 v20
          have nxt : ∀ V, MK (mf (mf S 3 0) 2 0) V → V.1 8 = nI m → V.2.1 20 = T.2.1 20 → B249 V (nI (P ^ n)) (nI s) := by
            intro V mV v8 v20
            refine h249 _ _ _ ?_
            unfold mT_joined_249
            rw [← nI_succ]
            exact ih (s + 1) (by omega) V mV v8 v20
          refine h137 _ _ _ ?_
          unfold mT_joined_137
          rw [nI_clamp (show s < 2 ^ 31 by omega), v20]
          refine ⟨fun c => absurd c (nI_ge (by omega) (by omega)), fun _ => ⟨vp_in_nI (by omega) (by omega), fun c => ?_, fun _ => nxt V mV v8 v20⟩⟩
          obtain ⟨k, k1, k2⟩ : ∃ k, k < m ∧ T.2.1 20 s = nI k := by
            rcases t20 s (by omega) with q | q
            · exact absurd q c
            · exact q
          refine s_unp l (mV.my hy2) (by omega) mV.2.2.1 _ (fun g hg => ?_)
          refine pair_loop (α := MS) (P := P) (Bo := fun W p => B170 W (nI (P ^ n)) (nI s) (nI p)) (Bi := fun W p q => B182 W (nI (P ^ n)) (nI s) (nI p) (nI q)) (I := fun _ _ W => MK (mf (mf S 3 0) 2 0) W ∧ W.1 8 = nI m ∧ W.2.1 20 = T.2.1 20 ∧ U8 W n P s) ?_ ?_ ?_ ?_ ?_ _ ⟨mV.m8 hg, v8, v20, hg⟩
          · intro W p hp hI hB
            refine h170 _ _ _ _ ?_
            unfold mT_joined_170
            rw [(hI.1.my hy2).1]
            exact ⟨fun c => absurd c (nI_ge hp (by omega)), fun _ => hB⟩
          · intro W hI
            refine h170 _ _ _ _ ?_
            unfold mT_joined_170
            rw [(hI.1.my hy2).1]
            exact ⟨fun _ => nxt W hI.1 hI.2.1 hI.2.2.1, fun c => absurd (nI_le (Nat.le_refl _) (by omega)) c⟩
          · intro W p q hp hq hI hB
            have hB2 : ∀ W', MK (mf (mf S 3 0) 2 0) W' → W'.1 8 = nI m → W'.2.1 20 = T.2.1 20 → U8 W' n P s → B237 W' (nI (P ^ n)) (nI s) (nI p) (nI q) := by
              intro W' a1 a2 a3 a4
              refine h237 _ _ _ _ _ ?_
              unfold mT_joined_237
              rw [← nI_succ]
              exact hB W' ⟨a1, a2, a3, a4⟩
            refine h182 _ _ _ _ _ ?_
            unfold mT_joined_182
            rw [(hI.1.my hy2).1]
            refine ⟨fun c => absurd c (nI_ge hq (by omega)), fun _ => ?_⟩
            refine s_ld l (hI.1.my hy2) hI.2.2.2 hI.1.2.2.2 hp hq _ (fun X hX => ?_)
            have mX : MK (mf (mf S 3 0) 2 0) X := hI.1.tr (MK.of9 hX hI.1.2.2.1)
            have x8 : X.1 8 = nI m := by rw [hX.1]; exact hI.2.1
            have x20 : X.2.1 20 = T.2.1 20 := by rw [hX.2.2.1 20 (by decide)]; exact hI.2.2.1
            have xu : U8 X n P s := hX.u8 hI.2.2.2
            refine ⟨fun _ => hB2 X mX x8 x20 xu, fun c => ?_⟩
            cases ht : tgN n P kd ct sg s p q with
            | none => rw [ht] at c; exact absurd rfl c
            | some t =>
              have htN := tgN_lt (by omega) ht
              rw [x20, nI_clamp (show s < 2 ^ 31 by omega), k2, nI_clamp (show k < 2 ^ 31 by omega)]
              refine ⟨?_, vp_in_nI (by omega) (by omega), fun _ => hB2 X mX x8 x20 xu, fun _ => ⟨vp_in_nI (by omega) (by omega), vp_in_nI (by omega) (by omega), hB2 _ (mX.mar _ (by omega)) x8 x20 ?_⟩⟩
              · show vp_in (nI t) 20000
                exact vp_in_nI (by omega) (by omega)
              · obtain ⟨σ, u1, u2⟩ := xu
                exact ⟨σ, u1, u2⟩
          · intro W p hp hI hB
            refine h182 _ _ _ _ _ ?_
            unfold mT_joined_182
            rw [(hI.1.my hy2).1, ← nI_succ]
            exact ⟨fun _ => hB, fun c => absurd (nI_le (Nat.le_refl _) (by omega)) c⟩
          · intro W p hp hI
            exact hI
      have Q80 : ∀ e k, k + e = m → ∀ V v, MK (mf (mf S 3 0) 2 0) V → V.1 8 = nI m → V.2.1 20 = T.2.1 20 → B80 V v (nI k) := by
        intro e
        induction e with
        | zero =>
          intro k hk V v mV v8 v20
          refine h80 _ _ _ ?_
          unfold mT_joined_80
          rw [v8]
          refine ⟨fun _ => ⟨fun _ => ?_, fun _ => fin v V mV⟩, fun c => absurd (nI_le (by omega) (by omega)) c⟩
          exact s_stands l V _ (mV.my hy2).2.1 (mV.my hy2).1 (by omega) (Q137 (P ^ n) 0 (Nat.zero_add _) V mV v8 v20)
        | succ e ih =>
          intro k hk V v mV v8 v20
          refine h80 _ _ _ ?_
          unfold mT_joined_80
          rw [v8, ← nI_succ]
          exact ⟨fun c => absurd c (nI_ge (by omega) (by omega)), fun _ => ⟨vp_in_nI (by omega) (by omega), fun _ => ⟨vp_in_nI (by omega) (by omega), ih (k + 1) (by omega) _ v (mV.mar _ (by omega)) v8 v20⟩, fun _ => ⟨vp_in_nI (by omega) (by omega), fun w _ => ⟨vp_in_nI (by omega) (by omega), ih (k + 1) (by omega) _ w (mV.mar _ (by omega)) v8 v20⟩⟩⟩⟩
      exact Q80 m 0 (Nat.zero_add _) T 0 mT t8 rfl
    · have hgT : ∀ j, j < n → T.2.1 2 j = nI (dgs P x j) := fun j hj => by rw [mT.2.1 2 (by decide)]; exact (hxa j (by omega)).1
      have hyT := mT.my hy2
      refine s_pack l T 2 (by unfold m7; decide) _ hyT.2.1 hyT.1 (by omega) hgT ?_
      rw [dgs_pack hx, nI_clamp (show x < 2 ^ 31 by omega)]
      rcases t20 x hx with q | ⟨k, k1, k2⟩
      · exact absurd q (tr x hx hxr)
      · rw [k2]
        exact ⟨vp_in_nI (by omega) (by omega), vp_in_nI (by omega) (by omega), fin _ T mT⟩
  · have hN : ¬ P ^ n ≤ 20000 := of_decide_eq_false (bI_0.mp c)
    exact s_no l _ 2 _ (h0 hN)
end JRef
-- joined(), its ranges: both sides
def OKw (S : CS) (mc ms : Nat) (S1 : CS) (M1 : MS) : Prop := Rel S1 M1 ∧ Fc S + mc ≤ Fc S1 + 3 ∧ Fs S + ms ≤ Fs S1 + 55
section JBoth
variable {S T : CS} {M : MS} {n P x y : Nat} {kd ct sc sm : Nat → Nat}
theorem Rl.knot (h : Rl S M n P kd ct sc sm x y) (f : CFr jA kB kC S T) {LK : Nat} (hl : KL T LK) (hK : LK ≤ 20000) (hN : P ^ n ≤ LK) (h17 : T.1 17 = 1) (hk : KOK T n P kd ct sc) : Rl T M n P kd ct sc sm x y := by
  obtain ⟨⟨b1, b2, b3, b4⟩, h2, h3, h4, h5, h6, h7, h8, h9, h10⟩ := h
  refine ⟨⟨b1.fr f, b2, b3, b4⟩, ?_, ?_, ?_, ?_, ?_, ?_, h8, h9.fr f, ⟨LK, hl, hK, Or.inr ⟨h17, hN, hk⟩⟩⟩
  · rw [f.1 0 rfl]; exact h2
  · rw [f.1 1 rfl]; exact h3
  · rw [f.1 2 rfl]; exact h4
  · rw [f.1 9 rfl, f.1 10 rfl, (f.2.1 20 rfl).1, (f.2.1 21 rfl).1]; exact h5
  · rw [f.1 11 rfl, (f.2.1 22 rfl).1, f.2.2 22 rfl]; exact h6
  · rw [f.1 19 rfl, (f.2.1 38 rfl).1, (f.2.1 39 rfl).1, (f.2.1 40 rfl).1, (f.2.1 41 rfl).1, (f.2.1 42 rfl).2]; exact h7
theorem w_count (l : Launch) {m LK : Nat} (h18 : S.1 18 = nI m) (hl : KL S LK) (hm : m ≤ LK) (hK : LK ≤ 20000) (post : Int32 → CS → Prop) (hp : ∀ r, post r S) : cX_X2_countClosed l S post := by
  refine c_X2_countClosed l S post ?_
  intro B4 B24 h4 h24
  unfold cT_X2_countClosed_e
  have key : ∀ d k, k + d = m → ∀ v, B4 S v (nI k) := by
    intro d
    induction d with
    | zero =>
      intro k hk v
      refine h4 _ _ _ ?_
      unfold cT_X2_countClosed_4
      rw [h18]
      exact ⟨fun _ => hp v, fun c => absurd (nI_le (by omega) (by omega)) c⟩
    | succ d ih =>
      intro k hk v
      have nx : ∀ v, B24 S v (nI k) := fun v => h24 _ _ _ (by
        unfold cT_X2_countClosed_24
        rw [← nI_succ]
        exact ih (k + 1) (by omega) v)
      refine h4 _ _ _ ?_
      unfold cT_X2_countClosed_4
      rw [h18, hl.2.2.2.2.2.2.2]
      exact ⟨fun c => absurd c (nI_ge (by omega) (by omega)), fun _ => ⟨vp_in_nI (by omega) (by omega), fun _ => nx _, fun _ => nx _⟩⟩
  exact key m 0 (Nat.zero_add _) 0
theorem w_great (l : Launch) {m LK : Nat} (h18 : S.1 18 = nI m) (hl : KL S LK) (hm : m ≤ LK) (hK : LK ≤ 20000) (post : Int32 → CS → Prop) (hp : ∀ r, post r S) : cX_X2_greatestSize l S post := by
  refine c_X2_greatestSize l S post ?_
  intro B4 h4
  unfold cT_X2_greatestSize_e
  have key : ∀ d k, k + d = m → ∀ v, B4 S v (nI k) := by
    intro d
    induction d with
    | zero =>
      intro k hk v
      refine h4 _ _ _ ?_
      unfold cT_X2_greatestSize_4
      rw [h18]
      exact ⟨fun _ => hp v, fun c => absurd (nI_le (by omega) (by omega)) c⟩
    | succ d ih =>
      intro k hk v
      refine h4 _ _ _ ?_
      unfold cT_X2_greatestSize_4
      rw [h18, hl.2.2.2.2.2.2.1, ← nI_succ]
      exact ⟨fun c => absurd c (nI_ge (by omega) (by omega)), fun _ => ⟨vp_in_nI (by omega) (by omega), fun w _ => ih (k + 1) (by omega) w⟩⟩
  exact key m 0 (Nat.zero_add _) 0
theorem w_size (l : Launch) {m LK : Nat} (hl : KL S LK) (hN : P ^ n ≤ LK) (hm : m ≤ LK) (hK : LK ≤ 20000) (h35 : ∀ x, x < P ^ n → S.2.1 35 x = -1 ∨ ∃ k, k < m ∧ S.2.1 35 x = nI k) (hx : x < P ^ n) (post : Int32 → CS → Prop) (hp : ∀ r, post r S) : cX_X2_sizeOfSet l S (nI x) post := by
  refine c_X2_sizeOfSet l S _ post ?_
  unfold cT_X2_sizeOfSet_e
  rw [nI_clamp (show x < 2 ^ 31 by omega), hl.2.2.2.2.2.1, hl.2.2.2.2.2.2.1]
  refine ⟨vp_in_nI (by omega) (by omega), fun v hv => ⟨fun c => ?_, fun _ => hp _⟩⟩
  rcases h35 x hx with q | ⟨k, k1, k2⟩
  · rw [q] at hv; exact absurd hv c
  · rw [hv, k2]
    exact ⟨vp_in_nI (by omega) (by omega), hp _⟩
theorem Rl.joinM (h : Rl S M n P kd ct sc sm x y) (l : Launch) (a : Int32) (post : Int32 → MS → Prop) (h0 : ¬ P ^ n ≤ 20000 → post (-1) (mf (mf M 3 0) 2 2)) (h1 : P ^ n ≤ 20000 → (¬ ∃ i, i ≤ 3 ∧ a = nI i) → post (-1) (mf (mf M 3 0) 2 1)) (h2 : P ^ n ≤ 20000 → (∃ i, i ≤ 3 ∧ a = nI i) → ∀ r T, MK (mf (mf M 3 0) 2 0) T → post r T) : mX_joined l M a post :=
  s_joined l h.my h.hx h.xa h.2.1.2.2.2 h.m8 h.m9 a post h0 h1 h2
theorem o_joinedW (l : Launch) (h : Rl S M n P kd ct sc sm x y) (a : Int32) : ∃ mc ms, mc ≤ 50000 ∧ ms ≤ 300000 ∧ cX_X8_joined l mc ms S a (fun r1 S1 => mX_joined l M a (fun r2 M1 => OKw S mc ms S1 M1)) := by
  have hP2 := h.P2
  have hn2 := h.n2
  have h5 := h.cy.2.2.1
  have hb := pow_b hP2 hn2.2
  have h20 : (20000 : Int32) = nI 20000 := rfl
  by_cases hN : P ^ n ≤ 20000
  · by_cases ha : ∃ i, i ≤ 3 ∧ a = nI i
    · obtain ⟨LK, hl, hK, hf⟩ := id h.2.2.2.2.2.2.2.2.2
      have hR : Rl (cf S 2 0) (mf (mf M 3 0) 2 0) n P kd ct sc sm x y := (h.th 0).tr 0
      -- behind the search
      have fin : ∀ mc ms T, CFr jA kB kC (cf S 2 0) T → KL T (max LK (P ^ n)) → T.1 17 = 1 → KOK T n P kd ct sc → Fc S + mc ≤ Fc T + 3 → Fs S + ms ≤ Fs T + 55 → (a = 0 → 0 + mc ≤ mc ∧ 0 + ms ≤ ms ∧ mX_joined l M a (fun r2 M1 => OKw S mc ms T M1)) ∧ (a = 1 → 0 + mc ≤ mc ∧ 0 + ms ≤ ms ∧ cX_X2_sizeOfSet l T (T.1 0) (fun r14 S13 => 0 + mc ≤ mc ∧ 0 + ms ≤ ms ∧ mX_joined l M a (fun r2 M1 => OKw S mc ms S13 M1))) ∧ (a = 2 → 0 + mc ≤ mc ∧ 0 + ms ≤ ms ∧ cX_X2_countClosed l T (fun r18 S17 => 0 + mc ≤ mc ∧ 0 + ms ≤ ms ∧ mX_joined l M a (fun r2 M1 => OKw S mc ms S17 M1))) ∧ ((a.toInt < 0 ∨ 2 < a.toInt) → 0 + mc ≤ mc ∧ 0 + ms ≤ ms ∧ cX_X2_greatestSize l T (fun r22 S21 => 0 + mc ≤ mc ∧ 0 + ms ≤ ms ∧ mX_joined l M a (fun r2 M1 => OKw S mc ms S21 M1))) := by
        intro mc ms T fT hT t17 kT F1 F2
        have z1 : 0 + mc ≤ mc := by omega
        have z2 : 0 + ms ≤ ms := by omega
        have e : mX_joined l M a (fun r2 M1 => OKw S mc ms T M1) := h.joinM l a _ (fun q => absurd hN q) (fun _ q => absurd ha q) (fun _ _ r U mU => ⟨⟨n, P, kd, ct, sc, sm, x, y, (hR.scr mU).knot fT hT (by omega) (by omega) t17 kT⟩, F1, F2⟩)
        obtain ⟨m, m1, m2, m3⟩ := kT
        have t0 : T.1 0 = nI x := by rw [fT.1 0 rfl]; exact h.sx
        refine ⟨fun _ => ⟨z1, z2, e⟩, fun _ => ⟨z1, z2, ?_⟩, fun _ => ⟨z1, z2, ?_⟩, fun _ => ⟨z1, z2, ?_⟩⟩
        · rw [t0]
          exact w_size l hT (by omega) (show m ≤ max LK (P ^ n) by omega) (by omega) m3 h.hx _ (fun _ => ⟨z1, z2, e⟩)
        · exact w_count l m2 hT (by omega) (by omega) _ (fun _ => ⟨z1, z2, e⟩)
        · exact w_great l m2 hT (by omega) (by omega) _ (fun _ => ⟨z1, z2, e⟩)
      obtain ⟨i, hi, ea⟩ := id ha
      have a0 : ¬ a < 0 := by rw [ea]; exact nI_pos (by omega)
      have a3 : a ≤ 3 := by rw [ea]; exact nI_le (b := 3) hi (by omega)
      have open1 : ∀ mc ms, mc ≤ 50000 → ms ≤ 300000 → cX_X2_find l mc ms (cf S 2 0) (fun S8 => (a = 0 → 0 + mc ≤ mc ∧ 0 + ms ≤ ms ∧ mX_joined l M a (fun r2 M1 => OKw S mc ms S8 M1)) ∧ (a = 1 → 0 + mc ≤ mc ∧ 0 + ms ≤ ms ∧ cX_X2_sizeOfSet l S8 (S8.1 0) (fun r14 S13 => 0 + mc ≤ mc ∧ 0 + ms ≤ ms ∧ mX_joined l M a (fun r2 M1 => OKw S mc ms S13 M1))) ∧ (a = 2 → 0 + mc ≤ mc ∧ 0 + ms ≤ ms ∧ cX_X2_countClosed l S8 (fun r18 S17 => 0 + mc ≤ mc ∧ 0 + ms ≤ ms ∧ mX_joined l M a (fun r2 M1 => OKw S mc ms S17 M1))) ∧ ((a.toInt < 0 ∨ 2 < a.toInt) → 0 + mc ≤ mc ∧ 0 + ms ≤ ms ∧ cX_X2_greatestSize l S8 (fun r22 S21 => 0 + mc ≤ mc ∧ 0 + ms ≤ ms ∧ mX_joined l M a (fun r2 M1 => OKw S mc ms S21 M1)))) → ∃ mc ms, mc ≤ 50000 ∧ ms ≤ 300000 ∧ cX_X8_joined l mc ms S a (fun r1 S1 => mX_joined l M a (fun r2 M1 => OKw S mc ms S1 M1)) := by
        intro mc ms q1 q2 hc
        refine ⟨mc, ms, q1, q2, c_X8_joined l mc ms S a _ ?_⟩
        intro B28 h28
        unfold cT_X8_joined_e
        rw [h5, h20]
        exact ⟨fun _ => ⟨fun c => absurd c a0, fun _ => ⟨fun _ => ⟨mc, ms, by omega, by omega, hc⟩, fun c => absurd a3 c⟩⟩, fun c => absurd (nI_le hN (by omega)) c⟩
      rcases hf with f0 | ⟨f1, f2, f3⟩
      · have room : ∀ T : CS, CFr jA kB kC (cf S 2 0) T → KL T (max LK (P ^ n)) → (LK < P ^ n → Fc S + 8 ≤ Fc T + 3 ∧ Fs S + 8 * P ^ n ≤ Fs T + 55) ∧ (¬ LK < P ^ n → Fc S + 0 ≤ Fc T + 3 ∧ Fs S + 0 ≤ Fs T + 55) := by
          intro T fT hT
          have e24 : T.2.2.2 24 = S.2.2.2 24 := fT.2.2 24 rfl
          have e22 : T.2.2.2 22 = S.2.2.2 22 := fT.2.2 22 rfl
          unfold Fc Fs
          rw [e24, e22, hT.1, hl.1]
          refine ⟨fun c => ?_, fun c => ?_⟩
          · have := CT_step hP2 hn2 c
            rw [Nat.max_eq_right (by omega)]
            omega
          · rw [Nat.max_eq_left (by omega)]
            omega
        by_cases c : LK < P ^ n
        · refine open1 8 (8 * P ^ n) (by omega) (by omega) ?_
          exact w_find l (S := cf S 2 0) hR.cy h.dz f0 hl hK hN (fun _ => ⟨by omega, by omega⟩) _ (fun T fT hT t17 kT => fin _ _ T fT hT t17 kT ((room T fT hT).1 c).1 ((room T fT hT).1 c).2)
        · refine open1 0 0 (by omega) (by omega) ?_
          exact w_find l (S := cf S 2 0) hR.cy h.dz f0 hl hK hN (fun q => absurd q c) _ (fun T fT hT t17 kT => fin _ _ T fT hT t17 kT ((room T fT hT).2 c).1 ((room T fT hT).2 c).2)
      · refine open1 0 0 (by omega) (by omega) ?_
        refine c_X2_find l 0 0 _ _ ?_
        intro B23 B60 B68 B93 _ _ _ _
        unfold cT_X2_find_e
        have s17 : (cf S 2 0).1 17 = 1 := f1
        rw [s17]
        refine ⟨fun q => absurd q (by decide), fun _ => ⟨by omega, by omega, ?_⟩⟩
        refine fin 0 0 _ CFr.rf ?_ s17 f3 (Nat.le_add_right _ _) (Nat.le_add_right _ _)
        rw [Nat.max_eq_left f2]
        exact hl
    · refine ⟨0, 0, by omega, by omega, c_X8_joined l 0 0 S a _ ?_⟩
      intro B28 h28
      have e : B28 0 0 S := by
        refine h28 _ _ _ ?_
        unfold cT_X8_joined_28
        refine ⟨by omega, by omega, k_none l S 1 _ ⟨by omega, by omega, ?_⟩⟩
        refine h.joinM l a _ (fun q => absurd hN q) (fun _ _ => ⟨⟨n, P, kd, ct, sc, sm, x, y, (h.th 0).tr 1⟩, Nat.le_add_right _ _, Nat.le_add_right _ _⟩) (fun _ q => absurd q ha)
      unfold cT_X8_joined_e
      rw [h5, h20]
      refine ⟨fun _ => ⟨fun _ => e, fun c => ⟨fun c2 => ?_, fun _ => e⟩⟩, fun c => absurd (nI_le hN (by omega)) c⟩
      exfalso
      obtain ⟨j, hj, e2⟩ := nI_of c
      subst e2
      exact ha ⟨j, (nI_leI (b := 3) hj (by omega)).mp c2, rfl⟩
  · refine ⟨0, 0, by omega, by omega, c_X8_joined l 0 0 S a _ ?_⟩
    intro B28 h28
    unfold cT_X8_joined_e
    rw [h5, h20]
    refine ⟨fun c => absurd ((nI_leI (by omega) (by omega)).mp c) hN, fun _ => ⟨by omega, by omega, k_none l S 2 _ ⟨by omega, by omega, ?_⟩⟩⟩
    refine h.joinM l a _ (fun _ => ⟨⟨n, P, kd, ct, sc, sm, x, y, (h.th 0).tr 2⟩, Nat.le_add_right _ _, Nat.le_add_right _ _⟩) (fun q => absurd q hN) (fun q => absurd q hN)
end JBoth
end
