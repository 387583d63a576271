-- the class's performance
theorem sub_le0 : ∀ h, h < 8 → ∀ d, d < 5 → (nI h - nI d ≤ 0 ↔ h ≤ d) := by decide
theorem cd_0 {c : Nat} : cd c = 0 ↔ c = 0 := by
  unfold cd
  by_cases e : c = 0
  · rw [if_pos e]; exact ⟨fun _ => e, fun _ => rfl⟩
  · rw [if_neg e]
    refine ⟨fun q => ?_, fun q => absurd q e⟩
    split at q
    · exact absurd q (by decide)
    · exact absurd q (by decide)
section AbsP
variable {n P : Nat} {kd ct sg : Nat → Nat} {w : Nat → Nat} {of : Nat → Option Nat} {le ro : Nat → Nat}
def cOK (c : Nat) : Prop := c = 0 ∨ c = 2 ∨ c = 4
theorem perfS_ok {rec : Nat → Nat → (Nat → Option Nat) → TSt → Nat × TSt} (hP : 0 < P) (hrec : ∀ o h pg st, pOK P pg → tOK n P st → tOK n P (rec o h pg st).2 ∧ cOK (rec o h pg st).1) {h s : Nat} {pg : Nat → Option Nat} (hpg : pOK P pg) : ∀ m k st, tOK n P st → tOK n P (perfS n P kd ct sg of le ro rec h s pg m k st).2 ∧ cOK (perfS n P kd ct sg of le ro rec h s pg m k st).1 := by
  intro m
  induction m with
  | zero => intro k st hs; exact ⟨hs, Or.inl rfl⟩
  | succ m ih =>
    intro k st hs
    unfold perfS
    have key : ∀ r : Nat × TSt, tOK n P r.2 ∧ cOK r.1 → tOK n P (if r.1 = 0 then perfS n P kd ct sg of le ro rec h s pg m (k + 1) r.2 else r).2 ∧ cOK (if r.1 = 0 then perfS n P kd ct sg of le ro rec h s pg m (k + 1) r.2 else r).1 := by
      intro r hr
      by_cases e : r.1 = 0
      · rw [if_pos e]; exact ih _ _ hr.1
      · rw [if_neg e]; exact hr
    refine key _ ?_
    cases of (8 * s + k) with
    | none => exact sh1_ok hP (fun v hv => hpg _ v hv) hs
    | some o =>
      simp only
      by_cases c1 : h ≤ le (8 * s + k)
      · rw [if_pos c1]; exact ⟨hs, Or.inl rfl⟩
      · rw [if_neg c1]
        by_cases c2 : st.1 = 5000
        · rw [if_pos c2]; exact ⟨hs, Or.inr (Or.inr rfl)⟩
        · rw [if_neg c2]
          have := hs.1
          have := hs.2.1
          exact hrec _ _ _ _ (fun j v hv => hpg _ v hv) ⟨by show st.1 + 1 ≤ 5000; omega, by show st.2.1 ≤ st.1 + 1; omega, hs.2.2⟩
theorem perf_ok (hP : 0 < P) : ∀ f s h pg st, pOK P pg → tOK n P st → tOK n P (perf n P kd ct sg w of le ro f s h pg st).2 ∧ cOK (perf n P kd ct sg w of le ro f s h pg st).1 := by
  intro f
  induction f with
  | zero => intro s h pg st _ hs; exact ⟨hs, Or.inl rfl⟩
  | succ f ih =>
    intro s h pg st hpg hs
    exact perfS_ok hP (fun o h pg st a b => ih o h pg st a b) hpg (w s) 0 st hs
/-- a CALL, its beginning counted -/
def callR (rec : Nat → Nat → (Nat → Option Nat) → TSt → Nat × TSt) (o h : Nat) (pg : Nat → Option Nat) (st : TSt) : Nat × TSt := if st.1 = 5000 then (4, st) else rec o h pg (st.1 + 1, st.2)
end AbsP
section ClsP
variable {S : CS} {n P x y : Nat} {kd ct sc : Nat → Nat} {q : Nat} {w : Nat → Nat} {of : Nat → Option Nat} {le ro : Nat → Nat}
abbrev KS (S : CS) (q : Nat) (w : Nat → Nat) (of : Nat → Option Nat) (le ro : Nat → Nat) : Prop := KSc q w of le ro (S.1 19) (S.2.1 38) (S.2.1 39) (S.2.1 40) (S.2.1 41)
theorem KS.fr {S T : CS} (h : KS S q w of le ro) (f : CFr trA trB nn S T) : KS T q w of le ro := by
  unfold KS
  rw [f.1 19 rfl, (f.2.1 38 rfl).1, (f.2.1 39 rfl).1, (f.2.1 40 rfl).1, (f.2.1 41 rfl).1]
  exact h
theorem k_perform (l : Launch) : ∀ gd dp, dp + gd = 7 → ∀ (S : CS) s h pg st, CY S n P kd ct sc → KS S q w of le ro → s < q → 1 ≤ h → h ≤ gd → h ≤ n → pOK P pg → tOK n P st → TC S st → PG S dp pg → ∀ post : Int32 → CS → Prop, (∀ T, PF dp S T → ((callR (perf n P kd ct sc w of le ro gd) s h pg st).1 = 0 → TC T (callR (perf n P kd ct sc w of le ro gd) s h pg st).2) → post (cd (callR (perf n P kd ct sc w of le ro gd) s h pg st).1) T) → cX_X7_perform l gd S (nI s) (nI h) (nI dp) post := by
  intro gd
  induction gd with
  | zero => intro dp _ S s h pg st _ _ _ h1 h2; omega
  | succ f ih =>
    intro dp hdp S s h pg st hy hks hs h1 hgd hn hpg hst hT hPG post hp
    have hP2 := hy.2.2.2.1
    have hn2 := hy.2.2.2.2.1
    refine c_X7_perform l (f + 1) S _ _ _ post ?_
    intro B26 B178 h26 h178
    unfold cT_X7_perform_e
    have hb5 := hst.1
    rw [hT.1, ← nI_succ]
    have f0 : PF dp S (cf S 20 (nI (st.1 + 1))) := ⟨CFr.rf.cf _ rfl, fun i _ => rfl⟩
    by_cases e5 : st.1 = 5000
    · have er : callR (perf n P kd ct sc w of le ro (f + 1)) s h pg st = (4, st) := by unfold callR; rw [if_pos e5]
      rw [er] at hp
      exact ⟨fun c => absurd ((nI_leI (b := 5000) (by omega) (by omega)).mp c) (by omega), fun _ => hp _ f0 (fun c => absurd (show (4 : Nat) = 0 from c) (by decide))⟩
    · have er : callR (perf n P kd ct sc w of le ro (f + 1)) s h pg st = perfS n P kd ct sc of le ro (perf n P kd ct sc w of le ro f) h s pg (w s) 0 (st.1 + 1, st.2) := by unfold callR; rw [if_neg e5]; rfl
      rw [er] at hp
      refine ⟨fun _ => ?_, fun c => absurd (nI_le (b := 5000) (show st.1 + 1 ≤ 5000 by omega) (by omega)) c⟩
      have hws := hks.2.2.1 s hs
      have hq := hks.1
      have key : ∀ m k, k + m = w s → ∀ T st', PF dp S T → TC T st' → tOK n P st' → (∀ U, PF dp S U → ((perfS n P kd ct sc of le ro (perf n P kd ct sc w of le ro f) h s pg m k st').1 = 0 → TC U (perfS n P kd ct sc of le ro (perf n P kd ct sc w of le ro f) h s pg m k st').2) → post (cd (perfS n P kd ct sc of le ro (perf n P kd ct sc w of le ro f) h s pg m k st').1) U) → B26 T (nI k) := by
        intro m
        induction m with
        | zero =>
          intro k hk T st' fT tT oT cont
          refine h26 _ _ ?_
          unfold cT_X7_perform_26
          rw [nI_clamp (show s < 2 ^ 31 by omega), (fT.1.2.1 38 rfl).1, hws.2]
          refine ⟨vp_in_nI (by omega) (by omega), fun _ => cont T fT (fun _ => tT), fun c => absurd (nI_le (show w s ≤ k by omega) (by omega)) c⟩
        | succ m ihm =>
          intro k hk T st' fT tT oT cont
          have hkst := hks.2.2.2 s k hs (by omega)
          have hyT : CY T n P kd ct sc := hy.fr fT.1
          have hksT : KS T q w of le ro := hks.fr fT.1
          have hkT := hksT.2.2.2 s k hs (by omega)
          -- what follows a step
          have nxt : ∀ (r : Nat × TSt) (U : CS), perfS n P kd ct sc of le ro (perf n P kd ct sc w of le ro f) h s pg (m + 1) k st' = (if r.1 = 0 then perfS n P kd ct sc of le ro (perf n P kd ct sc w of le ro f) h s pg m (k + 1) r.2 else r) → PF dp S U → (r.1 = 0 → TC U r.2) → tOK n P r.2 → B178 U (nI k) (cd r.1) := by
            intro r U hr fU tU oU
            refine h178 _ _ _ ?_
            unfold cT_X7_perform_178
            rw [hr] at cont
            refine ⟨fun c => ?_, fun c => ?_⟩
            · have c := cd_0.mp c
              rw [if_pos c] at cont
              rw [← nI_succ]
              exact ihm (k + 1) (by omega) U r.2 fU (tU c) oU cont
            · have c : r.1 ≠ 0 := fun q => c (cd_0.mpr q)
              rw [if_neg c] at cont
              exact cont U fU (fun q => absurd q c)
          refine h26 _ _ ?_
          unfold cT_X7_perform_26
          rw [nI_clamp (show s < 2 ^ 31 by omega), (fT.1.2.1 38 rfl).1, hws.2]
          refine ⟨vp_in_nI (by omega) (by omega), fun c => absurd c (nI_ge (by omega) (by omega)), fun _ v hv => ?_⟩
          have hv : v = nI (8 * s + k) := by rw [hv, show (8 : Int32) = nI 8 from rfl, pk_mul, nI_add]; congr 1; omega
          subst hv
          rw [nI_clamp (show 8 * s + k < 2 ^ 31 by omega)]
          refine ⟨vp_in_nI (by omega) (by omega), fun v9 hv9 => ⟨vp_in_nI (by omega) (by omega), ?_⟩⟩
          have hPGT := fT.pg hPG
          rcases hkT with ⟨k1, k2, k3⟩ | ⟨o, k1, k2, k3, k4, k5, k6, k7⟩
          · rw [k2]
            refine ⟨fun z => absurd rfl z, fun _ => ?_⟩
            have r0 := k3 0 (by omega)
            have r1 := k3 1 (by omega)
            rw [Nat.add_zero] at r0
            rw [show nI (8 * s + k) * 5 = nI (5 * (8 * s + k)) by rw [show (5 : Int32) = nI 5 from rfl, pk_mul, Nat.mul_comm], show nI (5 * (8 * s + k)) + 1 = nI (5 * (8 * s + k) + 1) from nI_add .., nI_clamp (show 5 * (8 * s + k) < 2 ^ 31 by omega), nI_clamp (show 5 * (8 * s + k) + 1 < 2 ^ 31 by omega), nI_clamp (show dp < 2 ^ 31 by omega), r0.2, r1.2, nI_clamp (show ro (5 * (8 * s + k)) < 2 ^ 31 by omega), nI_clamp (show ro (5 * (8 * s + k) + 1) < 2 ^ 31 by omega), hPGT _ r0.1, hPGT _ r1.1]
            refine ⟨vp_in_nI (by omega) (by omega), vp_in_nI (by omega) (by omega), vp_in_nI (by omega) (by omega), fun v11 e11 => ⟨vp_in_nI (by omega) (by omega), vp_in_nI (by omega) (by omega), vp_in_nI (by omega) (by omega), fun v12 e12 => ?_⟩⟩
            subst e11
            subst e12
            obtain ⟨h', rfl⟩ : ∃ h', h = h' + 1 := ⟨h - 1, by omega⟩
            rw [nI_pred]
            refine k_shift l hyT (h := h' + 1) ⟨by omega, hn⟩ (fun v hv => hpg _ v hv) (fun v hv => hpg _ v hv) oT tT _ (fun U fU tU => ?_)
            refine nxt _ U ?_ (fT.tr ⟨fU.mono (fun _ z => z) lB_tr, fun i hi => (fU.2.1 (44 + i) (by simp [lB]; omega)).1⟩) tU (sh1_ok (by omega) (fun v hv => hpg _ v hv) oT).1
            conv => lhs; unfold perfS
            rw [k1]
          · rw [k6] at hv9
            rw [k5]
            refine ⟨fun _ => ?_, fun z => absurd z (nI_m1 (by omega))⟩
            subst hv9
            by_cases c1 : h ≤ le (8 * s + k)
            · refine ⟨fun _ => ?_, fun z => absurd ((sub_le0 h (by omega) _ (by omega)).mpr c1) z⟩
              have := nxt (0, st') T (by conv => lhs; unfold perfS
                                         rw [k1]
                                         simp only [if_pos c1]) fT (fun _ => tT) oT
              exact this
            · refine ⟨fun z => absurd ((sub_le0 h (by omega) _ (by omega)).mp z) c1, fun _ => ?_⟩
              rw [← nI_succ, hsub (show le (8 * s + k) ≤ h by omega)]
              refine ⟨fun z => absurd z (nI_ge (a := dp + 1) (b := 7) (by omega) (by omega)), fun _ => ?_⟩
              refine k_cast l (by omega) (show 8 * s + k < 64 by omega) k7 hPGT _ (fun T1 f1 pg1 => ⟨vp_in_nI (by omega) (by omega), f, rfl, ?_⟩)
              have f1' : CFr trA trB nn T T1 := f1.mono (fun _ _ => rfl) (fun i hi => by
                simp only [trB, Bool.or_eq_false_iff, Bool.and_eq_false_iff, decide_eq_false_iff_not] at hi
                simp only [decide_eq_false_iff_not]
                omega)
              have e39 : T1.2.1 39 (8 * s + k) = nI o := by rw [(f1.2.1 39 (by simp; omega)).1]; exact k5
              rw [e39]
              refine ih (dp + 1) (by omega) T1 o (h - le (8 * s + k)) _ st' (hyT.fr f1') (hksT.fr f1') k2 (by omega) (by omega) (by omega) (fun j v hv => hpg _ v hv) oT ⟨by rw [f1.1 20 rfl]; exact tT.1, by rw [f1.1 21 rfl]; exact tT.2.1, by rw [f1.1 22 rfl]; exact tT.2.2⟩ pg1 _ (fun U fU tU => ?_)
              refine nxt _ U ?_ ⟨fT.1.tr (f1'.tr fU.1), fun i hi => ?_⟩ tU ?_
              · conv => lhs; unfold perfS
                rw [k1]
                simp only [if_neg c1]
                rfl
              · rw [fU.2 i (by omega), (f1.2.1 (44 + i) (by simp; omega)).1, fT.2 i hi]
              · unfold callR
                by_cases z : st'.1 = 5000
                · rw [if_pos z]; exact oT
                · rw [if_neg z]
                  have := oT.1
                  have := oT.2.1
                  exact (perf_ok (by omega) f o (h - le (8 * s + k)) (fun j => pg (ro (5 * (8 * s + k) + j))) (st'.1 + 1, st'.2) (fun j v hv => hpg _ v hv) ⟨by show st'.1 + 1 ≤ 5000; omega, by show st'.2.1 ≤ st'.1 + 1; omega, oT.2.2⟩).1
      have := hst.2.1
      exact key (w s) 0 (by omega) _ (st.1 + 1, st.2) f0 ⟨rfl, hT.2.1, hT.2.2⟩ ⟨by show st.1 + 1 ≤ 5000; omega, by show st.2.1 ≤ st.1 + 1; omega, hst.2.2⟩ hp
/-- the stand at the start: all on the first role's peg -/
def z0 (n P : Nat) (ν : Nat → Nat) : Nat := numN (fun _ => ν 0) P n
def pg0 (P : Nat) (ν : Nat → Nat) : Nat → Option Nat := fun j => if j < P then some (ν j) else none
theorem k_prep7 (l : Launch) {f : Nat → Int32} {ν : Nat → Nat} (hy : CY S n P kd ct sc) (hf : ∀ k, k < P → f k = nI (ν k) ∧ ν k < P) (post : CS → Prop) (hp : ∀ T, CFr trA trB nn S T → TC T (0, 0, z0 n P ν) → PG T 0 (pg0 P ν) → T.1 2 = S.1 2 → post T) : cX_X7_prepare l S 5 f post := by
  have hP2 := hy.2.2.2.1
  have hn2 := hy.2.2.2.2.1
  refine c_X7_prepare l S 5 f post ?_
  intro B17 B53 h17 h53
  unfold cT_X7_prepare_e
  have e44 : (44 + (0 : Int32).toNatClampNeg) = 44 := rfl
  have e53 : ∀ d k, k + d = n → ∀ T, CFr trA trB nn S T → TC T (0, 0, numN (fun _ => ν 0) P k) → PG T 0 (pg0 P ν) → T.1 2 = S.1 2 → B53 T (nI k) := by
    intro d
    induction d with
    | zero =>
      intro k hk T fT tT pT t2
      have : k = n := by omega
      subst this
      refine h53 _ _ ?_
      unfold cT_X7_prepare_53
      rw [(hy.fr fT).2.1]
      exact ⟨fun _ => hp T fT tT pT t2, fun c => absurd (nI_le (Nat.le_refl _) (by omega)) c⟩
    | succ d ih =>
      intro k hk T fT tT pT t2
      have hyT := hy.fr fT
      have p0 : T.2.1 44 0 = nI (ν 0) := by
        have := pT 0 (by omega)
        unfold pg0 at this
        rw [if_pos (by omega)] at this
        exact this
      refine h53 _ _ ?_
      unfold cT_X7_prepare_53
      rw [hyT.2.1, e44, nI_clamp (show k < 2 ^ 31 by omega), show (0 : Int32).toNatClampNeg = 0 from rfl, p0, hyT.2.2.2.2.2.1 k (by omega), pk_mul, show T.1 22 = nI (numN (fun _ => ν 0) P k) from tT.2.2, nI_add, ← nI_succ]
      refine ⟨fun c => absurd c (nI_ge (by omega) (by omega)), fun _ => ⟨vp_in_nI (n := 0) (by omega) (by omega), vp_in_nI (n := 0) (by omega) (by omega), vp_in_nI (by omega) (by omega), ?_⟩⟩
      exact ih (k + 1) (by omega) _ (fT.cf _ rfl) ⟨tT.1, tT.2.1, rfl⟩ pT t2
  have e17 : ∀ d k, k + d = 5 → ∀ T, CFr trA trB nn S T → TC T (0, 0, 0) → (∀ j, j < k → T.2.1 44 j = lab (pg0 P ν j)) → T.1 2 = S.1 2 → B17 T (nI k) := by
    intro d
    induction d with
    | zero =>
      intro k hk T fT tT pT t2
      have : k = 5 := by omega
      subst this
      refine h17 _ _ ?_
      unfold cT_X7_prepare_17
      exact ⟨fun _ => e53 n 0 (by omega) T fT tT pT t2, fun c => absurd (show (5 : Int32) ≤ nI 5 by decide) c⟩
    | succ d ih =>
      intro k hk T fT tT pT t2
      refine h17 _ _ ?_
      unfold cT_X7_prepare_17
      rw [(hy.fr fT).1, e44, nI_clamp (show k < 2 ^ 31 by omega), ← nI_succ]
      refine ⟨fun c => absurd c (nI_ge (a := k) (b := 5) (by omega) (by omega)), fun _ => ⟨vp_in_nI (n := 0) (by omega) (by omega), fun c => ⟨vp_in_nI (by omega) (by omega), ?_⟩, fun c => ⟨vp_in_nI (by omega) (by omega), vp_in_nI (by omega) (by omega), ?_⟩⟩⟩
      · have c : P ≤ k := (nI_leI (by omega) (by omega)).mp c
        refine ih (k + 1) (by omega) _ (fT.ca _ rfl) tT (fun j hj => ?_) t2
        show upd (T.2.1 44) k (-1) j = _
        by_cases e : j = k
        · subst e; rw [upd_same]; unfold pg0; rw [if_neg (by omega)]; rfl
        · rw [upd_other _ _ e]; exact pT j (by omega)
      · have c : k < P := by
          rcases Nat.lt_or_ge k P with z | z
          · exact z
          · exact absurd (nI_le z (by omega)) c
        rw [(hf k c).1]
        refine ih (k + 1) (by omega) _ (fT.ca _ rfl) tT (fun j hj => ?_) t2
        show upd (T.2.1 44) k (nI (ν k)) j = _
        by_cases e : j = k
        · subst e; rw [upd_same]; unfold pg0; rw [if_pos (by omega)]; rfl
        · rw [upd_other _ _ e]; exact pT j (by omega)
  exact e17 5 0 (by omega) _ (((CFr.rf.cf _ rfl).cf _ rfl).cf _ rfl) ⟨rfl, rfl, rfl⟩ (fun j hj => absurd hj (Nat.not_lt_zero _)) rfl
/-- are the discs below h on the peg a? -/
def allOn (σ : Nat → Nat) (a : Nat) : Nat → Bool
  | 0 => true
  | h + 1 => allOn σ a h && decide (σ h = a)
/-- what tried() tells -/
def tryV (P : Nat) (a h : Nat) (r : Nat × TSt) : Int32 := if r.1 = 0 then (if allOn (dgs P r.2.2.2) a h then nI r.2.2.1 else -3) else cd r.1
theorem allOn_at {σ : Nat → Nat} {a : Nat} : ∀ h, allOn σ a h = true ↔ ∀ j, j < h → σ j = a := by
  intro h
  induction h with
  | zero => exact ⟨fun _ j hj => absurd hj (Nat.not_lt_zero _), fun _ => rfl⟩
  | succ h ih =>
    unfold allOn
    rw [Bool.and_eq_true, ih, decide_eq_true_eq]
    constructor
    · rintro ⟨h1, h2⟩ j hj
      by_cases e : j = h
      · subst e; exact h2
      · exact h1 j (by omega)
    · intro q
      exact ⟨fun j hj => q j (by omega), q h (by omega)⟩
theorem k_run (l : Launch) {ν : Nat → Nat} (hy : CY S n P kd ct sc) (hks : KS S q w of le ro) {s h : Nat} (hs : s < q) (h1 : 1 ≤ h) (hn : h ≤ n) (hν : ∀ k, k < P → ν k < P) (hT : TC S (0, 0, z0 n P ν)) (hPG : PG S 0 (pg0 P ν)) (post : Int32 → CS → Prop) (hp : ∀ T, CFr trA trB nn S T → post (tryV P (ν 1) h (perf n P kd ct sc w of le ro 7 s h (pg0 P ν) (1, 0, z0 n P ν))) T) : cX_X7_run l S (nI s) (nI h) post := by
  have hP2 := hy.2.2.2.1
  have hn2 := hy.2.2.2.2.1
  have hzz : z0 n P ν < P ^ n := numN_lt n (fun j _ => hν 0 (by omega))
  have hpg : pOK P (pg0 P ν) := fun j v hv => by
    unfold pg0 at hv
    split at hv
    · cases hv; exact hν j (by assumption)
    · cases hv
  refine c_X7_run l S _ _ post ?_
  intro B29 B49 h29 h49
  unfold cT_X7_run_e
  have hok := perf_ok (n := n) (P := P) (kd := kd) (ct := ct) (sg := sc) (w := w) (of := of) (le := le) (ro := ro) (by omega) 7 s h (pg0 P ν) (1, 0, z0 n P ν) hpg ⟨by show 1 ≤ 5000; omega, by show 0 ≤ 1; omega, hzz⟩
  have er : callR (perf n P kd ct sc w of le ro 7) s h (pg0 P ν) (0, 0, z0 n P ν) = perf n P kd ct sc w of le ro 7 s h (pg0 P ν) (1, 0, z0 n P ν) := rfl
  refine k_perform l 7 0 (by omega) S s h (pg0 P ν) (0, 0, z0 n P ν) hy hks hs h1 (by omega) hn hpg ⟨by show 0 ≤ 5000; omega, by show 0 ≤ 0; omega, hzz⟩ hT hPG _ (fun T fT tT => ?_)
  rw [er] at tT ⊢
  generalize perf n P kd ct sc w of le ro 7 s h (pg0 P ν) (1, 0, z0 n P ν) = r at *
  have fin : ∀ U, CFr trA trB nn T U → (r.1 = 0 → TC U r.2) → U.2.1 44 = T.2.1 44 → B29 U (cd r.1) := by
    intro U fU tU u44
    refine h29 _ _ ?_
    unfold cT_X7_run_29
    refine ⟨fun c => ?_, fun c => ?_⟩
    · have c := cd_0.mp c
      have tU := tU c
      have hyU : CY U n P kd ct sc := hy.fr (fT.1.tr fU)
      rw [tU.2.2]
      refine k_read l hyU hok.1.2.2 _ (fun V fV hV => ?_)
      have v44 : V.2.1 44 1 = nI (ν 1) := by
        rw [(fV.2.1 44 rfl).1, u44, fT.2 0 (Nat.le_refl _)]
        have := hPG 1 (by omega)
        unfold pg0 at this
        rw [if_pos (by omega)] at this
        exact this
      have v21 : V.1 21 = nI r.2.2.1 := by rw [fV.1 21 rfl]; exact tU.2.1
      have hpV : post (if allOn (dgs P r.2.2.2) (ν 1) h then nI r.2.2.1 else -3) V := by
        have := hp V ((fT.1.tr fU).tr (fV.mono lA_tr lB_tr))
        unfold tryV at this
        rw [if_pos c] at this
        exact this
      have key : ∀ d k, k + d = h → (∀ j, j < k → dgs P r.2.2.2 j = ν 1) → B49 V (nI k) := by
        intro d
        induction d with
        | zero =>
          intro k hk hall
          have : k = h := by omega
          subst this
          refine h49 _ _ ?_
          unfold cT_X7_run_49
          rw [v21]
          rw [(allOn_at k).mpr hall] at hpV
          exact ⟨fun _ => hpV, fun c => absurd (nI_le (Nat.le_refl _) (by omega)) c⟩
        | succ d ih =>
          intro k hk hall
          have d1 : dgs P r.2.2.2 k < P := dgs_lt (by omega) _ _
          have d2 := hν 1 (by omega)
          refine h49 _ _ ?_
          unfold cT_X7_run_49
          rw [nI_clamp (show k < 2 ^ 31 by omega), hV.1 k (Nat.zero_le _) (by omega), show (44 + (0 : Int32).toNatClampNeg) = 44 from rfl, show (1 : Int32).toNatClampNeg = 1 from rfl, v44, ← nI_succ]
          refine ⟨fun c => absurd c (nI_ge (by omega) (by omega)), fun _ => ⟨vp_in_nI (by omega) (by omega), vp_in_nI (n := 0) (by omega) (by omega), vp_in_nI (n := 1) (by omega) (by omega), fun c => ?_, fun c => ?_⟩⟩
          · have c : dgs P r.2.2.2 k = ν 1 := (nI_eq (by omega) (by omega)).mp c
            refine ih (k + 1) (by omega) (fun j hj => ?_)
            by_cases e : j = k
            · subst e; exact c
            · exact hall j (by omega)
          · have c : dgs P r.2.2.2 k ≠ ν 1 := fun z => c (by rw [z])
            have hno : allOn (dgs P r.2.2.2) (ν 1) h = false := by
              cases e : allOn (dgs P r.2.2.2) (ν 1) h with
              | false => rfl
              | true => exact absurd ((allOn_at h).mp e k (by omega)) c
            rw [hno] at hpV
            exact hpV
      exact key h 0 (by omega) (fun j hj => absurd hj (Nat.not_lt_zero _))
    · have c : r.1 ≠ 0 := fun z => c (cd_0.mpr z)
      have := hp U (fT.1.tr fU)
      unfold tryV at this
      rw [if_neg c] at this
      exact this
  refine ⟨fun c => fin T CFr.rf tT rfl, fun c => fin _ (CFr.rf.cf _ rfl) (fun z => ?_) rfl⟩
  rw [z] at c
  exact absurd c (by decide)
end ClsP
