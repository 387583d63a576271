-- the reference's performance
def tmA : Nat → Bool := fun k => decide (k = 10)
def tmB : Nat → Bool := fun k => decide (k = 8) || (decide (34 ≤ k) && decide (k ≤ 37))
theorem MY.frx {a b : Nat → Bool} {S T : MS} {n P : Nat} {kd ct sg : Nat → Nat} (h : MY S n P kd ct sg) (f : MFx a b S T) (h0 : a 0 = false := by rfl) (h1 : a 1 = false := by rfl) (r1 : b 1 = false := by rfl) (r4 : b 4 = false := by rfl) (r5 : b 5 = false := by rfl) : MY T n P kd ct sg := by
  unfold MY
  rw [f.1 0 h0, f.1 1 h1, f.2 1 r1, f.2 4 r4, f.2 5 r5]
  exact h
abbrev KM (S : MS) (q : Nat) (w : Nat → Nat) (of : Nat → Option Nat) (le ro : Nat → Nat) : Prop := KSc q w of le ro (S.1 9) (S.2.1 29) (S.2.1 30) (S.2.1 31) (S.2.1 32)
def FRm (T : MS) (i s h k : Nat) (pg : Nat → Option Nat) : Prop := T.2.1 34 i = nI s ∧ T.2.1 35 i = nI h ∧ T.2.1 36 i = nI k ∧ ∀ j, j < 5 → T.2.1 37 (5 * i + j) = lab (pg j)
def MB (dp : Nat) (S T : MS) : Prop := MFx tmA tmB S T ∧ (∀ i, i < dp → T.2.1 34 i = S.2.1 34 i ∧ T.2.1 35 i = S.2.1 35 i ∧ T.2.1 36 i = S.2.1 36 i) ∧ ∀ j, j < 5 * dp → T.2.1 37 j = S.2.1 37 j
section MdlP
variable {n P : Nat} {kd ct sg : Nat → Nat} {q : Nat} {w : Nat → Nat} {of : Nat → Option Nat} {le ro : Nat → Nat}
theorem KM.fr {S T : MS} (h : KM S q w of le ro) (f : MFx tmA tmB S T) : KM T q w of le ro := by
  unfold KM
  rw [f.1 9 rfl, f.2 29 rfl, f.2 30 rfl, f.2 31 rfl, f.2 32 rfl]
  exact h
theorem MB.tr {dp : Nat} {S T U : MS} (h1 : MB dp S T) (h2 : MB dp T U) : MB dp S U := ⟨h1.1.tr h2.1, fun i hi => ⟨(h2.2.1 i hi).1.trans (h1.2.1 i hi).1, (h2.2.1 i hi).2.1.trans (h1.2.1 i hi).2.1, (h2.2.1 i hi).2.2.trans (h1.2.1 i hi).2.2⟩, fun j hj => (h2.2.2 j hj).trans (h1.2.2 j hj)⟩
theorem MB.mono {dp dq : Nat} {S T : MS} (h : MB dq S T) (hd : dp ≤ dq) : MB dp S T := ⟨h.1, fun i hi => h.2.1 i (by omega), fun j hj => h.2.2 j (by omega)⟩
theorem MB.frm {dp i s h k : Nat} {S T : MS} {pg : Nat → Option Nat} (hm : MB dp S T) (hi : i < dp) (hf : FRm S i s h k pg) : FRm T i s h k pg := by
  obtain ⟨a1, a2, a3⟩ := hm.2.1 i hi
  exact ⟨a1.trans hf.1, a2.trans hf.2.1, a3.trans hf.2.2.1, fun j hj => (hm.2.2 _ (by omega)).trans (hf.2.2.2 j hj)⟩
/-- the move of one disc -/
theorem U8.mv {T : MS} {z a c h : Nat} (hP : 2 ≤ P ∧ P ≤ 5) (hn : n ≤ 7) (hU : U8 T n P z) (hc : c < P) (hh : 1 ≤ h ∧ h ≤ n) (e1 : topN (dgs P z) a n = h - 1) (e2 : pkE kd (dgs P z) n (h - 1) = h - 1) : U8 (ma T 8 (upd (T.2.1 8) (h - 1) (nI c))) n P (packN (movN n kd (dgs P z) a c) P n 0) := by
  obtain ⟨σ, h1, h2⟩ := hU
  have hmv : ∀ k, k < n → movN n kd (dgs P z) a c k < P := fun k _ => by
    unfold movN
    split
    · exact hc
    · exact dgs_lt (by omega) _ _
  refine ⟨va_up σ (h - 1) c, fun j hj => ?_, fun j hj => ?_⟩
  · show upd (T.2.1 8) (h - 1) (nI c) j = _ ∧ _
    by_cases e : j = h - 1
    · rw [e, upd_same, va_up_same]; exact ⟨rfl, by omega⟩
    · rw [upd_other _ _ e, va_up_other _ _ e]; exact h1 j hj
  · rw [packN0, dgs_num (by omega) n hmv j hj]
    unfold movN
    rw [e1, e2]
    by_cases e : j = h - 1
    · rw [e, va_up_same, if_pos ⟨Nat.le_refl _, Nat.le_refl _⟩]
    · rw [va_up_other _ _ e, if_neg (by omega)]
      exact h2 j hj
theorem m_perf (l : Launch) {a1 a2 a3 a4 a5 a6 a7 : Int32} {post : Int32 → MS → Prop} {B42 : MS → Prop} {B61 : MS → Int32 → Prop} {B121 : MS → Int32 → Int32 → Prop} {B169 : MS → Int32 → Int32 → Int32 → Int32 → Prop} {B274 B341 : MS → Int32 → Int32 → Int32 → Int32 → Int32 → Int32 → Int32 → Prop} {B504 : MS → Int32 → Int32 → Int32 → Int32 → Int32 → Int32 → Prop} {B541 : MS → Int32 → Int32 → Int32 → Prop} {x8 : Int32}
    (h169 : ∀ (S : MS) (x8 x9 x10 x11 : Int32), mT_tried_169 l a1 a2 a3 a4 a5 a6 a7 post B42 B61 B121 B169 B274 B341 B504 B541 S x8 x9 x10 x11 → B169 S x8 x9 x10 x11)
    (h274 : ∀ (S : MS) (x8 x9 x10 x11 x12 x13 x14 : Int32), mT_tried_274 l a1 a2 a3 a4 a5 a6 a7 post B42 B61 B121 B169 B274 B341 B504 B541 S x8 x9 x10 x11 x12 x13 x14 → B274 S x8 x9 x10 x11 x12 x13 x14)
    (h341 : ∀ (S : MS) (x8 x9 x10 x11 x12 x13 x15 : Int32), mT_tried_341 l a1 a2 a3 a4 a5 a6 a7 post B42 B61 B121 B169 B274 B341 B504 B541 S x8 x9 x10 x11 x12 x13 x15 → B341 S x8 x9 x10 x11 x12 x13 x15)
    (h504 : ∀ (S : MS) (x8 x9 x10 x11 x14 x16 : Int32), mT_tried_504 l a1 a2 a3 a4 a5 a6 a7 post B42 B61 B121 B169 B274 B341 B504 B541 S x8 x9 x10 x11 x14 x16 → B504 S x8 x9 x10 x11 x14 x16) :
    ∀ f dp, dp + (f + 1) = 7 → ∀ s h pg, s < q → 1 ≤ h → h ≤ f + 1 → h ≤ n → pOK P pg → ∀ m k, k + m = w s → ∀ (T : MS) (st : TSt), MY T n P kd ct sg → KM T q w of le ro → FRm T dp s h k pg → U8 T n P st.2.2 → tOK n P st →
    ((perfS n P kd ct sg of le ro (perf n P kd ct sg w of le ro f) h s pg m k st).1 = 0 → ∀ T', MB dp T T' → U8 T' n P (perfS n P kd ct sg of le ro (perf n P kd ct sg w of le ro f) h s pg m k st).2.2.2 → B169 T' x8 (nI dp) (nI (perfS n P kd ct sg of le ro (perf n P kd ct sg w of le ro f) h s pg m k st).2.1) (nI (perfS n P kd ct sg of le ro (perf n P kd ct sg w of le ro f) h s pg m k st).2.2.1)) →
    ((perfS n P kd ct sg of le ro (perf n P kd ct sg w of le ro f) h s pg m k st).1 ≠ 0 → ∀ T', MFx tmA tmB T T' → (∃ τ, MA T' 8 τ) → post (cd (perfS n P kd ct sg of le ro (perf n P kd ct sg w of le ro f) h s pg m k st).1) T') →
    B169 T x8 (nI (dp + 1)) (nI st.1) (nI st.2.1) := by
  intro f
  induction f using Nat.strongRecOn with
  | _ f ih =>
    intro dp hdp s h pg hs h1 hf hn hpg m
    induction m with
    | zero =>
      intro k hk T st hy hkm hfr hU hst cont err
      have hws := hkm.2.2.1 s hs
      have hq := hkm.1
      have hP2 := hy.2.2.1
      refine h169 _ _ _ _ _ ?_
      unfold mT_tried_169
      refine ⟨fun c => absurd ((nI_leI (b := 0) (by omega) (by omega)).mp c) (by omega), fun _ v hv => ?_⟩
      rw [nI_pred] at hv
      subst hv
      rw [nI_clamp (show dp < 2 ^ 31 by omega), hfr.1, hfr.2.2.1, nI_clamp (show s < 2 ^ 31 by omega), hws.2, show k = w s by omega]
      refine ⟨vp_in_nI (by omega) (by omega), vp_in_nI (by omega) (by omega), vp_in_nI (by omega) (by omega), fun c => absurd rfl c, fun _ => ?_⟩
      rw [i_sub1, nI_pred]
      exact cont rfl T ⟨MFx.rf, fun _ _ => ⟨rfl, rfl, rfl⟩, fun _ _ => rfl⟩ hU
    | succ m ihm =>
      intro k hk T st hy hkm hfr hU hst cont err
      have hws := hkm.2.2.1 s hs
      have hq := hkm.1
      have hP2 := hy.2.2.1
      have hn2 := hy.2.2.2.1
      have hb5 := hst.1
      have hd5 := hst.2.1
      have hkst := hkm.2.2.2 s k hs (by omega)
      obtain ⟨g1, g2, g3, g4⟩ := id hfr
      -- the step is counted
      have m0 : MB dp T (ma T 36 (upd (T.2.1 36) dp (nI (k + 1)))) := ⟨MFx.rf.row _ rfl, fun i hi => ⟨rfl, rfl, upd_other _ _ (by omega)⟩, fun _ _ => rfl⟩
      have fr0 : FRm (ma T 36 (upd (T.2.1 36) dp (nI (k + 1)))) dp s h (k + 1) pg := ⟨g1, g2, upd_same _ _ _, g4⟩
      have u0 : U8 (ma T 36 (upd (T.2.1 36) dp (nI (k + 1)))) n P st.2.2 := hU
      generalize eT1 : ma T 36 (upd (T.2.1 36) dp (nI (k + 1))) = T1 at *
      have hy1 : MY T1 n P kd ct sg := hy.frx m0.1
      have hk1 : KM T1 q w of le ro := hkm.fr m0.1
      have nxt : ∀ (r : Nat × TSt) (T2 : MS), perfS n P kd ct sg of le ro (perf n P kd ct sg w of le ro f) h s pg (m + 1) k st = (if r.1 = 0 then perfS n P kd ct sg of le ro (perf n P kd ct sg w of le ro f) h s pg m (k + 1) r.2 else r) → r.1 = 0 → MB dp T T2 → FRm T2 dp s h (k + 1) pg → U8 T2 n P r.2.2.2 → tOK n P r.2 → B169 T2 x8 (nI (dp + 1)) (nI r.2.1) (nI r.2.2.1) := by
        intro r T2 hr r0 m2 f2 u2 o2
        rw [hr, if_pos r0] at cont err
        refine ihm (k + 1) (by omega) T2 r.2 (hy.frx m2.1) (hkm.fr m2.1) f2 u2 o2 (fun z T' m' u' => cont z T' (m2.tr m') u') (fun z T' m' u' => err z T' (m2.1.tr m') u')
      have bad : ∀ (r : Nat × TSt) (T2 : MS), perfS n P kd ct sg of le ro (perf n P kd ct sg w of le ro f) h s pg (m + 1) k st = (if r.1 = 0 then perfS n P kd ct sg of le ro (perf n P kd ct sg w of le ro f) h s pg m (k + 1) r.2 else r) → r.1 ≠ 0 → MFx tmA tmB T T2 → (∃ τ, MA T2 8 τ) → post (cd r.1) T2 := by
        intro r T2 hr r0 m2 u2
        rw [hr, if_neg r0] at err
        exact err r0 T2 m2 u2
      refine h169 _ _ _ _ _ ?_
      unfold mT_tried_169
      refine ⟨fun c => absurd ((nI_leI (b := 0) (by omega) (by omega)).mp c) (by omega), fun _ v hv => ?_⟩
      rw [nI_pred] at hv
      subst hv
      rw [nI_clamp (show dp < 2 ^ 31 by omega), g1, g3, g2, nI_clamp (show s < 2 ^ 31 by omega), hws.2, ← nI_succ, eT1]
      refine ⟨vp_in_nI (by omega) (by omega), vp_in_nI (by omega) (by omega), vp_in_nI (by omega) (by omega), fun _ => ⟨vp_in_nI (by omega) (by omega), vp_in_nI (by omega) (by omega), fun v13 hv13 => ⟨vp_in_nI (by omega) (by omega), vp_in_nI (by omega) (by omega), vp_in_nI (by omega) (by omega), fun v14 hv14 => ?_⟩⟩, fun c => absurd ((nI_eq (by omega) (by omega)).mp c) (by omega)⟩
      rw [i8] at hv13
      subst hv13
      subst hv14
      rw [nI_clamp (show 8 * s + k < 2 ^ 31 by omega)]
      refine ⟨vp_in_nI (by omega) (by omega), ?_⟩
      rcases hkst with ⟨k1, k2, k3⟩ | ⟨o, k1, k2, k3, k4, k5, k6, k7⟩
      · -- a single one
        rw [k2]
        refine ⟨fun _ => ?_, fun c => absurd rfl c⟩
        have hr : perfS n P kd ct sg of le ro (perf n P kd ct sg w of le ro f) h s pg (m + 1) k st = (if (sh1 n P kd ct sg h (pg (ro (5 * (8 * s + k)))) (pg (ro (5 * (8 * s + k) + 1))) st).1 = 0 then perfS n P kd ct sg of le ro (perf n P kd ct sg w of le ro f) h s pg m (k + 1) (sh1 n P kd ct sg h (pg (ro (5 * (8 * s + k)))) (pg (ro (5 * (8 * s + k) + 1))) st).2 else sh1 n P kd ct sg h (pg (ro (5 * (8 * s + k)))) (pg (ro (5 * (8 * s + k) + 1))) st) := by
          conv => lhs; unfold perfS
          rw [k1]
        have hok := sh1_ok (kd := kd) (ct := ct) (sg := sg) (h := h) (f := pg (ro (5 * (8 * s + k)))) (t := pg (ro (5 * (8 * s + k) + 1))) (by omega) (fun v hv => hpg _ v hv) hst
        have r0 := k3 0 (by omega)
        have r1 := k3 1 (by omega)
        rw [Nat.add_zero (5 * (8 * s + k))] at r0
        have e32 : T1.2.1 32 = T.2.1 32 := m0.1.2 32 rfl
        have e30 : T1.2.1 30 = T.2.1 30 := m0.1.2 30 rfl
        have p0 := fr0.2.2.2 _ r0.1
        have p1 := fr0.2.2.2 _ r1.1
        refine h274 _ _ _ _ _ _ _ _ ?_
        unfold mT_tried_274
        rw [nI_clamp (show 8 * s + k < 2 ^ 31 by omega), e30, k2, i5, show nI (5 * (8 * s + k)) + 1 = nI (5 * (8 * s + k) + 1) from nI_add .., nI_clamp (show 5 * (8 * s + k) < 2 ^ 31 by omega), nI_clamp (show 5 * (8 * s + k) + 1 < 2 ^ 31 by omega), e32, r0.2, r1.2, i5, nI_add, nI_add, nI_clamp (show 5 * dp + ro (5 * (8 * s + k)) < 2 ^ 31 by omega), nI_clamp (show 5 * dp + ro (5 * (8 * s + k) + 1) < 2 ^ 31 by omega), p0, p1]
        by_cases e5 : st.1 = 5000
        · have es : sh1 n P kd ct sg h (pg (ro (5 * (8 * s + k)))) (pg (ro (5 * (8 * s + k) + 1))) st = (4, st) := by unfold sh1; rw [if_pos e5]
          refine ⟨fun c => absurd (by rw [e5]; rfl) c, fun _ => ?_⟩
          have := bad _ T1 hr (by rw [es]; exact (by decide : (4 : Nat) ≠ 0)) m0.1 u0.at
          rw [es] at this
          exact this
        · refine ⟨fun _ => ⟨vp_in_nI (by omega) (by omega), fun _ => ⟨vp_in_nI (by omega) (by omega), vp_in_nI (by omega) (by omega), fun v15 e15 => ⟨vp_in_nI (by omega) (by omega), vp_in_nI (by omega) (by omega), fun v16 e16 => ?_⟩⟩, fun c => absurd rfl c⟩, fun c => absurd ((nI_is 5000 rfl (by omega) (by omega)).mp c) e5⟩
          subst e15
          subst e16
          have no : (sh1 n P kd ct sg h (pg (ro (5 * (8 * s + k)))) (pg (ro (5 * (8 * s + k) + 1))) st).1 = 2 → ∀ x9 x10 x16, B504 T1 x8 x9 x10 (nI st.2.1) (nI h) x16 := by
            intro z x9 x10 x16
            refine h504 _ _ _ _ _ _ _ ?_
            unfold mT_tried_504
            refine ⟨fun c => absurd rfl c, fun _ => ?_⟩
            have := bad _ (mf T1 10 (nI st.2.1)) hr (by rw [z]; decide) (m0.1.sc _ rfl) u0.at
            rw [z] at this
            exact this
          cases ef : pg (ro (5 * (8 * s + k))) with
          | none =>
            rw [ef] at no
            exact ⟨fun _ => no (by unfold sh1; rw [if_neg e5]) _ _ _, fun c => absurd rfl c⟩
          | some a =>
            have ha := hpg _ a ef
            refine ⟨fun c => absurd c (nI_m1 (by omega)), fun _ => ?_⟩
            cases et : pg (ro (5 * (8 * s + k) + 1)) with
            | none =>
              rw [ef, et] at no
              exact ⟨fun _ => no (by unfold sh1; rw [if_neg e5]) _ _ _, fun c => absurd rfl c⟩
            | some c =>
              have hc := hpg _ c et
              refine ⟨fun z => absurd z (nI_m1 (by omega)), fun _ => ?_⟩
              rw [ef, et] at no hr hok
              have no2 : ¬ (topN (dgs P st.2.2) a n = h - 1 ∧ pkE kd (dgs P st.2.2) n (h - 1) = h - 1 ∧ whyN n kd ct sg (dgs P st.2.2) a c = 0) → ∀ x9 x10 x16, B504 T1 x8 x9 x10 (nI st.2.1) (nI h) x16 := by
                intro z
                exact no (by unfold sh1; rw [if_neg e5]; simp only; rw [if_neg z])
              obtain ⟨σ, hσ, hσ2⟩ := id u0
              obtain ⟨h', rfl⟩ : ∃ h', h = h' + 1 := ⟨h - 1, by omega⟩
              show mX_top l T1 8 (nI a) _
              refine s_topN l T1 8 a (by unfold m7; decide) _ hy1.2.1 hn2.2 hσ (by omega) ?_
              rw [nI_pred]
              have etop : topN σ a n = topN (dgs P st.2.2) a n := topN_congr hσ2
              refine ⟨fun z => no2 (fun z2 => z ?_) _ _ _, fun z => ?_⟩
              · unfold topV
                rw [etop, z2.1, if_pos (by omega)]
                rfl
              · have ht : topN (dgs P st.2.2) a n = h' := by
                  unfold topV at z
                  rw [etop] at z
                  split at z
                  · exact (nI_eq (by omega) (by omega)).mp z
                  · exact absurd z.symm (nI_m1 (by omega))
                refine s_packOf l T1 8 h' (by unfold m7; decide) _ hy1 hσ (by omega) ?_
                have epk : pkE kd σ n h' = pkE kd (dgs P st.2.2) n h' := pkE_congr hσ2 (by omega)
                have hpk := pkE_lt (kd := kd) (σ := σ) (show h' < n by omega)
                refine ⟨fun z => no2 (fun z2 => z ?_) _ _ _, fun z => ?_⟩
                · rw [epk]
                  exact congrArg nI z2.2.1
                · have hp1 : pkE kd (dgs P st.2.2) n h' = h' := by
                    rw [← epk]
                    exact (nI_eq (by omega) (by omega)).mp z
                  refine s_whyOf l T1 8 a c (by unfold m7; decide) _ hy1 hσ (by omega) (by omega) ?_
                  have ew : whyN n kd ct sg σ a c = whyN n kd ct sg (dgs P st.2.2) a c := whyN_congr hσ2
                  have hw5 : whyN n kd ct sg σ a c ≤ 5 := by
                    unfold whyN
                    repeat' split
                    all_goals omega
                  refine ⟨fun z => no2 (fun z2 => z ?_) _ _ _, fun z => ⟨fun _ => ⟨vp_in_nI (by omega) (by omega), ?_⟩, fun z => absurd z (by decide)⟩⟩
                  · rw [ew, z2.2.2]; rfl
                  · have hw0 : whyN n kd ct sg (dgs P st.2.2) a c = 0 := by
                      rw [← ew]
                      exact (nI_is 0 rfl (by omega) (by omega)).mp z
                    have es : sh1 n P kd ct sg (h' + 1) (some a) (some c) st = (0, st.1 + 1, st.2.1 + 1, packN (movN n kd (dgs P st.2.2) a c) P n 0) := by
                      unfold sh1
                      rw [if_neg e5]
                      simp only
                      rw [if_pos ⟨ht, hp1, hw0⟩]
                    rw [es] at hr hok
                    rw [nI_clamp (show h' < 2 ^ 31 by omega), ← nI_succ, ← nI_succ]
                    have uv := U8.mv (kd := kd) (a := a) hP2 hn2.2 u0 hc ⟨h1, hn⟩ ht hp1
                    exact nxt _ (ma T1 8 (upd (T1.2.1 8) h' (nI c))) hr rfl ⟨m0.1.row _ rfl, m0.2.1, m0.2.2⟩ fr0 uv hok.1
      · -- a call
        rw [k5]
        refine ⟨fun c => absurd c (nI_m1 (by omega)), fun _ => ⟨vp_in_nI (by omega) (by omega), ?_⟩⟩
        rw [k6]
        by_cases c1 : h ≤ le (8 * s + k)
        · refine ⟨fun c => absurd c (nI_nlt c1 (by omega)), fun _ => ?_⟩
          refine nxt (0, st) T1 ?_ rfl m0 fr0 u0 hst
          conv => lhs; unfold perfS
          rw [k1]
          simp only [if_pos c1]
        · refine ⟨fun _ => ?_, fun c => absurd (nI_lt (by omega) (by omega)) c⟩
          have hr : perfS n P kd ct sg of le ro (perf n P kd ct sg w of le ro f) h s pg (m + 1) k st = (if (callR (perf n P kd ct sg w of le ro f) o (h - le (8 * s + k)) (fun j => pg (ro (5 * (8 * s + k) + j))) st).1 = 0 then perfS n P kd ct sg of le ro (perf n P kd ct sg w of le ro f) h s pg m (k + 1) (callR (perf n P kd ct sg w of le ro f) o (h - le (8 * s + k)) (fun j => pg (ro (5 * (8 * s + k) + j))) st).2 else callR (perf n P kd ct sg w of le ro f) o (h - le (8 * s + k)) (fun j => pg (ro (5 * (8 * s + k) + j))) st) := by
            conv => lhs; unfold perfS
            rw [k1]
            simp only [if_neg c1]
            rfl
          have e32 : T1.2.1 32 = T.2.1 32 := m0.1.2 32 rfl
          have e30 : T1.2.1 30 = T.2.1 30 := m0.1.2 30 rfl
          have e31 : T1.2.1 31 = T.2.1 31 := m0.1.2 31 rfl
          refine h274 _ _ _ _ _ _ _ _ ?_
          unfold mT_tried_274
          rw [nI_clamp (show 8 * s + k < 2 ^ 31 by omega), e30, k5, e31, k6]
          by_cases e5 : st.1 = 5000
          · have es : callR (perf n P kd ct sg w of le ro f) o (h - le (8 * s + k)) (fun j => pg (ro (5 * (8 * s + k) + j))) st = (4, st) := by unfold callR; rw [if_pos e5]
            refine ⟨fun c => absurd (by rw [e5]; rfl) c, fun _ => ?_⟩
            have := bad _ T1 hr (by rw [es]; exact (by decide : (4 : Nat) ≠ 0)) m0.1 u0.at
            rw [es] at this
            exact this
          · obtain ⟨f', rfl⟩ : ∃ f', f = f' + 1 := ⟨f - 1, by omega⟩
            have es : callR (perf n P kd ct sg w of le ro (f' + 1)) o (h - le (8 * s + k)) (fun j => pg (ro (5 * (8 * s + k) + j))) st = perfS n P kd ct sg of le ro (perf n P kd ct sg w of le ro f') (h - le (8 * s + k)) o (fun j => pg (ro (5 * (8 * s + k) + j))) (w o) 0 (st.1 + 1, st.2) := by unfold callR; rw [if_neg e5]; rfl
            have ho2 := hkm.2.2.1 o k2
            have hok2 : tOK n P (callR (perf n P kd ct sg w of le ro (f' + 1)) o (h - le (8 * s + k)) (fun j => pg (ro (5 * (8 * s + k) + j))) st).2 := by
              unfold callR
              rw [if_neg e5]
              exact (perf_ok (by omega) (f' + 1) o (h - le (8 * s + k)) (fun j => pg (ro (5 * (8 * s + k) + j))) (st.1 + 1, st.2) (fun j v hv => hpg _ v hv) ⟨by show st.1 + 1 ≤ 5000; omega, by show st.2.1 ≤ st.1 + 1; omega, hst.2.2⟩).1
            refine ⟨fun _ => ⟨vp_in_nI (by omega) (by omega), fun c => absurd c (nI_m1 (by omega)), fun _ => ⟨vp_in_nI (by omega) (by omega), vp_in_nI (by omega) (by omega), vp_in_nI (by omega) (by omega), vp_in_nI (by omega) (by omega), vp_in_nI (by omega) (by omega), ?_⟩⟩, fun c => absurd ((nI_is 5000 rfl (by omega) (by omega)).mp c) e5⟩
            rw [nI_clamp (show dp + 1 < 2 ^ 31 by omega), hsub (show le (8 * s + k) ≤ h by omega)]
            have m1 : MB (dp + 1) T1 (ma (ma (ma T1 34 (upd (T1.2.1 34) (dp + 1) (nI o))) 35 (upd (T1.2.1 35) (dp + 1) (nI (h - le (8 * s + k))))) 36 (upd (T1.2.1 36) (dp + 1) 0)) := ⟨((MFx.rf.row _ rfl).row _ rfl).row _ rfl, fun i hi => ⟨upd_other _ _ (by omega), upd_other _ _ (by omega), upd_other _ _ (by omega)⟩, fun _ _ => rfl⟩
            have u1 : U8 (ma (ma (ma T1 34 (upd (T1.2.1 34) (dp + 1) (nI o))) 35 (upd (T1.2.1 35) (dp + 1) (nI (h - le (8 * s + k))))) 36 (upd (T1.2.1 36) (dp + 1) 0)) n P st.2.2 := u0
            have w34 : (ma (ma (ma T1 34 (upd (T1.2.1 34) (dp + 1) (nI o))) 35 (upd (T1.2.1 35) (dp + 1) (nI (h - le (8 * s + k))))) 36 (upd (T1.2.1 36) (dp + 1) 0)).2.1 34 (dp + 1) = nI o := upd_same _ _ _
            have w35 : (ma (ma (ma T1 34 (upd (T1.2.1 34) (dp + 1) (nI o))) 35 (upd (T1.2.1 35) (dp + 1) (nI (h - le (8 * s + k))))) 36 (upd (T1.2.1 36) (dp + 1) 0)).2.1 35 (dp + 1) = nI (h - le (8 * s + k)) := upd_same _ _ _
            have w36 : (ma (ma (ma T1 34 (upd (T1.2.1 34) (dp + 1) (nI o))) 35 (upd (T1.2.1 35) (dp + 1) (nI (h - le (8 * s + k))))) 36 (upd (T1.2.1 36) (dp + 1) 0)).2.1 36 (dp + 1) = nI 0 := upd_same _ _ _
            generalize ma (ma (ma T1 34 (upd (T1.2.1 34) (dp + 1) (nI o))) 35 (upd (T1.2.1 35) (dp + 1) (nI (h - le (8 * s + k))))) 36 (upd (T1.2.1 36) (dp + 1) 0) = T2 at *
            have loop : ∀ d j, j + d = 5 → ∀ T3, MB (dp + 1) T2 T3 → U8 T3 n P st.2.2 → T3.2.1 34 = T2.2.1 34 → T3.2.1 35 = T2.2.1 35 → T3.2.1 36 = T2.2.1 36 → (∀ i, i < j → T3.2.1 37 (5 * (dp + 1) + i) = lab (pg (ro (5 * (8 * s + k) + i)))) → B341 T3 x8 (nI (dp + 1)) (nI st.1 + 1) (nI st.2.1) (nI dp) (nI (8 * s + k)) (nI j) := by
              intro d
              induction d with
              | zero =>
                intro j hj T3 m3 u3 q34 q35 q36 q37
                have : j = 5 := by omega
                subst this
                refine h341 _ _ _ _ _ _ _ _ ?_
                unfold mT_tried_341
                refine ⟨fun _ => ?_, fun c => absurd (show (5 : Int32) ≤ nI 5 by decide) c⟩
                rw [← nI_succ, ← nI_succ]
                have m13 : MB (dp + 1) T1 T3 := m1.tr m3
                have m03 : MB dp T T3 := m0.tr (m13.mono (by omega))
                refine ih f' (by omega) (dp + 1) (by omega) o (h - le (8 * s + k)) (fun j => pg (ro (5 * (8 * s + k) + j))) k2 (by omega) (by omega) (by omega) (fun j v hv => hpg _ v hv) (w o) 0 (by omega) T3 (st.1 + 1, st.2) (hy.frx m03.1) (hkm.fr m03.1) ⟨by rw [q34]; exact w34, by rw [q35]; exact w35, by rw [q36]; exact w36, q37⟩ u3 ⟨by show st.1 + 1 ≤ 5000; omega, by show st.2.1 ≤ st.1 + 1; omega, hst.2.2⟩ ?_ ?_
                · rw [← es]
                  intro z T' m' u'
                  exact nxt _ T' hr z (m03.tr (m'.mono (by omega))) ((m13.tr m').frm (by omega) fr0) u' hok2
                · rw [← es]
                  intro z T' m' u'
                  exact bad _ T' hr z (m03.1.tr m') u'
              | succ d ihd =>
                intro j hj T3 m3 u3 q34 q35 q36 q37
                have m13 : MB (dp + 1) T1 T3 := m1.tr m3
                have r := k7 j (by omega)
                have e32' : T3.2.1 32 = T.2.1 32 := by rw [m13.1.2 32 rfl]; exact e32
                have p := (m13.frm (by omega) fr0).2.2.2 _ r.1
                refine h341 _ _ _ _ _ _ _ _ ?_
                unfold mT_tried_341
                rw [i5, i5, i5, nI_add, nI_add, nI_clamp (show 5 * (8 * s + k) + j < 2 ^ 31 by omega), nI_clamp (show 5 * (dp + 1) + j < 2 ^ 31 by omega), e32', r.2, nI_add, nI_clamp (show 5 * dp + ro (5 * (8 * s + k) + j) < 2 ^ 31 by omega), p]
                refine ⟨fun c => absurd c (nI_ge (a := j) (b := 5) (by omega) (by omega)), fun _ => ⟨vp_in_nI (by omega) (by omega), vp_in_nI (by omega) (by omega), vp_in_nI (by omega) (by omega), ?_⟩⟩
                rw [show nI j + 1 = nI (j + 1) from (nI_succ j).symm]
                refine ihd (j + 1) (by omega) _ ⟨m3.1.row _ rfl, m3.2.1, fun t ht => ?_⟩ u3 q34 q35 q36 (fun i hi => ?_)
                · show upd (T3.2.1 37) (5 * (dp + 1) + j) _ t = _
                  rw [upd_other _ _ (by omega)]
                  exact m3.2.2 t ht
                · show upd (T3.2.1 37) (5 * (dp + 1) + j) _ (5 * (dp + 1) + i) = _
                  by_cases e : i = j
                  · subst e; exact upd_same _ _ _
                  · rw [upd_other _ _ (by omega)]
                    exact q37 i (by omega)
            exact loop 5 0 (by omega) T2 ⟨MFx.rf, fun _ _ => ⟨rfl, rfl, rfl⟩, fun _ _ => rfl⟩ u1 rfl rfl rfl (fun i hi => absurd hi (Nat.not_lt_zero _))
end MdlP
