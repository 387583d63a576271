-- measure()
theorem nI_plus (a b : Nat) : nI a + nI b = nI (a + b) := nI_add a b
theorem dec3 {N k m M K : Nat} (h1 : k < N) (h : (N - k) * K + (K - m) < M + 1) (hm : m < K) : (N - (k + 1)) * K + (K - m) < M := by
  obtain ⟨j, rfl⟩ : ∃ j, N = k + 1 + j := ⟨N - k - 1, by omega⟩
  rw [show k + 1 + j - k = j + 1 by omega, Nat.succ_mul] at h
  rw [show k + 1 + j - (k + 1) = j by omega]
  omega
theorem mod101 {d : Nat} (h : d < 2 ^ 31) : nI d - nI d / 101 * 101 = nI (d % 101) := by
  rw [show (101 : Int32) = nI 101 from rfl]
  exact pk_rem h (by decide) (by decide)
theorem m7_8' : m7 8 := by unfold m7; decide
theorem s_measure (l : Launch) (S0 : MS) (post : MS → Prop) {n P : Nat} {kd ct sg σ : Nat → Nat} (hy : MY S0 n P kd ct sg) (h2 : MA S0 2 σ) (hσP : ∀ j, j < n → σ j < P) (h8 : ∃ τ, MA S0 8 τ) (h9 : ∃ τ, MA S0 9 τ) (hN : P ^ n ≤ 20000)
    (h : ∀ (T : MS) (fr : Nat → Option Nat) (mt : List Nat) (L : Nat → List Nat) (d : Nat), MFr S0 T → MI (P ^ n) (packN σ P n 0) (tgN n P kd ct sg) (fun a b => ct (5 * a + b)) fr mt d (fun _ _ _ => False) → MR (P ^ n) T fr mt L → (∀ x, fr x ≠ none → x ∈ mt) → post T) : mX_measure l S0 post := by
  have hP2 := hy.2.2.1
  have hn2 := hy.2.2.2.1
  have hst : packN σ P n 0 < P ^ n := by
    have := packN_lt (σ := σ) (P := P) n 0 1 (by decide) hσP
    rwa [Nat.one_mul] at this
  refine m_measure l S0 post ?_
  intro B7 B35 B76 B86 B157 B169 B255 B275 h7 h35 h76 h86 h157 h169 h255 h275
  unfold mT_measure_e
  generalize hst0 : packN σ P n 0 = st at hst h
  generalize hNe : P ^ n = N at hst hN h
  generalize htg : tgN n P kd ct sg = tg at h
  generalize hce : (fun a b => ct (5 * a + b)) = c at h
  have tgl : ∀ s a b t, tg s a b = some t → t < N := fun s a b t q => by rw [← hNe]; rw [← htg] at q; exact tgN_lt (by omega) q
  have cv : ∀ a b, c a b = ct (5 * a + b) := fun a b => by rw [← hce]
  have c100 : ∀ a b, a < 5 → b < 5 → c a b ≤ 100 := fun a b ha hb => by rw [cv]; exact (hy.2.2.2.2.2.1 (5 * a + b) (by omega)).2
  -- the heart
  have key : ∀ M, (∀ (T : MS) (fr : Nat → Option Nat) (mt : List Nat) (L : Nat → List Nat) (d : Nat), (N - mt.length) * 3000000 + (3000000 - d) < M → d ≤ 2000001 → MFr S0 T → MI N st tg c fr mt d (fun _ _ _ => False) → MR N T fr mt L → B76 T (nI (cntP (fun x => decide (x ∉ mt ∧ fr x ≠ none)) N)) (nI d)) ∧
      (∀ (T : MS) (fr : Nat → Option Nat) (mt : List Nat) (L : Nat → List Nat) (d : Nat), (N - mt.length) * 3000000 + (3000000 - d) < M → d ≤ 2000000 → MFr S0 T → MI N st tg c fr mt d (fun _ _ _ => False) → MR N T fr mt L → B86 T (nI (cntP (fun x => decide (x ∉ mt ∧ fr x ≠ none)) N)) (nI d) (nI (d % 101))) := by
    intro M
    induction M with
    | zero => exact ⟨fun T fr mt L d q => absurd q (Nat.not_lt_zero _), fun T fr mt L d q => absurd q (Nat.not_lt_zero _)⟩
    | succ M ihM =>
      have part2 : ∀ (T : MS) (fr : Nat → Option Nat) (mt : List Nat) (L : Nat → List Nat) (d : Nat), (N - mt.length) * 3000000 + (3000000 - d) < M + 1 → d ≤ 2000000 → MFr S0 T → MI N st tg c fr mt d (fun _ _ _ => False) → MR N T fr mt L → B86 T (nI (cntP (fun x => decide (x ∉ mt ∧ fr x ≠ none)) N)) (nI d) (nI (d % 101)) := by
        intro T fr mt L d hM hd hF hI hR
        have hb : d % 101 < 101 := Nat.mod_lt _ (by decide)
        refine h86 _ _ _ _ ?_
        unfold mT_measure_86
        rw [nI_clamp (show d % 101 < 2 ^ 31 by omega)]
        rcases hR.2.2.2.2.1.head hb with ⟨q1, q2⟩ | ⟨y, ys, q1, q2, q3⟩
        · -- an empty bucket
          refine ⟨vp_in_nI (by omega) (by omega), fun _ => ?_, fun w => absurd q1 w⟩
          rw [← nI_succ]
          refine ihM.1 T fr mt L (d + 1) (by omega) (by omega) hF (hI.advance (fun x hx e => ?_)) hR
          have : x ∈ L (d % 101) := (hR.2.2.2.2.2 _ x hb).mpr ⟨fun w => w, hx, d, e, rfl⟩
          rw [q2] at this
          cases this
        · -- the first of a bucket
          have hyL : y ∈ L (d % 101) := by rw [q1]; exact List.mem_cons_self
          obtain ⟨-, hymt, m, hfm, hmm⟩ := (hR.2.2.2.2.2 _ y hb).mp hyL
          have hw := hI.2.2.2.1 y m hymt hfm
          have hmd : m = d := by omega
          subst hmd
          refine ⟨vp_in_nI (by omega) (by omega), fun w => absurd w (by rw [q2]; exact nI_m1 (by omega)), fun _ => ⟨vp_in_nI (by omega) (by omega), fun v hv => ?_⟩⟩
          rw [q2] at hv
          subst hv
          refine hR.out hN hymt hfm (by omega) l _ (fun U L' u1 u2 u3 hU => ?_)
          have hlen : mt.length < N := by
            have := nodup_len N (y :: mt) (List.nodup_cons.mpr ⟨hymt, hI.1.1⟩) (fun x hx => by
              rcases List.mem_cons.mp hx with e | e
              · rw [e]; exact q3
              · exact hI.1.2 x e)
            rw [List.length_cons] at this
            omega
          have hUF : MFr S0 U := by
            obtain ⟨f1, f2, f3, ⟨τ, f4⟩, ⟨ρ, f5⟩⟩ := hF
            refine ⟨fun k hk => by rw [u1]; exact f1 k hk, fun k hk => by rw [u3 k (by omega) (by omega) (by omega)]; exact f2 k hk, by rw [u2]; exact f3, ⟨τ, ?_⟩, ⟨ρ, ?_⟩⟩
            · intro j hj; rw [u3 8 (by decide) (by decide) (by decide)]; exact f4 j hj
            · intro j hj; rw [u3 9 (by decide) (by decide) (by decide)]; exact f5 j hj
          have u7 : U.1 7 = nI mt.length := hU.2.2.1
          rw [u7]
          refine ⟨vp_in_nI (by omega) (by omega), vp_in_nI (by omega) (by omega), ?_⟩
          rw [nI_clamp (show y < 2 ^ 31 by omega), nI_clamp (show mt.length < 2 ^ 31 by omega), ← nI_succ]
          obtain ⟨V, hV⟩ : ∃ V : MS, V = mf (ma (ma U 17 (upd (U.2.1 17) y (vp_nar .boolean 1))) 14 (upd (U.2.1 14) mt.length (nI y))) 7 (nI (mt.length + 1)) := ⟨_, rfl⟩
          rw [← hV]
          have hVF : MFr S0 V := by rw [hV]; exact ((hUF.ma _ (Or.inr rfl)).ma _ (Or.inl (by decide))).mf _
          have hVR : MR N V fr (mt ++ [y]) L' := by
            rw [hV]
            obtain ⟨g1, g2, g3, g4, g5, g6⟩ := hU
            refine ⟨fun x hx _ => ?_, fun x hx => ?_, ?_, fun k x hk => ?_, ?_, fun b x hb => ?_⟩
            · show U.2.1 10 x = _
              rw [u3 10 (by decide) (by decide) (by decide)]
              exact hR.1 x hx (fun w => w)
            · show upd (U.2.1 17) y (vp_nar .boolean 1) x = _
              by_cases e : x = y
              · subst e; rw [upd_same, if_pos (by simp)]; rfl
              · rw [upd_other _ _ e, g2 x hx]
                by_cases w : x ∈ mt
                · rw [if_pos w, if_pos (by simp [w])]
                · rw [if_neg w, if_neg (by simp [w, e])]
            · rw [mf_get, List.length_append, List.length_singleton]
            · show upd (U.2.1 14) mt.length (nI y) k = _
              by_cases e : k = mt.length
              · subst e
                rw [List.getElem?_append_right (Nat.le_refl _), Nat.sub_self] at hk
                cases hk
                exact upd_same _ _ _
              · have hkl : k < mt.length := by
                  have := (List.getElem?_eq_some_iff.mp hk).1
                  rw [List.length_append, List.length_singleton] at this
                  omega
                rw [List.getElem?_append_left hkl] at hk
                rw [upd_other _ _ e]
                exact g4 k x hk
            · exact g5
            · rw [g6 b x hb]
              refine ⟨fun w => ⟨fun z => z, by simp [w.1, w.2.1], w.2.2⟩, fun w => ⟨fun z => w.2.1 (by simp [z]), fun z => w.2.1 (by simp [z]), w.2.2⟩⟩
          have hVI := hI.pop hymt hfm
          have hcnt : cntP (fun x => decide (x ∉ mt ∧ fr x ≠ none)) N = cntP (fun x => decide (x ∉ mt ++ [y] ∧ fr x ≠ none)) N + 1 := by
            refine cntP_up (x := y) (by simp) (by simp [hymt, hfm]) (fun z hz => ?_) N q3
            simp [hz]
          have hdb : m ≤ 100 * mt.length := hI.2.2.2.2.2.2.2.1 y m hfm
          clear hV hU hR hI hUF u1 u2 u3 hyL
          rw [hcnt, nI_succ, Int32.add_assoc, show (1 : Int32) + (-1) = 0 by decide, Int32.add_zero]
          have hymem : y ∈ mt ++ [y] := by simp
          have hyf : fr y = some m := hfm
          have hlen2 : (mt ++ [y]).length = mt.length + 1 := by rw [List.length_append, List.length_singleton]
          have hdb2 : ∀ a b, a < 5 → b < 5 → m + c a b ≤ 100 * (mt ++ [y]).length := fun a b ha hb => by
            have := c100 a b ha hb
            omega
          have hdone := fun (T : MS) (fr : Nat → Option Nat) (L : Nat → List Nat) (hF : MFr S0 T) (hI : MI N st tg c fr (mt ++ [y]) m (fun _ _ _ => False)) (hR : MR N T fr (mt ++ [y]) L) => ihM.2 T fr (mt ++ [y]) L m (by rw [hlen2]; exact dec3 hlen hM (by omega)) hd hF hI hR
          generalize mt ++ [y] = mt' at hVR hVI hymem hdb2 hdone ⊢
          -- unpack
          have tgP : ∀ s a b t, tg s a b = some t → a < P ∧ b < P := fun s a b t q => by
            rw [← htg] at q
            unfold tgN at q
            split at q
            · next w => exact ⟨w.1, w.2.1⟩
            · cases q
          have cP : ∀ a b, a < P → b < P → a < 5 ∧ b < 5 := fun a b ha hb => ⟨by omega, by omega⟩
          have hC : ∀ dd p, p + dd = P → ∀ (T : MS) (fr : Nat → Option Nat) (L : Nat → List Nat), MFr S0 T → (∃ σ8, MA T 8 σ8 ∧ ∀ j, j < n → σ8 j = dgs P y j) → MI N st tg c fr mt' m (fun x a _ => x = y ∧ p ≤ a) → MR N T fr mt' L → fr y = some m → B157 T (nI (cntP (fun x => decide (x ∉ mt' ∧ fr x ≠ none)) N)) (nI m) (nI (m % 101)) (nI p) := by
            intro dd
            induction dd with
            | zero =>
              intro p hp T fr L hF _ hI hR _
              have : p = P := by omega
              subst this
              refine h157 _ _ _ _ _ ?_
              unfold mT_measure_157
              rw [(hF.my hy).1]
              refine ⟨fun _ => hdone T fr L hF (hI.shrink (fun s a b _ q => Or.inr (fun t ht => ?_))) hR, fun q => absurd (nI_le (Nat.le_refl p) (by omega)) q⟩
              have := (tgP s a b t ht).1
              omega
            | succ dd ihC =>
              intro p hp T fr L hF h8' hI hR hfy
              have hD : ∀ d2 q, q + d2 = P → ∀ (T : MS) (fr : Nat → Option Nat) (L : Nat → List Nat), MFr S0 T → (∃ σ8, MA T 8 σ8 ∧ ∀ j, j < n → σ8 j = dgs P y j) → MI N st tg c fr mt' m (fun x a b => x = y ∧ (p < a ∨ (a = p ∧ q ≤ b))) → MR N T fr mt' L → fr y = some m → B169 T (nI (cntP (fun x => decide (x ∉ mt' ∧ fr x ≠ none)) N)) (nI m) (nI (m % 101)) (nI p) (nI q) := by
                intro d2
                induction d2 with
                | zero =>
                  intro q hq T fr L hF h8' hI hR hfy
                  have : q = P := by omega
                  subst this
                  refine h169 _ _ _ _ _ _ ?_
                  unfold mT_measure_169
                  rw [(hF.my hy).1]
                  refine ⟨fun _ => ?_, fun w => absurd (nI_le (Nat.le_refl q) (by omega)) w⟩
                  rw [← nI_succ]
                  refine ihC (p + 1) (by omega) T fr L hF h8' (hI.shrink (fun s a b _ w => ?_)) hR hfy
                  rcases w.2 with w2 | w2
                  · exact Or.inl ⟨w.1, w2⟩
                  · exact Or.inr (fun t ht => absurd (tgP s a b t ht).2 (by omega))
                | succ d2 ihD =>
                  intro q hq T fr L hF h8' hI hR hfy
                  -- the next pair, once this one is seen to
                  have next : ∀ (T : MS) (fr : Nat → Option Nat) (L : Nat → List Nat), MFr S0 T → (∃ σ8, MA T 8 σ8 ∧ ∀ j, j < n → σ8 j = dgs P y j) → MI N st tg c fr mt' m (fun x a b => x = y ∧ (p < a ∨ (a = p ∧ q + 1 ≤ b))) → MR N T fr mt' L → fr y = some m → B275 T (nI (cntP (fun x => decide (x ∉ mt' ∧ fr x ≠ none)) N)) (nI m) (nI (m % 101)) (nI p) (nI q) := by
                    intro T fr L hF h8' hI hR hfy
                    refine h275 _ _ _ _ _ _ ?_
                    unfold mT_measure_275
                    rw [← nI_succ]
                    exact ihD (q + 1) (by omega) T fr L hF h8' hI hR hfy
                  have sk : (∀ t, tg y p q = some t → ∃ k k2, fr y = some k ∧ fr t = some k2 ∧ k2 ≤ k + c p q) → MI N st tg c fr mt' m (fun x a b => x = y ∧ (p < a ∨ (a = p ∧ q + 1 ≤ b))) := by
                    intro hr
                    refine hI.shrink (fun s a b _ w => ?_)
                    by_cases e : a = p ∧ b = q
                    · right
                      obtain ⟨e1, e2⟩ := e
                      rw [w.1, e1, e2]
                      exact hr
                    · left
                      refine ⟨w.1, ?_⟩
                      rcases w.2 with w2 | w2
                      · exact Or.inl w2
                      · exact Or.inr ⟨w2.1, by
                          have : b ≠ q := fun z => e ⟨w2.1, z⟩
                          omega⟩
                  obtain ⟨σ8, hσ8, hσd⟩ := h8'
                  obtain ⟨τ9, hτ9⟩ := hF.2.2.2.2
                  refine h169 _ _ _ _ _ _ ?_
                  unfold mT_measure_169
                  rw [(hF.my hy).1]
                  refine ⟨fun w => absurd w (nI_ge (by omega) (by omega)), fun _ => ?_⟩
                  refine s_lead l T y p q _ (hF.my hy) hσ8 hσd hτ9 (by omega) (by omega) (fun ht => ?_) (fun t ht g ρ hg => ?_)
                  · rw [htg] at ht
                    refine ⟨fun _ => next T fr L hF ⟨σ8, hσ8, hσd⟩ (sk (fun t q => by rw [ht] at q; cases q)) hR hfy, fun w => absurd rfl w⟩
                  · rw [htg] at ht
                    have htN := tgl y p q t ht
                    have hF9 : MFr S0 (ma T 9 g) := hF.ma9 ⟨ρ, hg⟩
                    have h89 : ∃ σ8, MA (ma T 9 g) 8 σ8 ∧ ∀ j, j < n → σ8 j = dgs P y j := ⟨σ8, fun j hj => by rw [ma_get_ne _ _ (by decide)]; exact hσ8 j hj, hσd⟩
                    have hR9 : MR N (ma T 9 g) fr mt' L := hR.ma g (Or.inr rfl)
                    generalize ma T 9 g = U at hF9 h89 hR9 ⊢
                    have hcst : U.2.1 4 (5 * p + q) = nI (c p q) := by rw [cv]; exact ((hF9.my hy).2.2.2.2.2.1 (5 * p + q) (by omega)).1
                    have hc1 := c100 p q (by omega) (by omega)
                    have hbnd := hdb2 p q (by omega) (by omega)
                    have hmtl : mt'.length ≤ 20000 := by
                      have := nodup_len N mt' hI.1.1 hI.1.2
                      omega
                    refine ⟨fun w => absurd w (nI_m1 (by omega)), fun _ => ⟨vp_in_nI (by omega) (by omega), ?_⟩⟩
                    rw [nI_clamp (show t < 2 ^ 31 by omega), hR9.2.1 t htN, hR9.1 t htN (fun w => w), ix25 (show p < 5 by omega) (show q < 5 by omega), nI_clamp (show 5 * p + q < 2 ^ 31 by omega), hcst, nI_plus]
                    by_cases hmem : t ∈ mt'
                    · rw [if_pos hmem]
                      refine ⟨fun _ => next U fr L hF9 h89 (sk (fun t' q' => ?_)) hR9 hfy, fun w => absurd w (by decide)⟩
                      rw [ht] at q'
                      cases q'
                      obtain ⟨k, hk, hk2⟩ := hI.2.2.1 t hmem
                      exact ⟨m, k, hfy, hk, by omega⟩
                    · rw [if_neg hmem]
                      refine ⟨fun w => absurd rfl w, fun _ => ⟨vp_in_nI (by omega) (by omega), vp_in_nI (by omega) (by omega), fun hless => ⟨vp_in_nI (by omega) (by omega), ?_⟩, fun hnl => ?_⟩⟩
                      · -- a better label
                        have lab : ∀ (fr0 : Nat → Option Nat), fr0 = fr → (∀ k, fr t = some k → m + c p q < k) → MI N st tg c (va_up fr t (some (m + c p q))) mt' m (fun x a b => x = y ∧ (p < a ∨ (a = p ∧ q + 1 ≤ b))) := by
                          intro fr0 _ ho
                          refine hI.label hymem hfy ht hmem htN hc1 hbnd ho (fun s' a' b' w => ?_)
                          by_cases e : a' = p ∧ b' = q
                          · exact Or.inr ⟨w.1, e.1, e.2⟩
                          · left
                            refine ⟨w.1, ?_⟩
                            rcases w.2 with w2 | w2
                            · exact Or.inl w2
                            · exact Or.inr ⟨w2.1, by
                                have : b' ≠ q := fun z => e ⟨w2.1, z⟩
                                omega⟩
                        have hyt : y ≠ t := fun e => hmem (by rw [← e]; exact hymem)
                        have hfy2 : va_up fr t (some (m + c p q)) y = some m := by rw [va_up_other _ _ hyt]; exact hfy
                        have lnk : ∀ (x2 : Int32) (T : MS) (L : Nat → List Nat), MFr S0 T → (∃ σ8, MA T 8 σ8 ∧ ∀ j, j < n → σ8 j = dgs P y j) → MRx N T fr mt' L (fun x => x = t) → (∀ k, fr t = some k → m + c p q < k) → x2 = nI (cntP (fun x => decide (x ∉ mt' ∧ va_up fr t (some (m + c p q)) x ≠ none)) N) → B255 T x2 (nI m) (nI (m % 101)) (nI p) (nI q) (nI t) := by
                          intro x2 T L hF h8' hRx ho hx2
                          subst hx2
                          refine h255 _ _ _ _ _ _ _ ?_
                          unfold mT_measure_255
                          have hcst : T.2.1 4 (5 * p + q) = nI (c p q) := by rw [cv]; exact ((hF.my hy).2.2.2.2.2.1 (5 * p + q) (by omega)).1
                          rw [ix25 (show p < 5 by omega) (show q < 5 by omega), nI_clamp (show 5 * p + q < 2 ^ 31 by omega), hcst, nI_plus]
                          refine ⟨vp_in_nI (by omega) (by omega), ?_⟩
                          refine hRx.inn hN hmem htN (by omega) l _ (fun Z L2 z1 z2 z3 hZ => ?_)
                          have hZF : MFr S0 Z := by
                            obtain ⟨f1, f2, f3, ⟨τ, f4⟩, ⟨ρ, f5⟩⟩ := hF
                            refine ⟨fun k hk => by rw [z1]; exact f1 k hk, fun k hk => by rw [z3 k (by omega) (by omega) (by omega) (by omega)]; exact f2 k hk, by rw [z2]; exact f3, ⟨τ, ?_⟩, ⟨ρ, ?_⟩⟩
                            · intro j hj; rw [z3 8 (by decide) (by decide) (by decide) (by decide)]; exact f4 j hj
                            · intro j hj; rw [z3 9 (by decide) (by decide) (by decide) (by decide)]; exact f5 j hj
                          obtain ⟨σ8, hσ8, hσd⟩ := h8'
                          exact next Z _ L2 hZF ⟨σ8, fun j hj => by rw [z3 8 (by decide) (by decide) (by decide) (by decide)]; exact hσ8 j hj, hσd⟩ (lab fr rfl ho) hZ hfy2
                        cases hft : fr t with
                        | none =>
                          refine ⟨fun w => absurd rfl w, fun _ => ?_⟩
                          refine lnk _ U L hF9 h89 (MRx.more hR9 hft) (fun k hk => by rw [hft] at hk; cases hk) ?_
                          rw [← nI_succ]
                          congr 1
                          refine (cntP_up (x := t) (by simp [hft]) (by simp [hmem, va_up_same]) (fun z hz => ?_) N htN).symm
                          rw [va_up_other _ _ hz]
                        | some k =>
                          have hkb := hI.2.2.2.2.2.2.2.1 t k hft
                          have hk : m + c p q < k := by
                            rw [hft] at hless
                            rcases Nat.lt_or_ge (m + c p q) k with w | w
                            · exact w
                            · exact absurd hless (nI_nlt w (by omega))
                          refine ⟨fun _ => ?_, fun w => ?_⟩
                          · refine hR9.out hN hmem hft (by omega) l _ (fun Z L2 z1 z2 z3 hZ => ?_)
                            have hZF : MFr S0 Z := by
                              obtain ⟨f1, f2, f3, ⟨τ, f4⟩, ⟨ρ, f5⟩⟩ := hF9
                              refine ⟨fun k hk => by rw [z1]; exact f1 k hk, fun k hk => by rw [z3 k (by omega) (by omega) (by omega)]; exact f2 k hk, by rw [z2]; exact f3, ⟨τ, ?_⟩, ⟨ρ, ?_⟩⟩
                              · intro j hj; rw [z3 8 (by decide) (by decide) (by decide)]; exact f4 j hj
                              · intro j hj; rw [z3 9 (by decide) (by decide) (by decide)]; exact f5 j hj
                            obtain ⟨σ8', hσ8', hσd'⟩ := h89
                            refine lnk _ Z L2 hZF ⟨σ8', fun j hj => by rw [z3 8 (by decide) (by decide) (by decide)]; exact hσ8' j hj, hσd'⟩ hZ (fun k' hk' => by rw [hft] at hk'; cases hk'; exact hk) ?_
                            congr 1
                            refine cntP_congr N (fun x _ => ?_)
                            by_cases e : x = t
                            · subst e; simp [hft, va_up_same]
                            · rw [va_up_other _ _ e]
                          · exfalso
                            have : nI k = nI 2147483647 := w
                            exact absurd ((nI_eq (by omega) (by omega)).mp this) (by omega)
                      · -- the label stays
                        refine next U fr L hF9 h89 (sk (fun t' q' => ?_)) hR9 hfy
                        rw [ht] at q'
                        cases q'
                        cases hft : fr t with
                        | none =>
                          exfalso
                          rw [hft] at hnl
                          exact hnl (show nI (m + c p q) < nI 2147483647 from nI_lt (by omega) (by omega))
                        | some k =>
                          refine ⟨m, k, hfy, rfl, ?_⟩
                          rw [hft] at hnl
                          rcases Nat.lt_or_ge (m + c p q) k with w | w
                          · exact absurd (nI_lt w (by have := hI.2.2.2.2.2.2.2.1 t k hft; omega)) hnl
                          · exact w
              refine h157 _ _ _ _ _ ?_
              unfold mT_measure_157
              rw [(hF.my hy).1]
              refine ⟨fun w => absurd w (nI_ge (by omega) (by omega)), fun _ => ?_⟩
              refine hD P 0 (by omega) T fr L hF h8' (hI.shrink (fun s a b _ w => Or.inl ⟨w.1, ?_⟩)) hR hfy
              have := w.2
              rcases Nat.lt_or_ge p a with z | z
              · exact Or.inl z
              · exact Or.inr ⟨by omega, Nat.zero_le _⟩
          obtain ⟨τ8, hτ8⟩ := hVF.2.2.2.1
          have hu8 : ∀ j, j < 7 → unpF (V.2.1 8) P y n j = nI (if j < n then dgs P y j else τ8 j) ∧ (if j < n then dgs P y j else τ8 j) < 5 := by
            intro j hj
            unfold unpF
            by_cases e : j < n
            · rw [if_pos e, if_pos e]
              exact ⟨rfl, by have := dgs_lt (P := P) (by omega) y j; omega⟩
            · rw [if_neg e, if_neg e]
              exact hτ8 j hj
          refine s_unpack l V y 8 m7_8' _ (hVF.my hy).2.1 (hVF.my hy).1 hP2 (by omega) (by omega) ?_
          refine hC P 0 (by omega) (ma V 8 (unpF (V.2.1 8) P y n)) fr L' (hVF.ma8 ⟨_, hu8⟩) ⟨fun j => if j < n then dgs P y j else τ8 j, fun j hj => by rw [ma_get]; exact hu8 j hj, fun j hj => if_pos hj⟩ (hVI.shrink (fun s a b _ w => Or.inl ⟨w, Nat.zero_le _⟩)) (hVR.ma _ (Or.inl rfl)) hyf
      refine ⟨fun T fr mt L d hM hd hF hI hR => ?_, part2⟩
      refine h76 _ _ _ ?_
      unfold mT_measure_76
      refine ⟨fun q => ?_, fun q v hv => ?_⟩
      · have hz : cntP (fun x => decide (x ∉ mt ∧ fr x ≠ none)) N = 0 := by
          have h1 := cntP_le (fun x => decide (x ∉ mt ∧ fr x ≠ none)) N
          rcases Nat.eq_zero_or_pos (cntP (fun x => decide (x ∉ mt ∧ fr x ≠ none)) N) with w | w
          · exact w
          · exact absurd q (nI_nle w (by omega))
        refine h T fr mt L d hF hI hR (fun x hx => ?_)
        have := cntP_zero N hz x (hI.2.1 x hx)
        have := of_decide_eq_false this
        by_cases w : x ∈ mt
        · exact w
        · exact absurd ⟨w, hx⟩ this
      · have hpos : cntP (fun x => decide (x ∉ mt ∧ fr x ≠ none)) N ≠ 0 := fun w => q (by rw [w]; decide)
        obtain ⟨x, hx, hpx⟩ := cntP_pos N hpos
        obtain ⟨w1, w2⟩ := of_decide_eq_true hpx
        obtain ⟨m, hm⟩ := Option.ne_none_iff_exists'.mp w2
        have hlen := nodup_len N mt hI.1.1 hI.1.2
        have hdm := (hI.2.2.2.1 x m w1 hm).1
        have hmb := hI.2.2.2.2.2.2.2.1 x m hm
        have hd2 : d ≤ 2000000 := by omega
        rw [mod101 (by omega)] at hv
        subst hv
        exact part2 T fr mt L d hM hd2 hF hI hR
  -- the start
  have hF0 : MFr S0 S0 := ⟨fun _ _ => rfl, fun _ _ => rfl, rfl, h8, h9⟩
  have e35 : ∀ dd k, k + dd = 101 → ∀ T : MS, MFr S0 T → (∀ x, x < N → T.2.1 10 x = 2147483647 ∧ T.2.1 17 x = 0) → (∀ i, i < k → T.2.1 13 i = -1) → B35 T (nI k) := by
    intro dd
    induction dd with
    | zero =>
      intro k hk T hF hz hh
      have : k = 101 := by omega
      subst this
      refine h35 _ _ ?_
      unfold mT_measure_35
      refine ⟨fun _ => ?_, fun q => absurd (show (101 : Int32) ≤ nI 101 by decide) q⟩
      have hF7 := hF.mf 0
      refine s_pack l (mf T 7 0) 2 (by unfold m7; decide) _ (σ := σ) (hF7.my hy).2.1 (hF7.my hy).1 (by omega) (fun j hj => ?_) ?_
      · show T.2.1 2 j = nI (σ j)
        rw [hF.2.1 2 (Or.inl (by decide))]
        exact (h2 j (by omega)).1
      · rw [hst0]
        have hRx : MRx N (mf T 7 0) (fun _ => none) [] (fun _ => []) (fun x => x = st) := by
          refine ⟨fun x hx _ => (hz x hx).1, fun x hx => ?_, mf_get _ _ _, fun k x hk => (by cases hk), ⟨fun b hb => ?_, fun _ _ => List.nodup_nil, fun b c x _ _ hx => (by cases hx), fun b x _ hx => by cases hx⟩, fun b x hb => ⟨fun q => (by cases q), fun q => ?_⟩⟩
          · rw [if_neg List.not_mem_nil]; exact (hz x hx).2
          · exact hh b (by omega)
          · obtain ⟨m, hm, -⟩ := q.2.2
            cases hm
        refine hRx.inn hN List.not_mem_nil hst (m := 0) (by decide) l _ (fun Z L2 z1 z2 z3 hZ => ?_)
        have hZF : MFr S0 Z := by
          obtain ⟨f1, f2, f3, ⟨τ, f4⟩, ⟨ρ, f5⟩⟩ := hF7
          refine ⟨fun k hk => by rw [z1]; exact f1 k hk, fun k hk => by rw [z3 k (by omega) (by omega) (by omega) (by omega)]; exact f2 k hk, by rw [z2]; exact f3, ⟨τ, ?_⟩, ⟨ρ, ?_⟩⟩
          · intro j hj; rw [z3 8 (by decide) (by decide) (by decide) (by decide)]; exact f4 j hj
          · intro j hj; rw [z3 9 (by decide) (by decide) (by decide) (by decide)]; exact f5 j hj
        have hc0 : cntP (fun x => decide (x ∉ ([] : List Nat) ∧ va_up (fun _ => none) st (some 0) x ≠ none)) N = 1 := by
          have h0 : ∀ k, cntP (fun _ => false) k = 0 := by
            intro k
            induction k with
            | zero => rfl
            | succ k ih => unfold cntP; rw [ih]; rfl
          rw [cntP_up (p := fun _ => false) (x := st) rfl (by simp [va_up_same]) (fun z hz => by rw [va_up_other _ _ hz]; simp) N hst, h0]
        have := (key ((N - 0) * 3000000 + 3000000 + 1)).1 Z (va_up (fun _ => none) st (some 0)) [] L2 0 (by simp) (by decide) hZF (MI.begin hst) hZ
        rw [hc0] at this
        exact this
    | succ dd ih =>
      intro k hk T hF hz hh
      refine h35 _ _ ?_
      unfold mT_measure_35
      refine ⟨fun q => absurd q (nI_ge (a := k) (b := 101) (by omega) (by omega)), fun _ => ⟨vp_in_nI (by omega) (by omega), ?_⟩⟩
      rw [← nI_succ, nI_clamp (by omega)]
      refine ih (k + 1) (by omega) _ (hF.ma _ (Or.inl (by decide))) (fun x hx => ?_) (fun i hi => ?_)
      · rw [ma_get_ne _ _ (by decide), ma_get_ne _ _ (by decide)]; exact hz x hx
      · rw [ma_get]
        by_cases e : i = k
        · subst e; exact upd_same _ _ _
        · rw [upd_other _ _ e]; exact hh i (by omega)
  have e7 : ∀ dd k, k + dd = N → ∀ T : MS, MFr S0 T → (∀ x, x < k → T.2.1 10 x = 2147483647 ∧ T.2.1 17 x = 0) → B7 T (nI N) (nI k) := by
    intro dd
    induction dd with
    | zero =>
      intro k hk T hF hz
      have : k = N := by omega
      subst this
      refine h7 _ _ _ ?_
      unfold mT_measure_7
      exact ⟨fun _ => e35 101 0 (by omega) T hF hz (fun i hi => absurd hi (Nat.not_lt_zero _)), fun q => absurd (nI_le (Nat.le_refl k) (by omega)) q⟩
    | succ dd ih =>
      intro k hk T hF hz
      refine h7 _ _ _ ?_
      unfold mT_measure_7
      refine ⟨fun q => absurd q (nI_ge (by omega) (by omega)), fun _ => ⟨vp_in_nI (by omega) (by omega), vp_in_nI (by omega) (by omega), ?_⟩⟩
      rw [← nI_succ, nI_clamp (show k < 2 ^ 31 by omega)]
      refine ih (k + 1) (by omega) _ ((hF.ma _ (Or.inl (by decide))).ma _ (Or.inr rfl)) (fun x hx => ?_)
      rw [ma_get_ne _ _ (show (10 : Nat) ≠ 17 by decide), ma_get, ma_get]
      by_cases e : x = k
      · subst e; exact ⟨upd_same _ _ _, by rw [upd_same]; rfl⟩
      · rw [upd_other _ _ e, upd_other _ _ e]; exact hz x (by omega)
  refine s_stands l S0 _ hy.2.1 hy.1 (by omega) ?_
  rw [hNe]
  exact e7 N 0 (by omega) S0 hF0 (fun x hx => absurd hx (Nat.not_lt_zero _))
