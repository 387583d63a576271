-- single(), call()
theorem i8 {s w : Nat} : (8 : Int32) * nI s + nI w = nI (8 * s + w) := by rw [show (8 : Int32) = nI 8 from rfl, pk_mul, nI_add]
theorem i5 {k : Nat} : (5 : Int32) * nI k = nI (5 * k) := by rw [show (5 : Int32) = nI 5 from rfl, pk_mul]
theorem i5a {k c : Nat} {v : Int32} (h : v = nI c) : (5 : Int32) * nI k + v = nI (5 * k + c) := by rw [i5, h, nI_add]
theorem KSc.single {q : Nat} {w : Nat → Nat} {of : Nat → Option Nat} {le ro : Nat → Nat} {made : Int32} {ln cal les rol les' rol' : Nat → Int32} (h : KSc q w of le ro made ln cal les rol) {s i j : Nat} (hs : s < q) (hw : w s < 8) (hi : i < 5) (hj : j < 5) (hl : ∀ t, t ≠ 8 * s + w s → les' t = les t) (hr0 : rol' (5 * (8 * s + w s)) = nI i) (hr1 : rol' (5 * (8 * s + w s) + 1) = nI j) (hr : ∀ t, t ≠ 5 * (8 * s + w s) → t ≠ 5 * (8 * s + w s) + 1 → rol' t = rol t) : KSc q (va_up w s (w s + 1)) (va_up of (8 * s + w s) none) le (va_up (va_up ro (5 * (8 * s + w s)) i) (5 * (8 * s + w s) + 1) j) made (upd ln s (nI (w s + 1))) (upd cal (8 * s + w s) (-1)) les' rol' := by
  refine h.put hs hw (fun t ht => ⟨va_up_other _ _ ht, rfl, upd_other _ _ ht, hl t ht⟩) (fun t ht => ⟨?_, hr t (by omega) (by omega)⟩) (Or.inl ⟨va_up_same _ _ _, upd_same _ _ _, fun t ht => ?_⟩)
  · rw [va_up_other _ _ (by omega), va_up_other _ _ (by omega)]
  · have : t = 0 ∨ t = 1 := by omega
    rcases this with e | e
    · subst e
      rw [Nat.add_zero (5 * (8 * s + w s)), va_up_other _ _ (by omega), va_up_same]
      exact ⟨hi, hr0⟩
    · subst e
      rw [va_up_same]
      exact ⟨hj, hr1⟩
theorem KSc.call {q : Nat} {w : Nat → Nat} {of : Nat → Option Nat} {le ro ν : Nat → Nat} {made : Int32} {ln cal les rol rol' : Nat → Int32} (h : KSc q w of le ro made ln cal les rol) {s o L : Nat} (hs : s < q) (hw : w s < 8) (ho : o < q) (hL : 1 ≤ L ∧ L ≤ 4) (hν : ∀ t, t < 5 → ν t < 5 ∧ rol' (5 * (8 * s + w s) + t) = nI (ν t)) (hr : ∀ t, (t < 5 * (8 * s + w s) ∨ 5 * (8 * s + w s) + 5 ≤ t) → rol' t = rol t) : KSc q (va_up w s (w s + 1)) (va_up of (8 * s + w s) (some o)) (va_up le (8 * s + w s) L) (fun t => if 5 * (8 * s + w s) ≤ t ∧ t < 5 * (8 * s + w s) + 5 then ν (t - 5 * (8 * s + w s)) else ro t) made (upd ln s (nI (w s + 1))) (upd cal (8 * s + w s) (nI o)) (upd les (8 * s + w s) (nI L)) rol' := by
  refine h.put hs hw (fun t ht => ⟨va_up_other _ _ ht, va_up_other _ _ ht, upd_other _ _ ht, upd_other _ _ ht⟩) (fun t ht => ⟨?_, hr t ht⟩) (Or.inr ⟨o, va_up_same _ _ _, ho, ?_, ?_, upd_same _ _ _, ?_, fun t ht => ?_⟩)
  · show (if 5 * (8 * s + w s) ≤ t ∧ t < 5 * (8 * s + w s) + 5 then ν (t - 5 * (8 * s + w s)) else ro t) = ro t
    rw [if_neg (by omega)]
  · rw [va_up_same]; exact hL.1
  · rw [va_up_same]; exact hL.2
  · rw [upd_same, va_up_same]
  · show (if 5 * (8 * s + w s) ≤ 5 * (8 * s + w s) + t ∧ 5 * (8 * s + w s) + t < 5 * (8 * s + w s) + 5 then ν (5 * (8 * s + w s) + t - 5 * (8 * s + w s)) else ro (5 * (8 * s + w s) + t)) < 5 ∧ rol' (5 * (8 * s + w s) + t) = nI (if 5 * (8 * s + w s) ≤ 5 * (8 * s + w s) + t ∧ 5 * (8 * s + w s) + t < 5 * (8 * s + w s) + 5 then ν (5 * (8 * s + w s) + t - 5 * (8 * s + w s)) else ro (5 * (8 * s + w s) + t))
    rw [if_pos (by omega), Nat.add_sub_cancel_left]
    exact hν t ht
section Steps
variable {S : CS} {M : MS} {n P x y : Nat} {kd ct sc sm : Nat → Nat}
theorem s_single (l : Launch) {q : Nat} {w : Nat → Nat} (h9 : M.1 9 = nI q) (hq : q ≤ 8) (hw : ∀ s, s < q → w s ≤ 8 ∧ M.2.1 29 s = nI (w s)) (a b c : Int32) (post : Int32 → MS → Prop)
    (h0 : (¬ ((∃ s, s < q ∧ a = nI s) ∧ (∃ i, i < 5 ∧ b = nI i) ∧ (∃ j, j < 5 ∧ c = nI j) ∧ b ≠ c)) → post (-1) (mf (mf M 3 0) 2 1))
    (h1 : ∀ s i j, s < q → a = nI s → i < 5 → b = nI i → j < 5 → c = nI j → b ≠ c → w s = 8 → post (-1) (mf (mf M 3 0) 2 5))
    (h2 : ∀ s i j, s < q → a = nI s → i < 5 → b = nI i → j < 5 → c = nI j → b ≠ c → w s < 8 → post (nI (w s + 1)) (mf (ma (ma (ma (ma (mf M 3 0) 30 (upd (M.2.1 30) (8 * s + w s) (-1))) 32 (upd (M.2.1 32) (5 * (8 * s + w s)) (nI i))) 32 (upd (upd (M.2.1 32) (5 * (8 * s + w s)) (nI i)) (5 * (8 * s + w s) + 1) (nI j))) 29 (upd (M.2.1 29) s (nI (w s + 1)))) 2 0)) : mX_single l M a b c post := by
  refine m_single l M a b c post ?_
  intro B38 h38
  unfold mT_single_e
  have no : (¬ ((∃ s, s < q ∧ a = nI s) ∧ (∃ i, i < 5 ∧ b = nI i) ∧ (∃ j, j < 5 ∧ c = nI j) ∧ b ≠ c)) → B38 (mf M 3 0) := fun w => h38 _ (s_no l _ 1 _ (h0 w))
  refine s_isScheme l (mf M 3 0) h9 hq a _ (fun w => ⟨fun _ => no (fun z => w z.1), fun z => absurd rfl z⟩) (fun s hs ea => ⟨fun z => absurd z (by decide), fun _ => ?_⟩)
  refine s_inC l _ b 0 4 _ (L := 0) (H := 4) rfl rfl (by decide) (by decide) (fun w => ⟨fun _ => no (fun z => w (by obtain ⟨i, hi, e⟩ := z.2.1; exact ⟨i, by omega, by omega, e⟩)), fun z => absurd rfl z⟩) (fun i _ hi eb => ⟨fun z => absurd z (by decide), fun _ => ?_⟩)
  refine s_inC l _ c 0 4 _ (L := 0) (H := 4) rfl rfl (by decide) (by decide) (fun w => ⟨fun _ => no (fun z => w (by obtain ⟨i, hi, e⟩ := z.2.2.1; exact ⟨i, by omega, by omega, e⟩)), fun z => absurd rfl z⟩) (fun j _ hj ec => ⟨fun z => absurd z (by decide), fun _ => ⟨fun hne => ?_, fun e => no (fun z => z.2.2.2 e)⟩⟩)
  subst ea
  subst eb
  subst ec
  have hws := hw s hs
  have e29 : (mf M 3 0).2.1 29 s = nI (w s) := hws.2
  rw [nI_clamp (show s < 2 ^ 31 by omega), e29]
  refine ⟨vp_in_nI (by omega) (by omega), fun v hv => ?_⟩
  subst hv
  refine ⟨fun c8 => ?_, fun c8 => s_no l _ 5 _ (h1 s i j hs rfl (by omega) rfl (by omega) rfl hne ((nI_is 8 rfl (by omega) (by omega)).mp c8))⟩
  have c8 : w s < 8 := by
    rcases Nat.lt_or_ge (w s) 8 with z | z
    · exact z
    · exact absurd (by rw [show w s = 8 by omega]; rfl) c8
  intro v hv
  rw [i8] at hv
  subst hv
  rw [i5, show nI (5 * (8 * s + w s)) + 1 = nI (5 * (8 * s + w s) + 1) from nI_add .., nI_clamp (show 8 * s + w s < 2 ^ 31 by omega), nI_clamp (show 5 * (8 * s + w s) < 2 ^ 31 by omega), nI_clamp (show 5 * (8 * s + w s) + 1 < 2 ^ 31 by omega), ← nI_succ]
  exact ⟨vp_in_nI (by omega) (by omega), vp_in_nI (by omega) (by omega), vp_in_nI (by omega) (by omega), vp_in_nI (by omega) (by omega), vp_in_nI (by omega) (by omega), h2 s i j hs rfl (by omega) rfl (by omega) rfl hne c8⟩
theorem OKa.of {α : Type} {S S1 : CS} {M1 : MS} {mc ms : Nat} {r1 r2 : α} (hmc : mc ≤ 3) (hms : ms ≤ 55) (hr : r1 = r2) (hR : Rel S1 M1) (hl : S1.2.2.2 = S.2.2.2) : OKa S mc ms r1 S1 r2 M1 := by
  refine ⟨hr, hR, ?_, ?_⟩
  · unfold Fc; rw [hl]; omega
  · unfold Fs; rw [hl]; omega
theorem o_single (l : Launch) (h : Rl S M n P kd ct sc sm x y) (a b c : Int32) : ∃ mc ms, mc ≤ 50000 ∧ ms ≤ 300000 ∧ cX_X8_single l mc ms S a b c (fun r1 S1 => mX_single l M a b c (fun r2 M1 => OKa S mc ms r1 S1 r2 M1)) := by
  obtain ⟨⟨q, w, of, le, ro, kc, km⟩, tz⟩ := id h.2.2.2.2.2.2.1
  have hq := kc.1
  refine ⟨1, 2, by omega, by omega, c_X8_single l 1 2 S a b c _ ?_⟩
  intro B30 h30
  unfold cT_X8_single_e
  have ss := s_single l (M := M) km.2.1 hq km.2.2.1 a b c
  have no : (¬ ((∃ s, s < q ∧ a = nI s) ∧ (∃ i, i < 5 ∧ b = nI i) ∧ (∃ j, j < 5 ∧ c = nI j) ∧ b ≠ c)) → B30 0 0 S := by
    intro z
    refine h30 _ _ _ ⟨by omega, by omega, k_none l _ 1 _ ⟨by omega, by omega, ?_⟩⟩
    exact ss _ (fun _ => OKa.of (by omega) (by omega) rfl ⟨n, P, kd, ct, sc, sm, x, y, (h.th 0).tr 1⟩ rfl) (fun s i j hs ea hi eb hj ec hne _ => absurd ⟨⟨s, hs, ea⟩, ⟨i, hi, eb⟩, ⟨j, hj, ec⟩, hne⟩ z) (fun s i j hs ea hi eb hj ec hne _ => absurd ⟨⟨s, hs, ea⟩, ⟨i, hi, eb⟩, ⟨j, hj, ec⟩, hne⟩ z)
  refine ⟨by omega, by omega, k_has l kc.2.1 hq a _ (fun z => ⟨fun _ => no (fun v => z v.1), fun v => absurd rfl v⟩) (fun s hs ea => ⟨fun v => absurd v (by decide), fun _ => ⟨by omega, by omega, ?_⟩⟩)⟩
  refine k_isRole l S b _ (fun z => ⟨fun _ => no (fun v => z v.2.1), fun v => absurd rfl v⟩) (fun i hi eb => ⟨fun v => absurd v (by decide), fun _ => ⟨by omega, by omega, ?_⟩⟩)
  refine k_isRole l S c _ (fun z => ⟨fun _ => no (fun v => z v.2.2.1), fun v => absurd rfl v⟩) (fun j hj ec => ⟨fun v => absurd v (by decide), fun _ => ⟨fun hne => ⟨by omega, by omega, by omega, by omega, ?_⟩, fun e => no (fun v => v.2.2.2 e)⟩⟩)
  subst ea
  subst eb
  subst ec
  have hws := kc.2.2.1 s hs
  refine k_addStep l (by omega) hws.1 hws.2 (by omega) _ (fun h8 => ⟨by omega, by omega, ?_⟩) (fun h8 => ⟨by omega, by omega, ?_⟩)
  · refine ss _ (fun v => absurd ⟨⟨s, hs, rfl⟩, ⟨i, hi, rfl⟩, ⟨j, hj, rfl⟩, hne⟩ v) (fun s' i' j' hs' ea _ _ _ _ _ _ => OKa.of (by omega) (by omega) rfl ⟨n, P, kd, ct, sc, sm, x, y, (h.th 0).tr 5⟩ rfl) (fun s' i' j' hs' ea _ _ _ _ _ h8' => ?_)
    have e : s = s' := (nI_eq (by omega) (by omega)).mp ea
    subst e
    omega
  · refine ss _ (fun v => absurd ⟨⟨s, hs, rfl⟩, ⟨i, hi, rfl⟩, ⟨j, hj, rfl⟩, hne⟩ v) (fun s' i' j' hs' ea _ _ _ _ _ h8' => ?_) (fun s' i' j' hs' ea hi' eb hj' ec _ h8' => ?_)
    · have e : s = s' := (nI_eq (by omega) (by omega)).mp ea
      subst e
      omega
    · have e : s = s' := (nI_eq (by omega) (by omega)).mp ea
      have e1 : i = i' := (nI_eq (by omega) (by omega)).mp eb
      have e2 : j = j' := (nI_eq (by omega) (by omega)).mp ec
      subst e
      subst e1
      subst e2
      refine OKa.of (by omega) (by omega) rfl ⟨n, P, kd, ct, sc, sm, x, y, ?_⟩ rfl
      refine h.book (((((CFr.rf.cf _ rfl).ca _ rfl).ca _ rfl).ca _ rfl).ca _ rfl) ((((((MFx.rf.sc _ rfl).row _ rfl).row _ rfl).row _ rfl).row _ rfl).sc _ rfl) rfl ⟨q, va_up w s (w s + 1), va_up of (8 * s + w s) none, le, va_up (va_up ro (5 * (8 * s + w s)) i) (5 * (8 * s + w s) + 1) j, ?_, ?_⟩
      · refine kc.single hs h8 hi hj (fun t ht => upd_other _ _ ht) ?_ ?_ (fun t t1 t2 => ?_)
        · show apF _ _ _ _ _ = _
          unfold apF
          rw [if_pos (by omega), Nat.sub_self]
          rfl
        · show apF _ _ _ _ _ = _
          unfold apF
          rw [if_pos (by omega), Nat.add_sub_cancel_left]
          rfl
        · show apF _ _ _ _ _ = _
          unfold apF
          rw [if_neg (by omega)]
      · refine km.single hs h8 hi hj (fun t ht => rfl) ?_ ?_ (fun t t1 t2 => ?_)
        · show upd (upd (M.2.1 32) (5 * (8 * s + w s)) (nI i)) (5 * (8 * s + w s) + 1) (nI j) _ = _
          rw [upd_other _ _ (by omega), upd_same]
        · exact upd_same _ _ _
        · show upd (upd (M.2.1 32) (5 * (8 * s + w s)) (nI i)) (5 * (8 * s + w s) + 1) (nI j) _ = _
          rw [upd_other _ _ t2, upd_other _ _ t1]
-- the model's roles of a call
theorem bit_nI : ∀ m, m < 32 → ∀ v, v < 5 → ((nI m >>> (nI v &&& 31)) &&& 1 = 1 ↔ m.testBit v = true) := by decide
theorem s_role (l : Launch) (S : MS) {f : Nat → Int32} {ν : Nat → Nat} {k : Nat} (hk : k < 5) {B118 : MS → Prop} {B43 : MS → Int32 → Int32 → Prop} {a : Int32} (ha : f k = a) (h0 : (¬ ∃ ν, NM f 5 ν) → B118 S) (g1 : ∀ i, i < k → f i = nI (ν i) ∧ ν i < 5) (g2 : ∀ i j, i < k → j < k → ν i = ν j → i = j) (nxt : ∀ ν' : Nat → Nat, (∀ i, i < k + 1 → f i = nI (ν' i) ∧ ν' i < 5) → (∀ i j, i < k + 1 → j < k + 1 → ν' i = ν' j → i = j) → B43 S (nI (mskN ν' (k + 1))) (nI k + 1)) :
    mX_in l S a 0 4 (fun b S' => (bI b = 0 → B118 S') ∧ (¬ bI b = 0 → (¬ (nI (mskN ν k) >>> (a &&& 31)) &&& 1 = 1 → ∀ v : Int32, v = nI (mskN ν k) ||| (1 <<< (a &&& 31)) → B43 S' v (nI k + 1)) ∧ ((nI (mskN ν k) >>> (a &&& 31)) &&& 1 = 1 → B118 S'))) := by
  have hlt : mskN ν k < 2 ^ 5 := msk_lt k (fun i hi => (g1 i hi).2)
  refine s_inC l S a 0 4 _ (L := 0) (H := 4) rfl rfl (by decide) (by decide) (fun q => ⟨fun _ => h0 (fun ⟨ν', hν⟩ => q ⟨ν' k, by omega, by have := (hν.1 k hk).2; omega, by rw [← ha]; exact (hν.1 k hk).1⟩), fun w => absurd rfl w⟩) (fun v _ hv ev => ⟨fun w => absurd w (by decide), fun _ => ?_⟩)
  subst ev
  refine ⟨fun c u hu => ?_, fun c => h0 (fun ⟨ν', hν⟩ => ?_)⟩
  · have c : ¬ ∃ i, i < k ∧ ν i = v := fun q => c ((bit_nI _ (by omega) v (by omega)).mpr ((msk_bit ν v k).mpr q))
    rw [or_nI _ (by omega) v (by omega)] at hu
    have e : mskN (va_up ν k v) (k + 1) = mskN ν k ||| 1 <<< v := by
      have : ∀ j, j ≤ k → mskN (va_up ν k v) j = mskN ν j := by
        intro j
        induction j with
        | zero => intro _; rfl
        | succ j ih =>
          intro hj
          unfold mskN
          rw [ih (by omega), va_up_other _ _ (by omega)]
      conv => lhs; unfold mskN
      rw [this k (Nat.le_refl _), va_up_same]
    rw [hu, ← e]
    refine nxt (va_up ν k v) (fun i hi => ?_) (fun i j hi hj e => ?_)
    · by_cases q : i = k
      · subst q; rw [va_up_same]; exact ⟨ha, by omega⟩
      · rw [va_up_other _ _ q]; exact g1 i (by omega)
    · by_cases q1 : i = k
      · by_cases q2 : j = k
        · omega
        · subst q1
          rw [va_up_same, va_up_other _ _ q2] at e
          exact absurd ⟨j, by omega, e.symm⟩ c
      · by_cases q2 : j = k
        · subst q2
          rw [va_up_same, va_up_other _ _ q1] at e
          exact absurd ⟨i, by omega, e⟩ c
        · rw [va_up_other _ _ q1, va_up_other _ _ q2] at e
          exact g2 i j (by omega) (by omega) e
  · obtain ⟨i, hi, ei⟩ := (msk_bit ν v k).mp ((bit_nI _ (by omega) v (by omega)).mp c)
    have w1 := hν.1 i (by omega)
    have w2 := hν.1 k hk
    have g := g1 i hi
    have e1 : ν i = ν' i := (nI_eq (by omega) (by omega)).mp (g.1.symm.trans w1.1)
    have e2 : v = ν' k := (nI_eq (by omega) (by omega)).mp (ha.symm.trans w2.1)
    have := hν.2 i k (by omega) hk (by rw [← e1, ← e2, ei])
    omega
theorem s_call (l : Launch) {q : Nat} {w : Nat → Nat} (h9 : M.1 9 = nI q) (hq : q ≤ 8) (hw : ∀ s, s < q → w s ≤ 8 ∧ M.2.1 29 s = nI (w s)) (a b c a0 a1 a2 a3 a4 : Int32) (post : Int32 → MS → Prop)
    (h0 : (¬ ((∃ s, s < q ∧ a = nI s) ∧ (∃ o, o < q ∧ b = nI o) ∧ (∃ L, 1 ≤ L ∧ L ≤ 4 ∧ c = nI L) ∧ ∃ ν, NM (n5 (fun _ => 0) a0 a1 a2 a3 a4) 5 ν)) → post (-1) (mf (mf M 3 0) 2 1))
    (h1 : ∀ s o L ν, s < q → a = nI s → o < q → b = nI o → 1 ≤ L → L ≤ 4 → c = nI L → NM (n5 (fun _ => 0) a0 a1 a2 a3 a4) 5 ν → w s = 8 → post (-1) (mf (mf M 3 0) 2 5))
    (h2 : ∀ s o L ν, s < q → a = nI s → o < q → b = nI o → 1 ≤ L → L ≤ 4 → c = nI L → NM (n5 (fun _ => 0) a0 a1 a2 a3 a4) 5 ν → w s < 8 → ∀ T, MFx bkM bkR M T → T.1 2 = 0 → T.1 9 = M.1 9 → T.2.1 29 = upd (M.2.1 29) s (nI (w s + 1)) → T.2.1 30 = upd (M.2.1 30) (8 * s + w s) (nI o) → T.2.1 31 = upd (M.2.1 31) (8 * s + w s) (nI L) → T.2.1 32 = upd (upd (upd (upd (upd (M.2.1 32) (5 * (8 * s + w s)) a0) (5 * (8 * s + w s) + 1) a1) (5 * (8 * s + w s) + 2) a2) (5 * (8 * s + w s) + 3) a3) (5 * (8 * s + w s) + 4) a4 → post (nI (w s + 1)) T) : mX_call l M a b c a0 a1 a2 a3 a4 post := by
  refine m_call l M a b c a0 a1 a2 a3 a4 post ?_
  intro B31 B43 B118 h31 h43 h118
  unfold mT_call_e
  have no : (¬ ((∃ s, s < q ∧ a = nI s) ∧ (∃ o, o < q ∧ b = nI o) ∧ (∃ L, 1 ≤ L ∧ L ≤ 4 ∧ c = nI L) ∧ ∃ ν, NM (n5 (fun _ => 0) a0 a1 a2 a3 a4) 5 ν)) → B31 (mf M 3 0) := fun w => h31 _ (s_no l _ 1 _ (h0 w))
  refine s_isScheme l (mf M 3 0) h9 hq a _ (fun w => ⟨fun _ => no (fun z => w z.1), fun z => absurd rfl z⟩) (fun s hs ea => ⟨fun z => absurd z (by decide), fun _ => ?_⟩)
  refine s_isScheme l (mf M 3 0) h9 hq b _ (fun w => ⟨fun _ => no (fun z => w z.2.1), fun z => absurd rfl z⟩) (fun o ho eb => ⟨fun z => absurd z (by decide), fun _ => ?_⟩)
  refine s_inC l _ c 1 4 _ (L := 1) (H := 4) rfl rfl (by decide) (by decide) (fun w => ⟨fun z => absurd rfl z, fun _ => no (fun z => w z.2.2.1)⟩) (fun L hL1 hL2 ec => ⟨fun _ => ?_, fun z => absurd z (by decide)⟩)
  have no2 : (¬ ∃ ν, NM (n5 (fun _ => 0) a0 a1 a2 a3 a4) 5 ν) → B118 (mf M 3 0) := fun w => h118 _ (s_no l _ 1 _ (h0 (fun z => w z.2.2.2)))
  have hws := hw s hs
  have e29 : (mf M 3 0).2.1 29 s = nI (w s) := hws.2
  have e5 : ∀ ν : Nat → Nat, (∀ i, i < 5 → n5 (fun _ => 0) a0 a1 a2 a3 a4 i = nI (ν i) ∧ ν i < 5) → (∀ i j, i < 5 → j < 5 → ν i = ν j → i = j) → B43 (mf M 3 0) (nI (mskN ν 5)) (nI 5) := by
    intro ν g1 g2
    refine h43 _ _ _ ?_
    unfold mT_call_43
    refine ⟨fun _ => ?_, fun z => absurd (show (5 : Int32) ≤ nI 5 by decide) z⟩
    rw [ea, nI_clamp (show s < 2 ^ 31 by omega), e29]
    refine ⟨vp_in_nI (by omega) (by omega), fun v hv => ?_⟩
    subst hv
    refine ⟨fun c8 => ?_, fun c8 => s_no l _ 5 _ (h1 s o L ν hs ea ho eb hL1 hL2 ec ⟨g1, g2⟩ ((nI_is 8 rfl (by omega) (by omega)).mp c8))⟩
    have c8 : w s < 8 := by
      rcases Nat.lt_or_ge (w s) 8 with z | z
      · exact z
      · exact absurd (by rw [show w s = 8 by omega]; rfl) c8
    intro v hv
    rw [i8] at hv
    subst hv
    rw [i5, show nI (5 * (8 * s + w s)) + 1 = nI (5 * (8 * s + w s) + 1) from nI_add .., show nI (5 * (8 * s + w s)) + 2 = nI (5 * (8 * s + w s) + 2) from nI_add .., show nI (5 * (8 * s + w s)) + 3 = nI (5 * (8 * s + w s) + 3) from nI_add .., show nI (5 * (8 * s + w s)) + 4 = nI (5 * (8 * s + w s) + 4) from nI_add .., nI_clamp (show 8 * s + w s < 2 ^ 31 by omega), nI_clamp (show 5 * (8 * s + w s) < 2 ^ 31 by omega), nI_clamp (show 5 * (8 * s + w s) + 1 < 2 ^ 31 by omega), nI_clamp (show 5 * (8 * s + w s) + 2 < 2 ^ 31 by omega), nI_clamp (show 5 * (8 * s + w s) + 3 < 2 ^ 31 by omega), nI_clamp (show 5 * (8 * s + w s) + 4 < 2 ^ 31 by omega), ← nI_succ]
    refine ⟨vp_in_nI (by omega) (by omega), vp_in_nI (by omega) (by omega), vp_in_nI (by omega) (by omega), vp_in_nI (by omega) (by omega), vp_in_nI (by omega) (by omega), vp_in_nI (by omega) (by omega), vp_in_nI (by omega) (by omega), vp_in_nI (by omega) (by omega), vp_in_nI (by omega) (by omega), ?_⟩
    rw [eb, ec]
    exact h2 s o L ν hs ea ho eb hL1 hL2 ec ⟨g1, g2⟩ c8 _ ((((((((((MFx.rf.sc _ rfl).row _ rfl).row _ rfl).row _ rfl).row _ rfl).row _ rfl).row _ rfl).row _ rfl).row _ rfl).sc _ rfl) rfl rfl rfl rfl rfl rfl
  have e4 : ∀ ν : Nat → Nat, (∀ i, i < 4 → n5 (fun _ => 0) a0 a1 a2 a3 a4 i = nI (ν i) ∧ ν i < 5) → (∀ i j, i < 4 → j < 4 → ν i = ν j → i = j) → B43 (mf M 3 0) (nI (mskN ν 4)) (nI 4) := by
    intro ν g1 g2
    refine h43 _ _ _ ?_
    unfold mT_call_43
    refine ⟨fun z => absurd z (by decide), fun _ => ⟨fun _ => ⟨fun _ => ⟨fun _ => ⟨fun _ => ?_, fun z => absurd z (by decide)⟩, fun z => absurd z (by decide)⟩, fun z => absurd z (by decide)⟩, fun z => absurd z (by decide)⟩⟩
    exact s_role l (mf M 3 0) (f := n5 (fun _ => 0) a0 a1 a2 a3 a4) (k := 4) (by omega) rfl no2 g1 g2 (fun ν' w1 w2 => e5 ν' w1 w2)
  have e3 : ∀ ν : Nat → Nat, (∀ i, i < 3 → n5 (fun _ => 0) a0 a1 a2 a3 a4 i = nI (ν i) ∧ ν i < 5) → (∀ i j, i < 3 → j < 3 → ν i = ν j → i = j) → B43 (mf M 3 0) (nI (mskN ν 3)) (nI 3) := by
    intro ν g1 g2
    refine h43 _ _ _ ?_
    unfold mT_call_43
    refine ⟨fun z => absurd z (by decide), fun _ => ⟨fun _ => ⟨fun _ => ⟨fun _ => ⟨fun z => absurd rfl z, fun _ => ?_⟩, fun z => absurd z (by decide)⟩, fun z => absurd z (by decide)⟩, fun z => absurd z (by decide)⟩⟩
    exact s_role l (mf M 3 0) (f := n5 (fun _ => 0) a0 a1 a2 a3 a4) (k := 3) (by omega) rfl no2 g1 g2 (fun ν' w1 w2 => e4 ν' w1 w2)
  have e2 : ∀ ν : Nat → Nat, (∀ i, i < 2 → n5 (fun _ => 0) a0 a1 a2 a3 a4 i = nI (ν i) ∧ ν i < 5) → (∀ i j, i < 2 → j < 2 → ν i = ν j → i = j) → B43 (mf M 3 0) (nI (mskN ν 2)) (nI 2) := by
    intro ν g1 g2
    refine h43 _ _ _ ?_
    unfold mT_call_43
    refine ⟨fun z => absurd z (by decide), fun _ => ⟨fun _ => ⟨fun _ => ⟨fun z => absurd rfl z, fun _ => ?_⟩, fun z => absurd z (by decide)⟩, fun z => absurd z (by decide)⟩⟩
    exact s_role l (mf M 3 0) (f := n5 (fun _ => 0) a0 a1 a2 a3 a4) (k := 2) (by omega) rfl no2 g1 g2 (fun ν' w1 w2 => e3 ν' w1 w2)
  have e1 : ∀ ν : Nat → Nat, (∀ i, i < 1 → n5 (fun _ => 0) a0 a1 a2 a3 a4 i = nI (ν i) ∧ ν i < 5) → (∀ i j, i < 1 → j < 1 → ν i = ν j → i = j) → B43 (mf M 3 0) (nI (mskN ν 1)) (nI 1) := by
    intro ν g1 g2
    refine h43 _ _ _ ?_
    unfold mT_call_43
    refine ⟨fun z => absurd z (by decide), fun _ => ⟨fun _ => ⟨fun z => absurd rfl z, fun _ => ?_⟩, fun z => absurd z (by decide)⟩⟩
    exact s_role l (mf M 3 0) (f := n5 (fun _ => 0) a0 a1 a2 a3 a4) (k := 1) (by omega) rfl no2 g1 g2 (fun ν' w1 w2 => e2 ν' w1 w2)
  refine h43 _ _ _ ?_
  unfold mT_call_43
  refine ⟨fun z => absurd z (by decide), fun _ => ⟨fun z => absurd rfl z, fun _ => ?_⟩⟩
  exact s_role l (mf M 3 0) (f := n5 (fun _ => 0) a0 a1 a2 a3 a4) (ν := fun _ => 0) (k := 0) (by omega) rfl no2 (fun i hi => absurd hi (Nat.not_lt_zero _)) (fun i j hi => absurd hi (Nat.not_lt_zero _)) (fun ν' w1 w2 => e1 ν' w1 w2)
theorem o_call (l : Launch) (h : Rl S M n P kd ct sc sm x y) (a b c a0 a1 a2 a3 a4 : Int32) : ∃ mc ms, mc ≤ 50000 ∧ ms ≤ 300000 ∧ cX_X8_call l mc ms S a b c a0 a1 a2 a3 a4 (fun r1 S1 => mX_call l M a b c a0 a1 a2 a3 a4 (fun r2 M1 => OKa S mc ms r1 S1 r2 M1)) := by
  obtain ⟨⟨q, w, of, le, ro, kc, km⟩, tz⟩ := id h.2.2.2.2.2.2.1
  have hq := kc.1
  refine ⟨1, 5, by omega, by omega, c_X8_call l 1 5 S a b c a0 a1 a2 a3 a4 _ ?_⟩
  intro B71 h71
  unfold cT_X8_call_e
  have e0 : upd (upd (upd (upd (upd (fun _ => (0 : Int32)) (0 : Int32).toNatClampNeg a0) (1 : Int32).toNatClampNeg a1) (2 : Int32).toNatClampNeg a2) (3 : Int32).toNatClampNeg a3) (4 : Int32).toNatClampNeg a4 = n5 (fun _ => 0) a0 a1 a2 a3 a4 := rfl
  rw [e0]
  have ss := s_call l (M := M) km.2.1 hq km.2.2.1 a b c a0 a1 a2 a3 a4
  have no : (¬ ((∃ s, s < q ∧ a = nI s) ∧ (∃ o, o < q ∧ b = nI o) ∧ (∃ L, 1 ≤ L ∧ L ≤ 4 ∧ c = nI L) ∧ ∃ ν, NM (n5 (fun _ => 0) a0 a1 a2 a3 a4) 5 ν)) → ∀ f, B71 (0 + 1) (0 + 5) S f := by
    intro z f
    refine h71 _ _ _ _ ⟨by omega, by omega, k_none l _ 1 _ ⟨by omega, by omega, ?_⟩⟩
    exact ss _ (fun _ => OKa.of (by omega) (by omega) rfl ⟨n, P, kd, ct, sc, sm, x, y, (h.th 0).tr 1⟩ rfl) (fun s o L ν hs ea ho eb hL1 hL2 ec hν _ => absurd ⟨⟨s, hs, ea⟩, ⟨o, ho, eb⟩, ⟨L, hL1, hL2, ec⟩, ν, hν⟩ z) (fun s o L ν hs ea ho eb hL1 hL2 ec hν _ => absurd ⟨⟨s, hs, ea⟩, ⟨o, ho, eb⟩, ⟨L, hL1, hL2, ec⟩, ν, hν⟩ z)
  refine ⟨by omega, by omega, by omega, by omega, k_has l kc.2.1 hq a _ (fun z => ⟨fun _ => no (fun v => z v.1) _, fun v => absurd rfl v⟩) (fun s hs ea => ⟨fun v => absurd v (by decide), fun _ => ⟨by omega, by omega, ?_⟩⟩)⟩
  refine k_has l kc.2.1 hq b _ (fun z => ⟨fun _ => no (fun v => z v.2.1) _, fun v => absurd rfl v⟩) (fun o ho eb => ⟨fun v => absurd v (by decide), fun _ => ?_⟩)
  refine ⟨fun z => no (fun v => ?_) _, fun z1 => ⟨fun z => no (fun v => ?_) _, fun z2 => ⟨by omega, by omega, ?_⟩⟩⟩
  · obtain ⟨L, hL1, hL2, ec⟩ := v.2.2.1
    rw [ec] at z
    exact absurd z (nI_nlt (b := 1) hL1 (by omega))
  · obtain ⟨L, hL1, hL2, ec⟩ := v.2.2.1
    rw [ec] at z
    exact absurd z (nI_nlt (a := 4) hL2 (by omega))
  obtain ⟨L, hL1, hL2, ec⟩ := (in_rng (L := 1) (H := 4) (a := c) (by decide) (by decide)).mp ⟨Int32.not_lt.mp z1, Int32.not_lt.mp z2⟩
  refine k_isRearr l S (K := 5) (by omega) (by omega) (by omega) _ (fun z => ⟨fun v => absurd rfl v, fun _ => no (fun v => z v.2.2.2) _⟩) (fun ν hν => ⟨fun _ => ⟨by omega, by omega, ?_⟩, fun v => absurd v (by decide)⟩)
  subst ea
  subst eb
  subst ec
  have hws := kc.2.2.1 s hs
  refine k_addStep l (by omega) hws.1 hws.2 (by omega) _ (fun h8 => ⟨by omega, by omega, ?_⟩) (fun h8 => ⟨by omega, by omega, ?_⟩)
  · refine ss _ (fun v => absurd ⟨⟨s, hs, rfl⟩, ⟨o, ho, rfl⟩, ⟨L, hL1, hL2, rfl⟩, ν, hν⟩ v) (fun s' o' L' ν' hs' ea _ _ _ _ _ _ _ => OKa.of (by omega) (by omega) rfl ⟨n, P, kd, ct, sc, sm, x, y, (h.th 0).tr 5⟩ rfl) (fun s' o' L' ν' hs' ea _ _ _ _ _ _ h8' => ?_)
    have e : s = s' := (nI_eq (by omega) (by omega)).mp ea
    subst e
    omega
  · refine ss _ (fun v => absurd ⟨⟨s, hs, rfl⟩, ⟨o, ho, rfl⟩, ⟨L, hL1, hL2, rfl⟩, ν, hν⟩ v) (fun s' o' L' ν' hs' ea _ _ _ _ _ _ h8' => ?_) (fun s' o' L' ν' hs' ea ho' eb hL1' hL2' ec hν' h8' N fN n2 n9 n29 n30 n31 n32 => ?_)
    · have e : s = s' := (nI_eq (by omega) (by omega)).mp ea
      subst e
      omega
    · have e : s = s' := (nI_eq (by omega) (by omega)).mp ea
      have e1 : o = o' := (nI_eq (by omega) (by omega)).mp eb
      have e2 : L = L' := (nI_eq (by omega) (by omega)).mp ec
      subst e
      subst e1
      subst e2
      refine OKa.of (by omega) (by omega) rfl ⟨n, P, kd, ct, sc, sm, x, y, ?_⟩ rfl
      refine h.book (((((CFr.rf.cf _ rfl).ca _ rfl).ca _ rfl).ca _ rfl).ca _ rfl) fN n2.symm ⟨q, va_up w s (w s + 1), va_up of (8 * s + w s) (some o), va_up le (8 * s + w s) L, (fun t => if 5 * (8 * s + w s) ≤ t ∧ t < 5 * (8 * s + w s) + 5 then ν (t - 5 * (8 * s + w s)) else ro t), ?_, ?_⟩
      · refine kc.call (ν := ν) hs h8 ho ⟨hL1, hL2⟩ (fun t ht => ⟨(hν.1 t ht).2, ?_⟩) (fun t ht => ?_)
        · show apF _ _ _ _ _ = _
          unfold apF
          rw [if_pos (by omega), Nat.add_sub_cancel_left]
          exact (hν.1 t ht).1
        · show apF _ _ _ _ _ = _
          unfold apF
          rw [if_neg (by omega)]
      · rw [n9, n29, n30, n31, n32]
        refine km.call (ν := ν) hs h8 ho ⟨hL1, hL2⟩ (fun t ht => ⟨(hν.1 t ht).2, ?_⟩) (fun t ht => ?_)
        · rw [← (hν.1 t ht).1]
          have : t = 0 ∨ t = 1 ∨ t = 2 ∨ t = 3 ∨ t = 4 := by omega
          rcases this with e | e | e | e | e <;> subst e
          · rw [upd_other _ _ (by omega), upd_other _ _ (by omega), upd_other _ _ (by omega), upd_other _ _ (by omega)]
            exact upd_same _ _ _
          · rw [upd_other _ _ (by omega), upd_other _ _ (by omega), upd_other _ _ (by omega)]
            exact upd_same _ _ _
          · rw [upd_other _ _ (by omega), upd_other _ _ (by omega)]
            exact upd_same _ _ _
          · rw [upd_other _ _ (by omega)]
            exact upd_same _ _ _
          · exact upd_same _ _ _
        · rw [upd_other _ _ (by omega), upd_other _ _ (by omega), upd_other _ _ (by omega), upd_other _ _ (by omega), upd_other _ _ (by omega)]
end Steps
