-- count()
def jN (n : Nat) : Int64 := Int64.ofNat n
def mx : Nat := 1000000000000000000
theorem jN_toInt {n : Nat} (h : n < 2 ^ 63) : (jN n).toInt = (n : Int) := Int64.toInt_ofNat_of_lt h
theorem jN_add (a b : Nat) : jN a + jN b = jN (a + b) := (Int64.ofNat_add a b).symm
theorem jN_le {a b : Nat} (ha : a < 2 ^ 63) (hb : b < 2 ^ 63) : jN a ≤ jN b ↔ a ≤ b := by
  rw [Int64.le_iff_toInt_le, jN_toInt ha, jN_toInt hb]; omega
theorem jN_lt {a b : Nat} (ha : a < 2 ^ 63) (hb : b < 2 ^ 63) : jN a < jN b ↔ a < b := by
  rw [Int64.lt_iff_toInt_lt, jN_toInt ha, jN_toInt hb]; omega
theorem mx_sub {a : Nat} (h : a ≤ mx) : (1000000000000000000 : Int64) - jN a = jN (mx - a) := by
  have e : (1000000000000000000 : Int64) = jN (mx - a) + jN a := by
    rw [jN_add, Nat.sub_add_cancel h]; rfl
  rw [e, Int64.add_sub_cancel]
theorem lgc_le (x y : Int64) : lg_cmp x y ≤ 0 ↔ x ≤ y := by
  unfold lg_cmp
  by_cases c : x > y
  · rw [if_pos c]
    exact ⟨fun q => absurd q (by decide), fun q => absurd (Int64.lt_of_lt_of_le c q) (Int64.lt_irrefl)⟩
  · rw [if_neg c]
    have c : x ≤ y := Int64.not_lt.mp c
    refine ⟨fun _ => c, fun _ => ?_⟩
    split <;> decide
theorem hsub {h d : Nat} (q : d ≤ h) : nI h - nI d = nI (h - d) := by
  have e : nI h = nI (h - d) + nI d := by rw [nI_add, Nat.sub_add_cancel q]
  rw [e, Int32.add_sub_cancel]
theorem ml_g (S : MS) (k : Nat) (f : Nat → Int64) : (ml S k f).2.2 k = f := by
  unfold ml
  exact va_up_same _ _ _
section Tab
variable (w : Nat → Nat) (of : Nat → Option Nat) (le : Nat → Nat)
/-- MOVES of a step at height h, the table tb holds those of lesser heights -/
def stV (h : Nat) (tb : Nat → Nat → Nat) (k : Nat) : Nat := match of k with
  | none => 1
  | some o => if h ≤ le k then 0 else tb (h - le k) o
def rawS (h : Nat) (tb : Nat → Nat → Nat) (s : Nat) : Nat → Nat
  | 0 => 0
  | i + 1 => rawS h tb s i + stV of le h tb (8 * s + i)
def tab : Nat → Nat → Nat → Nat
  | 0 => fun _ _ => 0
  | h + 1 => fun h' s => if h' = h + 1 then min mx (rawS of le (h + 1) (tab h) s (w s)) else tab h h' s
def vl (h s : Nat) : Nat := min mx (rawS of le (h + 1) (tab w of le h) s (w s))
def TB (T : Nat → Int64) (q h s : Nat) : Prop := (∀ t, t < 8 → T t = 0) ∧ (∀ h' t, h' ≤ h → t < q → T (8 * h' + t) = jN (tab w of le h h' t)) ∧ ∀ t, t < s → T (8 * (h + 1) + t) = jN (vl w of le h t)
end Tab
section TabS
variable {w : Nat → Nat} {of : Nat → Option Nat} {le : Nat → Nat}
theorem tab_le (h : Nat) : ∀ h' s, tab w of le h h' s ≤ mx := by
  induction h with
  | zero => intro h' s; exact Nat.zero_le _
  | succ h ih =>
    intro h' s
    show (if h' = h + 1 then min mx (rawS of le (h + 1) (tab w of le h) s (w s)) else tab w of le h h' s) ≤ mx
    split
    · exact Nat.min_le_left _ _
    · exact ih h' s
theorem stV_le {h : Nat} {tb : Nat → Nat → Nat} (htb : ∀ h' s, tb h' s ≤ mx) (k : Nat) : stV of le h tb k ≤ mx := by
  unfold stV
  split
  · unfold mx; omega
  · split
    · exact Nat.zero_le _
    · exact htb _ _
theorem rawS_le {h s : Nat} {tb : Nat → Nat → Nat} (htb : ∀ h' s, tb h' s ≤ mx) : ∀ i, rawS of le h tb s i ≤ i * mx := by
  intro i
  induction i with
  | zero => exact Nat.zero_le _
  | succ i ih =>
    have := stV_le (of := of) (le := le) (h := h) htb (8 * s + i)
    show rawS of le h tb s i + stV of le h tb (8 * s + i) ≤ (i + 1) * mx
    have e : (i + 1) * mx = i * mx + mx := Nat.succ_mul i mx
    omega
theorem TB.step {T : Nat → Int64} {q h s : Nat} (hq : q ≤ 8) (hs : s < q) (H : TB w of le T q h s) : TB w of le (vp_updL T (8 * (h + 1) + s) (jN (vl w of le h s))) q h (s + 1) := by
  obtain ⟨h1, h2, h3⟩ := H
  have up : ∀ j, j ≠ 8 * (h + 1) + s → vp_updL T (8 * (h + 1) + s) (jN (vl w of le h s)) j = T j := fun j hj => by
    unfold vp_updL; rw [if_neg hj]
  have ups : vp_updL T (8 * (h + 1) + s) (jN (vl w of le h s)) (8 * (h + 1) + s) = jN (vl w of le h s) := by
    unfold vp_updL; rw [if_pos rfl]
  refine ⟨fun t ht => ?_, fun h' t hh ht => ?_, fun t ht => ?_⟩
  · rw [up t (by omega)]; exact h1 t ht
  · rw [up _ (by omega)]; exact h2 h' t hh ht
  · by_cases e : t = s
    · subst e; exact ups
    · rw [up _ (by omega)]; exact h3 t (by omega)
theorem TB.next {T : Nat → Int64} {q h : Nat} (H : TB w of le T q h q) : TB w of le T q (h + 1) 0 := by
  obtain ⟨h1, h2, h3⟩ := H
  refine ⟨h1, fun h' t hh ht => ?_, fun t ht => absurd ht (Nat.not_lt_zero _)⟩
  show T (8 * h' + t) = jN (if h' = h + 1 then min mx (rawS of le (h + 1) (tab w of le h) t (w t)) else tab w of le h h' t)
  by_cases e : h' = h + 1
  · rw [if_pos e, e]; exact h3 t ht
  · rw [if_neg e]; exact h2 h' t (by omega) ht
theorem TB.start {T : Nat → Int64} {q : Nat} (hq : q ≤ 8) (hT : ∀ t, t < 8 → T t = 0) : TB w of le T q 0 0 := ⟨hT, fun h' t hh ht => by
  have : h' = 0 := by omega
  subst this
  rw [Nat.mul_zero, Nat.zero_add]
  exact hT t (by omega), fun t ht => absurd ht (Nat.not_lt_zero _)⟩
end TabS
section Count
variable {S : CS} {M : MS} {n P x y : Nat} {kd ct sc sm : Nat → Nat} {q : Nat} {w : Nat → Nat} {of : Nat → Option Nat} {le ro : Nat → Nat}
theorem k_sumSteps (l : Launch) (kc : KSc q w of le ro (S.1 19) (S.2.1 38) (S.2.1 39) (S.2.1 40) (S.2.1 41)) {h s : Nat} (hh : h < 60) (hs : s < q) (ht : TB w of le (S.2.2.1 42) q h s) (post : Int64 → CS → Prop) (hp : post (jN (vl w of le h s)) S) : cX_X1_sumOfSteps l S (nI s) (nI (h + 1)) post := by
  obtain ⟨hq, -, hlen, hst⟩ := kc
  have hws := hlen s hs
  refine c_X1_sumOfSteps l S _ _ post ?_
  intro B5 B82 h5 h82
  unfold cT_X1_sumOfSteps_e
  have hb := rawS_le (of := of) (le := le) (h := h + 1) (s := s) (tab_le (w := w) (of := of) (le := le) h)
  have key : ∀ d i, i + d = w s → B5 S (jN (rawS of le (h + 1) (tab w of le h) s i)) (nI i) := by
    intro d
    induction d with
    | zero =>
      intro i hi
      have e : i = w s := by omega
      have hbi := hb (w s)
      refine h5 _ _ _ ?_
      unfold cT_X1_sumOfSteps_5
      rw [nI_clamp (show s < 2 ^ 31 by omega), hws.2, e]
      refine ⟨vp_in_nI (by omega) (by omega), fun _ => ?_, fun z => absurd (nI_le (Nat.le_refl _) (by omega)) z⟩
      have hbi2 : rawS of le (h + 1) (tab w of le h) s (w s) ≤ 8 * mx := Nat.le_trans hbi (Nat.mul_le_mul_right _ hws.1)
      have e2 : (if (1000000000000000000 : Int64) < jN (rawS of le (h + 1) (tab w of le h) s (w s)) then (1000000000000000000 : Int64) else jN (rawS of le (h + 1) (tab w of le h) s (w s))) = jN (vl w of le h s) := by
        have e3 : (1000000000000000000 : Int64) = jN mx := rfl
        unfold vl
        rw [e3]
        by_cases c : mx < rawS of le (h + 1) (tab w of le h) s (w s)
        · rw [if_pos ((jN_lt (by unfold mx; omega) (by unfold mx at hbi2; omega)).mpr c), Nat.min_eq_left (by omega)]
        · rw [if_neg (fun z => c ((jN_lt (by unfold mx; omega) (by unfold mx at hbi2; omega)).mp z)), Nat.min_eq_right (by omega)]
      rw [e2]
      exact hp
    | succ d ih =>
      intro i hi
      have hk := hst s i hs (by omega)
      have nxt : ∀ v, v = jN (rawS of le (h + 1) (tab w of le h) s i) + jN (stV of le (h + 1) (tab w of le h) (8 * s + i)) → B82 S v (nI i) := by
        intro v hv
        refine h82 _ _ _ ?_
        unfold cT_X1_sumOfSteps_82
        rw [hv, jN_add, ← nI_succ]
        exact ih (i + 1) (by omega)
      refine h5 _ _ _ ?_
      unfold cT_X1_sumOfSteps_5
      rw [nI_clamp (show s < 2 ^ 31 by omega), hws.2]
      refine ⟨vp_in_nI (by omega) (by omega), fun z => absurd z (nI_ge (by omega) (by omega)), fun _ v hv => ?_⟩
      have hv : v = nI (8 * s + i) := by rw [hv, show (8 : Int32) = nI 8 from rfl, pk_mul, nI_add]; congr 1; omega
      subst hv
      rw [nI_clamp (show 8 * s + i < 2 ^ 31 by omega)]
      refine ⟨vp_in_nI (by omega) (by omega), ?_⟩
      rcases hk with ⟨k1, k2, -⟩ | ⟨o, k1, k2, k3, k4, k5, k6, -⟩
      · rw [k2]
        refine ⟨fun z => absurd rfl z, fun _ v hv => nxt v ?_⟩
        rw [hv]
        unfold stV
        rw [k1]
        rfl
      · rw [k5, k6]
        refine ⟨fun _ => ⟨vp_in_nI (by omega) (by omega), fun c => nxt _ ?_, fun c => ?_⟩, fun z => absurd z (nI_m1 (by omega))⟩
        · have c : h + 1 ≤ le (8 * s + i) := (nI_leI (by omega) (by omega)).mp c
          unfold stV
          rw [k1]
          simp only [if_pos c]
          rw [jN_add]; rfl
        · have c : ¬ h + 1 ≤ le (8 * s + i) := fun z => c (nI_le z (by omega))
          rw [hsub (show le (8 * s + i) ≤ h + 1 by omega), show nI (h + 1 - le (8 * s + i)) * 8 + nI o = nI (8 * (h + 1 - le (8 * s + i)) + o) by rw [show (8 : Int32) = nI 8 from rfl, pk_mul, nI_add]; congr 1; omega, nI_clamp (show 8 * (h + 1 - le (8 * s + i)) + o < 2 ^ 31 by omega)]
          refine ⟨vp_in_nI (by omega) (by omega), vp_in_nI (by omega) (by omega), vp_in_nI (by omega) (by omega), fun v hv => nxt v ?_⟩
          rw [hv, ht.2.1 (h + 1 - le (8 * s + i)) o (by omega) k2]
          unfold stV
          rw [k1]
          simp only [if_neg c]
  exact key (w s) 0 (by omega)
def cjF (S T : CS) : Prop := T.1 = S.1 ∧ T.2.1 = S.2.1 ∧ T.2.2.2 = S.2.2.2 ∧ ∀ k, k ≠ 42 → T.2.2.1 k = S.2.2.1 k
theorem k_tally (l : Launch) (kc : KSc q w of le ro (S.1 19) (S.2.1 38) (S.2.1 39) (S.2.1 40) (S.2.1 41)) (hz : ∀ t, t < 8 → S.2.2.1 42 t = 0) {H s : Nat} (hH : H ≤ 60) (hs : s < q) (post : Int64 → CS → Prop) (hp : ∀ T, cjF S T → (∀ t, t < 8 → T.2.2.1 42 t = 0) → post (jN (tab w of le H H s)) T) : cX_X1_tally l S (nI s) (nI H) post := by
  have hq := kc.1
  refine c_X1_tally l S _ _ post ?_
  intro B2 B10 h2 h10
  unfold cT_X1_tally_e
  have key : ∀ d h, h + d = H → ∀ T, cjF S T → TB w of le (T.2.2.1 42) q h 0 → B2 T (nI (h + 1)) := by
    intro d
    induction d with
    | zero =>
      intro h hh T fT tT
      have : h = H := by omega
      subst this
      refine h2 _ _ ?_
      unfold cT_X1_tally_2
      rw [show nI h * 8 + nI s = nI (8 * h + s) by rw [show (8 : Int32) = nI 8 from rfl, pk_mul, nI_add]; congr 1; omega, nI_clamp (show 8 * h + s < 2 ^ 31 by omega)]
      refine ⟨fun _ => ⟨vp_in_nI (by omega) (by omega), ?_⟩, fun z => absurd (nI_lt (by omega) (by omega)) z⟩
      rw [tT.2.1 h s (Nat.le_refl _) hs]
      exact hp T fT tT.1
    | succ d ih =>
      intro h hh T fT tT
      refine h2 _ _ ?_
      unfold cT_X1_tally_2
      refine ⟨fun z => absurd z (nI_nlt (by omega) (by omega)), fun _ => ?_⟩
      have inner : ∀ e t, t + e = q → ∀ U, cjF S U → TB w of le (U.2.2.1 42) q h t → B10 U (nI (h + 1)) (nI t) := by
        intro e
        induction e with
        | zero =>
          intro t ht U fU tU
          have : t = q := by omega
          subst this
          refine h10 _ _ _ ?_
          unfold cT_X1_tally_10
          rw [fU.1, kc.2.1, ← nI_succ]
          exact ⟨fun _ => ih (h + 1) (by omega) U fU tU.next, fun z => absurd (nI_le (Nat.le_refl _) (by omega)) z⟩
        | succ e ih2 =>
          intro t ht U fU tU
          refine h10 _ _ _ ?_
          unfold cT_X1_tally_10
          rw [fU.1, kc.2.1]
          refine ⟨fun z => absurd z (nI_ge (by omega) (by omega)), fun _ => ?_⟩
          refine k_sumSteps l (by rw [fU.1, fU.2.1]; exact kc) (by omega) (by omega) tU _ ?_
          rw [show nI (h + 1) * 8 + nI t = nI (8 * (h + 1) + t) by rw [show (8 : Int32) = nI 8 from rfl, pk_mul, nI_add]; congr 1; omega, nI_clamp (show 8 * (h + 1) + t < 2 ^ 31 by omega), ← nI_succ]
          refine ⟨vp_in_nI (by omega) (by omega), ih2 (t + 1) (by omega) _ ⟨fU.1, fU.2.1, fU.2.2.1, fun k hk => ?_⟩ ?_⟩
          · rw [cj_get_ne _ _ hk]; exact fU.2.2.2 k hk
          · rw [cj_get]; exact tU.step hq (by omega)
      exact inner q 0 (by omega) T fT tT
  exact key H 0 (by omega) S ⟨rfl, rfl, rfl, fun _ _ => rfl⟩ (TB.start hq hz)
def mlF (S T : MS) : Prop := T.1 = S.1 ∧ T.2.1 = S.2.1
theorem s_count (l : Launch) (km : KSc q w of le ro (M.1 9) (M.2.1 29) (M.2.1 30) (M.2.1 31) (M.2.1 32)) (a b : Int32) (post : Int64 → MS → Prop) (h0 : (¬ ((∃ s, s < q ∧ a = nI s) ∧ ∃ H, H ≤ 60 ∧ b = nI H)) → post (-1) (mf (mf M 3 0) 2 1)) (h1 : ∀ s H, s < q → H ≤ 60 → a = nI s → b = nI H → ∀ T, mlF (mf (mf M 3 0) 2 0) T → post (jN (tab w of le H H s)) T) : mX_count l M a b post := by
  obtain ⟨hq, h9, hlen, hst⟩ := km
  refine m_count l M a b post ?_
  intro B24 B38 B59 B67 B82 h24 h38 h59 h67 h82
  unfold mT_count_e
  have no : (¬ ((∃ s, s < q ∧ a = nI s) ∧ ∃ H, H ≤ 60 ∧ b = nI H)) → B24 (mf M 3 0) := fun z => h24 _ (s_no l _ 1 _ (h0 z))
  refine s_isScheme l (mf M 3 0) h9 hq a _ (fun z => ⟨fun _ => no (fun v => z v.1), fun v => absurd rfl v⟩) (fun s hs ea => ⟨fun v => absurd v (by decide), fun _ => ?_⟩)
  refine s_inC l _ b 0 60 _ (L := 0) (H := 60) rfl rfl (by decide) (by decide) (fun z => ⟨fun v => absurd rfl v, fun _ => no (fun v => z (by obtain ⟨H, hH, e⟩ := v.2; exact ⟨H, by omega, hH, e⟩))⟩) (fun H _ hH eb => ⟨fun _ => ?_, fun v => absurd v (by decide)⟩)
  have g := h1 s H hs hH ea eb
  have F9 : ∀ T, mlF (mf (mf M 3 0) 2 0) T → T.1 9 = nI q := fun T fT => by rw [fT.1]; exact h9
  have F29 : ∀ T, mlF (mf (mf M 3 0) 2 0) T → T.2.1 29 = M.2.1 29 ∧ T.2.1 30 = M.2.1 30 ∧ T.2.1 31 = M.2.1 31 := fun T fT => by rw [fT.2]; exact ⟨rfl, rfl, rfl⟩
  have key : ∀ d h, h + d = H → ∀ T, mlF (mf (mf M 3 0) 2 0) T → TB w of le (T.2.2 33) q h 0 → B59 T (nI (h + 1)) := by
    intro d
    induction d with
    | zero =>
      intro h hh T fT tT
      have : h = H := by omega
      subst this
      refine h59 _ _ ?_
      unfold mT_count_59
      rw [ea, eb, i8, nI_clamp (show 8 * h + s < 2 ^ 31 by omega)]
      refine ⟨fun _ => ⟨vp_in_nI (by omega) (by omega), ?_⟩, fun z => absurd (nI_lt (by omega) (by omega)) z⟩
      rw [tT.2.1 h s (Nat.le_refl _) hs]
      exact g T fT
    | succ d ih =>
      intro h hh T fT tT
      refine h59 _ _ ?_
      unfold mT_count_59
      rw [eb]
      refine ⟨fun z => absurd z (nI_nlt (by omega) (by omega)), fun _ => ?_⟩
      have inner : ∀ e t, t + e = q → ∀ U, mlF (mf (mf M 3 0) 2 0) U → TB w of le (U.2.2 33) q h t → B67 U (nI (h + 1)) (nI t) := by
        intro e
        induction e with
        | zero =>
          intro t ht U fU tU
          have : t = q := by omega
          subst this
          refine h67 _ _ _ ?_
          unfold mT_count_67
          rw [F9 U fU, ← nI_succ]
          exact ⟨fun _ => ih (h + 1) (by omega) U fU tU.next, fun z => absurd (nI_le (Nat.le_refl _) (by omega)) z⟩
        | succ e ih2 =>
          intro t ht U fU tU
          have hws := hlen t (by omega)
          refine h67 _ _ _ ?_
          unfold mT_count_67
          rw [F9 U fU]
          refine ⟨fun z => absurd z (nI_ge (by omega) (by omega)), fun _ => ?_⟩
          have steps : ∀ f i, i + f = w t → B82 U (nI (h + 1)) (nI t) (jN (min mx (rawS of le (h + 1) (tab w of le h) t i))) (nI i) := by
            intro f
            induction f with
            | zero =>
              intro i hi
              have ei : i = w t := by omega
              refine h82 _ _ _ _ _ ?_
              unfold mT_count_82
              rw [nI_clamp (show t < 2 ^ 31 by omega), (F29 U fU).1, hws.2, ei, i8, nI_clamp (show 8 * (h + 1) + t < 2 ^ 31 by omega), ← nI_succ]
              refine ⟨vp_in_nI (by omega) (by omega), fun _ => ⟨vp_in_nI (by omega) (by omega), ?_⟩, fun z => absurd (nI_le (Nat.le_refl _) (by omega)) z⟩
              refine ih2 (t + 1) (by omega) _ ⟨fU.1, fU.2⟩ ?_
              have e33 : (ml U 33 (vp_updL (U.2.2 33) (8 * (h + 1) + t) (jN (min mx (rawS of le (h + 1) (tab w of le h) t (w t)))))).2.2 33 = vp_updL (U.2.2 33) (8 * (h + 1) + t) (jN (vl w of le h t)) := by rw [ml_g]; rfl
              rw [e33]
              exact tU.step hq (by omega)
            | succ f ih3 =>
              intro i hi
              have hk := hst t i (by omega) (by omega)
              have hstv := stV_le (of := of) (le := le) (h := h + 1) (tab_le (w := w) (of := of) (le := le) h) (8 * t + i)
              have sat : ∀ V : Nat, V = stV of le (h + 1) (tab w of le h) (8 * t + i) → (lg_cmp (jN V) (1000000000000000000 - jN (min mx (rawS of le (h + 1) (tab w of le h) t i))) ≤ 0 → ∀ v : Int64, v = jN (min mx (rawS of le (h + 1) (tab w of le h) t i)) + jN V → B82 U (nI (h + 1)) (nI t) v (nI i + 1)) ∧ (¬ lg_cmp (jN V) (1000000000000000000 - jN (min mx (rawS of le (h + 1) (tab w of le h) t i))) ≤ 0 → B82 U (nI (h + 1)) (nI t) 1000000000000000000 (nI i + 1)) := by
                intro V hV
                have hn := ih3 (i + 1) (by omega)
                have er : rawS of le (h + 1) (tab w of le h) t (i + 1) = rawS of le (h + 1) (tab w of le h) t i + V := by rw [hV]; rfl
                rw [er] at hn
                rw [mx_sub (Nat.min_le_left _ _), lgc_le, jN_le (by unfold mx at hstv; omega) (by unfold mx; omega), ← nI_succ]
                refine ⟨fun c v hv => ?_, fun c => ?_⟩
                · rw [hv, jN_add]
                  have e4 : min mx (rawS of le (h + 1) (tab w of le h) t i) + V = min mx (rawS of le (h + 1) (tab w of le h) t i + V) := by omega
                  rw [e4]; exact hn
                · have e4 : min mx (rawS of le (h + 1) (tab w of le h) t i + V) = mx := by omega
                  rw [e4] at hn
                  exact hn
              refine h82 _ _ _ _ _ ?_
              unfold mT_count_82
              rw [nI_clamp (show t < 2 ^ 31 by omega), (F29 U fU).1, hws.2]
              refine ⟨vp_in_nI (by omega) (by omega), fun z => absurd z (nI_ge (by omega) (by omega)), fun _ v hv => ?_⟩
              rw [i8] at hv
              subst hv
              rw [nI_clamp (show 8 * t + i < 2 ^ 31 by omega), (F29 U fU).2.1, (F29 U fU).2.2]
              refine ⟨vp_in_nI (by omega) (by omega), ?_⟩
              rcases hk with ⟨k1, k2, -⟩ | ⟨o, k1, k2, k3, k4, k5, k6, -⟩
              · rw [k2]
                refine ⟨fun z => absurd rfl z, fun _ => sat 1 ?_⟩
                unfold stV
                rw [k1]
              · rw [k5, k6]
                refine ⟨fun _ => ⟨vp_in_nI (by omega) (by omega), fun c => sat 0 ?_, fun c => ?_⟩, fun z => absurd z (nI_m1 (by omega))⟩
                · have c : h + 1 ≤ le (8 * t + i) := (nI_leI (by omega) (by omega)).mp c
                  unfold stV
                  rw [k1]
                  simp only [if_pos c]
                · have c : ¬ h + 1 ≤ le (8 * t + i) := fun z => c (nI_le z (by omega))
                  rw [hsub (show le (8 * t + i) ≤ h + 1 by omega), i8, nI_clamp (show 8 * (h + 1 - le (8 * t + i)) + o < 2 ^ 31 by omega)]
                  refine ⟨vp_in_nI (by omega) (by omega), vp_in_nI (by omega) (by omega), vp_in_nI (by omega) (by omega), fun v hv => ?_⟩
                  rw [tU.2.1 (h + 1 - le (8 * t + i)) o (by omega) k2] at hv
                  rw [hv]
                  refine sat _ ?_
                  unfold stV
                  rw [k1]
                  simp only [if_neg c]
          exact steps (w t) 0 (by omega)
      exact inner q 0 (by omega) T fT tT
  have e38 : ∀ d k, k + d = 8 → ∀ T, mlF (mf (mf M 3 0) 2 0) T → (∀ t, t < k → T.2.2 33 t = 0) → B38 T (nI k) := by
    intro d
    induction d with
    | zero =>
      intro k hk T fT tT
      have : k = 8 := by omega
      subst this
      refine h38 _ _ ?_
      unfold mT_count_38
      exact ⟨fun _ => key H 0 (by omega) T fT (TB.start hq tT), fun z => absurd (show (8 : Int32) ≤ nI 8 by decide) z⟩
    | succ d ih =>
      intro k hk T fT tT
      refine h38 _ _ ?_
      unfold mT_count_38
      rw [nI_clamp (show k < 2 ^ 31 by omega), ← nI_succ]
      refine ⟨fun z => absurd z (nI_ge (a := k) (b := 8) (by omega) (by omega)), fun _ => ⟨vp_in_nI (by omega) (by omega), ih (k + 1) (by omega) _ ⟨fT.1, fT.2⟩ (fun t ht => ?_)⟩⟩
      have e33 : (ml T 33 (vp_updL (T.2.2 33) k 0)).2.2 33 = vp_updL (T.2.2 33) k 0 := ml_g _ _ _
      rw [e33]
      unfold vp_updL
      by_cases e : t = k
      · rw [if_pos e]
      · rw [if_neg e]; exact tT t (by omega)
  exact e38 8 0 (by omega) _ ⟨rfl, rfl⟩ (fun t ht => absurd ht (Nat.not_lt_zero _))
theorem o_count (l : Launch) (h : Rl S M n P kd ct sc sm x y) (a b : Int32) : cX_X8_count l S a b (fun r1 S1 => mX_count l M a b (fun r2 M1 => OKr S r1 S1 r2 M1)) := by
  obtain ⟨⟨q, w, of, le, ro, kc, km⟩, tz⟩ := id h.2.2.2.2.2.2.1
  have hq := kc.1
  refine c_X8_count l S a b _ ?_
  intro B21 h21
  unfold cT_X8_count_e
  have no : (¬ ((∃ s, s < q ∧ a = nI s) ∧ ∃ H, H ≤ 60 ∧ b = nI H)) → B21 S := by
    intro z
    refine h21 _ ?_
    unfold cT_X8_count_21
    exact k_none l _ 1 _ (s_count l km a b _ (fun _ => ⟨rfl, ⟨n, P, kd, ct, sc, sm, x, y, (h.th 0).tr 1⟩, rfl⟩) (fun s H hs hH ea eb => absurd ⟨⟨s, hs, ea⟩, H, hH, eb⟩ z))
  refine k_has l kc.2.1 hq a _ (fun z => ⟨fun _ => no (fun v => z v.1), fun v => absurd rfl v⟩) (fun s hs ea => ⟨fun v => absurd v (by decide), fun _ => ⟨fun c => no (fun v => ?_), fun c => ⟨fun c2 => ?_, fun c2 => no (fun v => ?_)⟩⟩⟩)
  · obtain ⟨H, hH, e⟩ := v.2
    rw [e] at c
    exact absurd c (nI_pos (by omega))
  · obtain ⟨H, hH', eb⟩ := nI_of c
    subst ea
    subst eb
    have hH : H ≤ 60 := (nI_leI (b := 60) (by omega) (by omega)).mp c2
    refine k_tally l (S := cf S 2 0) kc tz hH hs _ (fun T fT tT => ?_)
    refine s_count l km _ _ _ (fun z => absurd ⟨⟨s, hs, rfl⟩, H, hH, rfl⟩ z) (fun s' H' hs' hH'' ea eb N fN => ?_)
    have e1 : s = s' := (nI_eq (by omega) (by omega)).mp ea
    have e2 : H = H' := (nI_eq (by omega) (by omega)).mp eb
    subst e1
    subst e2
    refine ⟨rfl, ⟨n, P, kd, ct, sc, sm, x, y, ?_⟩, fT.2.2.1⟩
    have h' := (h.th 0).tr 0
    obtain ⟨⟨b1, b2, b3, b4⟩, q2, q3, q4, q5, q6, q7, q8, q9, q10⟩ := h'
    have fC : CFr nn (fun k => decide (k = 42)) nn (cf S 2 0) T := ⟨fun k _ => by rw [fT.1], fun k hk => ⟨by rw [fT.2.1], fT.2.2.2 k (by simpa using hk)⟩, fun k _ => by rw [fT.2.2.1]⟩
    refine ⟨⟨b1.fr fC, ?_, b3, b4⟩, ?_, ?_, ?_, ?_, ?_, ⟨⟨q, w, of, le, ro, ?_, ?_⟩, tT⟩, ?_, q9.fr fC, q10.fr fC⟩
    · unfold MY; rw [fN.1, fN.2]; exact b2
    · rw [fT.1, fN.2]; exact q2
    · rw [fT.1, fN.2]; exact q3
    · rw [fT.1, fN.1]; exact q4
    · rw [fT.1, fT.2.1, fN.1, fN.2]; exact q5
    · rw [fT.1, fT.2.1, fT.2.2.1, fN.1, fN.2]; exact q6
    · rw [fT.1, fT.2.1]; exact kc
    · rw [fN.1, fN.2]; exact km
    · unfold MA; rw [fN.2]; exact q8
  · obtain ⟨H, hH, e⟩ := v.2
    rw [e] at c2
    exact c2 (nI_le (b := 60) hH (by omega))
end Count
