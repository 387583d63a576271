-- least costs, alone of how they are found
def DS (N st : Nat) (tg : Nat → Nat → Nat → Option Nat) (c : Nat → Nat → Nat) (fr : Nat → Option Nat) : Prop :=
  fr st = some 0 ∧ (∀ x, fr x ≠ none → x < N) ∧ (∀ x m, fr x = some m → (x = st ∧ m = 0) ∨ ∃ s a b k, tg s a b = some x ∧ fr s = some k ∧ m = k + c a b) ∧
  (∀ s k a b t, fr s = some k → tg s a b = some t → ∃ m, fr t = some m ∧ m ≤ k + c a b)
section DSS
variable {N st : Nat} {tg : Nat → Nat → Nat → Option Nat} {c : Nat → Nat → Nat} {fr fr2 : Nat → Option Nat}
theorem DS.half (h1 : DS N st tg c fr) (h2 : DS N st tg c fr2) (hc : ∀ s a b t, tg s a b = some t → 0 < c a b) : ∀ M x m, m ≤ M → fr x = some m → ∃ m', fr2 x = some m' ∧ m' ≤ m := by
  intro M
  induction M with
  | zero =>
    intro x m hm hx
    rcases h1.2.2.1 x m hx with ⟨e1, e2⟩ | ⟨s, a, b, k, e1, e2, e3⟩
    · subst e1; exact ⟨0, h2.1, Nat.zero_le _⟩
    · have := hc s a b x e1; omega
  | succ M ih =>
    intro x m hm hx
    rcases h1.2.2.1 x m hx with ⟨e1, e2⟩ | ⟨s, a, b, k, e1, e2, e3⟩
    · subst e1; exact ⟨0, h2.1, Nat.zero_le _⟩
    · have := hc s a b x e1
      obtain ⟨k', q1, q2⟩ := ih s k (by omega) e2
      obtain ⟨m', q3, q4⟩ := h2.2.2.2 s k' a b x q1 e1
      exact ⟨m', q3, by omega⟩
theorem DS.uniq (h1 : DS N st tg c fr) (h2 : DS N st tg c fr2) (hc : ∀ s a b t, tg s a b = some t → 0 < c a b) : fr = fr2 := by
  funext x
  cases e1 : fr x with
  | none =>
    cases e2 : fr2 x with
    | none => rfl
    | some m =>
      obtain ⟨m', q, -⟩ := h2.half h1 hc m x m (Nat.le_refl m) e2
      rw [e1] at q
      cases q
  | some m =>
    obtain ⟨m', q, hm⟩ := h1.half h2 hc m x m (Nat.le_refl m) e1
    obtain ⟨m'', q', hm'⟩ := h2.half h1 hc m' x m' (Nat.le_refl m') q
    rw [e1] at q'
    cases q'
    rw [q, show m' = m by omega]
theorem MI.ds {mt : List Nat} {d : Nat} (h : MI N st tg c fr mt d (fun _ _ _ => False)) (hall : ∀ x, fr x ≠ none → x ∈ mt) : DS N st tg c fr := by
  obtain ⟨h1, h2, h3, h4, h5, h6, h7, h8, h9⟩ := h
  refine ⟨h9, h2, fun x m hx => ?_, fun s k a b t hs ht => ?_⟩
  · rcases h6 x m hx with q | ⟨s, a, b, k, -, q1, q2, q3⟩
    · exact Or.inl q
    · exact Or.inr ⟨s, a, b, k, q1, q2, q3⟩
  · obtain ⟨k', m, q1, q2, q3⟩ := h7 s (hall s (by rw [hs]; exact Option.some_ne_none k)) a b t ht (fun w => w)
    rw [hs] at q1
    cases q1
    exact ⟨m, q2, q3⟩
theorem MI.jump {mt : List Nat} {d d' : Nat} {P : Nat → Nat → Nat → Prop} (h : MI N st tg c fr mt d P) (hd : d ≤ d') (hn : ∀ x m, x ∉ mt → fr x = some m → d' ≤ m) : MI N st tg c fr mt d' P := by
  obtain ⟨h1, h2, h3, h4, h5, h6, h7, h8, h9⟩ := h
  refine ⟨h1, h2, fun x hx => ?_, fun x m hx hm => ?_, h5, h6, h7, h8, h9⟩
  · obtain ⟨m, e, hm⟩ := h3 x hx
    exact ⟨m, e, by omega⟩
  · have q := h4 x m hx hm
    exact ⟨hn x m hx hm, by omega⟩
end DSS
-- sums over moves
def esum (g : Nat → Nat → Nat → Int64) : List (Nat × Nat × Nat) → Int64
  | [] => 0
  | e :: E => g e.1 e.2.1 e.2.2 + esum g E
theorem esum_append (g : Nat → Nat → Nat → Int64) : ∀ E F, esum g (E ++ F) = esum g E + esum g F := by
  intro E
  induction E with
  | nil => intro F; show _ = 0 + _; rw [Int64.zero_add]; rfl
  | cons e E ih =>
    intro F
    show g e.1 e.2.1 e.2.2 + esum g (E ++ F) = g e.1 e.2.1 e.2.2 + esum g E + esum g F
    rw [ih, Int64.add_assoc]
theorem esum_congr {g h : Nat → Nat → Nat → Int64} : ∀ E, (∀ s a b, (s, a, b) ∈ E → g s a b = h s a b) → esum g E = esum h E := by
  intro E
  induction E with
  | nil => intro _; rfl
  | cons e E ih =>
    intro q
    show g e.1 e.2.1 e.2.2 + esum g E = h e.1 e.2.1 e.2.2 + esum h E
    rw [ih (fun s a b w => q s a b (List.mem_cons_of_mem _ w)), q e.1 e.2.1 e.2.2 List.mem_cons_self]
theorem esum_zero {g : Nat → Nat → Nat → Int64} : ∀ E, (∀ s a b, (s, a, b) ∈ E → g s a b = 0) → esum g E = 0 := by
  intro E
  induction E with
  | nil => intro _; rfl
  | cons e E ih =>
    intro q
    show g e.1 e.2.1 e.2.2 + esum g E = 0
    rw [ih (fun s a b w => q s a b (List.mem_cons_of_mem _ w)), q e.1 e.2.1 e.2.2 List.mem_cons_self]
    rfl
theorem esum_perm {g : Nat → Nat → Nat → Int64} {E F : List (Nat × Nat × Nat)} (h : E.Perm F) : esum g E = esum g F := by
  induction h with
  | nil => rfl
  | cons x _ ih => show _ + _ = _ + _; rw [ih]
  | swap x y l =>
    show g y.1 y.2.1 y.2.2 + (g x.1 x.2.1 x.2.2 + esum g l) = g x.1 x.2.1 x.2.2 + (g y.1 y.2.1 y.2.2 + esum g l)
    rw [← Int64.add_assoc, ← Int64.add_assoc, Int64.add_comm (g y.1 y.2.1 y.2.2)]
  | trans _ _ h1 h2 => rw [h1, h2]
/-- what a move adds to the number of cheapest rows of x, whose label is m -/
def eg (tg : Nat → Nat → Nat → Option Nat) (c : Nat → Nat → Nat) (fr : Nat → Option Nat) (rs : Nat → Int64) (x m : Nat) : Nat → Nat → Nat → Int64 := fun s a b => if tg s a b = some x ∧ (fr s).map (fun k => k + c a b) = some m then rs s else 0
/-- the rows are counted over the moves E -/
def RI (st : Nat) (tg : Nat → Nat → Nat → Option Nat) (c : Nat → Nat → Nat) (fr : Nat → Option Nat) (rs : Nat → Int64) (E : List (Nat × Nat × Nat)) : Prop := ∀ x m, fr x = some m → rs x = (if x = st then 1 else 0) + esum (eg tg c fr rs x m) E
section RIS
variable {N st : Nat} {tg : Nat → Nat → Nat → Option Nat} {c : Nat → Nat → Nat} {fr : Nat → Option Nat} {rs rs2 : Nat → Int64} {E F : List (Nat × Nat × Nat)}
theorem RI.begin : RI st tg c (va_up (fun _ => none) st (some 0)) (vp_updL rs st 1) [] := by
  intro x m h
  by_cases e : x = st
  · subst e
    rw [if_pos rfl]
    show vp_updL rs x 1 x = 1 + 0
    unfold vp_updL
    rw [if_pos rfl]; rfl
  · rw [va_up_other _ _ e] at h
    cases h
/-- a move that changes nothing -/
theorem RI.skip (h : RI st tg c fr rs E) {y a b t d k : Nat} (ht : tg y a b = some t) (hy : fr y = some d) (hk : fr t = some k) (hlt : k ≠ d + c a b) : RI st tg c fr rs (E ++ [(y, a, b)]) := by
  intro x m hx
  rw [esum_append, h x m hx]
  have e0 : esum (eg tg c fr rs x m) [(y, a, b)] = 0 := by
    refine esum_zero _ (fun s a' b' q => ?_)
    have q : (s, a', b') = (y, a, b) := by simpa using q
    cases q
    unfold eg
    rw [if_neg]
    rintro ⟨w1, w2⟩
    rw [ht] at w1
    cases w1
    rw [hk] at hx
    cases hx
    rw [hy] at w2
    exact hlt (Option.some.inj w2).symm
  rw [e0, Int64.add_zero]
/-- a move of the same cost -/
theorem RI.same (h : RI st tg c fr rs E) {y a b t d : Nat} (ht : tg y a b = some t) (hy : fr y = some d) (hk : fr t = some (d + c a b)) (hE : ∀ s a b, (s, a, b) ∈ E → s ≠ t) (hyt : y ≠ t) : RI st tg c fr (vp_updL rs t (rs t + rs y)) (E ++ [(y, a, b)]) := by
  intro x m hx
  have e1 : ∀ z, z ≠ t → vp_updL rs t (rs t + rs y) z = rs z := fun z hz => by unfold vp_updL; rw [if_neg hz]
  have eE : esum (eg tg c fr (vp_updL rs t (rs t + rs y)) x m) E = esum (eg tg c fr rs x m) E := by
    refine esum_congr E (fun s a' b' q => ?_)
    unfold eg
    rw [e1 s (hE s a' b' q)]
  rw [esum_append, eE]
  have e2 : esum (eg tg c fr (vp_updL rs t (rs t + rs y)) x m) [(y, a, b)] = if x = t then rs y else 0 := by
    show eg tg c fr (vp_updL rs t (rs t + rs y)) x m y a b + 0 = _
    rw [Int64.add_zero]
    unfold eg
    rw [e1 y hyt]
    by_cases e : x = t
    · subst e
      rw [hk] at hx
      cases hx
      rw [if_pos ⟨ht, by rw [hy]; rfl⟩, if_pos rfl]
    · rw [if_neg (fun w => e (Option.some.inj (w.1.symm.trans ht))), if_neg e]
  rw [e2]
  by_cases e : x = t
  · subst e
    rw [if_pos rfl, ← Int64.add_assoc, ← h x m hx]
    unfold vp_updL
    rw [if_pos rfl]
  · rw [if_neg e, Int64.add_zero, e1 x e]
    exact h x m hx
/-- a move that gives a new label -/
theorem RI.label (h : RI st tg c fr rs E) {y a b t d : Nat} (ht : tg y a b = some t) (hy : fr y = some d) (hts : t ≠ st) (hyt : y ≠ t) (hE : ∀ s a b, (s, a, b) ∈ E → s ≠ t) (ho : ∀ s a' b', (s, a', b') ∈ E → tg s a' b' = some t → ∃ k m, fr s = some k ∧ fr t = some m ∧ m ≤ k + c a' b') (hn : ∀ m, fr t = some m → d + c a b < m) : RI st tg c (va_up fr t (some (d + c a b))) (vp_updL rs t (rs y)) (E ++ [(y, a, b)]) := by
  intro x m hx
  have e1 : ∀ z, z ≠ t → vp_updL rs t (rs y) z = rs z := fun z hz => by unfold vp_updL; rw [if_neg hz]
  have f1 : ∀ z, z ≠ t → va_up fr t (some (d + c a b)) z = fr z := fun z hz => va_up_other _ _ hz
  have eE : esum (eg tg c (va_up fr t (some (d + c a b))) (vp_updL rs t (rs y)) x m) E = esum (eg tg c fr rs x m) E := by
    refine esum_congr E (fun s a' b' q => ?_)
    unfold eg
    rw [e1 s (hE s a' b' q), f1 s (hE s a' b' q)]
  rw [esum_append, eE]
  have e2 : esum (eg tg c (va_up fr t (some (d + c a b))) (vp_updL rs t (rs y)) x m) [(y, a, b)] = if x = t then rs y else 0 := by
    show eg tg c (va_up fr t (some (d + c a b))) (vp_updL rs t (rs y)) x m y a b + 0 = _
    rw [Int64.add_zero]
    unfold eg
    rw [e1 y hyt, f1 y hyt]
    by_cases e : x = t
    · subst e
      rw [va_up_same] at hx
      cases hx
      rw [if_pos ⟨ht, by rw [hy]; rfl⟩, if_pos rfl]
    · rw [if_neg (fun w => e (Option.some.inj (w.1.symm.trans ht))), if_neg e]
  rw [e2]
  by_cases e : x = t
  · subst e
    rw [va_up_same] at hx
    cases hx
    have z : esum (eg tg c fr rs x (d + c a b)) E = 0 := by
      refine esum_zero E (fun s a' b' q => ?_)
      unfold eg
      rw [if_neg]
      rintro ⟨w1, w2⟩
      obtain ⟨k, m, q1, q2, q3⟩ := ho s a' b' q w1
      rw [q1] at w2
      have w3 : k + c a' b' = d + c a b := Option.some.inj w2
      have := hn m q2
      omega
    rw [z, if_neg hts, if_pos rfl]
    unfold vp_updL
    rw [if_pos rfl, Int64.zero_add, Int64.zero_add]
  · rw [f1 x e] at hx
    rw [if_neg e, Int64.add_zero, e1 x e]
    exact h x m hx
/-- the number of rows is one -/
theorem RI.uniq (h1 : RI st tg c fr rs E) (h2 : RI st tg c fr rs2 F) (hp : E.Perm F) (hc : ∀ s a b t, tg s a b = some t → 0 < c a b) : ∀ M x m, m ≤ M → fr x = some m → rs x = rs2 x := by
  intro M
  have step : ∀ x m, fr x = some m → (∀ s k, k < m → fr s = some k → rs s = rs2 s) → rs x = rs2 x := by
    intro x m hx ih
    rw [h1 x m hx, h2 x m hx, ← esum_perm hp]
    congr 1
    refine esum_congr E (fun s a b q => ?_)
    unfold eg
    by_cases w : tg s a b = some x ∧ (fr s).map (fun k => k + c a b) = some m
    · rw [if_pos w, if_pos w]
      obtain ⟨w1, w2⟩ := w
      cases e : fr s with
      | none => rw [e] at w2; cases w2
      | some k =>
        rw [e] at w2
        have w3 : k + c a b = m := Option.some.inj w2
        have := hc s a b x w1
        exact ih s k (by omega) e
    · rw [if_neg w, if_neg w]
  induction M with
  | zero =>
    intro x m hm hx
    exact step x m hx (fun s k hk _ => by omega)
  | succ M ih =>
    intro x m hm hx
    exact step x m hx (fun s k hk hs => ih s k (by omega) hs)
end RIS
/-- lists without repeats, of the same members -/
theorem perm_of_mem : ∀ (l1 l2 : List Nat), l1.Nodup → l2.Nodup → (∀ x, x ∈ l1 ↔ x ∈ l2) → l1.Perm l2 := by
  intro l1
  induction l1 with
  | nil =>
    intro l2 _ _ h
    cases l2 with
    | nil => exact List.Perm.nil
    | cons x xs => exact absurd ((h x).mpr List.mem_cons_self) List.not_mem_nil
  | cons x xs ih =>
    intro l2 h1 h2 h
    obtain ⟨n1, n2⟩ := List.nodup_cons.mp h1
    have hx : x ∈ l2 := (h x).mp List.mem_cons_self
    have hp := List.perm_cons_erase hx
    refine List.Perm.trans (List.Perm.cons x (ih (l2.erase x) n2 (h2.erase x) (fun z => ?_))) hp.symm
    rw [List.Nodup.mem_erase_iff h2, ← h z, List.mem_cons]
    constructor
    · intro q
      exact ⟨fun e => n1 (by rw [← e]; exact q), Or.inr q⟩
    · rintro ⟨q1, q2⟩
      exact q2.resolve_left q1
/-- all moves of the stands of a list -/
def allE (mv : Nat → List (Nat × Nat)) (mt : List Nat) : List (Nat × Nat × Nat) := mt.flatMap (fun s => (mv s).map (fun q => (s, q.1, q.2)))
theorem allE_perm {mv : Nat → List (Nat × Nat)} {mt mt2 : List Nat} (h : mt.Perm mt2) : (allE mv mt).Perm (allE mv mt2) := by
  unfold allE
  induction h with
  | nil => exact List.Perm.refl _
  | cons x _ ih => rw [List.flatMap_cons, List.flatMap_cons]; exact List.Perm.append_left _ ih
  | swap x y l =>
    rw [List.flatMap_cons, List.flatMap_cons, List.flatMap_cons, List.flatMap_cons, ← List.append_assoc, ← List.append_assoc]
    exact List.Perm.append_right _ List.perm_append_comm
  | trans _ _ h1 h2 => exact h1.trans h2
theorem allE_mem {mv : Nat → List (Nat × Nat)} {mt : List Nat} {s a b : Nat} : (s, a, b) ∈ allE mv mt ↔ s ∈ mt ∧ (a, b) ∈ mv s := by
  unfold allE
  rw [List.mem_flatMap]
  constructor
  · rintro ⟨x, hx, h⟩
    obtain ⟨q, hq, e⟩ := List.mem_map.mp h
    cases e
    exact ⟨hx, hq⟩
  · rintro ⟨h1, h2⟩
    exact ⟨s, h1, List.mem_map.mpr ⟨(a, b), h2, rfl⟩⟩
