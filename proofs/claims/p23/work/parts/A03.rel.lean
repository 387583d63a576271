-- the reference's search rows against the numbers
def farV (o : Option Nat) : Int32 := match o with
  | none => 2147483647
  | some m => nI m
/-- but for the stand e the rows hold the labels, the settled ones and the buckets -/
def MRx (N : Nat) (S : MS) (fr : Nat → Option Nat) (mt : List Nat) (L : Nat → List Nat) (e : Nat → Prop) : Prop :=
  (∀ x, x < N → ¬ e x → S.2.1 10 x = farV (fr x)) ∧ (∀ x, x < N → S.2.1 17 x = if x ∈ mt then 1 else 0) ∧ S.1 7 = nI mt.length ∧ (∀ k x, mt[k]? = some x → S.2.1 14 k = nI x) ∧
  BK N (S.2.1 13) (S.2.1 11) (S.2.1 12) L ∧ (∀ b x, b < 101 → (x ∈ L b ↔ ¬ e x ∧ x ∉ mt ∧ ∃ m, fr x = some m ∧ m % 101 = b))
abbrev MR (N : Nat) (S : MS) (fr : Nat → Option Nat) (mt : List Nat) (L : Nat → List Nat) : Prop := MRx N S fr mt L (fun _ => False)
/-- what the search leaves as it was -/
def MFr (S T : MS) : Prop := (∀ k, k ≠ 7 → T.1 k = S.1 k) ∧ (∀ k, k < 8 ∨ k = 15 ∨ k = 16 ∨ 17 < k → T.2.1 k = S.2.1 k) ∧ T.2.2 = S.2.2 ∧ (∃ τ, MA T 8 τ) ∧ (∃ τ, MA T 9 τ)
theorem MFr.my {S T : MS} {n P : Nat} {kd ct sg : Nat → Nat} (h : MFr S T) (hy : MY S n P kd ct sg) : MY T n P kd ct sg := by
  obtain ⟨h1, h2, h3, h4, h5, h6, h7⟩ := hy
  refine ⟨by rw [h.1 0 (by decide)]; exact h1, by rw [h.1 1 (by decide)]; exact h2, h3, h4, ?_, ?_, ?_⟩
  · rw [h.2.1 1 (Or.inl (by decide))]; exact h5
  · rw [h.2.1 4 (Or.inl (by decide))]; exact h6
  · rw [h.2.1 5 (Or.inl (by decide))]; exact h7
theorem MFr.ma8 {S T : MS} (h : MFr S T) {f : Nat → Int32} (hf : ∃ τ : Nat → Nat, ∀ j, j < 7 → f j = nI (τ j) ∧ τ j < 5) : MFr S (ma T 8 f) := by
  obtain ⟨h1, h2, h3, -, ⟨ρ, h5⟩⟩ := h
  obtain ⟨τ, hf⟩ := hf
  refine ⟨h1, fun j hj => ?_, h3, ⟨τ, fun j hj => ?_⟩, ⟨ρ, fun j hj => ?_⟩⟩
  · rw [ma_get_ne _ _ (by omega)]; exact h2 j hj
  · rw [ma_get]; exact hf j hj
  · rw [ma_get_ne _ _ (by omega)]; exact h5 j hj
theorem MFr.ma9 {S T : MS} (h : MFr S T) {f : Nat → Int32} (hf : ∃ τ : Nat → Nat, ∀ j, j < 7 → f j = nI (τ j) ∧ τ j < 5) : MFr S (ma T 9 f) := by
  obtain ⟨h1, h2, h3, ⟨ρ, h5⟩, -⟩ := h
  obtain ⟨τ, hf⟩ := hf
  refine ⟨h1, fun j hj => ?_, h3, ⟨ρ, fun j hj => ?_⟩, ⟨τ, fun j hj => ?_⟩⟩
  · rw [ma_get_ne _ _ (by omega)]; exact h2 j hj
  · rw [ma_get_ne _ _ (by omega)]; exact h5 j hj
  · rw [ma_get]; exact hf j hj
theorem MFr.mf {S T : MS} (h : MFr S T) (v : Int32) : MFr S (mf T 7 v) := ⟨fun k hk => by rw [mf_get_ne _ _ hk]; exact h.1 k hk, h.2.1, h.2.2.1, h.2.2.2⟩
theorem MFr.ma {S T : MS} (h : MFr S T) {k : Nat} (f : Nat → Int32) (hk : (9 < k ∧ k < 15) ∨ k = 17) : MFr S (ma T k f) := by
  obtain ⟨h1, h2, h3, ⟨τ, h4⟩, ⟨ρ, h5⟩⟩ := h
  refine ⟨h1, fun j hj => ?_, h3, ⟨τ, fun j hj => ?_⟩, ⟨ρ, fun j hj => ?_⟩⟩
  · rw [ma_get_ne _ _ (by omega)]; exact h2 j hj
  · rw [ma_get_ne _ _ (by omega)]; exact h4 j hj
  · rw [ma_get_ne _ _ (by omega)]; exact h5 j hj
theorem MRx.ma {N : Nat} {S : MS} {fr : Nat → Option Nat} {mt : List Nat} {L : Nat → List Nat} {e : Nat → Prop} (h : MRx N S fr mt L e) {k : Nat} (f : Nat → Int32) (hk : k = 8 ∨ k = 9) : MRx N (ma S k f) fr mt L e := by
  obtain ⟨h1, h2, h3, h4, h5, h6⟩ := h
  refine ⟨?_, ?_, h3, ?_, ?_, h6⟩
  · rw [ma_get_ne _ _ (by omega)]; exact h1
  · rw [ma_get_ne _ _ (by omega)]; exact h2
  · rw [ma_get_ne _ _ (by omega)]; exact h4
  · rw [ma_get_ne _ _ (by omega), ma_get_ne _ _ (by omega), ma_get_ne _ _ (by omega)]; exact h5
theorem MRx.more {N : Nat} {S : MS} {fr : Nat → Option Nat} {mt : List Nat} {L : Nat → List Nat} (h : MR N S fr mt L) {t : Nat} (ht : fr t = none) : MRx N S fr mt L (fun x => x = t) := by
  obtain ⟨h1, h2, h3, h4, h5, h6⟩ := h
  refine ⟨fun x hx _ => h1 x hx (fun q => q), h2, h3, h4, h5, fun b x hb => ?_⟩
  rw [h6 b x hb]
  refine ⟨fun q => ⟨fun e => ?_, q.2⟩, fun q => ⟨fun w => w, q.2⟩⟩
  obtain ⟨m, hm, -⟩ := q.2.2
  rw [e, ht] at hm
  cases hm
theorem dl_aft {aft bef : Nat → Int32} {t : Nat} : ∀ (xs : List Nat) (prev cur : Int32), dl aft bef prev xs cur → t ∈ xs → aft t = -1 ∨ ∃ y, y ∈ xs ∧ aft t = nI y := by
  intro xs
  induction xs with
  | nil => intro _ _ _ h; cases h
  | cons x xs ih =>
    intro prev cur h ht
    obtain ⟨-, -, h3⟩ := h
    rcases List.mem_cons.mp ht with e | e
    · subst e
      cases xs with
      | nil => exact Or.inl h3
      | cons z zs => exact Or.inr ⟨z, List.mem_cons_of_mem _ List.mem_cons_self, h3.1⟩
    · rcases ih _ _ h3 e with q | ⟨y, hy, q⟩
      · exact Or.inl q
      · exact Or.inr ⟨y, List.mem_cons_of_mem _ hy, q⟩
/-- taking a waiting stand out of its bucket -/
theorem MRx.out {N : Nat} {S : MS} {fr : Nat → Option Nat} {mt : List Nat} {L : Nat → List Nat} (h : MR N S fr mt L) (hN : N ≤ 20000) {t m : Nat} (ht : t ∉ mt) (hf : fr t = some m) (hm : m < 2 ^ 31) (l : Launch) (post : MS → Prop)
    (hp : ∀ (T : MS) (L' : Nat → List Nat), T.1 = S.1 → T.2.2 = S.2.2 → (∀ k, k ≠ 11 → k ≠ 12 → k ≠ 13 → T.2.1 k = S.2.1 k) → MRx N T fr mt L' (fun x => x = t) → post T) : mX_unlink l S (nI t) post := by
  obtain ⟨h1, h2, h3, h4, h5, h6⟩ := h
  have hb : m % 101 < 101 := Nat.mod_lt _ (by decide)
  have hin : t ∈ L (m % 101) := (h6 _ t hb).mpr ⟨fun q => q, ht, m, hf, rfl⟩
  have htN : t < N := h5.2.2.2 _ t hb hin
  have hun := h5.unlink (by omega) hb hin
  have haft : S.2.1 11 t = -1 ∨ ∃ y, y < 20000 ∧ S.2.1 11 t = nI y := by
    rcases dl_aft _ _ _ (h5.1 _ hb) hin with q | ⟨y, hy, q⟩
    · exact Or.inl q
    · exact Or.inr ⟨y, by have := h5.2.2.2 _ y hb hy; omega, q⟩
  have hbef : S.2.1 12 t = -1 ∨ ∃ y, y < 20000 ∧ y ≠ t ∧ S.2.1 12 t = nI y := by
    rcases hun with ⟨q, -⟩ | ⟨z, hz, hz2, q, -⟩
    · exact Or.inl q
    · exact Or.inr ⟨z, by have := h5.2.2.2 _ z hb hz; omega, hz2, q⟩
  refine s_unlink l S t m post (by omega) hm (by rw [h1 t htN (fun q => q), hf]; rfl) haft hbef ?_
  have memb : ∀ (c x : Nat), c < 101 → (x ∈ va_up L (m % 101) ((L (m % 101)).erase t) c ↔ ¬ x = t ∧ x ∉ mt ∧ ∃ k, fr x = some k ∧ k % 101 = c) := by
    intro c x hc
    by_cases e : c = m % 101
    · subst e
      rw [va_up_same, List.Nodup.mem_erase_iff (h5.2.1 _ hb), h6 _ x hb]
      exact ⟨fun q => ⟨q.1, q.2.2⟩, fun q => ⟨q.1, fun w => w, q.2⟩⟩
    · rw [va_up_other _ _ e, h6 c x hc]
      refine ⟨fun q => ⟨fun w => ?_, q.2⟩, fun q => ⟨fun w => w, q.2⟩⟩
      obtain ⟨k, hk, hk2⟩ := q.2.2
      rw [w, hf] at hk
      cases hk
      exact e hk2.symm
  unfold ulS
  rcases hun with ⟨q, -, hbk⟩ | ⟨z, hz, hz2, q, hbk⟩
  · rw [if_pos q]
    refine hp _ (va_up L (m % 101) ((L (m % 101)).erase t)) rfl rfl (fun k k1 k2 k3 => ?_) ⟨?_, ?_, h3, ?_, ?_, memb⟩
    · rw [ma_get_ne _ _ k2, ma_get_ne _ _ k3]
    · intro x hx hxt
      rw [ma_get_ne _ _ (by decide), ma_get_ne _ _ (by decide)]; exact h1 x hx (fun q => q)
    · rw [ma_get_ne _ _ (by decide), ma_get_ne _ _ (by decide)]; exact h2
    · rw [ma_get_ne _ _ (by decide), ma_get_ne _ _ (by decide)]; exact h4
    · rw [ma_get_ne _ _ (show (13 : Nat) ≠ 12 by decide), ma_get, ma_get_ne _ _ (show (11 : Nat) ≠ 12 by decide), ma_get_ne _ _ (show (11 : Nat) ≠ 13 by decide), ma_get]
      exact hbk
  · rw [if_neg (by rw [q]; exact nI_m1 (by have := h5.2.2.2 _ z hb hz; omega))]
    have hzc : (S.2.1 12 t).toNatClampNeg = z := by rw [q]; exact nI_clamp (by have := h5.2.2.2 _ z hb hz; omega)
    rw [hzc]
    refine hp _ (va_up L (m % 101) ((L (m % 101)).erase t)) rfl rfl (fun k k1 k2 k3 => ?_) ⟨?_, ?_, h3, ?_, ?_, memb⟩
    · rw [ma_get_ne _ _ k2, ma_get_ne _ _ k1]
    · intro x hx hxt
      rw [ma_get_ne _ _ (by decide), ma_get_ne _ _ (by decide)]; exact h1 x hx (fun q => q)
    · rw [ma_get_ne _ _ (by decide), ma_get_ne _ _ (by decide)]; exact h2
    · rw [ma_get_ne _ _ (by decide), ma_get_ne _ _ (by decide)]; exact h4
    · rw [ma_get_ne _ _ (show (13 : Nat) ≠ 12 by decide), ma_get_ne _ _ (show (13 : Nat) ≠ 11 by decide), ma_get_ne _ _ (show (11 : Nat) ≠ 12 by decide), ma_get, ma_get]
      exact hbk
/-- putting a stand into the bucket of its new label -/
theorem MRx.inn {N : Nat} {S : MS} {fr : Nat → Option Nat} {mt : List Nat} {L : Nat → List Nat} {t : Nat} (h : MRx N S fr mt L (fun x => x = t)) (hN : N ≤ 20000) {m : Nat} (ht : t ∉ mt) (htN : t < N) (hm : m < 2 ^ 31) (l : Launch) (post : MS → Prop)
    (hp : ∀ (T : MS) (L' : Nat → List Nat), T.1 = S.1 → T.2.2 = S.2.2 → (∀ k, k ≠ 10 → k ≠ 11 → k ≠ 12 → k ≠ 13 → T.2.1 k = S.2.1 k) → MR N T (va_up fr t (some m)) mt L' → post T) : mX_link l S (nI t) (nI m) post := by
  obtain ⟨h1, h2, h3, h4, h5, h6⟩ := h
  have hb : m % 101 < 101 := Nat.mod_lt _ (by decide)
  have hno : ∀ c, c < 101 → t ∉ L c := fun c hc q => ((h6 c t hc).mp q).1 rfl
  have hhd : S.2.1 13 (m % 101) = -1 ∨ ∃ y, y < 20000 ∧ S.2.1 13 (m % 101) = nI y := by
    rcases h5.head hb with ⟨q, -⟩ | ⟨y, ys, -, q, hy⟩
    · exact Or.inl q
    · exact Or.inr ⟨y, by omega, q⟩
  refine s_link l S t m post (by omega) hm hhd ?_
  have hbk := h5.link (by omega) hb htN hno
  refine hp (lkS S t (nI m) (m % 101)) (va_up L (m % 101) (t :: L (m % 101))) rfl rfl (fun k k0 k1 k2 k3 => ?_) ⟨?_, ?_, h3, ?_, ?_, ?_⟩
  · unfold lkS
    rw [ma_get_ne _ _ k3, ma_get_ne _ _ k1, ma_get_ne _ _ k2, ma_get_ne _ _ k0]
  · intro x hx _
    unfold lkS
    rw [ma_get_ne _ _ (by decide), ma_get_ne _ _ (by decide), ma_get_ne _ _ (by decide), ma_get]
    by_cases e : x = t
    · subst e; rw [upd_same, va_up_same]; rfl
    · rw [upd_other _ _ e, va_up_other _ _ e]; exact h1 x hx e
  · unfold lkS
    rw [ma_get_ne _ _ (by decide), ma_get_ne _ _ (by decide), ma_get_ne _ _ (by decide), ma_get_ne _ _ (by decide)]; exact h2
  · unfold lkS
    rw [ma_get_ne _ _ (by decide), ma_get_ne _ _ (by decide), ma_get_ne _ _ (by decide), ma_get_ne _ _ (by decide)]; exact h4
  · unfold lkS
    rw [ma_get, ma_get_ne _ _ (show (11 : Nat) ≠ 13 by decide), ma_get, ma_get_ne _ _ (show (12 : Nat) ≠ 13 by decide), ma_get_ne _ _ (show (12 : Nat) ≠ 11 by decide), ma_get]
    exact hbk
  · intro c x hc
    by_cases e : c = m % 101
    · subst e
      rw [va_up_same, List.mem_cons, h6 _ x hb]
      by_cases ex : x = t
      · subst ex
        rw [va_up_same]
        exact ⟨fun _ => ⟨fun q => q, ht, m, rfl, rfl⟩, fun _ => Or.inl rfl⟩
      · rw [va_up_other _ _ ex]
        exact ⟨fun q => ⟨fun w => w, (q.resolve_left ex).2⟩, fun q => Or.inr ⟨ex, q.2⟩⟩
    · rw [va_up_other _ _ e, h6 c x hc]
      by_cases ex : x = t
      · subst ex
        rw [va_up_same]
        refine ⟨fun q => absurd rfl q.1, fun q => ?_⟩
        obtain ⟨k, hk, hk2⟩ := q.2.2
        cases hk
        exact absurd hk2.symm e
      · rw [va_up_other _ _ ex]
        exact ⟨fun q => ⟨fun w => w, q.2⟩, fun q => ⟨ex, q.2⟩⟩
