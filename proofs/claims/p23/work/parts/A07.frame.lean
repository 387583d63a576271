-- the class's state: small laws
theorem cf_get (S : CS) (k : Nat) (v : Int32) : (cf S k v).1 k = v := va_up_same _ _ _
theorem cf_get_ne (S : CS) {k j : Nat} (v : Int32) (h : j ≠ k) : (cf S k v).1 j = S.1 j := va_up_other _ _ h
theorem ca_get (S : CS) (k : Nat) (f : Nat → Int32) : (ca S k f).2.1 k = f := va_up_same _ _ _
theorem ca_get_ne (S : CS) {k j : Nat} (f : Nat → Int32) (h : j ≠ k) : (ca S k f).2.1 j = S.2.1 j := va_up_other _ _ h
theorem cj_get (S : CS) (k : Nat) (f : Nat → Int64) : (cj S k f).2.2.1 k = f := va_up_same _ _ _
theorem cj_get_ne (S : CS) {k j : Nat} (f : Nat → Int64) (h : j ≠ k) : (cj S k f).2.2.1 j = S.2.2.1 j := va_up_other _ _ h
theorem cn_get (S : CS) (k n : Nat) : (cn S k n).2.2.2 k = n := va_up_same _ _ _
theorem cn_get_ne (S : CS) {k j : Nat} (n : Nat) (h : j ≠ k) : (cn S k n).2.2.2 j = S.2.2.2 j := va_up_other _ _ h
/-- what may have changed: scalars of a, rows of b, lengths of c -/
def CFr (a b c : Nat → Bool) (S T : CS) : Prop := (∀ k, a k = false → T.1 k = S.1 k) ∧ (∀ k, b k = false → T.2.1 k = S.2.1 k ∧ T.2.2.1 k = S.2.2.1 k) ∧ (∀ k, c k = false → T.2.2.2 k = S.2.2.2 k)
section CFrS
variable {a b c a' b' c' : Nat → Bool} {S T U : CS}
theorem CFr.rf : CFr a b c S S := ⟨fun _ _ => rfl, fun _ _ => ⟨rfl, rfl⟩, fun _ _ => rfl⟩
theorem CFr.tr (h1 : CFr a b c S T) (h2 : CFr a b c T U) : CFr a b c S U := ⟨fun k hk => (h2.1 k hk).trans (h1.1 k hk), fun k hk => ⟨(h2.2.1 k hk).1.trans (h1.2.1 k hk).1, (h2.2.1 k hk).2.trans (h1.2.1 k hk).2⟩, fun k hk => (h2.2.2 k hk).trans (h1.2.2 k hk)⟩
theorem CFr.mono (h : CFr a b c S T) (ha : ∀ k, a' k = false → a k = false) (hb : ∀ k, b' k = false → b k = false) (hc : ∀ k, c' k = false → c k = false := by first | exact fun _ _ => rfl | exact fun _ h => h) : CFr a' b' c' S T := ⟨fun k hk => h.1 k (ha k hk), fun k hk => h.2.1 k (hb k hk), fun k hk => h.2.2 k (hc k hk)⟩
theorem CFr.cf (h : CFr a b c S T) {k : Nat} (v : Int32) (hk : a k = true) : CFr a b c S (cf T k v) := ⟨fun j hj => by rw [cf_get_ne _ _ (fun e => by rw [e, hk] at hj; cases hj)]; exact h.1 j hj, h.2⟩
theorem CFr.ca (h : CFr a b c S T) {k : Nat} (f : Nat → Int32) (hk : b k = true) : CFr a b c S (ca T k f) := ⟨h.1, fun j hj => ⟨by rw [ca_get_ne _ _ (fun e => by rw [e, hk] at hj; cases hj)]; exact (h.2.1 j hj).1, (h.2.1 j hj).2⟩, h.2.2⟩
theorem CFr.cj (h : CFr a b c S T) {k : Nat} (f : Nat → Int64) (hk : b k = true) : CFr a b c S (cj T k f) := ⟨h.1, fun j hj => ⟨(h.2.1 j hj).1, by rw [cj_get_ne _ _ (fun e => by rw [e, hk] at hj; cases hj)]; exact (h.2.1 j hj).2⟩, h.2.2⟩
theorem CFr.cn (h : CFr a b c S T) {k : Nat} (m : Nat) (hk : c k = true) : CFr a b c S (cn T k m) := ⟨h.1, h.2.1, fun j hj => by rw [cn_get_ne _ _ (fun e => by rw [e, hk] at hj; cases hj)]; exact h.2.2 j hj⟩
end CFrS
/-- no length changes -/
def nn : Nat → Bool := fun _ => false
/-- the look's own -/
def lA : Nat → Bool := fun k => decide (6 ≤ k) && decide (k ≤ 8)
def lB : Nat → Bool := fun k => decide (13 ≤ k) && decide (k ≤ 19)
/-- the listing of moves alone -/
def sA : Nat → Bool := fun k => decide (k = 6)
def sB : Nat → Bool := fun k => decide (17 ≤ k) && decide (k ≤ 19)
theorem sA_l (k : Nat) (h : lA k = false) : sA k = false := by
  unfold lA at h; unfold sA
  simp only [Bool.and_eq_false_iff, decide_eq_false_iff_not] at h ⊢
  omega
theorem sB_l (k : Nat) (h : lB k = false) : sB k = false := by
  unfold lB at h; unfold sB
  simp only [Bool.and_eq_false_iff, decide_eq_false_iff_not] at h ⊢
  omega
/-- the class's yard: pegs, discs, stands, weights, kinds, costs, strong lanes -/
def CY (S : CS) (n P : Nat) (kd ct sg : Nat → Nat) : Prop := S.1 3 = nI P ∧ S.1 4 = nI n ∧ S.1 5 = nI (P ^ n) ∧ (2 ≤ P ∧ P ≤ 5) ∧ (1 ≤ n ∧ n ≤ 7) ∧ (∀ j, j < n → S.2.1 9 j = nI (P ^ j)) ∧ (∀ j, j < 7 → S.2.1 10 j = nI (kd j) ∧ kd j ≤ 3) ∧ (∀ j, j < 25 → S.2.1 11 j = nI (ct j) ∧ ct j ≤ 100) ∧ (∀ j, j < 25 → S.2.1 12 j = nI (sg j) ∧ sg j ≤ 1)
theorem CY.fr {a b c : Nat → Bool} {S T : CS} {n P : Nat} {kd ct sg : Nat → Nat} (h : CY S n P kd ct sg) (f : CFr a b c S T) (h3 : a 3 = false := by rfl) (h4 : a 4 = false := by rfl) (h5 : a 5 = false := by rfl) (h9 : b 9 = false := by rfl) (h10 : b 10 = false := by rfl) (h11 : b 11 = false := by rfl) (h12 : b 12 = false := by rfl) : CY T n P kd ct sg := by
  unfold CY
  rw [f.1 3 h3, f.1 4 h4, f.1 5 h5, (f.2.1 9 h9).1, (f.2.1 10 h10).1, (f.2.1 11 h11).1, (f.2.1 12 h12).1]
  exact h
