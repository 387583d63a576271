-- contracts are monotone in what they promise
theorem Met.imp' {l : Launch} {y : MethodName} {ws : List Cond} {rm : Room} {Pc : Array Value → State → Prop} {Qc Qd : Array Value → State → Outcome → State → Prop} {mc ms : Nat} {free : Addr → Prop} (h : Met l y ws rm Pc Qc mc ms free) (hq : ∀ a st o t, Qc a st o t → Qd a st o t) : Met l y ws rm Pc Qd mc ms free := by
  unfold Met at h ⊢
  exact MetFree.imp h (fun a st o t q => ⟨hq a st o t q.1, q.2⟩)
theorem Qi_imp {α : Type} {p1 p2 : Int32 → α → Prop} {B : α → State → Prop} {A : Nat → Prop} (h : ∀ r s, p1 r s → p2 r s) : ∀ a st o t, va_Qi p1 B A a st o t → va_Qi p2 B A a st o t := fun _ _ _ _ ⟨⟨r, u, h1, h2, h3⟩, h4⟩ => ⟨⟨r, u, h1, h r u h2, h3⟩, h4⟩
theorem Ql_imp {α : Type} {p1 p2 : Int64 → α → Prop} {B : α → State → Prop} {A : Nat → Prop} (h : ∀ r s, p1 r s → p2 r s) : ∀ a st o t, va_Ql p1 B A a st o t → va_Ql p2 B A a st o t := fun _ _ _ _ ⟨⟨r, u, h1, h2, h3⟩, h4⟩ => ⟨⟨r, u, h1, h r u h2, h3⟩, h4⟩
theorem mI_imp {l : Launch} {y : MethodName} {cy : ByteArray} {ny fr lo : Nat} {av : (Nat → Nat) → List Value} {S : MS} {p1 p2 : Int32 → MS → Prop} (h : mCtI l y cy ny fr lo av S p1) (hp : ∀ r s, p1 r s → p2 r s) : mCtI l y cy ny fr lo av S p2 := fun D ad cI cZ cL sz => (h D ad cI cZ cL sz).imp' (Qi_imp hp)
theorem mJ_imp {l : Launch} {y : MethodName} {cy : ByteArray} {ny fr lo : Nat} {av : (Nat → Nat) → List Value} {S : MS} {p1 p2 : Int64 → MS → Prop} (h : mCtJ l y cy ny fr lo av S p1) (hp : ∀ r s, p1 r s → p2 r s) : mCtJ l y cy ny fr lo av S p2 := fun D ad cI cZ cL sz => (h D ad cI cZ cL sz).imp' (Ql_imp hp)
theorem mZ_imp {l : Launch} {y : MethodName} {cy : ByteArray} {ny fr lo : Nat} {av : (Nat → Nat) → List Value} {S : MS} {p1 p2 : Bool → MS → Prop} (h : mCtZ l y cy ny fr lo av S p1) (hp : ∀ r s, p1 r s → p2 r s) : mCtZ l y cy ny fr lo av S p2 := fun D ad cI cZ cL sz => (h D ad cI cZ cL sz).imp' (Qi_imp (fun _ s ⟨b, h1, h2⟩ => ⟨b, h1, hp b s h2⟩))
theorem cI_imp {l : Launch} {y : MethodName} {cy : ByteArray} {ny fr lo mc ms : Nat} {av : (Nat → Nat) → List Value} {S : CS} {p1 p2 : Int32 → CS → Prop} (h : cCtI l y cy ny fr lo mc ms av S p1) (hp : ∀ r s, p1 r s → p2 r s) : cCtI l y cy ny fr lo mc ms av S p2 := fun D ad vd cI cZ cL cG X sz => (h D ad vd cI cZ cL cG X sz).imp' (Qi_imp hp)
theorem cJ_imp {l : Launch} {y : MethodName} {cy : ByteArray} {ny fr lo mc ms : Nat} {av : (Nat → Nat) → List Value} {S : CS} {p1 p2 : Int64 → CS → Prop} (h : cCtJ l y cy ny fr lo mc ms av S p1) (hp : ∀ r s, p1 r s → p2 r s) : cCtJ l y cy ny fr lo mc ms av S p2 := fun D ad vd cI cZ cL cG X sz => (h D ad vd cI cZ cL cG X sz).imp' (Ql_imp hp)
theorem cZ_imp {l : Launch} {y : MethodName} {cy : ByteArray} {ny fr lo mc ms : Nat} {av : (Nat → Nat) → List Value} {S : CS} {p1 p2 : Bool → CS → Prop} (h : cCtZ l y cy ny fr lo mc ms av S p1) (hp : ∀ r s, p1 r s → p2 r s) : cCtZ l y cy ny fr lo mc ms av S p2 := fun D ad vd cI cZ cL cG X sz => (h D ad vd cI cZ cL cG X sz).imp' (Qi_imp (fun _ s ⟨b, h1, h2⟩ => ⟨b, h1, hp b s h2⟩))
/-- what holds between calls -/
def Iv : Nat → Nat → Nat → CS → MS → Prop := fun j kc ks S M => Rel S M ∧ kc ≤ 3 * j + Fc S ∧ ks ≤ 55 * j + Fs S
theorem Iv.r {j kc ks : Nat} {S : CS} {M : MS} (h : Iv j kc ks S M) {α : Type} {r1 r2 : α} {S1 : CS} {M1 : MS} (o : OKr S r1 S1 r2 M1) : r1 = r2 ∧ Iv (j + 1) kc ks S1 M1 := by
  obtain ⟨o1, o2, o3⟩ := o
  have e1 : Fc S1 = Fc S := by unfold Fc; rw [o3]
  have e2 : Fs S1 = Fs S := by unfold Fs; rw [o3]
  refine ⟨o1, o2, ?_, ?_⟩
  · have := h.2.1; rw [e1]; omega
  · have := h.2.2; rw [e2]; omega
theorem Iv.a {j kc ks : Nat} {S : CS} {M : MS} (h : Iv j kc ks S M) {α : Type} {r1 r2 : α} {S1 : CS} {M1 : MS} {mc ms : Nat} (o : OKa S mc ms r1 S1 r2 M1) : r1 = r2 ∧ Iv (j + 1) (kc + mc) (ks + ms) S1 M1 := by
  obtain ⟨o1, o2, o3, o4⟩ := o
  refine ⟨o1, o2, ?_, ?_⟩
  · have := h.2.1; omega
  · have := h.2.2; omega
theorem Iv.room {j kc ks : Nat} {S : CS} {M : MS} (h : Iv j kc ks S M) (hj : j ≤ 5000) {mc ms : Nat} (h1 : mc ≤ 50000) (h2 : ms ≤ 300000) : kc + mc ≤ 599911 ∧ ks + ms ≤ 6978994 := by
  obtain ⟨⟨n, P, kd, ct, sc, sm, x, y, hR⟩, h3, h4⟩ := h
  obtain ⟨L, -, -, -, -, -, -, hc⟩ := hR.2.2.2.2.2.1
  obtain ⟨LA, hl, hLA, -⟩ := hR.2.2.2.2.2.2.2.2.1
  obtain ⟨LK', hk, hLK, -⟩ := hR.2.2.2.2.2.2.2.2.2
  have m1 := CT_max hLA
  have m2 := CT_max hLK
  unfold Fc at h3
  unfold Fs at h4
  rw [hl.1, hk.1] at h3 h4
  omega
theorem Rel0 : Rel cS0 mS0 := by
  refine ⟨1, 3, fun _ => 0, fun _ => 0, fun _ => 0, fun _ => 0, 0, 0, ⟨⟨rfl, rfl, rfl, by decide, by decide, fun j hj => ?_, fun j hj => ⟨rfl, Nat.zero_le _⟩, fun j hj => ⟨rfl, Nat.zero_le _⟩, fun j hj => ⟨rfl, Nat.zero_le _⟩⟩, ⟨rfl, rfl, by decide, by decide, fun j hj => ⟨rfl, Nat.zero_le _⟩, fun j hj => ⟨rfl, Nat.zero_le _⟩, fun j hj => ⟨rfl, Nat.zero_le _⟩⟩, fun j _ q => absurd rfl q, fun _ _ _ _ _ => rfl⟩, ⟨rfl, by decide, fun j hj => by rw [dgs0]; rfl, rightN_plain _ _⟩, ⟨rfl, by decide, fun j hj => by rw [dgs0]; rfl, rightN_plain _ _⟩, rfl, RP0, ⟨0, by omega, rfl, rfl, fun i hi => absurd hi (Nat.not_lt_zero _), Nat.zero_le _, by decide, by decide⟩, ⟨⟨0, fun _ => 0, fun _ => none, fun _ => 0, fun _ => 0, ⟨by omega, rfl, fun s hs => absurd hs (Nat.not_lt_zero _), fun s i hs => absurd hs (Nat.not_lt_zero _)⟩, ⟨by omega, rfl, fun s hs => absurd hs (Nat.not_lt_zero _), fun s i hs => absurd hs (Nat.not_lt_zero _)⟩⟩, fun t ht => rfl⟩, ⟨⟨fun _ => 0, fun j hj => ⟨rfl, Nat.zero_lt_succ _⟩⟩, ⟨fun _ => 0, fun j hj => ⟨rfl, Nat.zero_lt_succ _⟩⟩⟩, ⟨0, ⟨rfl, rfl, rfl, rfl, rfl, rfl⟩, by omega, Or.inl rfl⟩, ⟨0, ⟨rfl, rfl, rfl, rfl, rfl, rfl, rfl, rfl⟩, by omega, Or.inl rfl⟩⟩
  have : j = 0 := by omega
  subst this
  rfl
theorem Iv0 : Iv 0 0 0 cS0 mS0 := ⟨Rel0, Nat.zero_le _, Nat.zero_le _⟩
