theorem ma_swap (S : MS) {j k : Nat} (f g : Nat → Int32) (h : j ≠ k) : ma (ma S j f) k g = ma (ma S k g) j f := by
  show (S.1, va_up (va_up S.2.1 j f) k g, S.2.2) = (S.1, va_up (va_up S.2.1 k g) j f, S.2.2)
  rw [va_up_swap _ _ _ (Ne.symm h)]
/-- the state behind link(s, d) -/
def lkS (S : MS) (s : Nat) (d : Int32) (b : Nat) : MS := ma (ma (ma (ma S 10 (upd (S.2.1 10) s d)) 12 (rePrev (upd (S.2.1 12) s (-1)) (S.2.1 13 b) (nI s))) 11 (upd (S.2.1 11) s (S.2.1 13 b))) 13 (upd (S.2.1 13) b (nI s))
theorem s_link (l : Launch) (S : MS) (s m : Nat) (post : MS → Prop) (hs : s < 20000) (hm : m < 2 ^ 31) (hc : S.2.1 13 (m % 101) = -1 ∨ ∃ y, y < 20000 ∧ S.2.1 13 (m % 101) = nI y) (h : post (lkS S s (nI m) (m % 101))) : mX_link l S (nI s) (nI m) post := by
  refine m_link l S (nI s) (nI m) post ?_
  unfold mT_link_e
  have hb : m % 101 < 101 := Nat.mod_lt _ (by omega)
  refine ⟨vp_in_nI hs (by omega), fun v hv => ?_⟩
  rw [show (101 : Int32) = nI 101 from rfl, pk_rem hm (by omega) (by omega)] at hv
  rw [hv, nI_clamp (by omega), nI_clamp (by omega)]
  have i1 : vp_in (nI s) 20000 := vp_in_nI hs (by omega)
  have i2 : vp_in (nI (m % 101)) 101 := vp_in_nI hb (by omega)
  refine ⟨i1, i2, i1, i2, fun c => ⟨i2, ?_⟩, fun c => ⟨i2, ?_, i2, ?_⟩⟩
  · unfold lkS rePrev at h
    rw [if_pos c] at h
    exact h
  · rcases hc with q | ⟨y, hy, q⟩
    · exact absurd q c
    · rw [q]; exact vp_in_nI hy (by omega)
  · unfold lkS rePrev at h
    rw [if_neg c] at h
    rw [ma_swap _ _ _ (show (11 : Nat) ≠ 12 by decide), ma_ma]
    exact h
/-- the state behind unlink(s) -/
def ulS (S : MS) (s b : Nat) : MS := ma (if S.2.1 12 s = -1 then ma S 13 (upd (S.2.1 13) b (S.2.1 11 s)) else ma S 11 (upd (S.2.1 11) (S.2.1 12 s).toNatClampNeg (S.2.1 11 s))) 12 (rePrev (S.2.1 12) (S.2.1 11 s) (S.2.1 12 s))
theorem s_unlink (l : Launch) (S : MS) (s m : Nat) (post : MS → Prop) (hs : s < 20000) (hm : m < 2 ^ 31) (hf : S.2.1 10 s = nI m) (ha : S.2.1 11 s = -1 ∨ ∃ y, y < 20000 ∧ S.2.1 11 s = nI y) (hbf : S.2.1 12 s = -1 ∨ ∃ y, y < 20000 ∧ y ≠ s ∧ S.2.1 12 s = nI y) (h : post (ulS S s (m % 101))) : mX_unlink l S (nI s) post := by
  refine m_unlink l S (nI s) post ?_
  intro B52 h52
  unfold mT_unlink_e
  have hb : m % 101 < 101 := Nat.mod_lt _ (by omega)
  have i1 : vp_in (nI s) 20000 := vp_in_nI hs (by omega)
  have i2 : vp_in (nI (m % 101)) 101 := vp_in_nI hb (by omega)
  rw [nI_clamp (by omega), hf]
  refine ⟨i1, fun v hv => ?_⟩
  rw [show (101 : Int32) = nI 101 from rfl, pk_rem hm (by omega) (by omega)] at hv
  rw [hv, nI_clamp (by omega)]
  -- what comes behind, from a state that keeps rows 11 (at s) and 12
  have fin : ∀ N : MS, N.2.1 11 s = S.2.1 11 s → N.2.1 12 = S.2.1 12 → post (ma N 12 (rePrev (S.2.1 12) (S.2.1 11 s) (S.2.1 12 s))) → B52 N := by
    intro N e1 e2 hp
    refine h52 _ ?_
    unfold mT_unlink_52
    rw [nI_clamp (by omega), e1, e2]
    refine ⟨i1, fun c => ?_, fun c => ⟨i1, i1, ?_, ?_⟩⟩
    · unfold rePrev at hp
      rw [if_pos c, ← e2, ma_id] at hp
      exact hp
    · rcases ha with q | ⟨y, hy, q⟩
      · exact absurd q c
      · rw [q]; exact vp_in_nI hy (by omega)
    · unfold rePrev at hp
      rw [if_neg c] at hp
      exact hp
  refine ⟨i1, fun c => ⟨i1, i1, ?_, ?_⟩, fun c => ⟨i1, i2, ?_⟩⟩
  · rcases hbf with q | ⟨y, hy, -, q⟩
    · exact absurd q c
    · rw [q]; exact vp_in_nI hy (by omega)
  · refine fin _ ?_ (ma_get_ne _ _ (by decide)) ?_
    · rw [ma_get]
      rcases hbf with q | ⟨y, hy, hys, q⟩
      · exact absurd q c
      · rw [q, nI_clamp (by omega)]
        exact upd_other _ _ (Ne.symm hys)
    · unfold ulS at h
      rw [if_neg c] at h
      exact h
  · refine fin _ (by rw [ma_get_ne _ _ (by decide)]) (ma_get_ne _ _ (by decide)) ?_
    unfold ulS at h
    rw [if_pos c] at h
    exact h
