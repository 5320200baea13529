/-! a long method, checked piece by piece -/
def zckR (k a n : Nat) : Bool := match zM k with
  | some m => zchk m (((zPs.getD k []).drop a).take n) (((zQs.getD k []).drop a).take n)
  | none => false
def zckD (k a : Nat) : Bool := match zM k with
  | some m => zchk m ((zPs.getD k []).drop a) ((zQs.getD k []).drop a)
  | none => false
theorem zchk_cut (m : zMe) : ∀ (n : Nat) (es : List zPE) (qs : List (List Nat)), zchk m (es.take n) (qs.take n) = true → zchk m (es.drop n) (qs.drop n) = true → zchk m es qs = true
  | 0, _, _, _, h => by simpa using h
  | n + 1, [], _, _, _ => rfl
  | n + 1, e :: es, [], h, _ => by simp [zchk] at h
  | n + 1, e :: es, q :: qs, h, h2 => by
    have h : zchk m (e :: es.take n) (q :: qs.take n) = true := by simpa using h
    have h2 : zchk m (es.drop n) (qs.drop n) = true := by simpa using h2
    simp only [zchk, Bool.and_eq_true] at h ⊢
    exact ⟨h.1, h.2.1, h.2.2.1, zchk_cut m n es qs h.2.2.2 h2⟩
theorem zckD_cut {k a n : Nat} (h : zckR k a n = true) (h2 : zckD k (a + n) = true) : zckD k a = true := by
  unfold zckR at h
  unfold zckD at h2 ⊢
  split at h
  · rename_i m hm
    rw [hm] at h2
    have h2 : zchk m ((zPs.getD k []).drop (a + n)) ((zQs.getD k []).drop (a + n)) = true := h2
    exact zchk_cut m n _ _ h (by rw [List.drop_drop, List.drop_drop]; exact h2)
  · cases h
theorem zck_cut {k : Nat} (h : zckD k 0 = true) : zck k = true := h
