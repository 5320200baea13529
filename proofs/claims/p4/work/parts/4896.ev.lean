/-! what a run that has come back did: answers of the pure machine without rank or bound -/
def zinc : Nat → List zPE → Bool
  | _, [] => true
  | m, e :: l => Nat.ble m e.1 && zinc (e.1 + 1) l
theorem zinc_ge : ∀ {l : List zPE} {m : Nat}, zinc m l = true → ∀ e ∈ l, m ≤ e.1
  | [], _, _, e, he => absurd he List.not_mem_nil
  | x :: l, m, h, e, he => by
    simp only [zinc, Bool.and_eq_true] at h
    have h1 := Nat.le_of_ble_eq_true h.1
    rcases List.mem_cons.mp he with rfl | he
    · exact h1
    · have := zinc_ge h.2 e he
      omega
theorem zinc_find : ∀ {l : List zPE} {m : Nat}, zinc m l = true → ∀ e ∈ l, l.find? (fun q => Nat.beq q.1 e.1) = some e
  | [], _, _, e, he => absurd he List.not_mem_nil
  | x :: l, m, h, e, he => by
    simp only [zinc, Bool.and_eq_true] at h
    rcases List.mem_cons.mp he with rfl | he
    · rw [List.find?_cons_of_pos (by exact Nat.beq_refl _)]
    · have h1 := zinc_ge h.2 e he
      have h2 : Nat.beq x.1 e.1 = false := by
        cases hb : Nat.beq x.1 e.1 with
        | false => rfl
        | true =>
          have := Nat.eq_of_beq_eq_true hb
          omega
      rw [List.find?_cons_of_neg (by show ¬ Nat.beq x.1 e.1 = true; rw [h2]; decide)]
      exact zinc_find h.2 e he
theorem zinc_all : (List.range 277).all (fun k => zinc 0 (zrw k).1) = true := by decide +kernel
theorem zatp_of {k : Nat} (hk : k < 277) {e : zPE} (he : e ∈ (zrw k).1) : zatp k e.1 = some e := zinc_find (List.all_eq_true.mp zinc_all k (List.mem_range.mpr hk)) e he
def zEv (Lx : Nat) (xs : Nat → Int32) : Nat → Nat → zCF → Option Value → List zhE → Prop
  | 0, _, _, _, _ => False
  | n + 1, k, z, rv, hp' => ∃ e, zatp k z.1 = some e ∧ (match zkind e.2.1 e.2.2.1 e.2.2.2.1 e.2.2.2.2 with
    | 0 => ∃ z', zone z.1 z.2.1 z.2.2.1 z.2.2.2.1 z.2.2.2.2.1 z.2.2.2.2.2 Lx xs (zrw k).2.1 (zrm k) e.2.1 e.2.2.1 e.2.2.2.1 e.2.2.2.2 = some z' ∧ zEv Lx xs n k z' rv hp'
    | 1 => ∃ vs a st, z.2.2.1 = vs.reverse ++ .ref a :: st ∧ vs.length = e.2.2.2.1 ∧ ∃ rv1 hp1, zEv Lx xs n e.2.2.1 (0, lv_args 0 (.ref a :: vs), [], z.2.2.2.1, 0, 0) rv1 hp1 ∧ zEv Lx xs n k (z.1 + 3, z.2.1, rv1.toList ++ st, hp1, z.2.2.2.2.1 + (zrm e.2.2.1).cells, z.2.2.2.2.2 + (zrm e.2.2.1).slots) rv hp'
    | 2 => ∃ vs st, z.2.2.1 = vs.reverse ++ st ∧ vs.length = e.2.2.2.1 ∧ ∃ rv1 hp1, zEv Lx xs n e.2.2.1 (0, lv_args 0 vs, [], z.2.2.2.1, 0, 0) rv1 hp1 ∧ zEv Lx xs n k (z.1 + 3, z.2.1, rv1.toList ++ st, hp1, z.2.2.2.2.1 + (zrm e.2.2.1).cells, z.2.2.2.2.2 + (zrm e.2.2.1).slots) rv hp'
    | 3 => ∃ vs a st, z.2.2.1 = vs.reverse ++ .ref a :: st ∧ vs.length = e.2.2.2.1 ∧ ∃ rv1 hp1, zEv Lx xs n e.2.2.1 (0, lv_args 0 (.ref a :: vs), [], z.2.2.2.1, 0, 0) rv1 hp1 ∧ zEv Lx xs n k (z.1 + 3, z.2.1, rv1.toList ++ st, hp1, z.2.2.2.2.1 + (zrm e.2.2.1).cells, z.2.2.2.2.2 + (zrm e.2.2.1).slots) rv hp'
    | 4 => ∃ x, z.2.2.1 = [.int x] ∧ rv = some (.int x) ∧ hp' = z.2.2.2.1
    | 5 => ∃ x, z.2.2.1 = [.long x] ∧ rv = some (.long x) ∧ hp' = z.2.2.2.1
    | 6 => z.2.2.1 = [] ∧ rv = none ∧ hp' = z.2.2.2.1
    | _ => False)
section ZEV
variable {Lx : Nat} {xs : Nat → Int32}
theorem zEv_up : ∀ {n k : Nat} {z : zCF} {rv : Option Value} {hp' : List zhE}, zEv Lx xs n k z rv hp' → zEv Lx xs (n + 1) k z rv hp'
  | 0, _, _, _, _, h => h.elim
  | n + 1, k, z, rv, hp', h => by
    obtain ⟨e, h1, h2⟩ := h
    refine ⟨e, h1, ?_⟩
    generalize zkind e.2.1 e.2.2.1 e.2.2.2.1 e.2.2.2.2 = kk at h2 ⊢
    split at h2
    · obtain ⟨z', h3, h4⟩ := h2
      exact ⟨z', h3, zEv_up h4⟩
    · obtain ⟨vs, a, st, h3, h4, rv1, hp1, h5, h6⟩ := h2
      exact ⟨vs, a, st, h3, h4, rv1, hp1, zEv_up h5, zEv_up h6⟩
    · obtain ⟨vs, st, h3, h4, rv1, hp1, h5, h6⟩ := h2
      exact ⟨vs, st, h3, h4, rv1, hp1, zEv_up h5, zEv_up h6⟩
    · obtain ⟨vs, a, st, h3, h4, rv1, hp1, h5, h6⟩ := h2
      exact ⟨vs, a, st, h3, h4, rv1, hp1, zEv_up h5, zEv_up h6⟩
    · exact h2
    · exact h2
    · exact h2
    · exact h2.elim
theorem zEv_le {n m k : Nat} {z : zCF} {rv : Option Value} {hp' : List zhE} (hnm : n ≤ m) (h : zEv Lx xs n k z rv hp') : zEv Lx xs m k z rv hp' := by
  obtain ⟨d, rfl⟩ := Nat.exists_eq_add_of_le hnm
  clear hnm
  induction d with
  | zero => exact h
  | succ d ih => exact zEv_up ih
theorem zkd7 : (List.range 276).all (fun k => (zrw k).1.all (fun e => Nat.ble (zkind e.2.1 e.2.2.1 e.2.2.2.1 e.2.2.2.2) 6)) = true := by decide +kernel
/-- a run with an end comes back, and that is a run step by step -/
theorem zWP.ev {lk : ZLP} {k : Nat} {z : zCF} {Q : ZP} (hk : k < 276) (h : zWP lk Lx xs k z Q) : zWP lk Lx xs k z (fun rv hp' => Q rv hp' ∧ ∃ n, zEv Lx xs n k z rv hp') := by
  refine h (fun k z Q => k < 276 → zWP lk Lx xs k z (fun rv hp' => Q rv hp' ∧ ∃ n, zEv Lx xs n k z rv hp')) ?_ hk
  clear h hk Q z k
  intro k z Q hf hk
  obtain ⟨e, h1, h2, h3⟩ := hf
  have hat : zatp k z.1 = some e := by rw [← h2]; exact zatp_of (by omega) h1
  have h7 := Nat.le_of_ble_eq_true (List.all_eq_true.mp (List.all_eq_true.mp zkd7 k (List.mem_range.mpr hk)) e h1)
  have hr := fun hc => (zroom (k := k) (by omega) h1 hc).2
  apply zWP.step
  refine ⟨e, h1, h2, ?_⟩
  have hev : ∀ n rv hp', zEv Lx xs (n + 1) k z rv hp' ↔ (∃ e, zatp k z.1 = some e ∧ (match zkind e.2.1 e.2.2.1 e.2.2.2.1 e.2.2.2.2 with
    | 0 => ∃ z', zone z.1 z.2.1 z.2.2.1 z.2.2.2.1 z.2.2.2.2.1 z.2.2.2.2.2 Lx xs (zrw k).2.1 (zrm k) e.2.1 e.2.2.1 e.2.2.2.1 e.2.2.2.2 = some z' ∧ zEv Lx xs n k z' rv hp'
    | 1 => ∃ vs a st, z.2.2.1 = vs.reverse ++ .ref a :: st ∧ vs.length = e.2.2.2.1 ∧ ∃ rv1 hp1, zEv Lx xs n e.2.2.1 (0, lv_args 0 (.ref a :: vs), [], z.2.2.2.1, 0, 0) rv1 hp1 ∧ zEv Lx xs n k (z.1 + 3, z.2.1, rv1.toList ++ st, hp1, z.2.2.2.2.1 + (zrm e.2.2.1).cells, z.2.2.2.2.2 + (zrm e.2.2.1).slots) rv hp'
    | 2 => ∃ vs st, z.2.2.1 = vs.reverse ++ st ∧ vs.length = e.2.2.2.1 ∧ ∃ rv1 hp1, zEv Lx xs n e.2.2.1 (0, lv_args 0 vs, [], z.2.2.2.1, 0, 0) rv1 hp1 ∧ zEv Lx xs n k (z.1 + 3, z.2.1, rv1.toList ++ st, hp1, z.2.2.2.2.1 + (zrm e.2.2.1).cells, z.2.2.2.2.2 + (zrm e.2.2.1).slots) rv hp'
    | 3 => ∃ vs a st, z.2.2.1 = vs.reverse ++ .ref a :: st ∧ vs.length = e.2.2.2.1 ∧ ∃ rv1 hp1, zEv Lx xs n e.2.2.1 (0, lv_args 0 (.ref a :: vs), [], z.2.2.2.1, 0, 0) rv1 hp1 ∧ zEv Lx xs n k (z.1 + 3, z.2.1, rv1.toList ++ st, hp1, z.2.2.2.2.1 + (zrm e.2.2.1).cells, z.2.2.2.2.2 + (zrm e.2.2.1).slots) rv hp'
    | 4 => ∃ x, z.2.2.1 = [.int x] ∧ rv = some (.int x) ∧ hp' = z.2.2.2.1
    | 5 => ∃ x, z.2.2.1 = [.long x] ∧ rv = some (.long x) ∧ hp' = z.2.2.2.1
    | 6 => z.2.2.1 = [] ∧ rv = none ∧ hp' = z.2.2.2.1
    | _ => False)) := fun n rv hp' => Iff.rfl
  generalize hkk : zkind e.2.1 e.2.2.1 e.2.2.2.1 e.2.2.2.2 = kk at h3 h7 hr ⊢
  rcases (show kk = 0 ∨ kk = 1 ∨ kk = 2 ∨ kk = 3 ∨ kk = 4 ∨ kk = 5 ∨ kk = 6 by omega) with rfl | rfl | rfl | rfl | rfl | rfl | rfl
  · obtain ⟨z', h4, h5⟩ := h3
    refine ⟨z', h4, (h5 hk).post ?_⟩
    rintro rv hp' ⟨q, n, hn⟩
    refine ⟨q, n + 1, (hev n rv hp').mpr ⟨e, hat, ?_⟩⟩
    rw [hkk]
    exact ⟨z', h4, hn⟩
  · obtain ⟨vs, a, st, fs, h4, h5, h6, g1, g2, g3, g4, P, g5, g6⟩ := h3
    refine ⟨vs, a, st, fs, h4, h5, h6, g1, g2, g3, g4, _, g5 (hr (Or.inl rfl)), ?_⟩
    rintro rv1 hp1 ⟨p1, n1, m1⟩
    refine (g6 rv1 hp1 p1 hk).post ?_
    rintro rv hp' ⟨q, n2, m2⟩
    refine ⟨q, max n1 n2 + 1, (hev _ rv hp').mpr ⟨e, hat, ?_⟩⟩
    rw [hkk]
    exact ⟨vs, a, st, h4, h5, rv1, hp1, zEv_le (Nat.le_max_left _ _) m1, zEv_le (Nat.le_max_right _ _) m2⟩
  · obtain ⟨vs, st, h4, h5, g1, g2, g3, g4, P, g5, g6⟩ := h3
    refine ⟨vs, st, h4, h5, g1, g2, g3, g4, _, g5 (hr (Or.inr (Or.inl rfl))), ?_⟩
    rintro rv1 hp1 ⟨p1, n1, m1⟩
    refine (g6 rv1 hp1 p1 hk).post ?_
    rintro rv hp' ⟨q, n2, m2⟩
    refine ⟨q, max n1 n2 + 1, (hev _ rv hp').mpr ⟨e, hat, ?_⟩⟩
    rw [hkk]
    exact ⟨vs, st, h4, h5, rv1, hp1, zEv_le (Nat.le_max_left _ _) m1, zEv_le (Nat.le_max_right _ _) m2⟩
  · obtain ⟨vs, a, st, h4, h5, g1, g2, g3, g4, P, g5, g6⟩ := h3
    refine ⟨vs, a, st, h4, h5, g1, g2, g3, g4, _, g5 (hr (Or.inr (Or.inr rfl))), ?_⟩
    rintro rv1 hp1 ⟨p1, n1, m1⟩
    refine (g6 rv1 hp1 p1 hk).post ?_
    rintro rv hp' ⟨q, n2, m2⟩
    refine ⟨q, max n1 n2 + 1, (hev _ rv hp').mpr ⟨e, hat, ?_⟩⟩
    rw [hkk]
    exact ⟨vs, a, st, h4, h5, rv1, hp1, zEv_le (Nat.le_max_left _ _) m1, zEv_le (Nat.le_max_right _ _) m2⟩
  · obtain ⟨h4, h5, x, h6, h7, h8⟩ := h3
    refine ⟨h4, h5, x, h6, h7, h8, 1, (hev 0 _ _).mpr ⟨e, hat, ?_⟩⟩
    rw [hkk]
    exact ⟨x, h6, rfl, rfl⟩
  · obtain ⟨h4, h5, x, h6, h8⟩ := h3
    refine ⟨h4, h5, x, h6, h8, 1, (hev 0 _ _).mpr ⟨e, hat, ?_⟩⟩
    rw [hkk]
    exact ⟨x, h6, rfl, rfl⟩
  · obtain ⟨h4, h5, h6, h8⟩ := h3
    refine ⟨h4, h5, h6, h8, 1, (hev 0 _ _).mpr ⟨e, hat, ?_⟩⟩
    rw [hkk]
    exact ⟨h6, rfl, rfl⟩
end ZEV
