/-! feed's turn -/
theorem zargI {y : Int32} {i : Int} {Lx : Nat} {k : Int} (ey : y.toInt = i) (hi0 : 0 ≤ i) (hi6 : i + 6 ≤ (Lx : Int)) (k0 : 0 ≤ k) (k5 : k ≤ 5) (hLx : Lx ≤ 3072) : zin (y + Int32.ofInt k) Lx = true := by
  have e : (Int32.ofInt k).toInt = k := zRt ⟨by omega, by omega⟩
  have e1 : (y + Int32.ofInt k).toInt = i + k := by rw [zb_add (by rw [e]; omega) (by rw [e]; omega), e, ey]
  exact zin_of (by rw [e1]; omega) (by rw [e1]; omega)
theorem zcobj {η : List Nat} {ρ : List Int} {hp : List zhE} {C : PC} {m ci : Nat} (hcl : zcl2 η ρ C hp) (hz : C.any (fun q => Nat.beq q.1 m && (match q.2 with
    | .inl (c, _) => Nat.beq c ci
    | _ => false)) = true) : ∃ vs, hp[η.getD m 0]? = some (.inr (ci, vs)) := by
  obtain ⟨q, h1, h2⟩ := List.any_eq_true.mp hz
  rw [Bool.and_eq_true] at h2
  obtain ⟨y, h, g1, g2, g3⟩ := hcl q h1
  have e1 := Nat.eq_of_beq_eq_true h2.1
  obtain ⟨q1, q2⟩ := q
  simp only at e1 h2 g1 g3
  subst e1
  have h3 := h2.2
  split at h3
  · obtain ⟨vs, rfl, -⟩ := g3
    have e3 := Nat.eq_of_beq_eq_true h3
    subst e3
    refine ⟨vs, ?_⟩
    rw [List.getD_eq_getElem?_getD, g1]
    exact g2
  · cases h3
theorem zstk1 {η : List Nat} {ρ : List Int} {e : LX} {l : List Value} (h : zaS η ρ [(5, e)] l) : ∃ v, l = [v] ∧ v.category = 1 := by
  match l, h with
  | [v], h => exact ⟨v, rfl, h.1⟩
  | [], h => exact h.elim
  | _ :: _ :: _, h => exact h.2.elim
theorem zl_pop {lk : ZLP} {Lx : Nat} {xs : Nat → Int32} {k pc : Nat} {L : zL} {st : List Value} {hp : List zhE} {c s : Nat} {Q : ZP} {p0 a b : Nat} {v : Int} {w : Value} (h : zatp k pc = some (p0, .pop, a, b, v)) (hw : w.category = 1) (hn : zWP lk Lx xs k (pc + 1, L, st, hp, c, s) Q) : zWP lk Lx xs k (pc, L, w :: st, hp, c, s) Q := by
  cases w with
  | long x => cases hw
  | double x => cases hw
  | int x => exact zs0 h rfl rfl hn
  | null => exact zs0 h rfl rfl hn
  | ref x => exact zs0 h rfl rfl hn
  | float x => exact zs0 h rfl rfl hn
  | retAddr x => exact zs0 h rfl rfl hn
/-! p2's order of symbols -/
def zsw12 (s : Nat) : Nat := if s = 1 then 2 else if s = 2 then 1 else s
theorem zsw12_ok {a b c : Int} {t : List Int} : ∀ (s : Nat) (x : Int), (a :: b :: c :: t)[s]? = some x → (a :: c :: b :: t)[zsw12 s]? = some x
  | 0, _, h => h
  | 1, _, h => h
  | 2, _, h => h
  | s + 3, _, h => by
    have e : zsw12 (s + 3) = s + 3 := by unfold zsw12; rw [if_neg (by omega), if_neg (by omega)]
    rw [e]
    exact h
theorem zl253_C : zlP253.2.2.1.map (fun q => (id q.1, zreC id zsw12 q.2)) = zlPC.2.2.1 := zeqP_ok (by decide +kernel)
theorem zl253_ok : zlP253.2.2.1.all (fun q => Nat.ble (q.1 + 1) 208 && zokC 208 q.2) = true := by decide +kernel
theorem zl253_L : zlP253.1.map (fun q => (q.1, zreV id zsw12 q.2)) = zlPC.1 ∧ zlP253.1.all (fun q => zokV 208 q.2) = true := by decide +kernel
theorem zl253_E : zlP253.2.2.2.1.length = zlPC.2.2.2.1.length ∧ zlP253.2.2.2.1.drop 3 = zlPC.2.2.2.1.drop 3 ∧ zlP253.2.2.2.1.take 3 = [(0, 3072), (0, 3072), (0, 600)] ∧ zlPC.2.2.2.1.take 3 = [(0, 3072), (0, 600), (0, 3072)] := by decide +kernel
theorem zl253_O : zlP253.2.2.2.2.2 = zlPC.2.2.2.2.2 ∧ zlPC.2.2.2.2.1 = [(-6, [(0, 1), (2, -1)])] := by decide +kernel
theorem zaE_sw {a b c : Int} {t : List Int} {E E' : LE} {qa qb qc : Int × Int} (h : zaE (a :: b :: c :: t) E) (h1 : E.take 3 = [qa, qb, qc]) (h2 : E'.take 3 = [qa, qc, qb]) (h3 : E.drop 3 = E'.drop 3) : zaE (a :: c :: b :: t) E' := by
  have e1 : E = qa :: qb :: qc :: E.drop 3 := by
    have := (List.take_append_drop 3 E).symm
    rw [h1] at this
    exact this
  have e2 : E' = qa :: qc :: qb :: E.drop 3 := by
    have := (List.take_append_drop 3 E').symm
    rw [h2, ← h3] at this
    exact this
  rw [e1] at h
  rw [e2]
  obtain ⟨g1, g2⟩ := h
  refine ⟨g1, fun s q x hq hx => ?_⟩
  match s, hq, hx with
  | 0, hq, hx => exact g2 0 q x hq hx
  | 1, hq, hx => exact g2 2 q x hq hx
  | 2, hq, hx => exact g2 1 q x hq hx
  | s + 3, hq, hx => exact g2 (s + 3) q x hq hx
section ZFT
variable {lk : ZLP} {Lx : Nat} {xs : Nat → Int32} {η : List Nat} {ρ : List Int} {L : zL} {st : List Value} {hp : List zhE} {i : Int} {ca sa : Nat} {Q : ZP}
set_option maxRecDepth 100000 in
/-- the state behind both calls, its symbols in p3's order -/
theorem zl253 (hpt : zptS η ρ zlP253 L st hp) (h0 : ρ[0]? = some (Lx : Int)) {y : Int32} (l4 : zlk L 4 = some (.int y)) (ey : y.toInt = i) (hi6 : i + 6 ≤ (Lx : Int)) : ∃ ρ', zptS η ρ' zlPC L [] hp ∧ ρ'[0]? = some (Lx : Int) ∧ ρ'[2]? = some i ∧ ∃ v, st = [v] ∧ v.category = 1 := by
  obtain ⟨p1, p2, p3, p4, p5, p6⟩ := hpt
  obtain ⟨b, h1, -⟩ := zaE_get (ρ := ρ) p4 (i := 1) (q := (0, 3072)) (by rfl)
  obtain ⟨c, h2, -⟩ := zaE_get (ρ := ρ) p4 (i := 2) (q := (0, 600)) (by rfl)
  obtain ⟨t, rfl⟩ := zlist3 h0 h1 h2
  have q1 : zaL η ((Lx : Int) :: c :: b :: t) zlPC.1 L := by
    rw [← zl253_L.1]
    exact zreL_ok zpid zsw12_ok zl253_L.2 p1
  have q3 := zreCl_ok (f := zsw12) (ρ' := (Lx : Int) :: c :: b :: t) zpid zsw12_ok zl253_ok p3
  rw [zl253_C] at q3
  obtain ⟨-, -, -, y2, -, -, -, -, -, -, -, k4, e2⟩ := zLlk (i := b) q1 rfl
  cases l4.symm.trans k4
  have eb : b = i := e2.symm.trans ey
  subst eb
  exact ⟨(Lx : Int) :: c :: b :: t, ⟨q1, trivial, q3, zaE_sw p4 zl253_E.2.2.1 zl253_E.2.2.2 zl253_E.2.1, by rw [zl253_O.2]; exact zlF1 (Lx := Lx) rfl rfl hi6, by rw [← zl253_O.1]; exact p6⟩, rfl, rfl, zstk1 p2⟩
theorem zTA_keep {hp' : List zhE} {x : Int} (hη : η.length = 208) (hinj : zinj η hp) (hT : zTA η hp) (h1 : (zSof (zee η zxM) hp 0 1).toInt = x) (h2 : (zSof (zee η zxM) hp' 0 1).toInt = x) (hk : ∀ i, i < hp.length → (∀ w ∈ zlW, η[w]? ≠ some i) → hp'[i]? = hp[i]?) : zTA η hp' := by
  have k1 : zSof (zee η zxC) hp' 5 = zSof (zee η zxC) hp 5 := zSof_hp (zkeep (m := 3) hη hinj (by decide) zW_no.2.2.1 hk)
  have k2 : zSof (zee η zxM) hp' 1 = zSof (zee η zxM) hp 1 := zSof_hp (zkeep (m := 12) hη hinj (by decide) zW_no.2.2.2 hk)
  intro q hq
  rw [k1, k2]
  exact hT q (by rw [h1]; rw [h2] at hq; exact hq)
set_option maxRecDepth 100000 in
/-- from a place to the loop's head -/
theorem zto23 {cts : List CT} {q : ND} {k : Int} (hz : zlcW zlW [(23, zlP23, (30789, [(2, -10)]))] cts 2 q 100000 = true) (hCs : ∀ C ∈ cts, zHolds lk Lx xs C) (hr : q.2.2 = (k, [(2, -10)])) (hk : k ≤ 30788) (hf : zflN q.2.1.2.2.1 1 1 (0, [(1, 1)]) = true) (hη : η.length = 208) (hinj : zinj η hp) (hpt : zptS η ρ q.2.1 L st hp) (hT : zTA η hp) (h0 : ρ[0]? = some (Lx : Int)) (h1 : ρ[2]? = some i) (hLx : Lx ≤ 3072) (hca : ca ≤ (zrm 276).cells) (hsa : sa ≤ (zrm 276).slots)
    (IH : ∀ (i' : Int) (L' : zL) (hp' : List zhE), i < i' → zLI Lx L' hp' i' → zWP lk Lx xs 276 (23, L', [], hp', ca, sa) Q) : zWP lk Lx xs 276 (q.1, L, st, hp, ca, sa) Q := by
  refine zlcW_ok hz hCs hη hinj hpt h0 (by omega) (by have := (List.getElem?_eq_some_iff.mp h1).1; omega) (M := k - 10 * i) (by rw [hr]; exact zrk h1) hca hsa ?_
  rintro q' hq' ρ' L' st' hp' r ⟨l, hl⟩ g2 g3 g4 g5 g6 gk
  rw [List.mem_singleton] at hq'
  subst hq'
  have h2 := (List.getElem?_eq_some_iff.mp h1).1
  have e0 : ρ'[0]? = some (Lx : Int) := by
    rw [hl, List.getElem?_append_left (by rw [List.length_take]; omega), List.getElem?_take_of_lt (by decide)]
    exact h0
  have e1' : ρ'[1]? = ρ[1]? := by
    rw [hl, List.getElem?_append_left (by rw [List.length_take]; omega), List.getElem?_take_of_lt (by decide)]
  obtain ⟨x, hx⟩ : ∃ x, ρ[1]? = some x := ⟨_, List.getElem?_eq_getElem (by omega)⟩
  have t1 := zxr_fun (zflN_ok (idx := zxM) (j := 0) hpt.2.2.1 hf rfl) (zxr_s hx)
  have t2 := zxr_fun (zflN_ok (idx := zxM) (j := 0) g2.2.2.1 zfM_23 rfl) (zxr_s (e1'.trans hx))
  obtain ⟨i', hi', -⟩ := zaE_get (ρ := ρ') g2.2.2.2.1 (i := 2) (q := (0, 3072)) (by rfl)
  have e1 := zxr_fun g4 (zrk (a := 30789) hi')
  have hst : st' = [] := znil (η := η) (ρ := ρ') g2.2.1
  subst hst
  exact IH i' L' hp' (by omega) ⟨η, ρ', hη, g3, e0, hi', g2, zTA_keep hη hinj hT t1 t2 gk⟩
end ZFT
