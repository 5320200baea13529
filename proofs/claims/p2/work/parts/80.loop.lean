/-! the law's loop, turn by turn -/
def zLI (Lx : Nat) (L : zL) (hp : List zhE) (i : Int) : Prop := ∃ (η : List Nat) (ρ : List Int), η.length = 208 ∧ zinj η hp ∧ ρ[0]? = some (Lx : Int) ∧ ρ[1]? = some i ∧ zptS η ρ zlP23 L [] hp
theorem zrk {ρ : List Int} {a i : Int} (h : ρ[1]? = some i) : zxr ρ (a, [(1, -10)]) (a - 10 * i) := ⟨-10 * i, ⟨i, 0, h, rfl, by omega⟩, by show a - 10 * i = a + -10 * i; omega⟩
theorem zlF1 {ρ : List Int} {Lx : Nat} {i : Int} (h0 : ρ[0]? = some (Lx : Int)) (h1 : ρ[1]? = some i) (hi : i + 6 ≤ (Lx : Int)) : zaF ρ [(-6, [(0, 1), (1, -1)])] := by
  intro f hf
  rw [List.mem_singleton] at hf
  subst hf
  exact ⟨(Lx : Int) - 6 - i, ⟨(Lx : Int) - i, ⟨(Lx : Int), -i, h0, ⟨i, 0, h1, rfl, by omega⟩, by omega⟩, by show (Lx : Int) - 6 - i = -6 + ((Lx : Int) - i); omega⟩, by omega⟩
set_option maxRecDepth 100000 in
theorem zlPC_of {η : List Nat} {ρ : List Int} {L : zL} {hp : List zhE} {Lx : Nat} {i : Int} (h : zptS η ρ zlP23 L [] hp) (h0 : ρ[0]? = some (Lx : Int)) (h1 : ρ[1]? = some i) (hi : i + 6 ≤ (Lx : Int)) : zptS η ρ zlPC L [] hp := ⟨h.1, h.2.1, h.2.2.1, h.2.2.2.1, zlF1 h0 h1 hi, h.2.2.2.2.2⟩
theorem znil {η : List Nat} {ρ : List Int} {st : List Value} (h : zaS η ρ [] st) : st = [] := by
  cases st with
  | nil => rfl
  | cons _ _ => exact h.elim
theorem ztake1 {ρ l : List Int} {a : Int} (h : ρ[0]? = some a) : (ρ.take 1 ++ l)[0]? = some a := by
  cases ρ with
  | nil => simp at h
  | cons b t => simpa using h
section ZLO
variable {lk : ZLP} {Lx : Nat} {xs : Nat → Int32} {η : List Nat} {ρ : List Int} {L : zL} {st : List Value} {hp : List zhE} {i : Int} {ca sa : Nat} {Q : ZP}
set_option maxRecDepth 100000 in
/-- from a place to the loop's head -/
theorem zto23 {cts : List CT} {q : ND} {k : Int} (hz : zlc [(23, zlP23, (30789, [(1, -10)]))] cts 1 q 100000 = true) (hCs : ∀ C ∈ cts, zHolds lk Lx xs C) (hr : q.2.2 = (k, [(1, -10)])) (hk : k ≤ 30788) (hη : η.length = 208) (hinj : zinj η hp) (hpt : zptS η ρ q.2.1 L st hp) (h0 : ρ[0]? = some (Lx : Int)) (h1 : ρ[1]? = some i) (hLx : Lx ≤ 3072) (hca : ca ≤ (zrm 276).cells) (hsa : sa ≤ (zrm 276).slots)
    (IH : ∀ (i' : Int) (L' : zL) (hp' : List zhE), i < i' → zLI Lx L' hp' i' → zWP lk Lx xs 276 (23, L', [], hp', ca, sa) Q) : zWP lk Lx xs 276 (q.1, L, st, hp, ca, sa) Q := by
  refine zlc_ok hz hCs hη hinj hpt h0 (by omega) (by have := (List.getElem?_eq_some_iff.mp h0).1; omega) (M := k - 10 * i) (by rw [hr]; exact zrk h1) hca hsa ?_
  rintro q' hq' ρ' L' st' hp' r ⟨l, hl⟩ g2 g3 g4 g5 g6
  rw [List.mem_singleton] at hq'
  subst hq'
  have e0 : ρ'[0]? = some (Lx : Int) := by rw [hl]; exact ztake1 h0
  obtain ⟨i', hi', -⟩ := zaE_get (ρ := ρ') g2.2.2.2.1 (i := 1) (q := (0, 3072)) (by rfl)
  have e1 := zxr_fun g4 (zrk (a := 30789) hi')
  have hst : st' = [] := znil (η := η) (ρ := ρ') g2.2.1
  subst hst
  exact IH i' L' hp' (by omega) ⟨η, ρ', hη, g3, e0, hi', g2⟩
set_option maxRecDepth 100000 in
/-- hands: by way of a place between its two calls -/
theorem z16 (hη : η.length = 208) (hinj : zinj η hp) (hpt : zptS η ρ zlPC L [] hp) (h0 : ρ[0]? = some (Lx : Int)) (h1 : ρ[1]? = some i) (hLx : Lx ≤ 3072) (hca : ca ≤ (zrm 276).cells) (hsa : sa ≤ (zrm 276).slots)
    (IH : ∀ (i' : Int) (L' : zL) (hp' : List zhE), i < i' → zLI Lx L' hp' i' → zWP lk Lx xs 276 (23, L', [], hp', ca, sa) Q) : zWP lk Lx xs 276 (775, L, [], hp, ca, sa) Q := by
  refine zlc_ok (q := (775, zlPC, (30788, [(1, -10)]))) zlt_c16 zlh_c16 hη hinj hpt h0 (by omega) (by have := (List.getElem?_eq_some_iff.mp h0).1; omega) (M := 30788 - 10 * i) (zrk h1) hca hsa ?_
  rintro q' hq' ρ' L' st' hp' r ⟨l, hl⟩ g2 g3 g4 g5 g6
  rw [List.mem_singleton] at hq'
  subst hq'
  have e0 : ρ'[0]? = some (Lx : Int) := by rw [hl]; exact ztake1 h0
  obtain ⟨i', hi', -⟩ := zaE_get (ρ := ρ') g2.2.2.2.1 (i := 1) (q := (0, 3072)) (by rfl)
  have e1 := zxr_fun g4 (zrk (a := 30785) hi')
  exact zto23 (q := (806, zlPC, (30785, [(1, -10)]))) zlt_d16 zlh_d16 rfl (by decide) hη g3 g2 e0 hi' hLx hca hsa (fun i2 L2 hp2 hlt hI => IH i2 L2 hp2 (by omega) hI)
end ZLO
/-! text: the same number for both -/
def zsh2 (s : Nat) : Nat := if s < 2 then s else s + 1
theorem zsh2_ok {a b n : Int} {t : List Int} : ∀ (s : Nat) (x : Int), (a :: b :: t)[s]? = some x → (a :: b :: n :: t)[zsh2 s]? = some x
  | 0, _, h => h
  | 1, _, h => h
  | s + 2, _, h => by
    have e : zsh2 (s + 2) = s + 3 := by unfold zsh2; rw [if_neg (by omega)]
    rw [e]
    exact h
theorem zaE_ins {a b n lo hi : Int} {t : List Int} {E : LE} (h : zaE (a :: b :: t) E) (h1 : lo ≤ n) (h2 : n ≤ hi) : zaE (a :: b :: n :: t) (E.take 2 ++ (lo, hi) :: E.drop 2) := by
  obtain ⟨g1, g2⟩ := h
  match E, g1, g2 with
  | [], g1, _ => simp at g1
  | [_], g1, _ => simp at g1
  | e0 :: e1 :: Er, g1, g2 =>
    refine ⟨by simpa using g1, fun i q x hq hx => ?_⟩
    match i, hq, hx with
    | 0, hq, hx => exact g2 0 q x hq hx
    | 1, hq, hx => exact g2 1 q x hq hx
    | 2, hq, hx =>
      have hq : some (lo, hi) = some q := hq
      have hx : some n = some x := hx
      cases hq
      cases hx
      exact ⟨h1, h2⟩
    | i + 3, hq, hx => exact g2 (i + 2) q x hq hx
theorem zlTn_C : zlPC.2.2.1.map (fun q => (id q.1, zreC id zsh2 q.2)) = zlPTn.2.2.1 := zeqP_ok (by decide +kernel)
theorem zlTp_C : zlPC.2.2.1.map (fun q => (id q.1, zreC id zsh2 q.2)) = zlPTp.2.2.1 := zeqP_ok (by decide +kernel)
theorem zlTn_E : zlPC.2.2.2.1.take 2 ++ (-2147483648, -1) :: zlPC.2.2.2.1.drop 2 = zlPTn.2.2.2.1 := by decide +kernel
theorem zlTp_E : zlPC.2.2.2.1.take 2 ++ (0, 2147483647) :: zlPC.2.2.2.1.drop 2 = zlPTp.2.2.2.1 := by decide +kernel
theorem zlPC_ok : zlPC.2.2.1.all (fun q => Nat.ble (q.1 + 1) 208 && zokC 208 q.2) = true := by decide +kernel
theorem zlLL_s : zlLL.map (fun q => (q.1, zreV id zsh2 q.2)) = zlLL := by decide +kernel
theorem zlLL_ok : zlLL.all (fun q => zokV 208 q.2) = true := by decide +kernel
/-- D's cells in C's order -/
def zpm (m : Nat) : Nat := zlpm.getD m 0
def zpi (m : Nat) : Nat := zlpi.getD m 0
theorem zpm_lt : ∀ m, m < 208 → zpm m < 208 ∧ zpi (zpm m) = m ∧ zpi m < 208 ∧ zpm (zpi m) = m := by decide +kernel
theorem zlVD_C : zlPVD.2.2.1.map (fun q => (zpi q.1, zreC zpi id q.2)) = zlPVC.2.2.1 := zeqP_ok (by decide +kernel)
theorem zlVD_ok : zlPVD.2.2.1.all (fun q => Nat.ble (q.1 + 1) 208 && zokC 208 q.2) = true := by decide +kernel
theorem zlVD_L : zlPVD.1.map (fun q => (q.1, zreV zpi id q.2)) = zlPVC.1 := by decide +kernel
theorem zlVD_okL : zlPVD.1.all (fun q => zokV 208 q.2) = true := by decide +kernel
theorem zlVD_E : zlPVD.2.2.2.1 = zlPVC.2.2.2.1 := by decide +kernel
theorem zlVD_F : zlPVD.2.2.2.2.1 = zlPVC.2.2.2.2.1 := by decide +kernel
theorem zlVD_O : zlPVC.2.2.2.2.2.all (fun o => zlPVD.2.2.2.2.2.any (fun o0 => Nat.beq (o0 / 1000) (o / 1000) && (Nat.beq (zpi (o0 % 1000)) (o % 1000) && Nat.ble (o0 % 1000 + 1) 208))) = true := by decide +kernel
set_option maxRecDepth 100000 in
theorem zVDC {η : List Nat} {ρ : List Int} {L : zL} {hp : List zhE} (hη : η.length = 208) (hinj : zinj η hp) (h : zptS η ρ zlPVD L [] hp) : ∃ η2, η2.length = 208 ∧ zinj η2 hp ∧ zptS η2 ρ zlPVC L [] hp := by
  have hget : ∀ m, m < 208 → ((List.range 208).map (fun m => η.getD (zpm m) 0))[m]? = η[zpm m]? := fun m hm => by
    have h1 := (zpm_lt m hm).1
    rw [List.getElem?_map, List.getElem?_range hm]
    show some (η.getD (zpm m) 0) = _
    rw [List.getD_eq_getElem?_getD, List.getElem?_eq_getElem (by omega)]
    rfl
  have hlen : ((List.range 208).map (fun m => η.getD (zpm m) 0)).length = 208 := by simp
  have hf : ∀ (m x : Nat), m < 208 → η[m]? = some x → ((List.range 208).map (fun m => η.getD (zpm m) 0))[zpi m]? = some x := fun m x hm hx => by
    obtain ⟨-, -, a3, a4⟩ := zpm_lt m hm
    rw [hget _ a3, a4]
    exact hx
  have hfx : ∀ (s : Nat) (x : Int), ρ[s]? = some x → ρ[id s]? = some x := fun s x hx => hx
  obtain ⟨p1, p2, p3, p4, p5, p6⟩ := h
  refine ⟨_, hlen, ⟨fun i j x hi hj => ?_, fun i x hi => ?_⟩, ?_, trivial, ?_, ?_, ?_, ?_⟩
  · have i1 : i < 208 := by rw [← hlen]; exact (List.getElem?_eq_some_iff.mp hi).1
    have j1 : j < 208 := by rw [← hlen]; exact (List.getElem?_eq_some_iff.mp hj).1
    rw [hget i i1] at hi
    rw [hget j j1] at hj
    have e := hinj.1 _ _ x hi hj
    rw [← (zpm_lt i i1).2.1, ← (zpm_lt j j1).2.1, e]
  · have i1 : i < 208 := by rw [← hlen]; exact (List.getElem?_eq_some_iff.mp hi).1
    rw [hget i i1] at hi
    exact hinj.2 _ x hi
  · rw [← zlVD_L]
    exact zreL_ok hf hfx zlVD_okL p1
  · rw [← zlVD_C]
    exact zreCl_ok hf hfx zlVD_ok p3
  · rw [← zlVD_E]
    exact p4
  · rw [← zlVD_F]
    exact p5
  · exact zreO_ok hf zlVD_O p6
theorem zlist2 {ρ : List Int} {a b : Int} (h0 : ρ[0]? = some a) (h1 : ρ[1]? = some b) : ∃ t, ρ = a :: b :: t := by
  match ρ, h0, h1 with
  | x :: y :: t, h0, h1 =>
    have e0 : x = a := Option.some.inj h0
    have e1 : y = b := Option.some.inj h1
    exact ⟨t, by rw [e0, e1]⟩
  | [], h0, _ => simp at h0
  | [_], _, h1 => simp at h1
section ZTX
variable {lk : ZLP} {Lx : Nat} {xs : Nat → Int32} {η : List Nat} {ρ : List Int} {L : zL} {hp : List zhE} {i : Int} {ca sa : Nat} {Q : ZP}
/-- the second of text's calls -/
theorem ztext2 {cts : List CT} {PV PU : PT} (hz : zlc [(23, zlP23, (30789, [(1, -10)]))] cts 1 (275, PU, (30784, [(1, -10)])) 100000 = true) (hCs : ∀ C ∈ cts, zHolds lk Lx xs C) (hPU : PU = (PV.1, [(0, (0, [(2, 1)])), (2, (1, []))], PV.2.2)) (hPV : PV.1 = zlLL) {n : Int32} {y : Int32} (hy : y.toInt = i) (hy0 : 0 ≤ i) (hy6 : i + 6 ≤ (Lx : Int)) (hn : n = xs (y + Int32.ofInt 1).toNatClampNeg) (hη : η.length = 208) (hinj : zinj η hp) (hpt : zptS η ρ PV L [] hp) (h0 : ρ[0]? = some (Lx : Int)) (h1 : ρ[1]? = some i) (h2 : ρ[2]? = some n.toInt) (hLx : Lx ≤ 3072) (hca : ca ≤ (zrm 276).cells) (hsa : sa ≤ (zrm 276).slots)
    (IH : ∀ (i' : Int) (L' : zL) (hp' : List zhE), i < i' → zLI Lx L' hp' i' → zWP lk Lx xs 276 (23, L', [], hp', ca, sa) Q) : zWP lk Lx xs 276 (268, L, [], hp, ca, sa) Q := by
  obtain ⟨p1, p2, p3, p4, p5, p6⟩ := hpt
  rw [hPV] at p1
  obtain ⟨a, b, o, y2, l0, l1, c1, l2, c2, l3, c3, l4, ey⟩ := zLlk p1 h1
  have e2 : y2 = y := Int32.toInt_inj.1 (by rw [ey, hy])
  subst e2
  have e1 : (y2 + Int32.ofInt 1).toInt = i + 1 := by
    have e : (Int32.ofInt 1).toInt = 1 := by decide
    rw [zb_add (by rw [e]; omega) (by rw [e]; omega), e, hy]
  refine zl_ldR (by rfl) l2 ?_
  refine zl_ldS (by rfl) l0 ?_
  refine zl_ldI (by rfl) l4 ?_
  refine zs0 (by rfl) rfl rfl ?_
  refine zl_iadd (by rfl) ?_
  refine zl_sld (by rfl) (zin_of (by rw [e1]; omega) (by rw [e1]; omega)) ?_
  rw [← hn]
  refine zto23 (q := (275, PU, (30784, [(1, -10)]))) hz hCs rfl (by decide) hη hinj ?_ h0 h1 hLx hca hsa IH
  rw [hPU]
  refine ⟨?_, ⟨⟨n, rfl, zxr_s h2⟩, ⟨b, c2, rfl⟩, trivial⟩, p3, p4, p5, p6⟩
  show zaL η ρ PV.1 L
  rw [hPV]
  exact p1
set_option maxRecDepth 100000 in
theorem zlUA_e : zlPUA = (zlPVA.1, [(0, (0, [(2, 1)])), (2, (1, []))], zlPVA.2.2) := rfl
set_option maxRecDepth 100000 in
theorem zlUB_e : zlPUB = (zlPVB.1, [(0, (0, [(2, 1)])), (2, (1, []))], zlPVB.2.2) := rfl
set_option maxRecDepth 100000 in
theorem zlUC_e : zlPUC = (zlPVC.1, [(0, (0, [(2, 1)])), (2, (1, []))], zlPVC.2.2) := rfl
theorem ztake3 {a b c : Int} {t l : List Int} : ((a :: b :: c :: t).take 3 ++ l)[0]? = some a ∧ ((a :: b :: c :: t).take 3 ++ l)[1]? = some b ∧ ((a :: b :: c :: t).take 3 ++ l)[2]? = some c := ⟨rfl, rfl, rfl⟩
set_option maxRecDepth 100000 in
theorem z1 (hη : η.length = 208) (hinj : zinj η hp) (hpt : zptS η ρ zlPC L [] hp) (h0 : ρ[0]? = some (Lx : Int)) (h1 : ρ[1]? = some i) (hi0 : 0 ≤ i) (hi6 : i + 6 ≤ (Lx : Int)) (hLx : Lx ≤ 3072) (hca : ca ≤ (zrm 276).cells) (hsa : sa ≤ (zrm 276).slots)
    (IH : ∀ (i' : Int) (L' : zL) (hp' : List zhE), i < i' → zLI Lx L' hp' i' → zWP lk Lx xs 276 (23, L', [], hp', ca, sa) Q) : zWP lk Lx xs 276 (257, L, [], hp, ca, sa) Q := by
  obtain ⟨p1, p2, p3, p4, p5, p6⟩ := id hpt
  obtain ⟨a, b, o, y, l0, l1, c1, l2, c2, l3, c3, l4, ey⟩ := zLlk p1 h1
  have e1 : (y + Int32.ofInt 1).toInt = i + 1 := by
    have e : (Int32.ofInt 1).toInt = 1 := by decide
    rw [zb_add (by rw [e]; omega) (by rw [e]; omega), e, ey]
  refine zl_ldR (by rfl) l1 ?_
  refine zl_ldS (by rfl) l0 ?_
  refine zl_ldI (by rfl) l4 ?_
  refine zs0 (by rfl) rfl rfl ?_
  refine zl_iadd (by rfl) ?_
  refine zl_sld (by rfl) (zin_of (by rw [e1]; omega) (by rw [e1]; omega)) ?_
  generalize hn : xs (y + Int32.ofInt 1).toNatClampNeg = n
  obtain ⟨t, rfl⟩ := zlist2 h0 h1
  have hpid : ∀ (m x : Nat), m < 208 → η[m]? = some x → η[id m]? = some x := fun m x _ hx => hx
  have q1 : zaL η ((Lx : Int) :: i :: n.toInt :: t) zlLL L := by
    rw [← zlLL_s]
    exact zreL_ok hpid zsh2_ok zlLL_ok p1
  have qS : zaS η ((Lx : Int) :: i :: n.toInt :: t) [(0, (0, [(2, 1)])), (2, (0, []))] [.int n, .ref a] := ⟨⟨n, rfl, zxr_s rfl⟩, ⟨a, c1, rfl⟩, trivial⟩
  have qC := zreCl_ok (f := zsh2) (ρ' := (Lx : Int) :: i :: n.toInt :: t) hpid zsh2_ok zlPC_ok p3
  have qF : zaF ((Lx : Int) :: i :: n.toInt :: t) [(-6, [(0, 1), (1, -1)])] := zlF1 (Lx := Lx) rfl rfl hi6
  have hrng := zb_rng n
  by_cases hneg : n.toInt < 0
  · have hpt2 : zptS η ((Lx : Int) :: i :: n.toInt :: t) zlPTn L [.int n, .ref a] hp := ⟨q1, qS, by rw [← zlTn_C]; exact qC, by rw [← zlTn_E]; exact zaE_ins p4 hrng.1 (by omega), qF, p6⟩
    refine zlc_ok (q := (264, zlPTn, (30787, [(1, -10)]))) zlt_tn zlh_tn hη hinj hpt2 rfl (by omega) (by simp) (zrk rfl) hca hsa ?_
    rintro q' hq' ρ' L' st' hp' r ⟨l, hl⟩ g2 g3 g4 g5 g6
    rw [List.mem_singleton] at hq'
    subst hq'
    have hst : st' = [] := znil (η := η) (ρ := ρ') g2.2.1
    subst hst
    subst hl
    exact ztext2 (PV := zlPVA) (PU := zlPUA) zlt_uA zlh_uA zlUA_e rfl ey hi0 hi6 hn.symm hη g3 g2 rfl rfl rfl hLx hca hsa IH
  · have hpt2 : zptS η ((Lx : Int) :: i :: n.toInt :: t) zlPTp L [.int n, .ref a] hp := ⟨q1, qS, by rw [← zlTp_C]; exact qC, by rw [← zlTp_E]; exact zaE_ins p4 (by omega) hrng.2, qF, p6⟩
    refine zlc_ok (q := (264, zlPTp, (30787, [(1, -10)]))) zlt_tp zlh_tp hη hinj hpt2 rfl (by omega) (by simp) (zrk rfl) hca hsa ?_
    rintro q' hq' ρ' L' st' hp' r ⟨l, hl⟩ g2 g3 g4 g5 g6
    subst hl
    rcases List.mem_cons.mp hq' with rfl | hq'
    · have hst : st' = [] := znil (η := η) (ρ := _ ++ l) g2.2.1
      subst hst
      exact ztext2 (PV := zlPVB) (PU := zlPUB) zlt_uB zlh_uB zlUB_e rfl ey hi0 hi6 hn.symm hη g3 g2 rfl rfl rfl hLx hca hsa IH
    rcases List.mem_cons.mp hq' with rfl | hq'
    · have hst : st' = [] := znil (η := η) (ρ := _ ++ l) g2.2.1
      subst hst
      exact ztext2 (PV := zlPVC) (PU := zlPUC) zlt_uC zlh_uC zlUC_e rfl ey hi0 hi6 hn.symm hη g3 g2 rfl rfl rfl hLx hca hsa IH
    rcases List.mem_cons.mp hq' with rfl | hq'
    · have hst : st' = [] := znil (η := η) (ρ := _ ++ l) g2.2.1
      subst hst
      obtain ⟨η2, k1, k2, k3⟩ := zVDC hη g3 g2
      exact ztext2 (PV := zlPVC) (PU := zlPUC) zlt_uC zlh_uC zlUC_e rfl ey hi0 hi6 hn.symm k1 k2 k3 rfl rfl rfl hLx hca hsa IH
    · exact absurd hq' List.not_mem_nil
end ZTX
section ZLK4
variable {Lx : Nat} {xs : Nat → Int32} {η : List Nat} {ρ : List Int} {L : zL} {hp : List zhE} {i : Int} {ca sa : Nat} {Q : ZP}
set_option maxRecDepth 100000 in
/-- look -/
theorem z4 (hη : η.length = 208) (hinj : zinj η hp) (hpt : zptS η ρ zlPC L [] hp) (h0 : ρ[0]? = some (Lx : Int)) (h1 : ρ[1]? = some i) (hi0 : 0 ≤ i) (hi6 : i + 6 ≤ (Lx : Int)) (hLx : Lx ≤ 3072) (hca : ca + 8 ≤ (zrm 276).cells) (hsa : sa + 100 ≤ (zrm 276).slots)
    (IH : ∀ (i' : Int) (L' : zL) (hp' : List zhE), i < i' → zLI Lx L' hp' i' → zWP (zlk2 Lx xs) Lx xs 276 (23, L', [], hp', ca + 8, sa + 100) Q) : zWP (zlk2 Lx xs) Lx xs 276 (332, L, [], hp, ca, sa) Q := by
  obtain ⟨p1, p2, p3, p4, p5, p6⟩ := id hpt
  obtain ⟨a, b, o, y, l0, l1, c1, l2, c2, l3, c3, l4, ey⟩ := zLlk p1 h1
  have e1 : (y + Int32.ofInt 1).toInt = i + 1 := by
    have e : (Int32.ofInt 1).toInt = 1 := by decide
    rw [zb_add (by rw [e]; omega) (by rw [e]; omega), e, ey]
  have e2 : (y + Int32.ofInt 2).toInt = i + 2 := by
    have e : (Int32.ofInt 2).toInt = 2 := by decide
    rw [zb_add (by rw [e]; omega) (by rw [e]; omega), e, ey]
  refine zl_ldR (by rfl) l1 ?_
  refine zl_ldS (by rfl) l0 ?_
  refine zl_ldI (by rfl) l4 ?_
  refine zs0 (by rfl) rfl rfl ?_
  refine zl_iadd (by rfl) ?_
  refine zl_sld (by rfl) (zin_of (by rw [e1]; omega) (by rw [e1]; omega)) ?_
  refine zl_ldS (by rfl) l0 ?_
  refine zl_ldI (by rfl) l4 ?_
  refine zs0 (by rfl) rfl rfl ?_
  refine zl_iadd (by rfl) ?_
  refine zl_sld (by rfl) (zin_of (by rw [e2]; omega) (by rw [e2]; omega)) ?_
  refine zl_ldR (by rfl) l3 ?_
  refine zl_look (vs := [.ref a, .int (xs (y + Int32.ofInt 1).toNatClampNeg), .int (xs (y + Int32.ofInt 2).toNatClampNeg), .ref o]) (st := []) (by rfl) rfl (by decide) hca hsa (zlk_at hη hinj hpt c1 c3 _ _) ?_
  rintro rv hp' ⟨w, rfl, w0, w1, g1, g2⟩
  have hlen : ρ.length = 111 := by rw [← p4.1]; rfl
  refine zto23 (q := (349, zlP349, (30784, [(1, -10)]))) (ρ := ρ ++ [w.toInt]) zlt_k zlh_k rfl (by decide) hη g1 ⟨zaL_mono1 g2.1, ⟨⟨w, rfl, zxr_s (by rw [← hlen]; simp)⟩, trivial⟩, zcl2_mono1 g2.2.2.1, zaE_snoc (lo := 0) (hi := 2) g2.2.2.2.1 w0 w1, zaF_mono g2.2.2.2.2.1, g2.2.2.2.2.2⟩ (by rw [List.getElem?_append_left (by omega)]; exact h0) (by rw [List.getElem?_append_left (by omega)]; exact h1) hLx hca hsa IH
set_option maxRecDepth 100000 in
/-- one turn -/
theorem zturn (hη : η.length = 208) (hinj : zinj η hp) (hpt : zptS η ρ zlPC L [] hp) (h0 : ρ[0]? = some (Lx : Int)) (h1 : ρ[1]? = some i) (hi0 : 0 ≤ i) (hi6 : i + 6 ≤ (Lx : Int)) (hLx : Lx ≤ 3072) (hca : ca + 8 ≤ (zrm 276).cells) (hsa : sa + 100 ≤ (zrm 276).slots)
    (IH : ∀ (i' : Int) (L' : zL) (hp' : List zhE), i < i' → zLI Lx L' hp' i' → zWP (zlk2 Lx xs) Lx xs 276 (23, L', [], hp', ca, sa) Q)
    (IH4 : ∀ (i' : Int) (L' : zL) (hp' : List zhE), i < i' → zLI Lx L' hp' i' → zWP (zlk2 Lx xs) Lx xs 276 (23, L', [], hp', ca + 8, sa + 100) Q) : ∀ k : Nat, k < 32 → zWP (zlk2 Lx xs) Lx xs 276 (zltg.getD k 0, L, [], hp, ca, sa) Q := by
  intro k hk
  have hca1 : ca ≤ (zrm 276).cells := by omega
  have hsa1 : sa ≤ (zrm 276).slots := by omega
  rcases (show k = 0 ∨ k = 1 ∨ k = 2 ∨ k = 3 ∨ k = 4 ∨ k = 5 ∨ k = 6 ∨ k = 7 ∨ k = 8 ∨ k = 9 ∨ k = 10 ∨ k = 11 ∨ k = 12 ∨ k = 13 ∨ k = 14 ∨ k = 15 ∨ k = 16 ∨ k = 17 ∨ k = 18 ∨ k = 19 ∨ k = 20 ∨ k = 21 ∨ k = 22 ∨ k = 23 ∨ k = 24 ∨ k = 25 ∨ k = 26 ∨ k = 27 ∨ k = 28 ∨ k = 29 ∨ k = 30 ∨ k = 31 by omega) with rfl | rfl | rfl | rfl | rfl | rfl | rfl | rfl | rfl | rfl | rfl | rfl | rfl | rfl | rfl | rfl | rfl | rfl | rfl | rfl | rfl | rfl | rfl | rfl | rfl | rfl | rfl | rfl | rfl | rfl | rfl | rfl
  · exact zto23 (q := (184, zlPC, (30788, [(1, -10)]))) zlt_c0 zlh_c0 rfl (by decide) hη hinj hpt h0 h1 hLx hca1 hsa1 IH
  · exact z1 hη hinj hpt h0 h1 hi0 hi6 hLx hca1 hsa1 IH
  · exact zto23 (q := (282, zlPC, (30788, [(1, -10)]))) zlt_c2 zlh_c2 rfl (by decide) hη hinj hpt h0 h1 hLx hca1 hsa1 IH
  · exact zto23 (q := (307, zlPC, (30788, [(1, -10)]))) zlt_c3 zlh_c3 rfl (by decide) hη hinj hpt h0 h1 hLx hca1 hsa1 IH
  · exact z4 hη hinj hpt h0 h1 hi0 hi6 hLx hca hsa IH4
  · exact zto23 (q := (372, zlPC, (30788, [(1, -10)]))) zlt_c5 zlh_c5 rfl (by decide) hη hinj hpt h0 h1 hLx hca1 hsa1 IH
  · exact zto23 (q := (421, zlPC, (30788, [(1, -10)]))) zlt_c6 zlh_c6 rfl (by decide) hη hinj hpt h0 h1 hLx hca1 hsa1 IH
  · exact zto23 (q := (446, zlPC, (30788, [(1, -10)]))) zlt_c7 zlh_c7 rfl (by decide) hη hinj hpt h0 h1 hLx hca1 hsa1 IH
  · exact zto23 (q := (459, zlPC, (30788, [(1, -10)]))) zlt_c8 zlh_c8 rfl (by decide) hη hinj hpt h0 h1 hLx hca1 hsa1 IH
  · exact zto23 (q := (496, zlPC, (30788, [(1, -10)]))) zlt_c9 zlh_c9 rfl (by decide) hη hinj hpt h0 h1 hLx hca1 hsa1 IH
  · exact zto23 (q := (545, zlPC, (30788, [(1, -10)]))) zlt_c10 zlh_c10 rfl (by decide) hη hinj hpt h0 h1 hLx hca1 hsa1 IH
  · exact zto23 (q := (582, zlPC, (30788, [(1, -10)]))) zlt_c11 zlh_c11 rfl (by decide) hη hinj hpt h0 h1 hLx hca1 hsa1 IH
  · exact zto23 (q := (595, zlPC, (30788, [(1, -10)]))) zlt_c12 zlh_c12 rfl (by decide) hη hinj hpt h0 h1 hLx hca1 hsa1 IH
  · exact zto23 (q := (632, zlPC, (30788, [(1, -10)]))) zlt_c13 zlh_c13 rfl (by decide) hη hinj hpt h0 h1 hLx hca1 hsa1 IH
  · exact zto23 (q := (701, zlPC, (30788, [(1, -10)]))) zlt_c14 zlh_c14 rfl (by decide) hη hinj hpt h0 h1 hLx hca1 hsa1 IH
  · exact zto23 (q := (726, zlPC, (30788, [(1, -10)]))) zlt_c15 zlh_c15 rfl (by decide) hη hinj hpt h0 h1 hLx hca1 hsa1 IH
  · exact z16 hη hinj hpt h0 h1 hLx hca1 hsa1 IH
  · exact zto23 (q := (840, zlPC, (30788, [(1, -10)]))) zlt_c17 zlh_c17 rfl (by decide) hη hinj hpt h0 h1 hLx hca1 hsa1 IH
  · exact zto23 (q := (865, zlPC, (30788, [(1, -10)]))) zlt_c18 zlh_c18 rfl (by decide) hη hinj hpt h0 h1 hLx hca1 hsa1 IH
  · exact zto23 (q := (902, zlPC, (30788, [(1, -10)]))) zlt_c19 zlh_c19 rfl (by decide) hη hinj hpt h0 h1 hLx hca1 hsa1 IH
  · exact zto23 (q := (927, zlPC, (30788, [(1, -10)]))) zlt_c20 zlh_c20 rfl (by decide) hη hinj hpt h0 h1 hLx hca1 hsa1 IH
  · exact zto23 (q := (964, zlPC, (30788, [(1, -10)]))) zlt_c21 zlh_c21 rfl (by decide) hη hinj hpt h0 h1 hLx hca1 hsa1 IH
  · exact zto23 (q := (1013, zlPC, (30788, [(1, -10)]))) zlt_c22 zlh_c22 rfl (by decide) hη hinj hpt h0 h1 hLx hca1 hsa1 IH
  · exact zto23 (q := (1026, zlPC, (30788, [(1, -10)]))) zlt_c23 zlh_c23 rfl (by decide) hη hinj hpt h0 h1 hLx hca1 hsa1 IH
  · exact zto23 (q := (1051, zlPC, (30788, [(1, -10)]))) zlt_c24 zlh_c24 rfl (by decide) hη hinj hpt h0 h1 hLx hca1 hsa1 IH
  · exact zto23 (q := (1076, zlPC, (30788, [(1, -10)]))) zlt_c25 zlh_c25 rfl (by decide) hη hinj hpt h0 h1 hLx hca1 hsa1 IH
  · exact zto23 (q := (1101, zlPC, (30788, [(1, -10)]))) zlt_c26 zlh_c26 rfl (by decide) hη hinj hpt h0 h1 hLx hca1 hsa1 IH
  · exact zto23 (q := (1126, zlPC, (30788, [(1, -10)]))) zlt_c27 zlh_c27 rfl (by decide) hη hinj hpt h0 h1 hLx hca1 hsa1 IH
  · exact zto23 (q := (1163, zlPC, (30788, [(1, -10)]))) zlt_c28 zlh_c28 rfl (by decide) hη hinj hpt h0 h1 hLx hca1 hsa1 IH
  · exact zto23 (q := (1176, zlPC, (30788, [(1, -10)]))) zlt_c29 zlh_c29 rfl (by decide) hη hinj hpt h0 h1 hLx hca1 hsa1 IH
  · exact zto23 (q := (1189, zlPC, (30788, [(1, -10)]))) zlt_c30 zlh_c30 rfl (by decide) hη hinj hpt h0 h1 hLx hca1 hsa1 IH
  · exact zto23 (q := (1202, zlPC, (30788, [(1, -10)]))) zlt_c31 zlh_c31 rfl (by decide) hη hinj hpt h0 h1 hLx hca1 hsa1 IH
theorem zrm276 : (zrm 276).cells = 601024 ∧ (zrm 276).slots = 7293034 := by decide +kernel
set_option maxRecDepth 100000 in
theorem zloop (hret : ∀ hp, Q (some (.int 1)) hp) (hLx : Lx ≤ 3072) : ∀ (n : Nat) (i : Int) (L : zL) (hp : List zhE) (c s : Nat), zLI Lx L hp i → 3072 - i < (n : Int) → (c : Int) + 8 * (3072 - i) ≤ 500000 → (s : Int) + 100 * (3072 - i) ≤ 6000000 → zWP (zlk2 Lx xs) Lx xs 276 (23, L, [], hp, c, s) Q := by
  intro n
  induction n with
  | zero =>
    intro i L hp c s hI hn
    obtain ⟨η, ρ, -, -, -, h1, hpt⟩ := hI
    obtain ⟨i', h1', -, hi'⟩ := zaE_get (ρ := ρ) hpt.2.2.2.1 (i := 1) (q := (0, 3072)) (by rfl)
    cases h1.symm.trans h1'
    simp only at hi'
    omega
  | succ n ih =>
    intro i L hp c s hI hn hc hs
    obtain ⟨η, ρ, hη, hinj, h0, h1, hpt⟩ := hI
    obtain ⟨i', h1', hi0, hi1⟩ := zaE_get (ρ := ρ) hpt.2.2.2.1 (i := 1) (q := (0, 3072)) (by rfl)
    cases h1.symm.trans h1'
    simp only at hi0 hi1
    obtain ⟨r1, r2⟩ := zrm276
    obtain ⟨a, b, o, y, l0, l1, c1, l2, c2, l3, c3, l4, ey⟩ := zLlk hpt.1 h1
    refine zhead l0 l4 hLx (by omega) (hret hp) (by omega) (by omega) (fun h6 => ?_)
    rw [ey] at h6
    exact zturn hη hinj (zlPC_of hpt h0 h1 h6) h0 h1 hi0 h6 hLx (by omega) (by omega) (fun i2 L2 hp2 hlt hI2 => ih i2 L2 hp2 c s hI2 (by omega) (by omega) (by omega)) (fun i2 L2 hp2 hlt hI2 => ih i2 L2 hp2 (c + 8) (s + 100) hI2 (by omega) (by omega) (by omega))
end ZLK4
