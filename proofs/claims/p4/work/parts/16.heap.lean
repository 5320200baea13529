/-! abstract instructions on the heap -/
section ZTH
variable {η0 : ZN} {ρ0 : List Int} {hp0 : List zhE} {W : List Nat} {Lx : Nat} {xs : Nat → Int32} {nL n0 : Nat} {R : Room} {K : ZK}
variable {pc : Nat} {A : AL} {S : List AV} {h : AH} {G : AG} {c s : Nat} {η : List Nat} {ρ : List Int} {L : zL} {st : List Value} {hp : List zhE}
def zref (a : AV) (k : Nat → Bool) : Bool := match a.1 with
  | 2 => zfn a.2.1.toNat k
  | _ => false
theorem zref_ok {a : AV} {k : Nat → Bool} {v : Value} (hz : zref a k = true) (ha : zav η ρ a v) : ∃ i x, η[i]? = some x ∧ v = .ref x ∧ k i = true := by
  obtain ⟨t, e⟩ := a
  unfold zref at hz
  split at hz
  · rename_i q
    simp only at q
    subst q
    rw [zfn_eq] at hz
    obtain ⟨x, h1, h2⟩ := ha
    exact ⟨_, x, h1, h2, hz⟩
  · cases hz
def zobj (h : AH) (i ci : Nat) (k : List AV → Bool) : Bool := zhget h i (fun x => match x with
  | .inl (cj, fs) => (match Nat.beq cj ci with | true => k fs | false => false)
  | _ => false)
theorem zobj_ok {i ci x : Nat} {k : List AV → Bool} (hz : zobj h i ci k = true) (hH : zaH η ρ h hp) (hi : η[i]? = some x) : ∃ fs vs, k fs = true ∧ hp[x]? = some (.inr (ci, vs)) ∧ zaS η ρ fs vs := by
  obtain ⟨y, g1, g2⟩ := zhget_ok hz
  split at g2
  · split at g2
    · rename_i e
      have e := Nat.eq_of_beq_eq_true e
      subst e
      obtain ⟨x', y, g3, g4, vs, rfl, g5⟩ := hH.2.1 _ _ g1
      cases hi.symm.trans g3
      exact ⟨_, vs, g2, g4, g5⟩
    · cases g2
  · cases g2
def zarr (h : AH) (i t : Nat) (k : Nat → Nat → List (Int × Int) → List (LX × LX) → Bool) : Bool := zhget h i (fun x => match x with
  | .inr (.inl (t', n, p, rs, es)) => (match Nat.beq t' t with | true => k n p rs es | false => false)
  | _ => false)
theorem zarr_ok {i t x : Nat} {k : Nat → Nat → List (Int × Int) → List (LX × LX) → Bool} (hz : zarr h i t k = true) (hH : zaH η ρ h hp) (hi : η[i]? = some x) : ∃ n p rs es f, k n p rs es = true ∧ hp[x]? = some (.inl (t, n, f)) ∧ zaT t f ∧ zaA ρ n p rs es f := by
  obtain ⟨y, g1, g2⟩ := zhget_ok hz
  split at g2
  · split at g2
    · rename_i e
      have e := Nat.eq_of_beq_eq_true e
      subst e
      obtain ⟨x', y, g3, g4, f, rfl, g5, g6⟩ := hH.2.1 _ _ g1
      cases hi.symm.trans g3
      exact ⟨_, _, _, _, f, g2, g4, g5, g6⟩
    · cases g2
  · cases g2
def zrar (h : AH) (i : Nat) (k : List AV → Bool) : Bool := zhget h i (fun x => match x with
  | .inr (.inr as) => k as
  | _ => false)
theorem zrar_ok {i x : Nat} {k : List AV → Bool} (hz : zrar h i k = true) (hH : zaH η ρ h hp) (hi : η[i]? = some x) : ∃ as f, k as = true ∧ hp[x]? = some (.inl (4, as.length, .inr (.inr f))) ∧ ∀ j a, as[j]? = some a → zav η ρ a (va_rf (f j)) := by
  obtain ⟨y, g1, g2⟩ := zhget_ok hz
  split at g2
  · obtain ⟨x', y, g3, g4, f, rfl, g5⟩ := hH.2.1 _ _ g1
    cases hi.symm.trans g3
    exact ⟨_, f, g2, g4, g5⟩
  · cases g2
/-- whether a cell may be written -/
def zwk (W : List Nat) (n0 i : Nat) : Bool := Nat.ble n0 i || zmemN i W
theorem zfm_set {i x : Nat} {h' : zhE} (hw : zwk W n0 i = true) (hn : n0 = η0.1.length) (_hm : ∃ m, η = η0.2 ++ m) (hi : η[i]? = some x) (hf : zfm η0 hp0 W η hp) : zfm η0 hp0 W η (hp.set x h') := by
  obtain ⟨f1, f2, f3, f4⟩ := hf
  refine ⟨by rw [List.length_set]; exact f1, f2, fun j hj hjw => ?_, f4⟩
  rw [← f3 j hj hjw]
  refine List.getElem?_set_ne (fun e => ?_)
  subst e
  unfold zwk at hw
  rw [Bool.or_eq_true] at hw
  by_cases hlt : i < η0.1.length
  · rcases hw with hw | hw
    · have := Nat.le_of_ble_eq_true hw; omega
    · obtain ⟨m, rfl⟩ := f4
      rw [List.getElem?_append_left hlt] at hi
      exact hjw i (zmemN_iff.mp hw) hi
  · have := f2 i x (by omega) hi
    omega
def z6a (G : AG) (e : LX) (t : Int) (k : AG → Bool) : Bool := zasm G e (fun G => zxsub (t, []) e (fun d => zasm G d k))
theorem z6a_ok {e : LX} {t x : Int} {k : AG → Bool} (h : z6a G e t k = true) (hG : zaG ρ G) (he : zxr ρ e x) (h1 : 0 ≤ x) (h2 : x ≤ t) : ∃ G', k G' = true ∧ zaG ρ G' ∧ G'.2.2.2.2 = G.2.2.2.2 := by
  obtain ⟨G1, g1, g2, g3⟩ := zasm_ok h hG he h1
  obtain ⟨d, d1, d2⟩ := zxsub_ok g1 (zxr_c ρ t) he
  obtain ⟨G2, k1, k2, k3⟩ := zasm_ok d1 g2 d2 (by omega)
  exact ⟨G2, k1, k2, k3.trans g3⟩
/-- what a word's or a sign's number is, where it is read -/
def z6g (G : AG) (fs : List AV) (k : AG → Bool) : Bool := zlg fs 8 (fun a8 => zlg fs 9 (fun a9 => match a8.1, a9.1 with
  | 0, 0 => zbd G.2.1 a8.2 (fun l u => match zeq l 5 && zeq u 5 with
    | true => z6a G a9.2 5 k
    | false => (match zeq l 1 && zeq u 1 with
      | true => z6a G a9.2 16 k
      | false => k G))
  | _, _ => k G))
theorem z6g_ok {fs : List AV} {k : AG → Bool} {vs : List Value} {x : Nat} (h : z6g G fs k = true) (hG : zaG ρ G) (hx : hp[x]? = some (.inr (12, vs))) (hs : zaS η ρ fs vs) (hO : zOP 6 x hp) : ∃ G', k G' = true ∧ zaG ρ G' ∧ G'.2.2.2.2 = G.2.2.2.2 := by
  obtain ⟨a8, h1, h2⟩ := zlg_ok h
  obtain ⟨a9, h3, h4⟩ := zlg_ok h2
  obtain ⟨v8, g1, g2⟩ := zAll_get hs h1
  obtain ⟨v9, g3, g4⟩ := zAll_get hs h3
  obtain ⟨t8, e8⟩ := a8
  obtain ⟨t9, e9⟩ := a9
  split at h4
  · rename_i q8 q9
    simp only at q8 q9
    subst q8; subst q9
    obtain ⟨y8, rfl, y1⟩ := g2
    obtain ⟨y9, rfl, y2⟩ := g4
    have h9 := hO y8 y9 (zofi_at hx g1) (zofi_at hx g3)
    obtain ⟨l, u, d1, d2, d3⟩ := zbd_at hG.2.1 h4 y1
    split at d1
    · rename_i hc
      simp only [Bool.and_eq_true, zeq_iff] at hc
      have := h9.1 (by omega)
      exact z6a_ok d1 hG y2 this.1 this.2
    · split at d1
      · rename_i hc
        simp only [Bool.and_eq_true, zeq_iff] at hc
        have := h9.2 (by omega)
        exact z6a_ok d1 hG y2 this.1 this.2
      · exact ⟨G, d1, hG, rfl⟩
  · exact ⟨G, h4, hG, rfl⟩
def zo_get (ci b : Nat) (pc : Nat) (A : AL) (S : List AV) (h : AH) (G : AG) (c s : Nat) (K : ZK) : Bool := match S with
  | a :: S => zref a (fun i => zobj h i ci (fun fs => zlg fs b (fun v => match Nat.beq ci 12 && (Nat.beq b 9 && (Nat.ble (i + 1) 1000 && zmemN (6000 + i) G.2.2.2.2)) with
    | true => z6g G fs (fun G => zfn (pc + 3) (fun pc => K pc A (v :: S) h G c s))
    | false => zfn (pc + 3) (fun pc => K pc A (v :: S) h G c s))))
  | _ => false
theorem zn_get {ci b : Nat} (hz : zo_get ci b pc A S h G c s K = true) (hS : zSt η0 ρ0 hp0 W h G η ρ hp) (hL : zaL η ρ A L) (hs : zaS η ρ S st) : ∃ z, zgf pc L st hp c s ci b = some z ∧ zNx η0 ρ0 hp0 W K z := by
  unfold zo_get at hz
  split at hz
  · match st, hs with
    | v :: st, hs =>
      obtain ⟨i, x, h1, rfl, h2⟩ := zref_ok hz hs.1
      obtain ⟨fs, vs, h3, h4, h5⟩ := zobj_ok h2 hS.2.2.2.1 h1
      obtain ⟨a, h6, h7⟩ := zlg_ok h3
      obtain ⟨w, h8, h9⟩ := zAll_get h5 h6
      refine ⟨(pc + 3, L, w :: st, hp, c, s), by simp only [zgf, h4, h8, Nat.beq_refl], ?_⟩
      split at h7
      · rename_i hc
        simp only [Bool.and_eq_true] at hc
        have hci := Nat.eq_of_beq_eq_true hc.1
        subst hci
        have hlt := Nat.le_of_ble_eq_true hc.2.2.1
        obtain ⟨j, q1, q2⟩ := hS.2.2.2.2.1 _ (zmemN_iff.mp hc.2.2.2)
        rw [show (6000 + i) % 1000 = i by omega] at q1
        rw [show (6000 + i) / 1000 = 6 by omega] at q2
        cases h1.symm.trans q1
        obtain ⟨G', g1, g2, g3⟩ := z6g_ok h7 hS.2.2.1 h4 h5 q2
        exact zNx_go (hS.same g2 g3) hL g1 ⟨h9, hs.2⟩
      · exact zNx_go hS hL h7 ⟨h9, hs.2⟩
    | [], hs => exact hs.elim
  · cases hz
def zvkA (G : AG) (fk : Int) (a : AV) : Bool := match fk, a.1 with
  | 0, 0 => true
  | 1, 0 => zbd G.2.1 a.2 (fun lo hi => zle 0 lo && zle hi 1)
  | 2, 1 => true
  | 3, 2 => true
  | 3, 3 => true
  | _, _ => false
theorem zvkA_ok {fk : Int} {a : AV} {v : Value} (hz : zvkA G fk a = true) (hG : zaG ρ G) (ha : zav η ρ a v) : zvk fk v = true := by
  obtain ⟨t, e⟩ := a
  unfold zvkA at hz
  split at hz
  · rename_i q
    simp only at q
    subst q
    obtain ⟨x, rfl, -⟩ := ha
    rfl
  · rename_i q
    simp only at q
    subst q
    obtain ⟨x, rfl, hx⟩ := ha
    obtain ⟨lo, hi, h1, h2, h3⟩ := zbd_at hG.2.1 hz hx
    simp only [Bool.and_eq_true, zle_iff] at h1
    simp only [zvk, Bool.or_eq_true, decide_eq_true_eq]
    exact zb_01 (by omega) (by omega)
  · rename_i q
    simp only at q
    subst q
    obtain ⟨x, rfl, -⟩ := ha
    rfl
  · rename_i q
    simp only at q
    subst q
    obtain ⟨x, -, rfl⟩ := ha
    rfl
  · rename_i q
    simp only at q
    subst q
    have hv : v = .null := ha
    subst hv
    rfl
  · cases hz
/-- what the stack says, after a write into WAITS -/
def zputF (ci b : Nat) (h' : AH) (i : Nat) (O : List Nat) (F : List LX) (k : List LX → Bool) : Bool := match Nat.beq ci 12 && Nat.beq b 35 with
  | true => zOF h' i O F k
  | false => k F
theorem zputF_ok {ci b i : Nat} {h' : AH} {O : List Nat} {F : List LX} {k : List LX → Bool} (hz : zputF ci b h' i O F k = true) (hH : zaH η ρ h' hp) (hO : zaO η O hp) (hF : zaF ρ F) : ∃ F', k F' = true ∧ zaF ρ F' := by
  unfold zputF at hz
  split at hz
  · exact zOF_ok hH hz hO hF
  · exact ⟨F, hz, hF⟩
def zo_put (W : List Nat) (n0 ci b : Nat) (fk : Int) (pc : Nat) (A : AL) (S : List AV) (h : AH) (G : AG) (c s : Nat) (K : ZK) : Bool := match S with
  | v :: a :: S => zvkA G fk v && zref a (fun i => zwk W n0 i && zobj h i ci (fun fs => zls fs b v (fun fs => zhset h i (.inl (ci, fs)) (fun h' => zOf (fun kind m => zHKf kind m h G i b v) G.2.2.2.2 (fun O => zOsh h G.2.1 i b v G.2.2.2.2 O (fun O => zputF ci b h' i O G.2.2.1 (fun F => zfn (pc + 3) (fun pc => K pc A S h' (G.1, G.2.1, F, G.2.2.2.1, O) c s))))))))
  | _ => false
theorem zn_put {ci b : Nat} {fk : Int} (hz : zo_put W n0 ci b fk pc A S h G c s K = true) (hn : n0 = η0.1.length) (hS : zSt η0 ρ0 hp0 W h G η ρ hp) (hL : zaL η ρ A L) (hs : zaS η ρ S st) : ∃ z, zpf pc L st hp c s ci b fk = some z ∧ zNx η0 ρ0 hp0 W K z := by
  unfold zo_put at hz
  split at hz
  · match st, hs with
    | w :: v :: st, hs =>
      rw [Bool.and_eq_true] at hz
      obtain ⟨i, x, h1, rfl, h2⟩ := zref_ok hz.2 hs.2.1
      rw [Bool.and_eq_true] at h2
      obtain ⟨q1, q2, q3, q4, q5, q6⟩ := id hS
      obtain ⟨fs, vs, h3, h4, h5⟩ := zobj_ok h2.2 q4 h1
      obtain ⟨h6, h7⟩ := zls_ok h3
      obtain ⟨h', h8, h9⟩ := zhset_ok (h' := .inr (ci, vs.set b w)) h7 q4 h1 ⟨_, rfl, zAll_set h5 hs.1⟩
      have hb : b < vs.length := by rw [← zAll_len h5]; exact h6
      obtain ⟨O', h10, h11⟩ := zOf_ok (hp' := hp.set x (.inr (ci, vs.set b w))) (fun kind m j hk hm hO => zHKf_ok hk q3 q4 hm h1 h4 hs.1 hb hO) h8 q5
      obtain ⟨O2, h12, h13⟩ := zOsh_ok q3 q4 h1 h4 hs.1 hb h10 q5 h11
      obtain ⟨F', h14, h15⟩ := zputF_ok h12 h9 h13 q3.2.2.1
      have hv := zvkA_ok hz.1 q3 hs.1
      have hb2 : Nat.ble (b + 1) vs.length = true := Nat.ble_eq_true_of_le hb
      refine ⟨(pc + 3, L, st, hp.set x (.inr (ci, vs.set b w)), c, s), by simp only [zpf, h4, hb2, hv, Nat.beq_refl, Bool.and_self], ?_⟩
      exact zNx_go (G := (G.1, G.2.1, F', G.2.2.2.1, O2)) ⟨q1, q2, ⟨q3.1, q3.2.1, h15, q3.2.2.2⟩, h9, h13, zfm_set h2.1 hn q1 h1 q6⟩ hL h14 hs.2.2
    | [], hs => exact hs.elim
    | [_], hs => exact hs.2.elim
  · cases hz
-- arrays
def zdv (p : Int) : LT → Bool
  | [] => true
  | q :: ts => zeq (q.2 % p) 0 && zdv p ts
theorem zdv_ok {p : Int} : ∀ {ts : LT} {y : Int}, zdv p ts = true → zxt ρ ts y → y % p = 0
  | [], y, _, hy => by have hy0 : y = 0 := hy; subst hy0; exact Int.zero_emod p
  | q :: ts, y, hz, ⟨a, b, h1, h2, h3⟩ => by
    simp only [zdv, Bool.and_eq_true, zeq_iff] at hz
    have h4 := zdv_ok hz.2 h2
    have h5 : (q.2 * a) % p = 0 := Int.emod_eq_zero_of_dvd (Int.dvd_trans (Int.dvd_of_emod_eq_zero hz.1) (Int.dvd_mul_right ..))
    rw [h3]
    exact Int.emod_eq_zero_of_dvd (Int.dvd_add (Int.dvd_of_emod_eq_zero h5) (Int.dvd_of_emod_eq_zero h4))
/-- the place of the period -/
def zres (p : Nat) (e : LX) : Option Nat := match Nat.beq p 1 with
  | true => some 0
  | false => (match zdv p e.2 with
    | true => some (e.1 % p).toNat
    | false => none)
theorem zres_ok {p r j : Nat} {e : LX} (hz : zres p e = some r) (hp : 0 < p) (he : zxr ρ e (j : Int)) : j % p = r := by
  unfold zres at hz
  split at hz
  · rename_i q
    have q := Nat.eq_of_beq_eq_true q
    cases hz
    rw [q, Nat.mod_one]
  · split at hz
    · rename_i q
      cases hz
      obtain ⟨y, h1, h2⟩ := he
      have h3 := zdv_ok q h1
      have h4 : (j : Int) % p = e.1 % p := by
        rw [h2, Int.add_emod, h3, Int.add_zero, Int.emod_emod]
      rw [← h4]
      omega
    · cases hz
def zjall : List (Int × Int) → (Int → Int → Bool) → Bool
  | [], _ => false
  | [q], k => k q.1 q.2
  | q :: rs, k => zjall rs (fun lo hi => (match zle q.1 lo with
    | true => (match zle hi q.2 with | true => k q.1 q.2 | false => k q.1 hi)
    | false => (match zle hi q.2 with | true => k lo q.2 | false => k lo hi)))
theorem zjall_ok : ∀ {rs : List (Int × Int)} {k : Int → Int → Bool}, zjall rs k = true → ∃ lo hi, k lo hi = true ∧ ∀ q ∈ rs, lo ≤ q.1 ∧ q.2 ≤ hi
  | [], k, hz => by simp [zjall] at hz
  | [q], k, hz => ⟨q.1, q.2, hz, fun x hx => by rw [List.mem_singleton.mp hx]; omega⟩
  | q :: r :: rs, k, hz => by
    simp only [zjall] at hz
    obtain ⟨lo, hi, h1, h2⟩ := zjall_ok hz
    have key : ∀ lo' hi', lo' ≤ lo → lo' ≤ q.1 → hi ≤ hi' → q.2 ≤ hi' → ∀ x ∈ q :: r :: rs, lo' ≤ x.1 ∧ x.2 ≤ hi' := by
      intro lo' hi' a1 a2 a3 a4 x hx
      rcases List.mem_cons.mp hx with rfl | hx
      · exact ⟨a2, a4⟩
      · have := h2 x hx; omega
    split at h1
    · rename_i c1
      rw [zle_iff] at c1
      split at h1
      · rename_i c2
        rw [zle_iff] at c2
        exact ⟨_, _, h1, key _ _ c1 (Int.le_refl _) c2 (Int.le_refl _)⟩
      · rename_i c2
        rw [zle_not] at c2
        exact ⟨_, _, h1, key _ _ c1 (Int.le_refl _) (Int.le_refl _) (by omega)⟩
    · rename_i c1
      rw [zle_not] at c1
      split at h1
      · rename_i c2
        rw [zle_iff] at c2
        exact ⟨_, _, h1, key _ _ (Int.le_refl _) (by omega) c2 (Int.le_refl _)⟩
      · rename_i c2
        rw [zle_not] at c2
        exact ⟨_, _, h1, key _ _ (Int.le_refl _) (by omega) (Int.le_refl _) (by omega)⟩
/-- the bounds at a place -/
def zrng (p : Nat) (rs : List (Int × Int)) (e : LX) (k : Int → Int → Bool) : Bool := match zres p e with
  | some r => zlg rs r (fun q => k q.1 q.2)
  | none => zjall rs k
theorem zrng_ok {n p j : Nat} {rs : List (Int × Int)} {es : List (LX × LX)} {f : zhA} {e : LX} {k : Int → Int → Bool} (hz : zrng p rs e k = true) (hA : zaA ρ n p rs es f) (he : zxr ρ e (j : Int)) (hj : j < n) : ∃ lo hi, k lo hi = true ∧ lo ≤ zei f j ∧ zei f j ≤ hi := by
  obtain ⟨a1, a2, a3, a4⟩ := hA
  unfold zrng at hz
  split at hz
  · rename_i r hr
    obtain ⟨q, h1, h2⟩ := zlg_ok hz
    have h3 := zres_ok hr a2 he
    have := a3 j hj q (by rw [h3]; exact h1)
    exact ⟨_, _, h2, this⟩
  · obtain ⟨lo, hi, h1, h2⟩ := zjall_ok hz
    have hlt : j % p < rs.length := by rw [a1]; exact Nat.mod_lt _ a2
    have h3 := a3 j hj _ (List.getElem?_eq_getElem hlt)
    have h4 := h2 _ (List.getElem_mem hlt)
    exact ⟨lo, hi, h1, by omega, by omega⟩
def zj1 (q : Int × Int) (lo hi : Int) (k : Int × Int → Bool) : Bool := match zle q.1 lo with
  | true => (match zle hi q.2 with | true => k q | false => k (q.1, hi))
  | false => (match zle hi q.2 with | true => k (lo, q.2) | false => k (lo, hi))
theorem zj1_ok {q : Int × Int} {lo hi : Int} {k : Int × Int → Bool} (hz : zj1 q lo hi k = true) : ∃ r, k r = true ∧ r.1 ≤ q.1 ∧ r.1 ≤ lo ∧ q.2 ≤ r.2 ∧ hi ≤ r.2 := by
  unfold zj1 at hz
  split at hz
  · rename_i c1
    rw [zle_iff] at c1
    split at hz
    · rename_i c2
      rw [zle_iff] at c2
      exact ⟨_, hz, by omega, c1, by omega, c2⟩
    · rename_i c2
      rw [zle_not] at c2
      exact ⟨_, hz, Int.le_refl _, c1, by show q.2 ≤ hi; omega, Int.le_refl _⟩
  · rename_i c1
    rw [zle_not] at c1
    split at hz
    · rename_i c2
      rw [zle_iff] at c2
      exact ⟨_, hz, by show lo ≤ q.1; omega, Int.le_refl _, Int.le_refl _, c2⟩
    · rename_i c2
      rw [zle_not] at c2
      exact ⟨_, hz, by show lo ≤ q.1; omega, Int.le_refl _, by show q.2 ≤ hi; omega, Int.le_refl _⟩
/-- the bounds widened: at a place, everywhere -/
def zru1 (lo hi : Int) : List (Int × Int) → Nat → (List (Int × Int) → Bool) → Bool
  | [], _, _ => false
  | q :: rs, 0, k => zj1 q lo hi (fun q => k (q :: rs))
  | q :: rs, r + 1, k => zru1 lo hi rs r (fun rs => k (q :: rs))
def zrua (lo hi : Int) : List (Int × Int) → (List (Int × Int) → Bool) → Bool
  | [], k => k []
  | q :: rs, k => zj1 q lo hi (fun q => zrua lo hi rs (fun rs => k (q :: rs)))
theorem zru1_ok {lo hi : Int} : ∀ {rs : List (Int × Int)} {r : Nat} {k : List (Int × Int) → Bool}, zru1 lo hi rs r k = true → ∃ rs', k rs' = true ∧ rs'.length = rs.length ∧ (∀ (i : Nat) (q' : Int × Int), rs'[i]? = some q' → ∃ q : Int × Int, rs[i]? = some q ∧ q'.1 ≤ q.1 ∧ q.2 ≤ q'.2) ∧ ∀ q' : Int × Int, rs'[r]? = some q' → q'.1 ≤ lo ∧ hi ≤ q'.2
  | [], _, _, hz => by simp [zru1] at hz
  | q :: rs, 0, k, hz => by
    obtain ⟨q1, h1, h2, h3, h4, h5⟩ := zj1_ok hz
    refine ⟨_, h1, rfl, fun i q' hq => ?_, fun q' hq => ?_⟩
    · match i, hq with
      | 0, hq => cases hq; exact ⟨q, rfl, h2, h4⟩
      | i + 1, hq => exact ⟨q', by simpa using hq, Int.le_refl _, Int.le_refl _⟩
    · cases hq; exact ⟨h3, h5⟩
  | q :: rs, r + 1, k, hz => by
    obtain ⟨rs', h1, h2, h3, h4⟩ := zru1_ok (rs := rs) (r := r) (k := fun rs => k (q :: rs)) hz
    refine ⟨_, h1, by simp [h2], fun i q' hq => ?_, fun q' hq => h4 q' (by simpa using hq)⟩
    match i, hq with
    | 0, hq => cases hq; exact ⟨q, rfl, Int.le_refl _, Int.le_refl _⟩
    | i + 1, hq =>
      obtain ⟨q2, g1, g2⟩ := h3 i q' (by simpa using hq)
      exact ⟨q2, by simpa using g1, g2⟩
theorem zrua_ok {lo hi : Int} : ∀ {rs : List (Int × Int)} {k : List (Int × Int) → Bool}, zrua lo hi rs k = true → ∃ rs', k rs' = true ∧ rs'.length = rs.length ∧ (∀ (i : Nat) (q' : Int × Int), rs'[i]? = some q' → ∃ q : Int × Int, rs[i]? = some q ∧ q'.1 ≤ q.1 ∧ q.2 ≤ q'.2) ∧ ∀ (i : Nat) (q' : Int × Int), rs'[i]? = some q' → q'.1 ≤ lo ∧ hi ≤ q'.2
  | [], k, hz => ⟨[], hz, rfl, fun i q' hq => by simp at hq, fun i q' hq => by simp at hq⟩
  | q :: rs, k, hz => by
    obtain ⟨q1, h1, h2, h3, h4, h5⟩ := zj1_ok hz
    obtain ⟨rs', g1, g2, g3, g4⟩ := zrua_ok h1
    refine ⟨_, g1, by simp [g2], fun i q' hq => ?_, fun i q' hq => ?_⟩
    · match i, hq with
      | 0, hq => cases hq; exact ⟨q, rfl, h2, h4⟩
      | i + 1, hq =>
        obtain ⟨q2, e1, e2⟩ := g3 i q' (by simpa using hq)
        exact ⟨q2, by simpa using e1, e2⟩
    · match i, hq with
      | 0, hq => cases hq; exact ⟨h3, h5⟩
      | i + 1, hq => exact g4 i q' (by simpa using hq)
def zrup (p : Nat) (rs : List (Int × Int)) (e : LX) (lo hi : Int) (k : List (Int × Int) → Bool) : Bool := match zres p e with
  | some r => zru1 lo hi rs r k
  | none => zrua lo hi rs k
theorem zrup_ok {n p j : Nat} {rs : List (Int × Int)} {es : List (LX × LX)} {f : zhA} {e : LX} {lo hi : Int} {k : List (Int × Int) → Bool} (hz : zrup p rs e lo hi k = true) (hA : zaA ρ n p rs es f) (he : zxr ρ e (j : Int)) (hj : j < n) : ∃ rs', k rs' = true ∧ rs'.length = p ∧ (∀ i : Nat, i < n → ∀ q' : Int × Int, rs'[i % p]? = some q' → q'.1 ≤ zei f i ∧ zei f i ≤ q'.2) ∧ ∀ q' : Int × Int, rs'[j % p]? = some q' → q'.1 ≤ lo ∧ hi ≤ q'.2 := by
  obtain ⟨a1, a2, a3, a4⟩ := hA
  have old : ∀ rs' : List (Int × Int), (∀ (i : Nat) (q' : Int × Int), rs'[i]? = some q' → ∃ q : Int × Int, rs[i]? = some q ∧ q'.1 ≤ q.1 ∧ q.2 ≤ q'.2) → ∀ i : Nat, i < n → ∀ q' : Int × Int, rs'[i % p]? = some q' → q'.1 ≤ zei f i ∧ zei f i ≤ q'.2 := by
    intro rs' h i hi q' hq
    obtain ⟨q, g1, g2, g3⟩ := h _ q' hq
    have := a3 i hi q g1
    omega
  unfold zrup at hz
  split at hz
  · rename_i r hr
    obtain ⟨rs', h1, h2, h3, h4⟩ := zru1_ok hz
    have h5 := zres_ok hr a2 he
    exact ⟨rs', h1, h2.trans a1, old rs' h3, fun q' hq => h4 q' (by rw [← h5]; exact hq)⟩
  · obtain ⟨rs', h1, h2, h3, h4⟩ := zrua_ok hz
    exact ⟨rs', h1, h2.trans a1, old rs' h3, fun q' hq => h4 _ q' hq⟩
/-- an index: by its number, if it is known; whether it is in a row of n -/
def zidx (G : AG) (n : Nat) (e : LX) (k : LX → Bool) : Bool := zbd G.2.1 e (fun lo hi => match zeq lo hi with
  | true => zle 0 lo && (zle (hi + 1) n && k (lo, []))
  | false => (zle 0 lo || zprv G.2.1 G.2.2.1 e) && ((zle (hi + 1) n || zxsub ((n : Int) - 1, []) e (fun d => zprv G.2.1 G.2.2.1 d)) && k e))
theorem zidx_ok {n : Nat} {e : LX} {k : LX → Bool} {x : Int} (hz : zidx G n e k = true) (hG : zaG ρ G) (he : zxr ρ e x) : 0 ≤ x ∧ x < n ∧ ∃ e', k e' = true ∧ zxr ρ e' x := by
  obtain ⟨lo, hi, h1, h2, h3⟩ := zbd_at hG.2.1 hz he
  split at h1
  · rename_i hc
    rw [zeq_iff] at hc
    simp only [Bool.and_eq_true, zle_iff] at h1
    have hx : x = lo := by omega
    subst hx
    exact ⟨by omega, by omega, _, h1.2.2, zxr_c _ _⟩
  · simp only [Bool.and_eq_true, Bool.or_eq_true, zle_iff] at h1
    obtain ⟨g1, g2, g3⟩ := h1
    refine ⟨?_, ?_, e, g3, he⟩
    · rcases g1 with g1 | g1
      · omega
      · exact zprv_ok hG.2.1 g1 hG.2.2.1 he
    · rcases g2 with g2 | g2
      · omega
      · obtain ⟨d, d1, d2⟩ := zxsub_ok g2 (zxr_c ρ _) he
        have := zprv_ok hG.2.1 d1 hG.2.2.1 d2
        omega
def zlkE (e : LX) : List (LX × LX) → Option LX
  | [] => none
  | q :: es => match zxeq q.1 e with
    | true => some q.2
    | false => zlkE e es
theorem zlkE_ok {e v : LX} : ∀ {es : List (LX × LX)}, zlkE e es = some v → (e, v) ∈ es
  | [], h => by cases h
  | q :: es, h => by
    unfold zlkE at h
    split at h
    · rename_i q1
      cases h
      rw [← zxeq_ok q1]
      exact List.mem_cons_self
    · exact List.mem_cons_of_mem _ (zlkE_ok h)
def ztv (t : Nat) : Nat := match t with
  | 1 => 1
  | _ => 0
def zvl (t : Nat) (f : zhA) (j : Nat) : Value := match f with
  | .inl f => .int (f j)
  | .inr (.inl f) => .long (f j)
  | .inr (.inr f) => va_rf (f j)
theorem zvl_ok {t j : Nat} {f : zhA} {e : LX} (ht : zaT t f) (he : zxr ρ e (zei f j)) : zav η ρ (ztv t, e) (zvl t f j) := by
  unfold zaT at ht
  unfold ztv
  split at ht
  · obtain ⟨g, rfl⟩ := ht
    exact ⟨_, rfl, he⟩
  · obtain ⟨g, rfl⟩ := ht
    split
    · rename_i h1
      first
        | exact absurd rfl h1
        | (rename_i h2; exact absurd rfl h2)
    · exact ⟨_, rfl, he⟩
/-- an element -/
def zo_ald (t : Nat) (pc : Nat) (A : AL) (S : List AV) (h : AH) (G : AG) (c s : Nat) (K : ZK) : Bool := match S with
  | j :: a :: S => zgI j (fun e => zref a (fun i => zarr h i t (fun n p rs es => zidx G n e (fun e => match zlkE e es with
    | some v => zfn (pc + 1) (fun pc => K pc A ((ztv t, v) :: S) h G c s)
    | none => zrng p rs e (fun lo hi => zfr G lo hi (fun v G => zhset h i (.inr (.inl (t, n, p, rs, (e, v) :: es))) (fun h => zfn (pc + 1) (fun pc => K pc A ((ztv t, v) :: S) h G c s))))))))
  | _ => false
theorem zb_cl {j : Int32} : j.toNatClampNeg = j.toInt.toNat := rfl
theorem zin_of {j : Int32} {n : Nat} (h1 : 0 ≤ j.toInt) (h2 : j.toInt < n) : zin j n = true := by
  unfold zin
  rw [Bool.and_eq_true, decide_eq_true_eq, decide_eq_true_eq]
  exact ⟨h1, h2⟩
theorem zn_ald {t : Nat} (hz : zo_ald t pc A S h G c s K = true) (hS : zSt η0 ρ0 hp0 W h G η ρ hp) (hL : zaL η ρ A L) (hs : zaS η ρ S st) : ∃ j x n f st', st = .int j :: .ref x :: st' ∧ hp[x]? = some (.inl (t, n, f)) ∧ zaT t f ∧ zin j n = true ∧ zNx η0 ρ0 hp0 W K (pc + 1, L, zvl t f j.toNatClampNeg :: st', hp, c, s) := by
  unfold zo_ald at hz
  split at hz
  · match st, hs with
    | w :: v :: st, hs =>
      obtain ⟨j, rfl, h0, hj⟩ := zgI_ok hz hs.1
      obtain ⟨i, x, h1, rfl, h2⟩ := zref_ok h0 hs.2.1
      obtain ⟨q1, q2, q3, q4, q5, q6⟩ := id hS
      obtain ⟨n, p, rs, es, f, h3, h4, h5, h6⟩ := zarr_ok h2 q4 h1
      obtain ⟨g1, g2, e', g3, g4⟩ := zidx_ok h3 q3 hj
      have hjn : ((j.toNatClampNeg : Nat) : Int) = j.toInt := by rw [zb_cl]; omega
      rw [← hjn] at g4
      refine ⟨j, x, n, f, st, rfl, h4, h5, zin_of g1 g2, ?_⟩
      split at g3
      · rename_i v hv
        obtain ⟨jj, e1, e2, e3⟩ := h6.2.2.2 _ (zlkE_ok hv)
        have hjj : jj = j.toNatClampNeg := by have := zxr_fun g4 e1; omega
        rw [hjj] at e3
        exact zNx_go hS hL g3 ⟨zvl_ok h5 e3, hs.2.2⟩
      · obtain ⟨lo, hi, e1, e2, e3⟩ := zrng_ok g3 h6 g4 (by omega)
        obtain ⟨r, G', e4, e5, e6, e7⟩ := zfr_ok e1 q3 e2 e3
        have hS2 := hS.grow e5 e7
        obtain ⟨h', e8, e9⟩ := zhset_ok (h' := .inl (t, n, f)) e4 hS2.2.2.2.1 h1 ⟨f, rfl, h5, h6.1, h6.2.1, h6.2.2.1, fun q hq => by
          rcases List.mem_cons.mp hq with rfl | hq
          · exact ⟨j.toNatClampNeg, zxr_mono g4, by omega, e6⟩
          · obtain ⟨jj, f1, f2, f3⟩ := h6.2.2.2 q hq
            exact ⟨jj, zxr_mono f1, f2, zxr_mono f3⟩⟩
        have hsame : hp.set x (.inl (t, n, f)) = hp := by
          apply List.ext_getElem?
          intro y
          by_cases e : x = y
          · subst e
            rw [List.getElem?_set_self (List.getElem?_eq_some_iff.mp h4).1, h4]
          · rw [List.getElem?_set_ne e]
        rw [hsame] at e9
        obtain ⟨r1, r2, r3, r4, r5, r6⟩ := hS2
        exact zNx_go ⟨r1, r2, r3, e9, r5, r6⟩ (zaL_mono1 hL) e8 ⟨zvl_ok h5 e6, zaS_mono1 hs.2.2⟩
    | [], hs => exact hs.elim
    | [_], hs => exact hs.2.elim
  · cases hz
/-- entries that stay when the element e changes -/
def zkpE (E : LE) (e : LX) : Nat → List (LX × LX) → (List (LX × LX) → Bool) → Bool
  | 0, _, k => k []
  | _ + 1, [], k => k []
  | n + 1, q :: es, k => (match zxsub q.1 e (fun d => zbd E d (fun lo hi => zle 1 lo || zle hi (-1))) with
    | true => zkpE E e n es (fun es => k (q :: es))
    | false => zkpE E e n es k)
theorem zkpE_ok {E : LE} {e : LX} {x : Int} (hE : zaE ρ E) (he : zxr ρ e x) : ∀ {n : Nat} {es : List (LX × LX)} {k : List (LX × LX) → Bool}, zkpE E e n es k = true → ∃ es', k es' = true ∧ ∀ q ∈ es', q ∈ es ∧ ∀ j, zxr ρ q.1 j → j ≠ x
  | 0, _, k, hz => ⟨[], hz, fun q hq => absurd hq List.not_mem_nil⟩
  | _ + 1, [], k, hz => ⟨[], hz, fun q hq => absurd hq List.not_mem_nil⟩
  | n + 1, q :: es, k, hz => by
    unfold zkpE at hz
    split at hz
    · rename_i hc
      obtain ⟨es', h1, h2⟩ := zkpE_ok hE he hz
      refine ⟨_, h1, fun y hy => ?_⟩
      rcases List.mem_cons.mp hy with rfl | hy
      · refine ⟨List.mem_cons_self, fun j hj => ?_⟩
        obtain ⟨d, d1, d2⟩ := zxsub_ok hc hj he
        obtain ⟨lo, hi, d3, d4, d5⟩ := zbd_at hE d1 d2
        simp only [Bool.or_eq_true, zle_iff] at d3
        omega
      · exact ⟨List.mem_cons_of_mem _ (h2 y hy).1, (h2 y hy).2⟩
    · obtain ⟨es', h1, h2⟩ := zkpE_ok hE he hz
      exact ⟨es', h1, fun y hy => ⟨List.mem_cons_of_mem _ (h2 y hy).1, (h2 y hy).2⟩⟩
/-- what is kept of a value in an array of a type -/
def zcut (t : Nat) (G : AG) (a : AV) (k : LX → AG → Bool) : Bool := match t with
  | 0 => zgI a (fun e => k e G)
  | 1 => zgL a (fun e => k e G)
  | 2 => zu_i2b G a (fun r G => zgI r (fun e => k e G))
  | 3 => zgI a (fun e => zbd G.2.1 e (fun lo hi => zle 0 lo && zle hi 1) && k e G)
  | _ => false
def zput (t : Nat) (f : zhA) (j : Nat) (v : Value) : zhA := match f, v with
  | .inl f, .int x => .inl (va_up f j (match t with | 2 => x.toInt8.toInt32 | _ => x))
  | .inr (.inl f), .long x => .inr (.inl (va_up f j x))
  | f, _ => f
theorem zcut_ok {t : Nat} {a : AV} {k : LX → AG → Bool} {v : Value} {f : zhA} (hz : zcut t G a k = true) (hG : zaG ρ G) (ha : zav η ρ a v) (ht : zaT t f) (j : Nat) : ∃ l e G', k e G' = true ∧ zaG (ρ ++ l) G' ∧ G'.2.2.2.2 = G.2.2.2.2 ∧ zxr (ρ ++ l) e (zei (zput t f j v) j) ∧ zaT t (zput t f j v) ∧ (∀ i, i ≠ j → zei (zput t f j v) i = zei f i) ∧ (∀ g0, zput t f j v = .inl g0 → ∃ f0, f = .inl f0) ∧ ((t = 1 ∧ ∃ x, v = .long x) ∨ ((t = 0 ∨ t = 2) ∧ ∃ x, v = .int x) ∨ (t = 3 ∧ ∃ x, v = .int x ∧ (decide (x = 0) || decide (x = 1)) = true)) := by
  have nil : ∀ {e : LX} {z : Int}, zxr ρ e z → zxr (ρ ++ []) e z := fun h => by rw [List.append_nil]; exact h
  have nilG : zaG (ρ ++ []) G := by rw [List.append_nil]; exact hG
  match t, hz, ht with
  | 0, hz, ⟨g, hg⟩ =>
    subst hg
    have hz : zgI a (fun e => k e G) = true := hz
    obtain ⟨x, rfl, h1, hx⟩ := zgI_ok hz ha
    refine ⟨[], _, G, h1, nilG, rfl, nil ?_, ⟨_, rfl⟩, fun i hi => ?_, fun g0 _ => ⟨g, rfl⟩, Or.inr (Or.inl ⟨Or.inl rfl, x, rfl⟩)⟩
    · show zxr ρ a.2 (va_up g j x j).toInt
      rw [show va_up g j x j = x from by simp [va_up]]; exact hx
    · show (va_up g j x i).toInt = (g i).toInt
      rw [show va_up g j x i = g i from by simp [va_up, hi]]
  | 1, hz, ⟨g, hg⟩ =>
    subst hg
    have hz : zgL a (fun e => k e G) = true := hz
    obtain ⟨x, rfl, h1, hx⟩ := zgL_ok hz ha
    refine ⟨[], _, G, h1, nilG, rfl, nil ?_, ⟨_, rfl⟩, fun i hi => ?_, fun g0 h0 => (by simp [zput] at h0), Or.inl ⟨rfl, x, rfl⟩⟩
    · show zxr ρ a.2 (va_up g j x j).toInt
      rw [show va_up g j x j = x from by simp [va_up]]; exact hx
    · show (va_up g j x i).toInt = (g i).toInt
      rw [show va_up g j x i = g i from by simp [va_up, hi]]
  | 2, hz, ⟨g, hg⟩ =>
    subst hg
    have hz : zu_i2b G a (fun r G => zgI r (fun e => k e G)) = true := hz
    obtain ⟨x, rfl, l, r, G', h1, h2, h3, h4⟩ := zu_i2b_ok hz hG ha
    obtain ⟨y, hy, h5, hx⟩ := zgI_ok h1 h3
    cases hy
    refine ⟨l, _, G', h5, h2, h4, ?_, ⟨_, rfl⟩, fun i hi => ?_, fun g0 _ => ⟨g, rfl⟩, Or.inr (Or.inl ⟨Or.inr rfl, x, rfl⟩)⟩
    · show zxr (ρ ++ l) r.2 (va_up g j x.toInt8.toInt32 j).toInt
      rw [show va_up g j x.toInt8.toInt32 j = x.toInt8.toInt32 from by simp [va_up]]; exact hx
    · show (va_up g j x.toInt8.toInt32 i).toInt = (g i).toInt
      rw [show va_up g j x.toInt8.toInt32 i = g i from by simp [va_up, hi]]
  | 3, hz, ⟨g, hg⟩ =>
    subst hg
    have hz : zgI a (fun e => zbd G.2.1 e (fun lo hi => zle 0 lo && zle hi 1) && k e G) = true := hz
    obtain ⟨x, rfl, h1, hx⟩ := zgI_ok hz ha
    rw [Bool.and_eq_true] at h1
    obtain ⟨lo, hi, h2, h3, h4⟩ := zbd_at hG.2.1 h1.1 hx
    simp only [Bool.and_eq_true, zle_iff] at h2
    refine ⟨[], _, G, h1.2, nilG, rfl, nil ?_, ⟨_, rfl⟩, fun i hi => ?_, fun g0 _ => ⟨g, rfl⟩, Or.inr (Or.inr ⟨rfl, x, rfl, ?_⟩)⟩
    · show zxr ρ a.2 (va_up g j x j).toInt
      rw [show va_up g j x j = x from by simp [va_up]]; exact hx
    · show (va_up g j x i).toInt = (g i).toInt
      rw [show va_up g j x i = g i from by simp [va_up, hi]]
    · simp only [Bool.or_eq_true, decide_eq_true_eq]
      exact zb_01 (by omega) (by omega)
  | n + 4, hz, _ => cases hz
/-- bounds of what is written, by facts -/
def zclH (G : AG) (ve : LX) (vh h0 : Int) (k : Int → Bool) : Bool := match zle vh h0 with
  | true => k vh
  | false => (match zxsub (h0, []) ve (fun d => zprv G.2.1 G.2.2.1 d) with
    | true => k h0
    | false => k vh)
theorem zclH_ok {ve : LX} {vh h0 x : Int} {k : Int → Bool} (h : zclH G ve vh h0 k = true) (hG : zaG ρ G) (hx : zxr ρ ve x) (h1 : x ≤ vh) : ∃ v, k v = true ∧ x ≤ v := by
  unfold zclH at h
  split at h
  · exact ⟨_, h, h1⟩
  · split at h
    · rename_i hc
      obtain ⟨d, d1, d2⟩ := zxsub_ok hc (zxr_c ρ h0) hx
      have := zprv_ok hG.2.1 d1 hG.2.2.1 d2
      exact ⟨_, h, by omega⟩
    · exact ⟨_, h, h1⟩
def zclL (G : AG) (ve : LX) (vl l0 : Int) (k : Int → Bool) : Bool := match zle l0 vl with
  | true => k vl
  | false => (match zxshi ve (-l0) (fun d => zprv G.2.1 G.2.2.1 d) with
    | true => k l0
    | false => k vl)
theorem zclL_ok {ve : LX} {vl l0 x : Int} {k : Int → Bool} (h : zclL G ve vl l0 k = true) (hG : zaG ρ G) (hx : zxr ρ ve x) (h1 : vl ≤ x) : ∃ v, k v = true ∧ v ≤ x := by
  unfold zclL at h
  split at h
  · exact ⟨_, h, h1⟩
  · split at h
    · rename_i hc
      obtain ⟨d, d1, d2⟩ := zxshi_ok hc hx
      have := zprv_ok hG.2.1 d1 hG.2.2.1 d2
      exact ⟨_, h, by omega⟩
    · exact ⟨_, h, h1⟩
/-- whether what is written was read at a place of the same kind -/
def zrsd (p : Nat) (e ve : LX) (es : List (LX × LX)) : Bool := es.any (fun q => zxeq q.2 ve && zxsub q.1 e (fun d => match d.2 with
  | [] => zeq (d.1 % (p : Int)) 0
  | _ => false))
theorem zrsd_ok {n p j : Nat} {e ve : LX} {rs : List (Int × Int)} {es : List (LX × LX)} {f : zhA} {x : Int} (h : zrsd p e ve es = true) (hA : zaA ρ n p rs es f) (he : zxr ρ e (j : Int)) (hv : zxr ρ ve x) : ∀ q : Int × Int, rs[j % p]? = some q → q.1 ≤ x ∧ x ≤ q.2 := by
  obtain ⟨y, hy, h1⟩ := List.any_eq_true.mp h
  rw [Bool.and_eq_true] at h1
  have h2 := zxeq_ok h1.1
  obtain ⟨a1, a2, a3, a4⟩ := hA
  obtain ⟨jj, j1, j2, j3⟩ := a4 y hy
  obtain ⟨d, d1, d2⟩ := zxsub_ok h1.2 j1 he
  split at d1
  · rename_i hd
    rw [zeq_iff] at d1
    obtain ⟨z, z1, z2⟩ := d2
    rw [hd] at z1
    have z1 : z = 0 := z1
    rw [h2] at j3
    have e2 := zxr_fun hv j3
    have e3 : jj % p = j % p := by
      have e4 : ((jj : Int) - (j : Int)) % (p : Int) = 0 := by
        rw [show (jj : Int) - (j : Int) = d.1 by omega]
        exact d1
      have e5 : (jj : Int) % (p : Int) = (j : Int) % (p : Int) := Int.emod_eq_emod_iff_emod_sub_eq_zero.mpr e4
      exact_mod_cast e5
    intro q hq
    rw [e2]
    exact a3 jj j2 q (by rw [e3]; exact hq)
  · cases d1
/-- where each place has a bound of its own, it is set -/
def zru0 (lo hi : Int) : List (Int × Int) → Nat → (List (Int × Int) → Bool) → Bool
  | [], _, _ => false
  | _ :: rs, 0, k => k ((lo, hi) :: rs)
  | q :: rs, r + 1, k => zru0 lo hi rs r (fun rs => k (q :: rs))
theorem zru0_ok {lo hi : Int} : ∀ {rs : List (Int × Int)} {r : Nat} {k : List (Int × Int) → Bool}, zru0 lo hi rs r k = true → ∃ rs', k rs' = true ∧ rs'.length = rs.length ∧ (∀ (i : Nat), i ≠ r → rs'[i]? = rs[i]?) ∧ rs'[r]? = some (lo, hi)
  | [], _, _, hz => by simp [zru0] at hz
  | q :: rs, 0, k, hz => ⟨_, hz, rfl, fun i hi => by
      match i, hi with
      | 0, hi => exact absurd rfl hi
      | i + 1, _ => simp, rfl⟩
  | q :: rs, r + 1, k, hz => by
    obtain ⟨rs', h1, h2, h3, h4⟩ := zru0_ok (rs := rs) (r := r) (k := fun rs => k (q :: rs)) hz
    refine ⟨_, h1, by simp [h2], fun i hi => ?_, by simpa using h4⟩
    match i, hi with
    | 0, _ => rfl
    | i + 1, hi => simpa using h3 i (fun e => hi (by rw [e]))
def zrupN (n p : Nat) (rs : List (Int × Int)) (e : LX) (lo hi : Int) (k : List (Int × Int) → Bool) : Bool := match Nat.beq n p with
  | true => (match zres p e with
    | some r => zru0 lo hi rs r k
    | none => zrua lo hi rs k)
  | false => zrup p rs e lo hi k
theorem zrupN_ok {n p j : Nat} {rs : List (Int × Int)} {es : List (LX × LX)} {f : zhA} {e : LX} {lo hi : Int} {k : List (Int × Int) → Bool} (hz : zrupN n p rs e lo hi k = true) (hA : zaA ρ n p rs es f) (he : zxr ρ e (j : Int)) (hj : j < n) : ∃ rs', k rs' = true ∧ rs'.length = p ∧ (∀ i : Nat, i < n → i ≠ j → ∀ q' : Int × Int, rs'[i % p]? = some q' → q'.1 ≤ zei f i ∧ zei f i ≤ q'.2) ∧ ∀ q' : Int × Int, rs'[j % p]? = some q' → q'.1 ≤ lo ∧ hi ≤ q'.2 := by
  unfold zrupN at hz
  split at hz
  · rename_i hn
    have hn := Nat.eq_of_beq_eq_true hn
    split at hz
    · rename_i r hr
      obtain ⟨rs', h1, h2, h3, h4⟩ := zru0_ok hz
      have h5 := zres_ok hr hA.2.1 he
      refine ⟨rs', h1, h2.trans hA.1, fun i hi hij q hq => ?_, fun q hq => ?_⟩
      · have hir : i % p ≠ r := by
          rw [← h5, Nat.mod_eq_of_lt (by omega), Nat.mod_eq_of_lt (by omega)]
          exact hij
        rw [h3 _ hir] at hq
        exact hA.2.2.1 i hi q hq
      · rw [h5, h4] at hq
        cases hq
        exact ⟨Int.le_refl _, Int.le_refl _⟩
    · rename_i hr
      have hz2 : zrup p rs e lo hi k = true := by
        unfold zrup
        rw [hr]
        exact hz
      obtain ⟨rs', h1, h2, h3, h4⟩ := zrup_ok hz2 hA he hj
      exact ⟨rs', h1, h2, fun i hi _ => h3 i hi, h4⟩
  · obtain ⟨rs', h1, h2, h3, h4⟩ := zrup_ok hz hA he hj
    exact ⟨rs', h1, h2, fun i hi _ => h3 i hi, h4⟩
def zrup2 (G : AG) (n p : Nat) (rs : List (Int × Int)) (es : List (LX × LX)) (e ve : LX) (k : List (Int × Int) → Bool) : Bool := match zrsd p e ve es with
  | true => k rs
  | false => zbd G.2.1 ve (fun vl vh => zrng p rs e (fun l0 h0 => zclH G ve vh h0 (fun vh => zclL G ve vl l0 (fun vl => zrupN n p rs e vl vh k))))
theorem zrup2_ok {n p j : Nat} {rs : List (Int × Int)} {es : List (LX × LX)} {f : zhA} {e ve : LX} {x : Int} {k : List (Int × Int) → Bool} (hz : zrup2 G n p rs es e ve k = true) (hG : zaG ρ G) (hA : zaA ρ n p rs es f) (he : zxr ρ e (j : Int)) (hv : zxr ρ ve x) (hj : j < n) : ∃ rs', k rs' = true ∧ rs'.length = p ∧ (∀ i : Nat, i < n → i ≠ j → ∀ q' : Int × Int, rs'[i % p]? = some q' → q'.1 ≤ zei f i ∧ zei f i ≤ q'.2) ∧ ∀ q' : Int × Int, rs'[j % p]? = some q' → q'.1 ≤ x ∧ x ≤ q'.2 := by
  unfold zrup2 at hz
  split at hz
  · rename_i hr
    exact ⟨rs, hz, hA.1, fun i hi _ => hA.2.2.1 i hi, zrsd_ok hr hA he hv⟩
  · obtain ⟨vl, vh, d1, d2, d3⟩ := zbd_at hG.2.1 hz hv
    obtain ⟨l0, h0, d4, -, -⟩ := zrng_ok d1 hA he hj
    obtain ⟨v1, d5, d6⟩ := zclH_ok d4 hG hv d3
    obtain ⟨v2, d7, d8⟩ := zclL_ok d5 hG hv d2
    obtain ⟨rs', e1, e2, e3, e4⟩ := zrupN_ok d7 hA he hj
    refine ⟨rs', e1, e2, e3, fun q hq => ?_⟩
    have := e4 q hq
    omega
def zo_ast (W : List Nat) (n0 t : Nat) (pc : Nat) (A : AL) (S : List AV) (h : AH) (G : AG) (c s : Nat) (K : ZK) : Bool := match S with
  | v :: j :: a :: S => zgI j (fun e => zref a (fun i => zwk W n0 i && zarr h i t (fun n p rs es => zidx G n e (fun e => zcut t G v (fun ve G => zrup2 G n p rs es e ve (fun rs => zkpE G.2.1 e 40 es (fun es => zhset h i (.inr (.inl (t, n, p, rs, (e, ve) :: es))) (fun h' => zOf (fun kind m => zHKa kind m h G i e ve) G.2.2.2.2 (fun O => zfn (pc + 1) (fun pc => K pc A S h' (G.1, G.2.1, G.2.2.1, G.2.2.2.1, O) c s))))))))))
  | _ => false
theorem zn_ast {t : Nat} (hz : zo_ast W n0 t pc A S h G c s K = true) (hn : n0 = η0.1.length) (hS : zSt η0 ρ0 hp0 W h G η ρ hp) (hL : zaL η ρ A L) (hs : zaS η ρ S st) : ∃ v j x n f st', st = v :: .int j :: .ref x :: st' ∧ hp[x]? = some (.inl (t, n, f)) ∧ zaT t f ∧ zin j n = true ∧ ((t = 1 ∧ ∃ x, v = .long x) ∨ ((t = 0 ∨ t = 2) ∧ ∃ x, v = .int x) ∨ (t = 3 ∧ ∃ x, v = .int x ∧ (decide (x = 0) || decide (x = 1)) = true)) ∧ zNx η0 ρ0 hp0 W K (pc + 1, L, st', hp.set x (.inl (t, n, zput t f j.toNatClampNeg v)), c, s) := by
  unfold zo_ast at hz
  split at hz
  · match st, hs with
    | v :: w :: a :: st, hs =>
      obtain ⟨j, rfl, h0, hj⟩ := zgI_ok hz hs.2.1
      obtain ⟨i, x, h1, rfl, h2⟩ := zref_ok h0 hs.2.2.1
      rw [Bool.and_eq_true] at h2
      obtain ⟨q1, q2, q3, q4, q5, q6⟩ := id hS
      obtain ⟨n, p, rs, es, f, h3, h4, h5, h6⟩ := zarr_ok h2.2 q4 h1
      obtain ⟨g1, g2, e', g3, g4⟩ := zidx_ok h3 q3 hj
      have hjn : ((j.toNatClampNeg : Nat) : Int) = j.toInt := by rw [zb_cl]; omega
      rw [← hjn] at g4
      obtain ⟨l, ve, G', c1, c2, c3, c4, c5, c6, c7, c8⟩ := zcut_ok g3 q3 hs.1 h5 j.toNatClampNeg
      have hS2 := hS.grow c2 c3
      obtain ⟨r1, r2, r3, r4, r5, r6⟩ := id hS2
      have h6' : zaA (ρ ++ l) n p rs es f := ⟨h6.1, h6.2.1, h6.2.2.1, fun q hq => by
        obtain ⟨jj, f1, f2, f3⟩ := h6.2.2.2 q hq
        exact ⟨jj, zxr_mono f1, f2, zxr_mono f3⟩⟩
      obtain ⟨rs', d4, d5, d6, d7⟩ := zrup2_ok c1 c2 h6' (zxr_mono g4) c4 (by omega)
      obtain ⟨es', d8, d9⟩ := zkpE_ok c2.2.1 (zxr_mono (l := l) g4) d4
      obtain ⟨h', e1, e2⟩ := zhset_ok (h' := .inl (t, n, zput t f j.toNatClampNeg v)) d8 r4 h1 ⟨_, rfl, c5, d5, h6.2.1, fun i hi q hq => by
          by_cases e : i = j.toNatClampNeg
          · subst e
            exact d7 q hq
          · rw [c6 i e]
            exact d6 i hi e q hq, fun q hq => by
          rcases List.mem_cons.mp hq with rfl | hq
          · exact ⟨j.toNatClampNeg, zxr_mono g4, by omega, c4⟩
          · obtain ⟨k1, k2⟩ := d9 q hq
            obtain ⟨jj, f1, f2, f3⟩ := h6'.2.2.2 q k1
            have hne : jj ≠ j.toNatClampNeg := fun e => k2 _ f1 (by rw [e])
            exact ⟨jj, f1, f2, by rw [c6 jj hne]; exact f3⟩⟩
      obtain ⟨O', o1, o2⟩ := zOf_ok (hp' := hp.set x (.inl (t, n, zput t f j.toNatClampNeg v))) (fun kind m jj hk hm hO => zHKa_ok hk c2 r4 hm h1 h4 (zxr_mono g4) c4 c6 c7 hO) e1 r5
      refine ⟨v, j, x, n, f, st, rfl, h4, h5, zin_of g1 g2, c8, ?_⟩
      exact zNx_go (G := (G'.1, G'.2.1, G'.2.2.1, G'.2.2.2.1, O')) ⟨r1, r2, c2, e2, o2, zfm_set h2.1 hn q1 h1 q6⟩ (zaL_mono1 hL) o1 (zaS_mono1 hs.2.2.2)
    | [], hs => exact hs.elim
    | [_], hs => exact hs.2.elim
    | [_, _], hs => exact hs.2.2.elim
  · cases hz
/-- the type of an array under an index (d 0) or a value and an index (d 1) -/
def zaty (h : AH) (a : AV) (k : Nat → Bool) : Bool := zref a (fun i => zhget h i (fun x => match x with
  | .inr (.inl (t, _)) => k t
  | _ => false))
theorem zaty_ok {a : AV} {k : Nat → Bool} {v : Value} (hz : zaty h a k = true) (hH : zaH η ρ h hp) (ha : zav η ρ a v) : ∃ t x n f, k t = true ∧ v = .ref x ∧ hp[x]? = some (.inl (t, n, f)) := by
  obtain ⟨i, x, h1, rfl, h2⟩ := zref_ok hz ha
  obtain ⟨y, g1, g2⟩ := zhget_ok h2
  split at g2
  · rename_i t rr
    obtain ⟨n, p, rs, es⟩ := rr
    obtain ⟨x', z, g3, g4, f, rfl, g5, g6⟩ := hH.2.1 _ _ g1
    cases h1.symm.trans g3
    exact ⟨t, x, _, f, g2, rfl, g4⟩
  · cases g2
/-- references out of an array of them -/
def zswr (G : AG) (e : LX) (l u : Int) : List AV → Int → (AV → AG → Bool) → Bool
  | [], _, _ => true
  | a :: as, j, k => (match zle l j && zle j u with
    | true => zisn G e j (k a)
    | false => true) && zfi (j + 1) (fun j => zswr G e l u as j k)
theorem zswr_ok {e : LX} {l u x : Int} {k : AV → AG → Bool} (hG : zaG ρ G) (hx : zxr ρ e x) (h1 : l ≤ x) (h2 : x ≤ u) : ∀ (as : List AV) (j : Int), zswr G e l u as j k = true → ∀ (n : Nat) (a : AV), as[n]? = some a → x = j + n → ∃ G', k a G' = true ∧ zaG ρ G' ∧ G'.2.2.2.2 = G.2.2.2.2
  | [], _, _, n, a, hn, _ => by simp at hn
  | o :: as, j, h, n, a, hn, hj => by
    unfold zswr at h
    simp only [Bool.and_eq_true] at h
    obtain ⟨g1, g2⟩ := h
    rw [zfi_eq] at g2
    match n, hn, hj with
    | 0, hn, hj =>
      simp only [List.getElem?_cons_zero, Option.some.injEq] at hn
      subst hn
      rw [zle_iff.mpr (show l ≤ j by omega), zle_iff.mpr (show j ≤ u by omega)] at g1
      have hxj : x = j := by omega
      subst hxj
      exact zisn_ok g1 hG hx
    | n + 1, hn, hj => exact zswr_ok hG hx h1 h2 as (j + 1) g2 n a (by simpa using hn) (by omega)
def zo_aald (pc : Nat) (A : AL) (S : List AV) (h : AH) (G : AG) (c s : Nat) (K : ZK) : Bool := match S with
  | j :: a :: S => zgI j (fun e => zref a (fun i => zrar h i (fun as => zbd G.2.1 e (fun l u => zle 0 l && (zle (u + 1) as.length && zswr G e l u as 0 (fun a G => zfn (pc + 1) (fun pc => K pc A (a :: S) h G c s)))))))
  | _ => false
theorem zn_aald (hz : zo_aald pc A S h G c s K = true) (hS : zSt η0 ρ0 hp0 W h G η ρ hp) (hL : zaL η ρ A L) (hs : zaS η ρ S st) : ∃ z, zalA pc L st hp c s = some z ∧ zNx η0 ρ0 hp0 W K z := by
  unfold zo_aald at hz
  split at hz
  · match st, hs with
    | w :: v :: st, hs =>
      obtain ⟨j, rfl, h0, hj⟩ := zgI_ok hz hs.1
      obtain ⟨i, x, h1, rfl, h2⟩ := zref_ok h0 hs.2.1
      obtain ⟨as, f, h3, h4, h5⟩ := zrar_ok h2 hS.2.2.2.1 h1
      obtain ⟨l, u, h6, h7, h8⟩ := zbd_at hS.2.2.1.2.1 h3 hj
      simp only [Bool.and_eq_true, zle_iff] at h6
      obtain ⟨g1, g2, g3⟩ := h6
      have hlt : j.toNatClampNeg < as.length := by rw [zb_cl]; omega
      obtain ⟨G', g4, g5, g6⟩ := zswr_ok hS.2.2.1 hj h7 h8 as 0 g3 j.toNatClampNeg _ (List.getElem?_eq_getElem hlt) (by rw [zb_cl]; omega)
      have hin : zin j as.length = true := zin_of (by omega) (by omega)
      exact ⟨(pc + 1, L, va_rf (f j.toNatClampNeg) :: st, hp, c, s), by simp only [zalA, h4, hin, Nat.beq_refl, Bool.and_self], zNx_go (hS.same g5 g6) hL g4 ⟨h5 _ _ (List.getElem?_eq_getElem hlt), hs.2.2⟩⟩
    | [], hs => exact hs.elim
    | [_], hs => exact hs.2.elim
  · cases hz
def zo_ast4 (pc : Nat) (A : AL) (S : List AV) (h : AH) (G : AG) (c s : Nat) (K : ZK) : Bool := match G.2.2.2.2 with
  | [] => zfn (pc + 1) (fun pc => K pc A S h G c s)
  | _ => false
def zo_aast (W : List Nat) (n0 : Nat) (pc : Nat) (A : AL) (S : List AV) (h : AH) (G : AG) (c s : Nat) (K : ZK) : Bool := match S with
  | v :: j :: a :: S => zgI j (fun e => zref v (fun iv => zobj h iv 6 (fun _ => zref a (fun i => zwk W n0 i && zrar h i (fun as => zbd G.2.1 e (fun l u => zeq l u && (zle 0 l && zls as l.toNat v (fun as => zhset h i (.inr (.inr as)) (fun h' => zo_ast4 pc A S h' G c s K)))))))))
  | _ => false
theorem zn_aast (hz : zo_aast W n0 pc A S h G c s K = true) (hn : n0 = η0.1.length) (hS : zSt η0 ρ0 hp0 W h G η ρ hp) (hL : zaL η ρ A L) (hs : zaS η ρ S st) : ∃ z, zasA pc L st hp c s = some z ∧ zNx η0 ρ0 hp0 W K z := by
  unfold zo_aast at hz
  split at hz
  · match st, hs with
    | v :: w :: a :: st, hs =>
      obtain ⟨j, rfl, h0, hj⟩ := zgI_ok hz hs.2.1
      obtain ⟨iv, xv, v1, rfl, v2⟩ := zref_ok h0 hs.1
      obtain ⟨q1, q2, q3, q4, q5, q6⟩ := id hS
      obtain ⟨fs, vs, v3, v4, v5⟩ := zobj_ok v2 q4 v1
      obtain ⟨i, x, h1, rfl, h2⟩ := zref_ok v3 hs.2.2.1
      rw [Bool.and_eq_true] at h2
      obtain ⟨as, f, h3, h4, h5⟩ := zrar_ok h2.2 q4 h1
      obtain ⟨l, u, h6, h7, h8⟩ := zbd_at q3.2.1 h3 hj
      simp only [Bool.and_eq_true, zle_iff, zeq_iff] at h6
      obtain ⟨g1, g2, g3⟩ := h6
      obtain ⟨g4, g5⟩ := zls_ok g3
      have hl : l.toNat = j.toNatClampNeg := by rw [zb_cl]; omega
      rw [hl] at g4 g5
      obtain ⟨h', e1, e2⟩ := zhset_ok (h' := .inl (4, as.length, .inr (.inr (va_up f j.toNatClampNeg (some xv))))) g5 q4 h1 ⟨_, by rw [List.length_set], fun k b hb => by
          by_cases e : k = j.toNatClampNeg
          · subst e
            rw [List.getElem?_set_self g4] at hb
            cases hb
            rw [show va_up f j.toNatClampNeg (some xv) j.toNatClampNeg = some xv from by simp [va_up]]
            exact hs.1
          · rw [List.getElem?_set_ne (fun q => e q.symm)] at hb
            rw [show va_up f j.toNatClampNeg (some xv) k = f k from by simp [va_up, e]]
            exact h5 k b hb⟩
      have hin : zin j as.length = true := zin_of (by omega) (by rw [zb_cl] at g4; omega)
      unfold zo_ast4 at e1
      have hOe : G.2.2.2.2 = [] := by
        split at e1
        · rename_i hO; exact hO
        · cases e1
      split at e1
      · refine ⟨(pc + 1, L, st, hp.set x (.inl (4, as.length, .inr (.inr (va_up f j.toNatClampNeg (some xv))))), c, s), by simp only [zasA, h4, v4, hin, Nat.beq_refl, Bool.and_self], ?_⟩
        exact zNx_go ⟨q1, q2, q3, e2, by rw [hOe]; exact fun o ho => absurd ho List.not_mem_nil, zfm_set h2.1 hn q1 h1 q6⟩ hL e1 hs.2.2.2
      · cases e1
    | [], hs => exact hs.elim
    | [_], hs => exact hs.2.elim
    | [_, _], hs => exact hs.2.2.elim
  · cases hz
def zo_alen (pc : Nat) (A : AL) (S : List AV) (h : AH) (G : AG) (c s : Nat) (K : ZK) : Bool := match S with
  | a :: S => zref a (fun i => zhget h i (fun x => match x with
    | .inr (.inl (t, n, _)) => Nat.ble (t + 1) 5 && zo_cI 1 (Int32.ofNat n) pc A S h G c s K
    | .inr (.inr as) => zo_cI 1 (Int32.ofNat as.length) pc A S h G c s K
    | _ => false))
  | _ => false
theorem zn_alen (hz : zo_alen pc A S h G c s K = true) (hS : zSt η0 ρ0 hp0 W h G η ρ hp) (hL : zaL η ρ A L) (hs : zaS η ρ S st) : ∃ z, zlen1 pc L st hp c s Lx = some z ∧ zNx η0 ρ0 hp0 W K z := by
  unfold zo_alen at hz
  split at hz
  · match st, hs with
    | v :: st, hs =>
      obtain ⟨i, x, h1, rfl, h2⟩ := zref_ok hz hs.1
      obtain ⟨y, g1, g2⟩ := zhget_ok h2
      split at g2
      · rename_i t n p
        rw [Bool.and_eq_true] at g2
        obtain ⟨x', z, g3, g4, f, rfl, g5, g6⟩ := hS.2.2.2.1.2.1 _ _ g1
        cases h1.symm.trans g3
        exact ⟨(pc + 1, L, .int (Int32.ofNat n) :: st, hp, c, s), by simp only [zlen1, g4, g2.1], zn_cI g2.2 hS hL hs.2⟩
      · rename_i as
        obtain ⟨x', z, g3, g4, f, rfl, g5⟩ := hS.2.2.2.1.2.1 _ _ g1
        cases h1.symm.trans g3
        exact ⟨(pc + 1, L, .int (Int32.ofNat as.length) :: st, hp, c, s), by simp only [zlen1, g4]; first | done | rfl, zn_cI g2 hS hL hs.2⟩
      · cases g2
    | [], hs => exact hs.elim
  · cases hz
/-- the script's length: symbol 0; the script's numbers: whatever -/
def zo_slen (pc : Nat) (A : AL) (S : List AV) (h : AH) (G : AG) (c s : Nat) (K : ZK) : Bool := match S with
  | _ :: S => zfn (pc + 1) (fun pc => K pc A ((0, (0, [(0, 1)])) :: S) h G c s)
  | _ => false
def zo_sld (pc : Nat) (A : AL) (S : List AV) (h : AH) (G : AG) (c s : Nat) (K : ZK) : Bool := match S with
  | j :: _ :: S => zgI j (fun e => zprv G.2.1 G.2.2.1 e && (zxsub (-1, [(0, 1)]) e (fun d => zprv G.2.1 G.2.2.1 d) && ztopI G (fun r G => zfn (pc + 1) (fun pc => K pc A (r :: S) h G c s))))
  | _ => false
def zscr (S : List AV) (d : Nat) : Bool := match S.drop d with
  | a :: _ => Nat.beq a.1 4
  | _ => false
theorem zn_slen (hz : zo_slen pc A S h G c s K = true) (h4 : zscr S 0 = true) (hLx : ρ0[0]? = some (Lx : Int) ∧ Lx < 2 ^ 31) (hS : zSt η0 ρ0 hp0 W h G η ρ hp) (hL : zaL η ρ A L) (hs : zaS η ρ S st) : ∃ z, zlen1 pc L st hp c s Lx = some z ∧ zNx η0 ρ0 hp0 W K z := by
  unfold zo_slen at hz
  split at hz
  · rename_i a S'
    match st, hs with
    | v :: st, hs =>
      have h4 := Nat.eq_of_beq_eq_true h4
      obtain ⟨t, e⟩ := a
      have h4 : t = 4 := h4
      subst h4
      have hv : v = .float 0 := hs.1
      subst hv
      refine ⟨(pc + 1, L, .int (Int32.ofNat Lx) :: st, hp, c, s), rfl, zNx_go hS hL hz ⟨⟨_, rfl, ?_⟩, hs.2⟩⟩
      have e1 : (Int32.ofNat Lx).toInt = (Lx : Int) := nI_toInt hLx.2
      rw [e1]
      obtain ⟨l, rfl⟩ := hS.2.1
      exact zxr_s (by rw [List.getElem?_append_left (List.getElem?_eq_some_iff.mp hLx.1).1]; exact hLx.1)
    | [], hs => exact hs.elim
  · cases hz
theorem zn_sld (hz : zo_sld pc A S h G c s K = true) (h4 : zscr S 1 = true) (hLx : ρ0[0]? = some (Lx : Int) ∧ Lx < 2 ^ 31) (hS : zSt η0 ρ0 hp0 W h G η ρ hp) (hL : zaL η ρ A L) (hs : zaS η ρ S st) : ∃ z, zsl pc L st hp c s Lx xs = some z ∧ zNx η0 ρ0 hp0 W K z := by
  unfold zo_sld at hz
  split at hz
  · rename_i j' a S'
    match st, hs with
    | w :: v :: st, hs =>
      have h4 := Nat.eq_of_beq_eq_true h4
      obtain ⟨t, e⟩ := a
      have h4 : t = 4 := h4
      subst h4
      have hv : v = .float 0 := hs.2.1
      subst hv
      obtain ⟨j, rfl, h0, hj⟩ := zgI_ok hz hs.1
      simp only [Bool.and_eq_true] at h0
      obtain ⟨g1, g2, g3⟩ := h0
      have a1 := zprv_ok hS.2.2.1.2.1 g1 hS.2.2.1.2.2.1 hj
      have hsy : zxr ρ (-1, [(0, 1)]) ((Lx : Int) - 1) := by
        obtain ⟨l, rfl⟩ := hS.2.1
        exact ⟨Lx, ⟨Lx, 0, by rw [List.getElem?_append_left (List.getElem?_eq_some_iff.mp hLx.1).1]; exact hLx.1, rfl, by omega⟩, by omega⟩
      obtain ⟨d, d1, d2⟩ := zxsub_ok g2 hsy hj
      have a2 := zprv_ok hS.2.2.1.2.1 d1 hS.2.2.1.2.2.1 d2
      have hin : zin j Lx = true := zin_of a1 (by omega)
      exact ⟨(pc + 1, L, .int (xs j.toNatClampNeg) :: st, hp, c, s), by simp only [zsl, hin], zNx_push hS hL hs.2.2 (ztopI_ok g3 hS.2.2.1)⟩
    | [], hs => exact hs.elim
    | [_], hs => exact hs.2.elim
  · cases hz
end ZTH
