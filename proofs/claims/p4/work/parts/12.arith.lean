/-! arithmetic on abstract values -/
section ZAR
variable {η : List Nat} {ρ : List Int} {G : AG} {k : AV → AG → Bool}
def zrs (η : List Nat) (ρ : List Int) (G : AG) (k : AV → AG → Bool) (v : Value) : Prop := ∃ (l : List Int) (r : AV) (G' : AG), k r G' = true ∧ zaG (ρ ++ l) G' ∧ zav η (ρ ++ l) r v ∧ G'.2.2.2.2 = G.2.2.2.2
theorem zrs_id {r : AV} {v : Value} (h : k r G = true) (hG : zaG ρ G) (hv : zav η ρ r v) : zrs η ρ G k v := ⟨[], r, G, h, by rw [List.append_nil]; exact hG, by rw [List.append_nil]; exact hv, rfl⟩
def zspI (G : AG) (lo hi : Int) (k : AV → AG → Bool) : Bool := zfr G lo hi (fun s G => k (0, s) G)
theorem zspI_ok {lo hi : Int} {r : Int32} (h : zspI G lo hi k = true) (hG : zaG ρ G) (h1 : lo ≤ r.toInt) (h2 : r.toInt ≤ hi) : zrs η ρ G k (.int r) := by
  obtain ⟨s, G', g1, g2, g3, g4⟩ := zfr_ok h hG h1 h2
  exact ⟨_, _, G', g1, g2, ⟨r, rfl, g3⟩, g4⟩
def ztopI (G : AG) (k : AV → AG → Bool) : Bool := zspI G (-2147483648) 2147483647 k
theorem ztopI_ok {r : Int32} (h : ztopI G k = true) (hG : zaG ρ G) : zrs η ρ G k (.int r) := zspI_ok h hG (zb_rng r).1 (zb_rng r).2
def zspL (G : AG) (lo hi : Int) (k : AV → AG → Bool) : Bool := zfr G lo hi (fun s G => k (1, s) G)
theorem zspL_ok {lo hi : Int} {r : Int64} (h : zspL G lo hi k = true) (hG : zaG ρ G) (h1 : lo ≤ r.toInt) (h2 : r.toInt ≤ hi) : zrs η ρ G k (.long r) := by
  obtain ⟨s, G', g1, g2, g3, g4⟩ := zfr_ok h hG h1 h2
  exact ⟨_, _, G', g1, g2, ⟨r, rfl, g3⟩, g4⟩
def ztopL (G : AG) (k : AV → AG → Bool) : Bool := zspL G (-9223372036854775808) 9223372036854775807 k
theorem ztopL_ok {r : Int64} (h : ztopL G k = true) (hG : zaG ρ G) : zrs η ρ G k (.long r) := zspL_ok h hG (zb_rngL r).1 (zb_rngL r).2
/-- a whole number that is e, if it fits -/
def zexI (G : AG) (e : LX) (k : AV → AG → Bool) : Bool := zbd G.2.1 e (fun lo hi => match zle (-2147483648) lo && zle hi 2147483647 with
  | true => k (0, e) G
  | false => ztopI G k)
theorem zexI_ok {e : LX} {z : Int} {r : Int32} (h : zexI G e k = true) (hG : zaG ρ G) (he : zxr ρ e z) (hr : -2147483648 ≤ z → z ≤ 2147483647 → r.toInt = z) : zrs η ρ G k (.int r) := by
  obtain ⟨lo, hi, h1, h2, h3⟩ := zbd_at hG.2.1 h he
  split at h1
  · rename_i hc
    simp only [Bool.and_eq_true, zle_iff] at hc
    exact zrs_id h1 hG ⟨r, rfl, by rw [hr (by omega) (by omega)]; exact he⟩
  · exact ztopI_ok h1 hG
def zexL (G : AG) (e : LX) (k : AV → AG → Bool) : Bool := zbd G.2.1 e (fun lo hi => match zle (-9223372036854775808) lo && zle hi 9223372036854775807 with
  | true => k (1, e) G
  | false => ztopL G k)
theorem zexL_ok {e : LX} {z : Int} {r : Int64} (h : zexL G e k = true) (hG : zaG ρ G) (he : zxr ρ e z) (hr : -9223372036854775808 ≤ z → z ≤ 9223372036854775807 → r.toInt = z) : zrs η ρ G k (.long r) := by
  obtain ⟨lo, hi, h1, h2, h3⟩ := zbd_at hG.2.1 h he
  split at h1
  · rename_i hc
    simp only [Bool.and_eq_true, zle_iff] at hc
    exact zrs_id h1 hG ⟨r, rfl, by rw [hr (by omega) (by omega)]; exact he⟩
  · exact ztopL_ok h1 hG
def zgI (a : AV) (k : LX → Bool) : Bool := match a.1 with
  | 0 => k a.2
  | _ => false
theorem zgI_ok {a : AV} {k : LX → Bool} {v : Value} (h : zgI a k = true) (ha : zav η ρ a v) : ∃ x : Int32, v = .int x ∧ k a.2 = true ∧ zxr ρ a.2 x.toInt := by
  obtain ⟨t, e⟩ := a
  unfold zgI at h
  split at h
  · rename_i q
    simp only at q
    subst q
    obtain ⟨x, h1, h2⟩ := ha
    exact ⟨x, h1, h, h2⟩
  · cases h
def zgL (a : AV) (k : LX → Bool) : Bool := match a.1 with
  | 1 => k a.2
  | _ => false
theorem zgL_ok {a : AV} {k : LX → Bool} {v : Value} (h : zgL a k = true) (ha : zav η ρ a v) : ∃ x : Int64, v = .long x ∧ k a.2 = true ∧ zxr ρ a.2 x.toInt := by
  obtain ⟨t, e⟩ := a
  unfold zgL at h
  split at h
  · rename_i q
    simp only at q
    subst q
    obtain ⟨x, h1, h2⟩ := ha
    exact ⟨x, h1, h, h2⟩
  · cases h
abbrev ZF2 : Type := AG → LX → LX → (AV → AG → Bool) → Bool
/-- what a rule for an operation on two ints must show -/
def zO2 (F : ZF2) (op : Int32 → Int32 → Int32) : Prop := ∀ (η : List Nat) (ρ : List Int) (G : AG) (a b : LX) (k : AV → AG → Bool) (x y : Int32), F G a b k = true → zaG ρ G → zxr ρ a x.toInt → zxr ρ b y.toInt → zrs η ρ G k (.int (op x y))
def zO2L (F : ZF2) (op : Int64 → Int64 → Int64) : Prop := ∀ (η : List Nat) (ρ : List Int) (G : AG) (a b : LX) (k : AV → AG → Bool) (x y : Int64), F G a b k = true → zaG ρ G → zxr ρ a x.toInt → zxr ρ b y.toInt → zrs η ρ G k (.long (op x y))
def za_add : ZF2 := fun G a b k => zxadd a b (fun e => zexI G e k)
theorem za_add_ok : zO2 za_add (fun x y => x + y) := by
  intro η ρ G a b k x y h hG ha hb
  obtain ⟨e, h1, h2⟩ := zxadd_ok h ha hb
  exact zexI_ok h1 hG h2 (fun q1 q2 => zb_add q1 q2)
def za_sub : ZF2 := fun G a b k => zxsub a b (fun e => zexI G e k)
theorem za_sub_ok : zO2 za_sub (fun x y => x - y) := by
  intro η ρ G a b k x y h hG ha hb
  obtain ⟨e, h1, h2⟩ := zxsub_ok h ha hb
  exact zexI_ok h1 hG h2 (fun q1 q2 => zb_sub q1 q2)
/-- by the numbers where both are known -/
def zkn (op : Int32 → Int32 → Int32) (sp : Int → Int → Int → Int → ZF2) : ZF2 := fun G a b k => zbd G.2.1 a (fun l1 h1 => zbd G.2.1 b (fun l2 h2 => match zeq l1 h1 && zeq l2 h2 with
  | true => zfi (op (Int32.ofInt l1) (Int32.ofInt l2)).toInt (fun r => k (0, (r, [])) G)
  | false => sp l1 h1 l2 h2 G a b k))
theorem zkn_ok {op : Int32 → Int32 → Int32} {sp : Int → Int → Int → Int → ZF2} (hsp : ∀ l1 h1 l2 h2 (η : List Nat) (ρ : List Int) (G : AG) (a b : LX) (k : AV → AG → Bool) (x y : Int32), sp l1 h1 l2 h2 G a b k = true → zaG ρ G → zxr ρ a x.toInt → zxr ρ b y.toInt → l1 ≤ x.toInt → x.toInt ≤ h1 → l2 ≤ y.toInt → y.toInt ≤ h2 → zrs η ρ G k (.int (op x y))) : zO2 (zkn op sp) op := by
  intro η ρ G a b k x y h hG ha hb
  obtain ⟨l1, h1, g1, g2, g3⟩ := zbd_at hG.2.1 h ha
  obtain ⟨l2, h2, g4, g5, g6⟩ := zbd_at hG.2.1 g1 hb
  split at g4
  · rename_i hc
    simp only [Bool.and_eq_true, zeq_iff] at hc
    rw [zfi_eq] at g4
    have ex : x = Int32.ofInt l1 := zb_of (by omega)
    have ey : y = Int32.ofInt l2 := zb_of (by omega)
    refine zrs_id g4 hG ⟨_, rfl, ?_⟩
    rw [ex, ey]
    exact zxr_c ρ _
  · exact hsp _ _ _ _ η ρ G a b k x y g4 hG ha hb g2 g3 g5 g6
/-- a product: with a number, or of what isn't below 0 -/
def za_mul : ZF2 := fun G a b k => zbd G.2.1 a (fun l1 h1 => zbd G.2.1 b (fun l2 h2 => match zeq l1 h1 with
  | true => zxscl l1 b (fun e => zexI G e k)
  | false => (match zeq l2 h2 with
    | true => zxscl l2 a (fun e => zexI G e k)
    | false => (match zle 0 l1 && (zle 0 l2 && zle (h1 * h2) 2147483647) with
      | true => zspI G (l1 * l2) (h1 * h2) k
      | false => ztopI G k))))
theorem za_mul_ok : zO2 za_mul (fun x y => x * y) := by
  intro η ρ G a b k x y h hG ha hb
  obtain ⟨l1, h1, g1, g2, g3⟩ := zbd_at hG.2.1 h ha
  obtain ⟨l2, h2, g4, g5, g6⟩ := zbd_at hG.2.1 g1 hb
  split at g4
  · rename_i hc
    rw [zeq_iff] at hc
    obtain ⟨e, e1, e2⟩ := zxscl_ok g4 hb
    have ex : x.toInt = l1 := by omega
    exact zexI_ok e1 hG e2 (fun q1 q2 => by rw [← ex] at q1 q2 ⊢; exact zb_mul q1 q2)
  · split at g4
    · rename_i hc
      rw [zeq_iff] at hc
      obtain ⟨e, e1, e2⟩ := zxscl_ok g4 ha
      have ey : y.toInt = l2 := by omega
      refine zexI_ok e1 hG e2 (fun q1 q2 => ?_)
      rw [← ey, Int.mul_comm] at q1 q2 ⊢
      exact zb_mul q1 q2
    · split at g4
      · rename_i hz
        simp only [Bool.and_eq_true, zle_iff] at hz
        have b1 : l1 * l2 ≤ x.toInt * y.toInt := Int.mul_le_mul g2 g5 hz.2.1 (by omega)
        have b2 : x.toInt * y.toInt ≤ h1 * h2 := Int.mul_le_mul g3 g6 (by omega) (by omega)
        have b3 : 0 ≤ l1 * l2 := Int.mul_nonneg hz.1 hz.2.1
        have es : (x * y).toInt = x.toInt * y.toInt := zb_mul (by omega) (by omega)
        exact zspI_ok g4 hG (by rw [es]; exact b1) (by rw [es]; exact b2)
      · exact ztopI_ok g4 hG
def zspand (l1 h1 l2 h2 : Int) : ZF2 := fun G _ _ k => match zle 0 l1 && (zle h1 h2 || zle l2 (-1)) with
  | true => zspI G 0 h1 k
  | false => (match zle 0 l2 with
    | true => zspI G 0 h2 k
    | false => ztopI G k)
def za_and0 : ZF2 := zkn (fun x y => x &&& y) zspand
theorem za_and0_ok : zO2 za_and0 (fun x y => x &&& y) := by
  refine zkn_ok ?_
  intro l1 h1 l2 h2 η ρ G a b k x y h hG ha hb g1 g2 g3 g4
  unfold zspand at h
  split at h
  · rename_i hc
    rw [Bool.and_eq_true, zle_iff] at hc
    have h9 := zb_and0 (x := y) (y := x) (by omega)
    rw [zb_andC y x] at h9
    exact zspI_ok h hG h9.1 (by omega)
  · split at h
    · rename_i hc
      rw [zle_iff] at hc
      have h9 := zb_and0 (x := x) (y := y) (by omega)
      exact zspI_ok h hG h9.1 (by omega)
    · exact ztopI_ok h hG
def za_fin (G : AG) (kn : Bool) (k : AV → AG → Bool) (rs : List LX) : Bool := zrec rs (fun e => zbd G.2.1 e (fun lo _ => match zle 0 lo with
  | true => k (0, e) G
  | false => kn))
theorem za_fin_ok {kn : Bool} {rs : List LX} {xs : List Int} {r : Int32} (h : za_fin G kn k rs = true) (hG : zaG ρ G) (hx : zbx ρ rs xs) (hr : r.toInt = zhr xs) : kn = true ∨ zrs η ρ G k (.int r) := by
  obtain ⟨e, e1, e2⟩ := zrec_ok h hx
  obtain ⟨z, lo, hi, g1, g2, -⟩ := zbd_ok hG.2.1 e1
  split at g2
  · exact Or.inr (zrs_id g2 hG ⟨r, rfl, by rw [hr]; exact e2⟩)
  · exact Or.inl g2
def za_and : ZF2 := fun G a b k => match zmany a.2 with
  | true => zbts G.2.1 G.2.2.1 a (za_and0 G a b k) (fun xs => zbts G.2.1 G.2.2.1 b (zxscl (-1) b (fun m => zxshi m (-1) (fun m => zbts G.2.1 G.2.2.1 m (za_and0 G a b k) (fun ys => zbg (zcN1 G.2.1 G.2.2.1) (za_and0 G a b k) xs ys (za_fin G (za_and0 G a b k) k))))) (fun ys => zbg (zcA G.2.1 G.2.2.1) (za_and0 G a b k) xs ys (za_fin G (za_and0 G a b k) k)))
  | false => (match zxeq b (1, []) with
    | true => zbd G.2.1 a (fun lo hi => match zle 0 lo && zle hi 1 with
      | true => k (0, a) G
      | false => zbts G.2.1 G.2.2.1 a (za_and0 G a b k) (fun xs => match xs with
        | x :: _ => k (0, x) G
        | [] => za_and0 G a b k))
    | false => za_and0 G a b k)
theorem za_and_ok : zO2 za_and (fun x y => x &&& y) := by
  intro η ρ G a b k x y h hG ha hb
  have fb : za_and0 G a b k = true → zrs η ρ G k (.int (x &&& y)) := fun q => za_and0_ok η ρ G a b k x y q hG ha hb
  unfold za_and at h
  split at h
  · rcases zbts_ok h hG.2.1 hG.2.2.1 ha with q | ⟨xs, as, h1, h2, h3, h4⟩
    · exact fb q
    · rcases zbts_ok h1 hG.2.1 hG.2.2.1 hb with q | ⟨ys, bs, g1, g2, g3, g4⟩
      · obtain ⟨m, m1, m2⟩ := zxscl_ok q hb
        obtain ⟨m', m3, m4⟩ := zxshi_ok m1 m2
        rcases zbts_ok m3 hG.2.1 hG.2.2.1 m4 with q | ⟨ys, bs, g1, g2, g3, g4⟩
        · exact fb q
        · rcases zbg_ok (zcN1_ok hG.2.1 hG.2.2.1) zg_andn g1 h2 g2 with q | ⟨rs, r1, r2⟩
          · exact fb q
          · rcases za_fin_ok r1 hG r2 (zb_andn9 (x := x) (y := y) (zbx_01 h2) (zbx_01 g2) h3 g3 h4 (by omega)) with q | q
            · exact fb q
            · exact q
      · rcases zbg_ok (zcA_ok hG.2.1 hG.2.2.1) zg_and g1 h2 g2 with q | ⟨rs, r1, r2⟩
        · exact fb q
        · rcases za_fin_ok r1 hG r2 (zb_and9 (zbx_01 h2) (zbx_01 g2) h3 g3 h4 g4) with q | q
          · exact fb q
          · exact q
  · split at h
    · rename_i hb1
      have hb1 := zxeq_ok hb1
      have hy : y.toInt = 1 := by rw [hb1] at hb; exact zxr_fun hb (zxr_c ρ 1)
      obtain ⟨lo, hi, g1, g2, g3⟩ := zbd_at hG.2.1 h ha
      split at g1
      · rename_i hc
        simp only [Bool.and_eq_true, zle_iff] at hc
        exact zrs_id g1 hG ⟨_, rfl, by rw [zb_and1s (by omega) (by omega) hy]; exact ha⟩
      · rcases zbts_ok g1 hG.2.1 hG.2.2.1 ha with q | ⟨xs, as, h1, h2, h3, h4⟩
        · exact fb q
        · split at h1
          · match as, h2, h3, h4 with
            | a0 :: as, h2, h3, h4 =>
              refine zrs_id h1 hG ⟨_, rfl, ?_⟩
              rw [zb_and1 (zbx_01 h2) (by simpa using h3) h4 hy]
              exact h2.1
            | [], h2, _, _ => exact h2.elim
          · exact fb h1
    · exact fb h
/-- the least of the form 2^n - 1 that isn't below h -/
def zmask (h : Int) : Int := match zle h 1 with
  | true => 1
  | false => (match zle h 7 with
    | true => 7
    | false => (match zle h 15 with
      | true => 15
      | false => (match zle h 31 with
        | true => 31
        | false => (match zle h 255 with
          | true => 255
          | false => (match zle h 511 with
            | true => 511
            | false => (match zle h 1023 with
              | true => 1023
              | false => (match zle h 65535 with
                | true => 65535
                | false => 2147483647)))))))
theorem zmask_ok (h : Int) : h ≤ 2147483647 → h ≤ zmask h ∧ ∃ n : Nat, n ≤ 31 ∧ zmask h = 2 ^ n - 1 := by
  intro hh
  unfold zmask
  repeat' split
  all_goals (try simp only [zle_iff] at *)
  · exact ⟨by assumption, 1, by decide, by decide⟩
  · exact ⟨by assumption, 3, by decide, by decide⟩
  · exact ⟨by assumption, 4, by decide, by decide⟩
  · exact ⟨by assumption, 5, by decide, by decide⟩
  · exact ⟨by assumption, 8, by decide, by decide⟩
  · exact ⟨by assumption, 9, by decide, by decide⟩
  · exact ⟨by assumption, 10, by decide, by decide⟩
  · exact ⟨by assumption, 16, by decide, by decide⟩
  · exact ⟨hh, 31, by decide, by decide⟩
theorem zb_or {x y : Int32} {n : Nat} (hn : n ≤ 31) (hx : 0 ≤ x.toInt) (hx2 : x.toInt ≤ 2 ^ n - 1) (hy : 0 ≤ y.toInt) (hy2 : y.toInt ≤ 2 ^ n - 1) : (0 ≤ (x ||| y).toInt ∧ (x ||| y).toInt ≤ 2 ^ n - 1) ∧ (0 ≤ (x ^^^ y).toInt ∧ (x ^^^ y).toInt ≤ 2 ^ n - 1) := by
  obtain ⟨a1, a2⟩ := zb_nn hx
  obtain ⟨b1, b2⟩ := zb_nn hy
  have hp : ((2 ^ n : Nat) : Int) = 2 ^ n := by norm_cast
  have ha : x.toBitVec.toNat < 2 ^ n := by omega
  have hb : y.toBitVec.toNat < 2 ^ n := by omega
  have hle : 2 ^ n ≤ 2 ^ 31 := Nat.pow_le_pow_right (by decide) hn
  constructor
  · have e : (x ||| y).toBitVec.toNat = x.toBitVec.toNat ||| y.toBitVec.toNat := BitVec.toNat_or ..
    have l := Nat.or_lt_two_pow ha hb
    have e2 := zb_nn2 (x := x ||| y) (by omega)
    omega
  · have e : (x ^^^ y).toBitVec.toNat = x.toBitVec.toNat ^^^ y.toBitVec.toNat := BitVec.toNat_xor ..
    have l := Nat.xor_lt_two_pow ha hb
    have e2 := zb_nn2 (x := x ^^^ y) (by omega)
    omega
def zmx2 (a b : Int) : Int := match zle b a with
  | true => a
  | false => b
theorem zb_orle {x y : Int32} (hx : 0 ≤ x.toInt) (hy : 0 ≤ y.toInt) : x.toInt ≤ (x ||| y).toInt ∧ y.toInt ≤ (x ||| y).toInt := by
  obtain ⟨a1, a2⟩ := zb_nn hx
  obtain ⟨b1, b2⟩ := zb_nn hy
  have e : (x ||| y).toBitVec.toNat = x.toBitVec.toNat ||| y.toBitVec.toNat := BitVec.toNat_or ..
  have l := Nat.or_lt_two_pow (n := 31) (x := x.toBitVec.toNat) (y := y.toBitVec.toNat) (by omega) (by omega)
  have e2 := zb_nn2 (x := x ||| y) (by omega)
  have l1 : x.toBitVec.toNat ≤ x.toBitVec.toNat ||| y.toBitVec.toNat := Nat.left_le_or
  have l2 : y.toBitVec.toNat ≤ x.toBitVec.toNat ||| y.toBitVec.toNat := Nat.right_le_or
  omega
theorem zmx2_le {x y : Int32} {l1 l2 : Int} (h1 : l1 ≤ x.toInt) (h2 : l2 ≤ y.toInt) (hx : 0 ≤ x.toInt) (hy : 0 ≤ y.toInt) : zmx2 l1 l2 ≤ (x ||| y).toInt := by
  have := zb_orle hx hy
  unfold zmx2
  split <;> omega
def zspor (l1 h1 l2 h2 : Int) : ZF2 := fun G _ _ k => match zle 0 l1 && (zle 0 l2 && (zle h1 2147483647 && zle h2 2147483647)) with
  | true => (match zle h1 h2 with
    | true => zspI G (zmx2 l1 l2) (zmask h2) k
    | false => zspI G (zmx2 l1 l2) (zmask h1) k)
  | false => ztopI G k
def za_or0 : ZF2 := zkn (fun x y => x ||| y) zspor
theorem za_or0_ok : zO2 za_or0 (fun x y => x ||| y) := by
  refine zkn_ok ?_
  intro l1 h1 l2 h2 η ρ G a b k x y h hG ha hb g1 g2 g3 g4
  unfold zspor at h
  split at h
  · rename_i hc
    simp only [Bool.and_eq_true, zle_iff] at hc
    obtain ⟨c1, c2, c3, c4⟩ := hc
    split at h
    · rename_i hd
      rw [zle_iff] at hd
      obtain ⟨m1, n, m2, m3⟩ := zmask_ok h2 c4
      have := (zb_or (x := x) (y := y) m2 (by omega) (by omega) (by omega) (by omega)).1
      exact zspI_ok h hG (zmx2_le g1 g3 (by omega) (by omega)) (by omega)
    · rename_i hd
      rw [zle_not] at hd
      obtain ⟨m1, n, m2, m3⟩ := zmask_ok h1 c3
      have := (zb_or (x := x) (y := y) m2 (by omega) (by omega) (by omega) (by omega)).1
      exact zspI_ok h hG (zmx2_le g1 g3 (by omega) (by omega)) (by omega)
  · exact ztopI_ok h hG
def za_or : ZF2 := fun G a b k => match zmany a.2 || (zxeq b (0, []) && !(zxeq a (0, []))) with
  | true => zbts G.2.1 G.2.2.1 a (za_or0 G a b k) (fun xs => zbts G.2.1 G.2.2.1 b (za_or0 G a b k) (fun ys => zbg (zcO G.2.1 G.2.2.1) (za_or0 G a b k) xs ys (fun rs => zrec rs (fun e => k (0, e) G))))
  | false => za_or0 G a b k
theorem za_or_ok : zO2 za_or (fun x y => x ||| y) := by
  intro η ρ G a b k x y h hG ha hb
  have fb : za_or0 G a b k = true → zrs η ρ G k (.int (x ||| y)) := fun q => za_or0_ok η ρ G a b k x y q hG ha hb
  unfold za_or at h
  split at h
  · rcases zbts_ok h hG.2.1 hG.2.2.1 ha with q | ⟨xs, as, h1, h2, h3, h4⟩
    · exact fb q
    · rcases zbts_ok h1 hG.2.1 hG.2.2.1 hb with q | ⟨ys, bs, g1, g2, g3, g4⟩
      · exact fb q
      · rcases zbg_ok (zcO_ok hG.2.1) zg_or g1 h2 g2 with q | ⟨rs, r1, r2⟩
        · exact fb q
        · obtain ⟨e, e1, e2⟩ := zrec_ok r1 r2
          exact zrs_id e1 hG ⟨_, rfl, by rw [zb_or9 (zbx_01 h2) (zbx_01 g2) h3 g3 h4 g4]; exact e2⟩
  · exact fb h
/-- with -1: all bits turned -/
def zspxor (l1 h1 l2 h2 : Int) : ZF2 := fun G a _ k => match zeq l2 (-1) && zeq h2 (-1) with
  | true => zxscl (-1) a (fun e => zxshi e (-1) (fun e => zexI G e k))
  | false => (match zle 0 l1 && (zle 0 l2 && (zle h1 2147483647 && zle h2 2147483647)) with
    | true => (match zle h1 h2 with
      | true => zspI G 0 (zmask h2) k
      | false => zspI G 0 (zmask h1) k)
    | false => ztopI G k)
theorem zb_not (x : Int32) : (x ^^^ (Int32.ofInt (-1))).toInt = -x.toInt - 1 := by
  have e : x ^^^ (Int32.ofInt (-1)) = ~~~ x := by
    apply Int32.toBitVec_inj.1
    show x.toBitVec ^^^ (Int32.ofInt (-1)).toBitVec = ~~~ x.toBitVec
    rw [show (Int32.ofInt (-1)).toBitVec = BitVec.allOnes 32 from by decide, BitVec.xor_allOnes]
  rw [e]
  have := Int32.toInt_not x
  have hr := zb_rng x
  rw [this, Int.bmod_eq_of_le (by omega) (by omega)]
def za_xor : ZF2 := zkn (fun x y => x ^^^ y) zspxor
theorem za_xor_ok : zO2 za_xor (fun x y => x ^^^ y) := by
  refine zkn_ok ?_
  intro l1 h1 l2 h2 η ρ G a b k x y h hG ha hb g1 g2 g3 g4
  unfold zspxor at h
  split at h
  · rename_i hc
    simp only [Bool.and_eq_true, zeq_iff] at hc
    have ey : y = Int32.ofInt (-1) := zb_of (by omega)
    obtain ⟨e, e1, e2⟩ := zxscl_ok h ha
    obtain ⟨e', e3, e4⟩ := zxshi_ok e1 e2
    exact zexI_ok e3 hG e4 (fun _ _ => by rw [ey, zb_not]; omega)
  · split at h
    · rename_i hc
      simp only [Bool.and_eq_true, zle_iff] at hc
      obtain ⟨c1, c2, c3, c4⟩ := hc
      split at h
      · rename_i hd
        rw [zle_iff] at hd
        obtain ⟨m1, n, m2, m3⟩ := zmask_ok h2 c4
        have := (zb_or (x := x) (y := y) m2 (by omega) (by omega) (by omega) (by omega)).2
        exact zspI_ok h hG this.1 (by omega)
      · rename_i hd
        rw [zle_not] at hd
        obtain ⟨m1, n, m2, m3⟩ := zmask_ok h1 c3
        have := (zb_or (x := x) (y := y) m2 (by omega) (by omega) (by omega) (by omega)).2
        exact zspI_ok h hG this.1 (by omega)
    · exact ztopI_ok h hG
/-- shifts of what isn't below 0 -/
def zspshl (l1 h1 l2 h2 : Int) : ZF2 := fun G a _ k => match zeq l2 h2 && (zle 0 l2 && zle l2 30) with
  | true => zxscl (2 ^ l2.toNat) a (fun e => zbd G.2.1 e (fun lo hi => match zle 0 l1 && zle hi 2147483647 with
    | true => k (0, e) G
    | false => ztopI G k))
  | false => (match zle 0 l1 && (zle 0 l2 && (zle h2 30 && zle (h1 * 2 ^ h2.toNat) 2147483647)) with
    | true => zspI G (l1 * 2 ^ l2.toNat) (h1 * 2 ^ h2.toNat) k
    | false => ztopI G k)
theorem zb_shl {x y : Int32} (hx : 0 ≤ x.toInt) (h1 : 0 ≤ y.toInt) (h2 : y.toInt ≤ 31) (h3 : x.toInt * 2 ^ y.toInt.toNat ≤ 2147483647) : (x <<< (y &&& 31)).toInt = x.toInt * 2 ^ y.toInt.toNat := by
  obtain ⟨a1, a2⟩ := zb_nn hx
  have e : (x <<< (y &&& 31)).toBitVec = x.toBitVec <<< ((y &&& 31).toBitVec.smod 32) := rfl
  have en : (x <<< (y &&& 31)).toBitVec.toNat = x.toBitVec.toNat * 2 ^ y.toInt.toNat := by
    rw [e, BitVec.shiftLeft_eq', BitVec.toNat_shiftLeft, zb_smod h1 h2, Nat.shiftLeft_eq]
    refine Nat.mod_eq_of_lt ?_
    have h4 : ((x.toBitVec.toNat * 2 ^ y.toInt.toNat : Nat) : Int) = x.toInt * 2 ^ y.toInt.toNat := by rw [a1]; norm_cast
    omega
  have h4 : ((x.toBitVec.toNat * 2 ^ y.toInt.toNat : Nat) : Int) = x.toInt * 2 ^ y.toInt.toNat := by rw [a1]; norm_cast
  rw [zb_nn2 (by rw [en]; omega), en]
  exact h4
theorem zpow_le {a b : Nat} (h : a ≤ b) : (2 : Int) ^ a ≤ 2 ^ b := by
  have := Nat.pow_le_pow_right (n := 2) (by decide) h
  exact_mod_cast this
def za_shl : ZF2 := zkn (fun x y => x <<< (y &&& 31)) zspshl
theorem za_shl_ok : zO2 za_shl (fun x y => x <<< (y &&& 31)) := by
  refine zkn_ok ?_
  intro l1 h1 l2 h2 η ρ G a b k x y h hG ha hb g1 g2 g3 g4
  unfold zspshl at h
  split at h
  · rename_i hc
    simp only [Bool.and_eq_true, zle_iff, zeq_iff] at hc
    have ey : y.toInt = l2 := by omega
    obtain ⟨e, e1, e2⟩ := zxscl_ok h ha
    obtain ⟨lo, hi, e3, e4, e5⟩ := zbd_at hG.2.1 e1 e2
    split at e3
    · rename_i hd
      simp only [Bool.and_eq_true, zle_iff] at hd
      refine zrs_id e3 hG ⟨_, rfl, ?_⟩
      have e6 : (2 : Int) ^ l2.toNat * x.toInt = x.toInt * 2 ^ l2.toNat := Int.mul_comm ..
      rw [zb_shl (by omega) (by omega) (by omega) (by rw [ey]; omega), ey, Int.mul_comm]
      exact e2
    · exact ztopI_ok e3 hG
  · split at h
    · rename_i hc
      simp only [Bool.and_eq_true, zle_iff] at hc
      obtain ⟨c1, c2, c3, c4⟩ := hc
      have p1 : (2 : Int) ^ y.toInt.toNat ≤ 2 ^ h2.toNat := zpow_le (by omega)
      have p2 : (2 : Int) ^ l2.toNat ≤ 2 ^ y.toInt.toNat := zpow_le (by omega)
      have p3 : (0 : Int) ≤ 2 ^ y.toInt.toNat := by have := Int.pow_pos (n := 2) (m := y.toInt.toNat) (by decide); omega
      have p4 : (0 : Int) ≤ 2 ^ l2.toNat := by have := Int.pow_pos (n := 2) (m := l2.toNat) (by decide); omega
      have b2 : x.toInt * 2 ^ y.toInt.toNat ≤ h1 * 2 ^ h2.toNat := Int.mul_le_mul g2 p1 p3 (by omega)
      have b1 : l1 * 2 ^ l2.toNat ≤ x.toInt * 2 ^ y.toInt.toNat := Int.mul_le_mul g1 p2 p4 (by omega)
      have es := zb_shl (x := x) (y := y) (by omega) (by omega) (by omega) (by omega)
      exact zspI_ok h hG (by rw [es]; exact b1) (by rw [es]; exact b2)
    · exact ztopI_ok h hG
def zspshr (l1 h1 _ _ : Int) : ZF2 := fun G _ _ k => match zle 0 l1 with
  | true => zspI G 0 h1 k
  | false => ztopI G k
theorem zb_shr {x y : Int32} (hx : 0 ≤ x.toInt) : 0 ≤ (x >>> (y &&& 31)).toInt ∧ (x >>> (y &&& 31)).toInt ≤ x.toInt := by
  obtain ⟨a1, a2⟩ := zb_nn hx
  have e : (x >>> (y &&& 31)).toBitVec = x.toBitVec.sshiftRight' ((y &&& 31).toBitVec.smod 32) := rfl
  have hm : x.toBitVec.msb = false := by
    rw [BitVec.msb_eq_decide]
    simp only [decide_eq_false_iff_not]
    omega
  have en : (x >>> (y &&& 31)).toBitVec.toNat = x.toBitVec.toNat >>> ((y &&& 31).toBitVec.smod 32).toNat := by
    rw [e, BitVec.sshiftRight', BitVec.sshiftRight_eq_of_msb_false hm, BitVec.toNat_ushiftRight]
  have hle : x.toBitVec.toNat >>> ((y &&& 31).toBitVec.smod 32).toNat ≤ x.toBitVec.toNat := Nat.shiftRight_le ..
  rw [zb_nn2 (by rw [en]; omega), en]
  omega
def za_shr0 : ZF2 := zkn (fun x y => x >>> (y &&& 31)) zspshr
theorem za_shr0_ok : zO2 za_shr0 (fun x y => x >>> (y &&& 31)) := by
  refine zkn_ok ?_
  intro l1 h1 l2 h2 η ρ G a b k x y h hG ha hb g1 g2 g3 g4
  unfold zspshr at h
  split at h
  · rename_i hc
    rw [zle_iff] at hc
    have := zb_shr (x := x) (y := y) (by omega)
    exact zspI_ok h hG this.1 (by omega)
  · exact ztopI_ok h hG
def za_shr : ZF2 := fun G a b k => match zmany a.2 with
  | true => (match b.2 with
    | [] => (match zle 0 b.1 && zle b.1 8 with
      | true => zbts G.2.1 G.2.2.1 a (za_shr0 G a b k) (fun xs => zrec (xs.drop b.1.toNat) (fun e => k (0, e) G))
      | false => za_shr0 G a b k)
    | _ => za_shr0 G a b k)
  | false => za_shr0 G a b k
theorem za_shr_ok : zO2 za_shr (fun x y => x >>> (y &&& 31)) := by
  intro η ρ G a b k x y h hG ha hb
  have fb : za_shr0 G a b k = true → zrs η ρ G k (.int (x >>> (y &&& 31))) := fun q => za_shr0_ok η ρ G a b k x y q hG ha hb
  unfold za_shr at h
  split at h
  · split at h
    · rename_i hb0
      split at h
      · rename_i hc
        simp only [Bool.and_eq_true, zle_iff] at hc
        have hy : y.toInt = b.1 := by
          obtain ⟨z, z1, z2⟩ := hb
          rw [hb0] at z1
          have z1 : z = 0 := z1
          omega
        rcases zbts_ok h hG.2.1 hG.2.2.1 ha with q | ⟨xs, as, h1, h2, h3, h4⟩
        · exact fb q
        · obtain ⟨e, e1, e2⟩ := zrec_ok h1 (zbx_drop b.1.toNat h2)
          refine zrs_id e1 hG ⟨_, rfl, ?_⟩
          rw [zb_shr9 (zbx_01 h2) h3 h4 (by omega) (by omega), hy]
          exact e2
      · exact fb h
    · exact fb h
  · exact fb h
def zsptop (_ _ _ _ : Int) : ZF2 := fun G _ _ k => ztopI G k
theorem zsptop_ok (op : Int32 → Int32 → Int32) : zO2 (zkn op zsptop) op := zkn_ok (fun _ _ _ _ _ _ _ _ _ _ _ _ h hG _ _ _ _ _ _ => ztopI_ok h hG)
/-- a remainder by what is above 0 -/
def zsprem (l1 _ l2 h2 : Int) : ZF2 := fun G _ _ k => match zle 1 l2 with
  | true => (match zle 0 l1 with
    | true => zspI G 0 (h2 - 1) k
    | false => zspI G (1 - h2) (h2 - 1) k)
  | false => ztopI G k
theorem zb_rem {x y : Int32} (hy : 0 < y.toInt) : (x - x / y * y).toInt = x.toInt.tmod y.toInt := by
  have hx := zb_rng x
  have hy2 := zb_rng y
  have e1 : (x / y).toInt = x.toInt.tdiv y.toInt := by
    rw [Int32.toInt_div]
    have h1 : (x.toInt.tdiv y.toInt).natAbs ≤ x.toInt.natAbs := Int.natAbs_tdiv_le_natAbs ..
    refine Int.bmod_eq_of_le ?_ ?_
    · have := Int.tdiv_nonneg (a := -x.toInt) (b := y.toInt)
      rcases Int.lt_or_le x.toInt 0 with h | h
      · have h2 : 0 ≤ (-x.toInt).tdiv y.toInt := Int.tdiv_nonneg (by omega) (by omega)
        rw [Int.neg_tdiv] at h2
        omega
      · have h2 : 0 ≤ x.toInt.tdiv y.toInt := Int.tdiv_nonneg h (by omega)
        omega
    · rcases Int.lt_or_le x.toInt 0 with h | h
      · have h2 : 0 ≤ (-x.toInt).tdiv y.toInt := Int.tdiv_nonneg (by omega) (by omega)
        rw [Int.neg_tdiv] at h2
        omega
      · have h2 : 0 ≤ x.toInt.tdiv y.toInt := Int.tdiv_nonneg h (by omega)
        omega
  have e2 : x.toInt = y.toInt * x.toInt.tdiv y.toInt + x.toInt.tmod y.toInt := (Int.mul_tdiv_add_tmod x.toInt y.toInt).symm
  have e3 : (x.toInt.tmod y.toInt).natAbs < y.toInt.natAbs := by
    rw [Int.natAbs_tmod]
    exact Nat.mod_lt _ (by omega)
  rw [Int32.toInt_sub, Int32.toInt_mul, e1]
  have e4 : (x.toInt.tdiv y.toInt * y.toInt) = x.toInt - x.toInt.tmod y.toInt := by rw [Int.mul_comm]; omega
  rw [e4]
  rw [show x.toInt - (x.toInt - x.toInt.tmod y.toInt).bmod (2 ^ 32) = x.toInt + -((x.toInt - x.toInt.tmod y.toInt).bmod (2 ^ 32)) by omega]
  have e5 : (x.toInt - (x.toInt - x.toInt.tmod y.toInt).bmod (2 ^ 32)).bmod (2 ^ 32) = (x.toInt - (x.toInt - x.toInt.tmod y.toInt)).bmod (2 ^ 32) := by simp
  rw [← Int.sub_eq_add_neg, e5]
  rw [show x.toInt - (x.toInt - x.toInt.tmod y.toInt) = x.toInt.tmod y.toInt by omega]
  exact Int.bmod_eq_of_le (by omega) (by omega)
def za_rem : ZF2 := zkn (fun x y => x - x / y * y) zsprem
theorem za_rem_ok : zO2 za_rem (fun x y => x - x / y * y) := by
  refine zkn_ok ?_
  intro l1 h1 l2 h2 η ρ G a b k x y h hG ha hb g1 g2 g3 g4
  unfold zsprem at h
  split at h
  · rename_i hc
    rw [zle_iff] at hc
    have es := zb_rem (x := x) (y := y) (by omega)
    have e3 : (x.toInt.tmod y.toInt).natAbs < y.toInt.natAbs := by
      rw [Int.natAbs_tmod]
      exact Nat.mod_lt _ (by omega)
    split at h
    · rename_i hd
      rw [zle_iff] at hd
      have e4 : 0 ≤ x.toInt.tmod y.toInt := Int.tmod_nonneg _ (by omega)
      exact zspI_ok h hG (by rw [es]; exact e4) (by rw [es]; omega)
    · exact zspI_ok h hG (by rw [es]; omega) (by rw [es]; omega)
  · exact ztopI_ok h hG
-- longs
def zl_add : ZF2 := fun G a b k => zxadd a b (fun e => zexL G e k)
theorem zl_add_ok : zO2L zl_add (fun x y => x + y) := by
  intro η ρ G a b k x y h hG ha hb
  obtain ⟨e, h1, h2⟩ := zxadd_ok h ha hb
  exact zexL_ok h1 hG h2 (fun q1 q2 => by rw [Int64.toInt_add, Int.bmod_eq_of_le (by omega) (by omega)])
def zl_sub : ZF2 := fun G a b k => zxsub a b (fun e => zexL G e k)
theorem zl_sub_ok : zO2L zl_sub (fun x y => x - y) := by
  intro η ρ G a b k x y h hG ha hb
  obtain ⟨e, h1, h2⟩ := zxsub_ok h ha hb
  exact zexL_ok h1 hG h2 (fun q1 q2 => by rw [Int64.toInt_sub, Int.bmod_eq_of_le (by omega) (by omega)])
def zl_mul : ZF2 := fun G a b k => zbd G.2.1 a (fun l1 h1 => zbd G.2.1 b (fun l2 h2 => match zeq l1 h1 with
  | true => zxscl l1 b (fun e => zexL G e k)
  | false => (match zeq l2 h2 with
    | true => zxscl l2 a (fun e => zexL G e k)
    | false => ztopL G k)))
theorem zl_mul_ok : zO2L zl_mul (fun x y => x * y) := by
  intro η ρ G a b k x y h hG ha hb
  obtain ⟨l1, h1, g1, g2, g3⟩ := zbd_at hG.2.1 h ha
  obtain ⟨l2, h2, g4, g5, g6⟩ := zbd_at hG.2.1 g1 hb
  split at g4
  · rename_i hc
    rw [zeq_iff] at hc
    obtain ⟨e, e1, e2⟩ := zxscl_ok g4 hb
    have ex : x.toInt = l1 := by omega
    exact zexL_ok e1 hG e2 (fun q1 q2 => by rw [← ex] at q1 q2 ⊢; rw [Int64.toInt_mul, Int.bmod_eq_of_le (by omega) (by omega)])
  · split at g4
    · rename_i hc
      rw [zeq_iff] at hc
      obtain ⟨e, e1, e2⟩ := zxscl_ok g4 ha
      have ey : y.toInt = l2 := by omega
      refine zexL_ok e1 hG e2 (fun q1 q2 => ?_)
      rw [← ey, Int.mul_comm] at q1 q2 ⊢
      rw [Int64.toInt_mul, Int.bmod_eq_of_le (by omega) (by omega)]
    · exact ztopL_ok g4 hG
def zl_and : ZF2 := fun G a b k => zbd G.2.1 a (fun l1 h1 => zbd G.2.1 b (fun l2 h2 => match zle 0 l2 with
  | true => zspL G 0 h2 k
  | false => ztopL G k))
theorem zl_and_ok : zO2L zl_and (fun x y => x &&& y) := by
  intro η ρ G a b k x y h hG ha hb
  obtain ⟨l1, h1, g1, g2, g3⟩ := zbd_at hG.2.1 h ha
  obtain ⟨l2, h2, g4, g5, g6⟩ := zbd_at hG.2.1 g1 hb
  split at g4
  · rename_i hc
    rw [zle_iff] at hc
    have h9 := zb_and0L (x := x) (y := y) (by omega)
    exact zspL_ok g4 hG h9.1 (Int.le_trans h9.2 g6)
  · exact ztopL_ok g4 hG
def zl_top : ZF2 := fun G _ _ k => ztopL G k
theorem zl_top_ok (op : Int64 → Int64 → Int64) : zO2L zl_top op := fun _ _ _ _ _ _ _ _ h hG _ _ => ztopL_ok h hG
def zmem (e : LX) : List LX → Bool
  | [] => false
  | f :: N => zxeq e f || zmem e N
theorem zmem_ok {e : LX} : ∀ {N : List LX}, zmem e N = true → e ∈ N
  | [], h => by simp [zmem] at h
  | f :: N, h => by
    simp only [zmem, Bool.or_eq_true] at h
    rcases h with h | h
    · rw [zxeq_ok h]; exact List.mem_cons_self
    · exact List.mem_cons_of_mem _ (zmem_ok h)
def znz (G : AG) (e : LX) : Bool := zbd G.2.1 e (fun lo hi => zle 1 lo || zle hi (-1)) || (zmem e G.2.2.2.1 || (zxscl (-1) e (fun m => zmem m G.2.2.2.1) || zxshi e (-1) (fun m => zprv G.2.1 G.2.2.1 m)))
theorem znz_ok {e : LX} {x : Int} (h : znz G e = true) (hG : zaG ρ G) (hx : zxr ρ e x) : x ≠ 0 := by
  unfold znz at h
  simp only [Bool.or_eq_true] at h
  rcases h with h | h | h | h
  · obtain ⟨lo, hi, h1, h2, h3⟩ := zbd_at hG.2.1 h hx
    simp only [Bool.or_eq_true, zle_iff] at h1
    omega
  · obtain ⟨z, h1, h2⟩ := hG.2.2.2 _ (zmem_ok h)
    rw [zxr_fun hx h1]; exact h2
  · obtain ⟨m, h1, h2⟩ := zxscl_ok h hx
    obtain ⟨z, h3, h4⟩ := hG.2.2.2 _ (zmem_ok h1)
    have := zxr_fun h2 h3
    omega
  · obtain ⟨m, h1, h2⟩ := zxshi_ok h hx
    have := zprv_ok hG.2.1 h1 hG.2.2.1 h2
    omega
end ZAR
