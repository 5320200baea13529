/-! feed on both sides: the same bytes -/
def zDF : List zDe := [.inl (11, [2, 0, 3, 4, 5, 6, 7, 8, 9, 10, 0], 11), .inr (2, 600)]
section ZFD
variable {Lx : Nat} {xs : Nat → Int32} {n k : Nat} {pc : Nat} {L : zL} {st : List Value} {hp : List zhE} {c s : Nat} {Q : ZP} {e : Nat → Nat}
theorem zp_astB {C : List zhE} {p0 a b j m : Nat} {v : Int} {f : Nat → Int32} {x y : Int32} (he : zeI e hp C.length) (h : zatp k pc = some (p0, .bastore, a, b, v)) (hc : C[j]? = some (.inl (2, m, .inl f))) (hn : 0 ≤ x.toInt → x.toInt < m → zPn Lx xs n k (pc + 1, L, st, zHe e 0 (C.set j (.inl (2, m, .inl (va_up f x.toNatClampNeg y.toInt8.toInt32)))) hp, c, s) Q) : zPn Lx xs n k (pc, L, .int y :: .int x :: .ref (e j) :: st, zHe e 0 C hp, c, s) Q := by
  refine zp0g h rfl fun z' hz => ?_
  have hz : (match zbt (.int y :: .int x :: .ref (e j) :: st) (zHe e 0 C hp) 1 with | 2 => zasI pc L (.int y :: .int x :: .ref (e j) :: st) (zHe e 0 C hp) c s 2 (fun x => x.toInt8.toInt32) | 3 => zasZ pc L (.int y :: .int x :: .ref (e j) :: st) (zHe e 0 C hp) c s | _ => none) = some z' := hz
  have hb : zbt (.int y :: .int x :: .ref (e j) :: st) (zHe e 0 C hp) 1 = 2 := by
    unfold zbt
    simp only [List.drop_succ_cons, List.drop_zero, zHe_get he hc]
  rw [hb] at hz
  have hz : zasI pc L (.int y :: .int x :: .ref (e j) :: st) (zHe e 0 C hp) c s 2 (fun x => x.toInt8.toInt32) = some z' := hz
  unfold zasI at hz
  simp only [zHe_get he hc, Nat.beq_refl, Bool.true_and] at hz
  split at hz
  · rename_i hg
    cases hz
    rw [zHe_set he (List.getElem?_eq_some_iff.mp hc).1]
    exact hn (zzin hg).1 (zzin hg).2
  · cases hz
theorem zy_bst {D : List zDe} {S : Nat → Nat → Int32} {p0 a b j m : Nat} {v : Int} {x y : Int32} (he : zeI e hp D.length) (h : zatp k pc = some (p0, .bastore, a, b, v)) (hD : D[j]? = some (.inr (2, m))) (hn : 0 ≤ x.toInt → x.toInt < m → zPn Lx xs n k (pc + 1, L, st, zHS e D (zuS S j x.toNatClampNeg y.toInt8.toInt32) hp, c, s) Q) : zPn Lx xs n k (pc, L, .int y :: .int x :: .ref (e j) :: st, zHS e D S hp, c, s) Q := by
  have hc : (zCs e S 0 D)[j]? = some (.inl (2, m, .inl (S j))) := by
    have := zCs_get (e := e) (S := S) (i := 0) hD
    rwa [Nat.zero_add] at this
  refine zp_astB (by rw [zCs_len]; exact he) h hc fun h1 h2 => ?_
  rw [zCs_set (S' := zuS S j x.toNatClampNeg y.toInt8.toInt32) (i := 0) hD (by rw [Nat.zero_add, zuS_self]; rfl) (fun q hq => zuS_ne (by omega))]
  exact hn h1 h2
theorem zby255 (x : Int32) : x.toInt8.toInt32.toInt8.toInt32 &&& Int32.ofInt 255 = x &&& Int32.ofInt 255 := by
  apply Int32.toBitVec_inj.mp
  apply BitVec.eq_of_getLsbD_eq
  intro i hi
  have hx : x.toInt8.toInt32.toInt8.toInt32.toBitVec = ((((x.toBitVec).signExtend 8).signExtend 32).signExtend 8).signExtend 32 := rfl
  have e : (Int32.ofInt 255).toBitVec = BitVec.ofNat 32 255 := by decide
  rw [Int32.toBitVec_and, Int32.toBitVec_and, hx, e, BitVec.getLsbD_and, BitVec.getLsbD_and]
  by_cases h8 : i < 8
  · congr 1
    simp only [BitVec.getLsbD_signExtend, hi, h8, decide_true, Bool.true_and, if_true]
  · have h0 : (BitVec.ofNat 32 255).getLsbD i = false := by
      rw [BitVec.getLsbD_ofNat]
      have : Nat.testBit 255 i = false := Nat.testBit_lt_two_pow (by
        have : 2 ^ 8 ≤ 2 ^ i := Nat.pow_le_pow_right (by decide) (by omega)
        omega)
      rw [this, Bool.and_false]
    rw [h0, Bool.and_false, Bool.and_false]
def zby (x : Int32) (s : Int) : Int32 := (x >>> (Int32.ofInt s &&& 31)).toInt8.toInt32.toInt8.toInt32
theorem zc_four1 (he : zeI e hp zDF.length) {C : Nat → Nat → Int32} {t : Nat} {x : Int32} {s0 : Int} (hC : C 0 1 = Int32.ofInt (t : Int)) (ht : t < 600) (h0 : 0 ≤ s0) (h1 : s0 ≤ 24) (hn : ∀ c s, zPn Lx xs n 120 (3, [(2, .int (Int32.ofInt (s0 - 8))), (0, .ref (e 0)), (1, .int x)], [], zHS e zDF (zuS (zuS C 1 t (zby x s0)) 0 1 (Int32.ofInt ((t + 1 : Nat) : Int))) hp, c, s) Q) : zPn Lx xs n 120 (3, [(2, .int (Int32.ofInt s0)), (0, .ref (e 0)), (1, .int x)], [], zHS e zDF C hp, c, s) Q := by
  have ys : (Int32.ofInt s0).toInt = s0 := zRt ⟨by omega, by omega⟩
  have yt : (C 0 1).toInt = t := by rw [hC]; exact zof_ix (by omega)
  have ct : (C 0 1).toNatClampNeg = t := by rw [hC]; exact zof_cl (by omega)
  have k6 : (Int32.ofInt 600).toInt = 600 := by decide
  have e8 : Int32.ofInt s0 + Int32.ofInt (-8) = Int32.ofInt (s0 - 8) := by
    rw [← Int32.ofInt_add]
    congr 1
  refine zp0 (by rfl) rfl rfl ?_
  refine zy_if (by rfl) (by rfl) (fun h1 => ?_) (fun h1 => ?_)
  · refine zp_retV (by rfl) ?_
    exfalso
    simp only [zcf, ys] at h1
    omega
  · refine zp0 (by rfl) rfl rfl ?_
    refine zy_get (b := 1) he (by rfl) (by rfl) (by rfl) (by rfl) ?_
    refine zq_sip (by rfl) (by decide) ?_
    refine zy_icmpC (by rfl) (by rfl) ⟨by decide, by decide⟩ (fun h2 => ?_) (fun h2 => ?_)
    · exfalso
      simp only [zcf, yt, k6] at h2
      omega
    · refine zp0 (by rfl) rfl rfl ?_
      refine zy_ref (r := 1) he (by rfl) (by rfl) (by rfl) (by rfl) ?_
      refine zp0 (by rfl) rfl rfl ?_
      refine zy_get (b := 1) he (by rfl) (by rfl) (by rfl) (by rfl) ?_
      iterate 4 refine zp0 (by rfl) rfl rfl ?_
      refine zy_bst he (by rfl) (by rfl) (fun u3 w3 => ?_)
      iterate 2 refine zp0 (by rfl) rfl rfl ?_
      refine zy_get (b := 1) he (by rfl) (by rfl) (by rfl) (by rfl) ?_
      iterate 2 refine zp0 (by rfl) rfl rfl ?_
      refine zy_put (b := 1) he (by rfl) (by rfl) (by rfl) ?_
      have hU : zuS (zuS C 1 (C 0 1).toNatClampNeg (zby x s0)) 0 1 (C 0 1 + Int32.ofInt 1) = zuS (zuS C 1 t (zby x s0)) 0 1 (Int32.ofInt ((t + 1 : Nat) : Int)) := by rw [ct, hC, zof_up]
      iterate 2 refine zp0 (by rfl) rfl rfl ?_
      show zPn Lx xs n 120 (3, [(2, .int (Int32.ofInt s0 + Int32.ofInt (-8))), (0, .ref (e 0)), (1, .int x)], [], zHS e zDF (zuS (zuS C 1 (C 0 1).toNatClampNeg (zby x s0)) 0 1 (C 0 1 + Int32.ofInt 1)) hp, _, _) Q
      rw [e8, hU]
      exact hn _ _
/-- four bytes more -/
def zFo (t : Nat) (x : Int32) (C C' : Nat → Nat → Int32) : Prop := (∀ q, q < t ∨ t + 4 ≤ q → C' 1 q = C 1 q) ∧ (∀ j : Nat, j < 4 → C' 1 (t + j) &&& Int32.ofInt 255 = (x >>> (Int32.ofInt (24 - 8 * (j : Int)) &&& 31)) &&& Int32.ofInt 255) ∧ C' 0 1 = Int32.ofInt ((t + 4 : Nat) : Int) ∧ ∀ f, f ≠ 1 → C' 0 f = C 0 f
theorem zc_four (he : zeI e hp zDF.length) {C : Nat → Nat → Int32} {t : Nat} {x : Int32} (hC : C 0 1 = Int32.ofInt (t : Int)) (ht : t + 4 ≤ 600) : zPn Lx xs n 120 (0, lv_args 0 [.ref (e 0), .int x], [], zHS e zDF C hp, 0, 0) (fun rv hp1 => rv = none ∧ ∃ C', hp1 = zHS e zDF C' hp ∧ zFo t x C C') := by
  refine zq_bip (by rfl) (by decide) ?_
  refine zp0 (by rfl) rfl rfl ?_
  refine zc_four1 he hC (by omega) (by decide) (by decide) (fun c s => ?_)
  refine zc_four1 he (t := t + 1) zuS_at (by omega) (by decide) (by decide) (fun c s => ?_)
  refine zc_four1 he (t := t + 1 + 1) zuS_at (by omega) (by decide) (by decide) (fun c s => ?_)
  refine zc_four1 he (t := t + 1 + 1 + 1) zuS_at (by omega) (by decide) (by decide) (fun c s => ?_)
  refine zp0 (by rfl) rfl rfl ?_
  refine zy_if (by rfl) (by rfl) (fun h1 => ?_) (fun h1 => ?_)
  · refine zp_retV (by rfl) ?_
    refine ⟨rfl, _, rfl, fun q hq => ?_, fun j hj => ?_, zuS_at, fun f hf => ?_⟩
    · rw [zuS_ne (by decide), zuS_off (Or.inr (by omega)), zuS_ne (by decide), zuS_off (Or.inr (by omega)), zuS_ne (by decide), zuS_off (Or.inr (by omega)), zuS_ne (by decide), zuS_off (Or.inr (by omega))]
    · have hj : j = 0 ∨ j = 1 ∨ j = 2 ∨ j = 3 := by omega
      rcases hj with rfl | rfl | rfl | rfl
      · rw [zuS_ne (by decide), zuS_off (Or.inr (by omega)), zuS_ne (by decide), zuS_off (Or.inr (by omega)), zuS_ne (by decide), zuS_off (Or.inr (by omega)), zuS_ne (by decide), Nat.add_zero, zuS_at]
        exact zby255 _
      · rw [zuS_ne (by decide), zuS_off (Or.inr (by omega)), zuS_ne (by decide), zuS_off (Or.inr (by omega)), zuS_ne (by decide), zuS_at]
        exact zby255 _
      · rw [zuS_ne (by decide), zuS_off (Or.inr (by omega)), zuS_ne (by decide), zuS_at]
        exact zby255 _
      · rw [zuS_ne (by decide), zuS_at]
        exact zby255 _
    · rw [zuS_off (Or.inr hf), zuS_ne (by decide), zuS_off (Or.inr hf), zuS_ne (by decide), zuS_off (Or.inr hf), zuS_ne (by decide), zuS_off (Or.inr hf), zuS_ne (by decide)]
  · exfalso
    exact h1 (show (Int32.ofInt (24 - 8 - 8 - 8 - 8)).toInt < 0 by decide)
def zfw (a b c d f : Int32) (k : Nat) : Int32 := if k < 4 then a else if k < 8 then b else if k < 12 then c else if k < 16 then d else f
def zfd (a b c d f : Int32) (k : Nat) : Int32 := (zfw a b c d f k >>> (Int32.ofInt (24 - 8 * ((k % 4 : Nat) : Int)) &&& 31)) &&& Int32.ofInt 255
theorem zc_feed (he : zeI e hp zDF.length) {C : Nat → Nat → Int32} {t : Nat} {a b c d f : Int32} (hC : C 0 1 = Int32.ofInt (t : Int)) (ht : t ≤ 600) : zPn Lx xs n 119 (0, lv_args 0 [.ref (e 0), .int a, .int b, .int c, .int d, .int f], [], zHS e zDF C hp, 0, 0) (fun rv hp1 => ∃ C', hp1 = zHS e zDF C' hp ∧ ((580 < t ∧ rv = some (.int (Int32.ofInt (-1))) ∧ C' = C) ∨ (t ≤ 580 ∧ rv = some (.int (Int32.ofInt ((t + 20 : Nat) : Int))) ∧ C' 0 1 = Int32.ofInt ((t + 20 : Nat) : Int) ∧ (∀ g, g ≠ 1 → C' 0 g = C 0 g) ∧ (∀ q, q < t → C' 1 q = C 1 q) ∧ ∀ k : Nat, k < 20 → C' 1 (t + k) &&& Int32.ofInt 255 = zfd a b c d f k))) := by
  have yt : (C 0 1).toInt = t := by rw [hC]; exact zof_ix (by omega)
  have k5 : (Int32.ofInt 580).toInt = 580 := by decide
  refine zp0 (by rfl) rfl rfl ?_
  refine zy_get (b := 1) he (by rfl) (by rfl) (by rfl) (by rfl) ?_
  refine zq_sip (by rfl) (by decide) ?_
  refine zy_icmpC (by rfl) (by rfl) ⟨by decide, by decide⟩ (fun h1 => ?_) (fun h1 => ?_)
  · iterate 2 refine zp0 (by rfl) rfl rfl ?_
    have ht2 : t ≤ 580 := by
      simp only [zcf, yt, k5] at h1
      omega
    refine zy_v1 (by rfl) (zc_four he (t := t + 0) (C := C) hC (by omega)) ?_
    intro rv hp1 hq
    obtain ⟨q1, C1, q2, u1⟩ := hq
    rw [q1, q2]
    iterate 2 refine zp0 (by rfl) rfl rfl ?_
    refine zy_v1 (by rfl) (zc_four he (t := t + 4) (C := C1) u1.2.2.1 (by omega)) ?_
    intro rv hp1 hq
    obtain ⟨q1, C2, q2, u2⟩ := hq
    rw [q1, q2]
    iterate 2 refine zp0 (by rfl) rfl rfl ?_
    refine zy_v1 (by rfl) (zc_four he (t := t + 8) (C := C2) u2.2.2.1 (by omega)) ?_
    intro rv hp1 hq
    obtain ⟨q1, C3, q2, u3⟩ := hq
    rw [q1, q2]
    iterate 2 refine zp0 (by rfl) rfl rfl ?_
    refine zy_v1 (by rfl) (zc_four he (t := t + 12) (C := C3) u3.2.2.1 (by omega)) ?_
    intro rv hp1 hq
    obtain ⟨q1, C4, q2, u4⟩ := hq
    rw [q1, q2]
    iterate 2 refine zp0 (by rfl) rfl rfl ?_
    refine zy_v1 (by rfl) (zc_four he (t := t + 16) (C := C4) u4.2.2.1 (by omega)) ?_
    intro rv hp1 hq
    obtain ⟨q1, C5, q2, u5⟩ := hq
    rw [q1, q2]
    refine zp0 (by rfl) rfl rfl ?_
    refine zy_get (b := 1) he (by rfl) (by rfl) (by rfl) (by rfl) ?_
    refine zp_retI (by rfl) ?_
    refine ⟨C5, rfl, Or.inr ⟨ht2, ?_, u5.2.2.1, fun g hg => ?_, fun q hq => ?_, fun k hk => ?_⟩⟩
    · rw [u5.2.2.1]
    · rw [u5.2.2.2 g hg, u4.2.2.2 g hg, u3.2.2.2 g hg, u2.2.2.2 g hg, u1.2.2.2 g hg]
    · rw [u5.1 q (by omega), u4.1 q (by omega), u3.1 q (by omega), u2.1 q (by omega), u1.1 q (by omega)]
    · unfold zfd zfw
      by_cases k4 : k < 4
      · rw [if_pos k4, u5.1 (t + k) (by omega), u4.1 (t + k) (by omega), u3.1 (t + k) (by omega), u2.1 (t + k) (by omega), show k % 4 = k by omega]
        exact u1.2.1 k k4
      rw [if_neg k4]
      by_cases k8 : k < 8
      · rw [if_pos k8, u5.1 (t + k) (by omega), u4.1 (t + k) (by omega), u3.1 (t + k) (by omega), show k % 4 = k - 4 by omega, show t + k = t + 4 + (k - 4) by omega]
        exact u2.2.1 (k - 4) (by omega)
      rw [if_neg k8]
      by_cases k12 : k < 12
      · rw [if_pos k12, u5.1 (t + k) (by omega), u4.1 (t + k) (by omega), show k % 4 = k - 8 by omega, show t + k = t + 8 + (k - 8) by omega]
        exact u3.2.1 (k - 8) (by omega)
      rw [if_neg k12]
      by_cases k16 : k < 16
      · rw [if_pos k16, u5.1 (t + k) (by omega), show k % 4 = k - 12 by omega, show t + k = t + 12 + (k - 12) by omega]
        exact u4.2.1 (k - 12) (by omega)
      rw [if_neg k16, show k % 4 = k - 16 by omega, show t + k = t + 16 + (k - 16) by omega]
      exact u5.2.1 (k - 16) (by omega)
  · refine zp0 (by rfl) rfl rfl ?_
    refine zp_retI (by rfl) ?_
    simp only [zcf, yt, k5] at h1
    exact ⟨C, rfl, Or.inl ⟨by omega, rfl, rfl⟩⟩
theorem zfs20 : ∀ k : Nat, k < 20 → (Int32.ofInt 24 - Int32.ofInt 8 * (Int32.ofInt (k : Int) - Int32.ofInt (k : Int) / Int32.ofInt 4 * Int32.ofInt 4)) = Int32.ofInt (24 - 8 * ((k % 4 : Nat) : Int)) := by decide +kernel
theorem zt_feedA (he : zeI e hp zDM.length) {t : Nat} {a b c d f : Int32} (ht : t + 20 ≤ 600) : ∀ (j k7 : Nat) (S : Nat → Nat → Int32) (v7 : Int32) (c0 s : Nat), j + k7 = 20 → S 0 1 = Int32.ofInt (t : Int) → zPn Lx xs n 159 (23, [(6, .int (Int32.ofInt (k7 : Int))), (7, .int v7), (0, .ref (e 0)), (1, .int a), (2, .int b), (3, .int c), (4, .int d), (5, .int f)], [], zHS e zDM S hp, c0, s) (fun rv hp1 => ∃ S', hp1 = zHS e zDM S' hp ∧ rv = some (.int (Int32.ofInt ((t + 20 : Nat) : Int))) ∧ S' 0 1 = Int32.ofInt ((t + 20 : Nat) : Int) ∧ (∀ q, q < t + k7 → S' 1 q = S 1 q) ∧ (∀ q, k7 ≤ q → q < 20 → S' 1 (t + q) = zfd a b c d f q) ∧ S' 2 = S 2) := by
  have e20 : Int32.ofInt (t : Int) + Int32.ofInt 20 = Int32.ofInt ((t + 20 : Nat) : Int) := by
    rw [← Int32.ofInt_add]
    congr 1
  intro j
  induction j with
  | zero =>
    intro k7 S v7 c0 s hj hS
    have yk : (Int32.ofInt (k7 : Int)).toInt = k7 := zof_ix (by omega)
    have ek : k7 = 20 := by omega
    refine zp0 (by rfl) rfl rfl ?_
    refine zq_bip (by rfl) (by decide) ?_
    refine zy_icmpC (by rfl) (by rfl) ⟨by decide, by decide⟩ (fun h1 => ?_) (fun h1 => ?_)
    · iterate 2 refine zp0 (by rfl) rfl rfl ?_
      refine zy_get (b := 1) he (by rfl) (by rfl) (by rfl) (by rfl) ?_
      refine zq_bip (by rfl) (by decide) ?_
      refine zp0 (by rfl) rfl rfl ?_
      refine zy_put (b := 1) he (by rfl) (by rfl) (by rfl) ?_
      refine zp0 (by rfl) rfl rfl ?_
      refine zy_get (b := 1) he (by rfl) (by rfl) (by rfl) (by rfl) ?_
      refine zp_retI (by rfl) ?_
      have hU : S 0 1 + Int32.ofInt 20 = Int32.ofInt ((t + 20 : Nat) : Int) := by rw [hS, e20]
      refine ⟨zuS S 0 1 (S 0 1 + Int32.ofInt 20), rfl, ?_, ?_, fun q _ => by rw [zuS_ne (by decide)], fun q h1 h2 => by omega, zuS_ne (by decide)⟩
      · rw [← hU]
        rfl
      · rw [zuS_at, hU]
    · exfalso
      simp only [zcf, yk] at h1
      omega
  | succ j ih =>
    intro k7 S v7 c0 s hj hS
    have yk : (Int32.ofInt (k7 : Int)).toInt = k7 := zof_ix (by omega)
    have cix : (S 0 1 + Int32.ofInt (k7 : Int)).toNatClampNeg = t + k7 := by
      rw [hS, ← Int32.ofInt_add, show (t : Int) + (k7 : Int) = ((t + k7 : Nat) : Int) by omega]
      exact zof_cl (by omega)
    have hsh := zfs20 k7 (by omega)
    have hback : ∀ (x : Int32) (c0 s : Nat), x = zfw a b c d f k7 → zPn Lx xs n 159 (78, [(7, .int x), (6, .int (Int32.ofInt (k7 : Int))), (0, .ref (e 0)), (1, .int a), (2, .int b), (3, .int c), (4, .int d), (5, .int f)], [], zHS e zDM S hp, c0, s) (fun rv hp1 => ∃ S', hp1 = zHS e zDM S' hp ∧ rv = some (.int (Int32.ofInt ((t + 20 : Nat) : Int))) ∧ S' 0 1 = Int32.ofInt ((t + 20 : Nat) : Int) ∧ (∀ q, q < t + k7 → S' 1 q = S 1 q) ∧ (∀ q, k7 ≤ q → q < 20 → S' 1 (t + q) = zfd a b c d f q) ∧ S' 2 = S 2) := by
      intro x c0 s hx
      refine zp0 (by rfl) rfl rfl ?_
      refine zy_ref (r := 1) he (by rfl) (by rfl) (by rfl) (by rfl) ?_
      refine zp0 (by rfl) rfl rfl ?_
      refine zy_get (b := 1) he (by rfl) (by rfl) (by rfl) (by rfl) ?_
      iterate 3 refine zp0 (by rfl) rfl rfl ?_
      refine zq_bip (by rfl) (by decide) ?_
      refine zq_bip (by rfl) (by decide) ?_
      iterate 6 refine zp0 (by rfl) rfl rfl ?_
      refine zq_sip (by rfl) (by decide) ?_
      refine zp0 (by rfl) rfl rfl ?_
      refine zy_ast he (by rfl) (by rfl) (fun u1 w1 => ?_)
      have hU : zuS S 1 (S 0 1 + Int32.ofInt (k7 : Int)).toNatClampNeg ((x >>> ((Int32.ofInt 24 - Int32.ofInt 8 * (Int32.ofInt (k7 : Int) - Int32.ofInt (k7 : Int) / Int32.ofInt 4 * Int32.ofInt 4)) &&& 31)) &&& Int32.ofInt 255) = zuS S 1 (t + k7) (zfd a b c d f k7) := by
        rw [cix, hsh, hx]
        rfl
      iterate 2 refine zp0 (by rfl) rfl rfl ?_
      show zPn Lx xs n 159 (23, [(6, .int (Int32.ofInt (k7 : Int) + Int32.ofInt 1)), (7, .int x), (0, .ref (e 0)), (1, .int a), (2, .int b), (3, .int c), (4, .int d), (5, .int f)], [], zHS e zDM (zuS S 1 (S 0 1 + Int32.ofInt (k7 : Int)).toNatClampNeg ((x >>> ((Int32.ofInt 24 - Int32.ofInt 8 * (Int32.ofInt (k7 : Int) - Int32.ofInt (k7 : Int) / Int32.ofInt 4 * Int32.ofInt 4)) &&& 31)) &&& Int32.ofInt 255)) hp, _, _) _
      rw [hU, zof_up]
      refine (ih (k7 + 1) (zuS S 1 (t + k7) (zfd a b c d f k7)) x _ _ (by omega) hS).post ?_
      intro rv hp1 hq
      obtain ⟨S', g1, g2, g3, g4, g5, g6⟩ := hq
      refine ⟨S', g1, g2, g3, fun q hq => ?_, fun q h1 h2 => ?_, g6⟩
      · rw [g4 q (by omega), zuS_off (Or.inr (by omega))]
      · by_cases hqk : q = k7
        · rw [hqk, g4 (t + k7) (by omega), zuS_at]
        · exact g5 q (by omega) h2
    refine zp0 (by rfl) rfl rfl ?_
    refine zq_bip (by rfl) (by decide) ?_
    refine zy_icmpC (by rfl) (by rfl) ⟨by decide, by decide⟩ (fun h1 => ?_) (fun h1 => ?_)
    · iterate 2 refine zp0 (by rfl) rfl rfl ?_
      refine zy_get (b := 1) he (by rfl) (by rfl) (by rfl) (by rfl) ?_
      refine zq_bip (by rfl) (by decide) ?_
      refine zp0 (by rfl) rfl rfl ?_
      refine zy_put (b := 1) he (by rfl) (by rfl) (by rfl) ?_
      refine zp0 (by rfl) rfl rfl ?_
      refine zy_get (b := 1) he (by rfl) (by rfl) (by rfl) (by rfl) ?_
      refine zp_retI (by rfl) ?_
      exfalso
      simp only [zcf, yk] at h1
      omega
    · iterate 2 refine zp0 (by rfl) rfl rfl ?_
      refine zy_icmpC (by rfl) (by rfl) ⟨by decide, by decide⟩ (fun h2 => ?_) (fun h2 => ?_)
      · refine zp0 (by rfl) rfl rfl ?_
        refine zq_bip (by rfl) (by decide) ?_
        refine zy_icmpC (by rfl) (by rfl) ⟨by decide, by decide⟩ (fun h3 => ?_) (fun h3 => ?_)
        · refine zp0 (by rfl) rfl rfl ?_
          refine zq_bip (by rfl) (by decide) ?_
          refine zy_icmpC (by rfl) (by rfl) ⟨by decide, by decide⟩ (fun h4 => ?_) (fun h4 => ?_)
          · refine zp0 (by rfl) rfl rfl ?_
            refine zq_bip (by rfl) (by decide) ?_
            refine zy_icmpC (by rfl) (by rfl) ⟨by decide, by decide⟩ (fun h5 => ?_) (fun h5 => ?_)
            · iterate 2 refine zp0 (by rfl) rfl rfl ?_
              simp +decide only [zcf, yk] at h1 h2 h3 h4 h5
              exact hback _ _ _ (by
                unfold zfw
                rw [if_neg (by omega), if_neg (by omega), if_neg (by omega), if_neg (by omega)])
            · iterate 3 refine zp0 (by rfl) rfl rfl ?_
              simp +decide only [zcf, yk] at h1 h2 h3 h4 h5
              exact hback _ _ _ (by
                unfold zfw
                rw [if_neg (by omega), if_neg (by omega), if_neg (by omega), if_pos (by omega)])
          · iterate 3 refine zp0 (by rfl) rfl rfl ?_
            simp +decide only [zcf, yk] at h1 h2 h3 h4
            exact hback _ _ _ (by
              unfold zfw
              rw [if_neg (by omega), if_neg (by omega), if_pos (by omega)])
        · iterate 3 refine zp0 (by rfl) rfl rfl ?_
          simp +decide only [zcf, yk] at h1 h2 h3
          exact hback _ _ _ (by
            unfold zfw
            rw [if_neg (by omega), if_pos (by omega)])
      · iterate 3 refine zp0 (by rfl) rfl rfl ?_
        simp +decide only [zcf, yk] at h1 h2
        exact hback _ _ _ (by
          unfold zfw
          rw [if_pos (by omega)])
theorem zt_feed (he : zeI e hp zDM.length) {S : Nat → Nat → Int32} {t : Nat} {a b c d f : Int32} (hS : S 0 1 = Int32.ofInt (t : Int)) (ht : t ≤ 600) : zPn Lx xs n 159 (0, lv_args 0 [.ref (e 0), .int a, .int b, .int c, .int d, .int f], [], zHS e zDM S hp, 0, 0) (fun rv hp1 => ∃ S', hp1 = zHS e zDM S' hp ∧ S' 2 = S 2 ∧ ((580 < t ∧ rv = some (.int (Int32.ofInt (-1))) ∧ S' 0 1 = S 0 1 ∧ S' 1 = S 1) ∨ (t ≤ 580 ∧ rv = some (.int (Int32.ofInt ((t + 20 : Nat) : Int))) ∧ S' 0 1 = Int32.ofInt ((t + 20 : Nat) : Int) ∧ (∀ q, q < t → S' 1 q = S 1 q) ∧ ∀ k : Nat, k < 20 → S' 1 (t + k) = zfd a b c d f k))) := by
  have e20 : S 0 1 + Int32.ofInt 20 = Int32.ofInt ((t + 20 : Nat) : Int) := by
    rw [hS, ← Int32.ofInt_add]
    congr 1
  have y20 : (S 0 1 + Int32.ofInt 20).toInt = t + 20 := by rw [e20]; exact zof_ix (by omega)
  have k6 : (Int32.ofInt 600).toInt = 600 := by decide
  have k2 : (Int32.ofInt ((0 : Nat) : Int)).toInt = 0 := by decide
  iterate 2 refine zp0 (by rfl) rfl rfl ?_
  refine zy_put (b := 2) he (by rfl) (by rfl) (by rfl) ?_
  refine zp0 (by rfl) rfl rfl ?_
  refine zy_get (b := 1) he (by rfl) (by rfl) (by rfl) (by rfl) ?_
  refine zq_bip (by rfl) (by decide) ?_
  refine zp0 (by rfl) rfl rfl ?_
  refine zq_sip (by rfl) (by decide) ?_
  refine zy_icmpC (by rfl) (by rfl) ⟨by decide, by decide⟩ (fun h1 => ?_) (fun h1 => ?_)
  · iterate 3 refine zp0 (by rfl) rfl rfl ?_
    refine zq_bip (by rfl) (by decide) ?_
    refine zy_icmpC (by rfl) (by rfl) ⟨by decide, by decide⟩ (fun h2 => ?_) (fun h2 => ?_)
    · iterate 2 refine zp0 (by rfl) rfl rfl ?_
      refine zy_get (b := 1) he (by rfl) (by rfl) (by rfl) (by rfl) ?_
      refine zq_bip (by rfl) (by decide) ?_
      refine zp0 (by rfl) rfl rfl ?_
      refine zy_put (b := 1) he (by rfl) (by rfl) (by rfl) ?_
      refine zp0 (by rfl) rfl rfl ?_
      refine zy_get (b := 1) he (by rfl) (by rfl) (by rfl) (by rfl) ?_
      refine zp_retI (by rfl) ?_
      exfalso
      exact absurd h2 (show ¬ zcf .ge (Int32.ofInt 0).toInt 20 from by show ¬ (20 : Int) ≤ 0; decide)
    · iterate 2 refine zp0 (by rfl) rfl rfl ?_
      refine zy_icmpC (by rfl) (by rfl) ⟨by decide, by decide⟩ (fun h3 => ?_) (fun h3 => ?_)
      · exfalso
        exact absurd h3 (show ¬ zcf .ge (Int32.ofInt 0).toInt 4 from by show ¬ (4 : Int) ≤ 0; decide)
      · iterate 4 refine zp0 (by rfl) rfl rfl ?_
        refine zy_ref (r := 1) he (by rfl) (by rfl) (by rfl) (by rfl) ?_
        refine zp0 (by rfl) rfl rfl ?_
        refine zy_get (b := 1) he (by rfl) (by rfl) (by rfl) (by rfl) ?_
        iterate 3 refine zp0 (by rfl) rfl rfl ?_
        refine zq_bip (by rfl) (by decide) ?_
        refine zq_bip (by rfl) (by decide) ?_
        iterate 6 refine zp0 (by rfl) rfl rfl ?_
        refine zq_sip (by rfl) (by decide) ?_
        refine zp0 (by rfl) rfl rfl ?_
        refine zy_ast he (by rfl) (by rfl) (fun u4 w4 => ?_)
        have hcl : (S 0 1 + Int32.ofInt ((0 : Nat) : Int)).toNatClampNeg = t := by
          rw [hS, ← Int32.ofInt_add, show (t : Int) + ((0 : Nat) : Int) = ((t : Nat) : Int) by omega]
          exact zof_cl (by omega)
        have hsh := zfs20 0 (by decide)
        have hU : zuS (zuS S 0 2 (Int32.ofInt 0)) 1 (S 0 1 + Int32.ofInt ((0 : Nat) : Int)).toNatClampNeg ((a >>> ((Int32.ofInt 24 - Int32.ofInt 8 * (Int32.ofInt ((0 : Nat) : Int) - Int32.ofInt ((0 : Nat) : Int) / Int32.ofInt 4 * Int32.ofInt 4)) &&& 31)) &&& Int32.ofInt 255) = zuS (zuS S 0 2 (Int32.ofInt 0)) 1 t (zfd a b c d f 0) := by
          rw [hcl, hsh]
          rfl
        iterate 2 refine zp0 (by rfl) rfl rfl ?_
        show zPn Lx xs n 159 (23, [(6, .int (Int32.ofInt ((0 : Nat) : Int) + Int32.ofInt 1)), (7, .int a), (0, .ref (e 0)), (1, .int a), (2, .int b), (3, .int c), (4, .int d), (5, .int f)], [], zHS e zDM (zuS (zuS S 0 2 (Int32.ofInt 0)) 1 (S 0 1 + Int32.ofInt ((0 : Nat) : Int)).toNatClampNeg ((a >>> ((Int32.ofInt 24 - Int32.ofInt 8 * (Int32.ofInt ((0 : Nat) : Int) - Int32.ofInt ((0 : Nat) : Int) / Int32.ofInt 4 * Int32.ofInt 4)) &&& 31)) &&& Int32.ofInt 255)) hp, _, _) _
        rw [hU, zof_up]
        have ht2 : t + 20 ≤ 600 := by
          simp +decide only [↓reduceIte, zcf, zuS, va_up, y20, k6] at h1
          omega
        refine (zt_feedA he ht2 19 1 (zuS (zuS S 0 2 (Int32.ofInt 0)) 1 t (zfd a b c d f 0)) a _ _ rfl hS).post ?_
        intro rv hp1 hq
        obtain ⟨S', g1, g2, g3, g4, g5, g6⟩ := hq
        refine ⟨S', g1, g6, Or.inr ⟨by omega, g2, g3, fun q hq => ?_, fun k hk => ?_⟩⟩
        · rw [g4 q (by omega), zuS_off (Or.inr (by omega)), zuS_ne (by decide)]
        · by_cases hk0 : k = 0
          · rw [hk0, Nat.add_zero, g4 t (by omega), zuS_at]
          · exact g5 k (by omega) hk
  · refine zp0 (by rfl) rfl rfl ?_
    refine zp_retI (by rfl) ?_
    simp +decide only [↓reduceIte, zcf, zuS, va_up, y20, k6] at h1
    exact ⟨_, rfl, rfl, Or.inl ⟨by omega, rfl, rfl, rfl⟩⟩
end ZFD
