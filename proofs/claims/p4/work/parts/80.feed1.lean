/-! the law's loop of p3: feed -/
def zxM : List Nat := [1, 12, 13, 14, 15, 16, 17, 18, 19, 20, 21, 22, 23, 24, 25, 26, 27, 28, 29, 30, 31, 32, 33, 34, 35, 36, 37, 38, 39, 40, 41, 42, 43, 44, 45]
def zxF : List Nat := [0, 3, 4, 5, 6, 7, 8, 9, 10, 11]
def zxC : List Nat := [5, 56, 87, 88, 89, 3, 4, 46, 47, 48, 49, 50, 51, 52, 53, 54, 55, 84, 57, 90, 85, 86]
theorem zxM_lt : ∀ i, i < 18 → zxM.getD i 0 < 208 := by decide
theorem zxF_lt : ∀ i, i < 2 → zxF.getD i 0 < 208 := by decide
theorem zxM_nd : ∀ i, i < 18 → ∀ j, j < 18 → zxM.getD i 0 = zxM.getD j 0 → i = j := by decide
theorem zxF_nd : ∀ i, i < 2 → ∀ j, j < 2 → zxF.getD i 0 = zxF.getD j 0 → i = j := by decide
/-- the two tapes agree as far as they are taped -/
def zTA (η : List Nat) (hp : List zhE) : Prop := ∀ q : Nat, (q : Int) < (zSof (zee η zxM) hp 0 1).toInt → zSof (zee η zxC) hp 5 q &&& Int32.ofInt 255 = zSof (zee η zxM) hp 1 q
def zLI (Lx : Nat) (L : zL) (hp : List zhE) (i : Int) : Prop := ∃ (η : List Nat) (ρ : List Int), η.length = 208 ∧ zinj η hp ∧ ρ[0]? = some (Lx : Int) ∧ ρ[2]? = some i ∧ zptS η ρ zlP23 L [] hp ∧ zTA η hp
theorem zrk {ρ : List Int} {a i : Int} {k : Nat} (h : ρ[k]? = some i) : zxr ρ (a, [(k, -10)]) (a - 10 * i) := ⟨-10 * i, ⟨i, 0, h, rfl, by omega⟩, by show a - 10 * i = a + -10 * i; omega⟩
theorem zlF1 {ρ : List Int} {Lx : Nat} {i : Int} {k : Nat} (h0 : ρ[0]? = some (Lx : Int)) (h1 : ρ[k]? = some i) (hi : i + 6 ≤ (Lx : Int)) : zaF ρ [(-6, [(0, 1), (k, -1)])] := by
  intro f hf
  rw [List.mem_singleton] at hf
  subst hf
  exact ⟨(Lx : Int) - 6 - i, ⟨(Lx : Int) - i, ⟨(Lx : Int), -i, h0, ⟨i, 0, h1, rfl, by omega⟩, by omega⟩, by show (Lx : Int) - 6 - i = -6 + ((Lx : Int) - i); omega⟩, by omega⟩
set_option maxRecDepth 100000 in
theorem zlPC_of {η : List Nat} {ρ : List Int} {L : zL} {hp : List zhE} {Lx : Nat} {i : Int} (h : zptS η ρ zlP23 L [] hp) (h0 : ρ[0]? = some (Lx : Int)) (h1 : ρ[2]? = some i) (hi : i + 6 ≤ (Lx : Int)) : zptS η ρ zlPC L [] hp := ⟨h.1, h.2.1, h.2.2.1, h.2.2.2.1, zlF1 h0 h1 hi, h.2.2.2.2.2⟩
theorem znil {η : List Nat} {ρ : List Int} {st : List Value} (h : zaS η ρ [] st) : st = [] := by
  cases st with
  | nil => rfl
  | cons _ _ => exact h.elim
theorem zlist3 {ρ : List Int} {a b c : Int} (h0 : ρ[0]? = some a) (h1 : ρ[1]? = some b) (h2 : ρ[2]? = some c) : ∃ t, ρ = a :: b :: c :: t := by
  match ρ, h0, h1, h2 with
  | x :: y :: z :: t, h0, h1, h2 =>
    have e0 : x = a := Option.some.inj h0
    have e1 : y = b := Option.some.inj h1
    have e2 : z = c := Option.some.inj h2
    exact ⟨t, by rw [e0, e1, e2]⟩
  | [], h0, _, _ => simp at h0
  | [_], _, h1, _ => simp at h1
  | [_, _], _, _, h2 => simp at h2
theorem zkM_23 : zokD zxM [] zlP23.2.2.1 zDM 0 = true := by decide +kernel
theorem zkM_FA : zokD zxM [] zlPFA.2.2.1 zDM 0 = true := by decide +kernel
theorem zkM_FB : zokD zxM [] zlPFB.2.2.1 zDM 0 = true := by decide +kernel
theorem zkF_F0 : zokD zxF [] zlPF0.2.2.1 zDF 0 = true := by decide +kernel
theorem zfM_23 : zflN zlP23.2.2.1 1 1 (0, [(1, 1)]) = true := by decide +kernel
theorem zfF_F0 : zflN zlPF0.2.2.1 0 1 (0, [(1, 1)]) = true := by decide +kernel
theorem zfM_FA : zflN zlPFA.2.2.1 1 1 (0, [(1, 1)]) = true ∧ zflN zlPFB.2.2.1 1 1 (0, [(1, 1)]) = true := by decide +kernel
theorem zpid {η : List Nat} : ∀ (m x : Nat), m < 208 → η[m]? = some x → η[id m]? = some x := fun m x _ hx => hx
theorem zlPC_ok : zlPC.2.2.1.all (fun q => Nat.ble (q.1 + 1) 208 && zokC 208 q.2) = true := by decide +kernel
theorem zlLL_ok : zlLL.all (fun q => zokV 208 q.2) = true := by decide +kernel
theorem zlLL_5 : zlLL.map (fun q => (q.1, zreV id (zshg 3 5) q.2)) = zlLL := by decide +kernel
theorem zlF0_C : zlPC.2.2.1.map (fun q => (id q.1, zreC id (zshg 3 5) q.2)) = zlPF0.2.2.1 := zeqP_ok (by decide +kernel)
theorem zlF0_E : zlPC.2.2.2.1 = zlPC.2.2.2.1.take 3 ++ zlPC.2.2.2.1.drop 3 ∧ zlPC.2.2.2.1.take 3 ++ [(-2147483648, 2147483647), (-2147483648, 2147483647), (-2147483648, 2147483647), (-2147483648, 2147483647), (-2147483648, 2147483647)] ++ zlPC.2.2.2.1.drop 3 = zlPF0.2.2.2.1 := ⟨(List.take_append_drop ..).symm, by decide +kernel⟩
