/-! the class's lines beside the model's -/
section ZCLK
variable {Lx : Nat} {xs : Nat → Int32} {n : Nat} {hp : List zhE} {e : Nat → Nat} {C : Nat → Nat → Int32} {x3 x4 m K : Nat} {T : Nat → Int32}
theorem zThing_end {N i : Nat} {nm : Nat → Int32} {ov : Nat → Bool} (h : (zThing T m N nm ov i).1 = 0) : zmk T m (zThing T m N nm ov i).2.1 = 4 ∧ (zmw T m (zThing T m N nm ov i).2.1).toInt = 59 := by
  have hB : ∀ o : Int × Nat × Int32 × Int32 × Int32, (zThB T m N ov i o).1 = 0 → zmk T m (zThB T m N ov i o).2.1 = 4 ∧ (zmw T m (zThB T m N ov i o).2.1).toInt = 59 := by
    intro o
    unfold zThB
    by_cases g1 : o.1 ≠ 0
    · rw [if_pos g1]
      exact fun q => absurd q g1
    rw [if_neg g1]
    by_cases g2 : ¬ (zmk T m o.2.1 = 4 ∧ (zmw T m o.2.1).toInt = 59)
    · rw [if_pos g2]
      exact fun q => absurd (show (1 : Int) = 0 from q) (by decide)
    rw [if_neg g2]
    by_cases g3 : zanyF ov N 0 = true
    · rw [if_pos g3]
      exact fun q => absurd (show (4 : Int) = 0 from q) (by decide)
    rw [if_neg g3]
    exact fun _ => Classical.not_not.mp g2
  unfold zThing at h ⊢
  dsimp only at h ⊢
  by_cases c1 : N = 9
  · rw [if_pos c1] at h
    exact absurd (show (2 : Int) = 0 from h) (by decide)
  rw [if_neg c1] at h ⊢
  by_cases c2 : zmk T m (i + 1) ≠ 2
  · rw [if_pos c2] at h
    exact absurd (show (1 : Int) = 0 from h) (by decide)
  rw [if_neg c2] at h ⊢
  by_cases c3 : 0 ≤ zfindA nm 0 (zmw T m (i + 1)) N 0
  · rw [if_pos c3] at h
    exact absurd (show (3 : Int) = 0 from h) (by decide)
  rw [if_neg c3] at h ⊢
  by_cases c4 : zsNum T m (i + 2) 0 39 ≠ 0
  · rw [if_pos c4] at h
    exact absurd h c4
  rw [if_neg c4] at h ⊢
  by_cases c5 : zsNum T m (i + 3) 0 39 ≠ 0
  · rw [if_pos c5] at h
    exact absurd h c5
  rw [if_neg c5] at h ⊢
  by_cases c6 : zsNum T m (i + 4) 1 12 ≠ 0
  · rw [if_pos c6] at h
    exact absurd h c6
  rw [if_neg c6] at h ⊢
  by_cases c7 : zsNum T m (i + 5) 1 12 ≠ 0
  · rw [if_pos c7] at h
    exact absurd h c7
  rw [if_neg c7] at h ⊢
  by_cases c8 : zsNum T m (i + 6) 1 99 ≠ 0
  · rw [if_pos c8] at h
    exact absurd h c8
  rw [if_neg c8] at h ⊢
  exact hB _ h
theorem zManT_ge {wd : Int32} : ∀ (j i t : Nat) (H D G : Int32), i ≤ (zManT T m wd j i t H D G).2.1
  | 0, i, _, _, _, _ => Nat.le_refl i
  | j + 1, i, t, H, D, G => by
    unfold zManT
    by_cases c1 : zhw T m i < 0
    · rw [if_pos c1]
      exact Nat.le_refl i
    rw [if_neg c1]
    by_cases c2 : t.testBit (zhw T m i).toNat = true
    · rw [if_pos c2]
      exact Nat.le_refl i
    rw [if_neg c2]
    by_cases c3 : zhw T m i = 0
    · rw [if_pos c3]
      have := zManT_ge (wd := wd) j (i + 1) (t + 1) H D G
      omega
    rw [if_neg c3]
    by_cases c4 : zsNum T m (i + 1) 0 (zhi (zhw T m i).toNat wd).toInt ≠ 0
    · rw [if_pos c4]
      exact Nat.le_succ i
    rw [if_neg c4]
    have := zManT_ge (wd := wd) j (i + 2) (t + 2 ^ (zhw T m i).toNat) (if zhw T m i = 1 then zmw T m (i + 1) else H) (if zhw T m i = 2 then zmw T m (i + 1) else D) (if zhw T m i = 3 then zmw T m (i + 1) else G)
    omega
theorem zThing_ge {N i : Nat} {nm : Nat → Int32} {ov : Nat → Bool} : i ≤ (zThing T m N nm ov i).2.1 := by
  have hB : ∀ o : Int × Nat × Int32 × Int32 × Int32, i ≤ o.2.1 → i ≤ (zThB T m N ov i o).2.1 := by
    intro o ho
    unfold zThB
    by_cases g1 : o.1 ≠ 0
    · rw [if_pos g1]
      exact ho
    rw [if_neg g1]
    by_cases g2 : ¬ (zmk T m o.2.1 = 4 ∧ (zmw T m o.2.1).toInt = 59)
    · rw [if_pos g2]
      exact ho
    rw [if_neg g2]
    by_cases g3 : zanyF ov N 0 = true
    · rw [if_pos g3]
      exact Nat.le_succ i
    rw [if_neg g3]
    exact ho
  have hm := zManT_ge (T := T) (m := m) (wd := zmw T m (i + 4)) 5 (i + 7) 0 (zmw T m (i + 4)) (Int32.ofInt 0) (Int32.ofInt 5)
  have hm2 := hB _ (show i ≤ (zManT T m (zmw T m (i + 4)) 5 (i + 7) 0 (zmw T m (i + 4)) (Int32.ofInt 0) (Int32.ofInt 5)).2.1 by omega)
  unfold zThing
  dsimp only
  by_cases c0 : N = 9
  · rw [if_pos c0]
    exact Nat.le_add_right i 0
  rw [if_neg c0]
  by_cases c1 : zmk T m (i + 1) ≠ 2
  · rw [if_pos c1]
    exact Nat.le_add_right i 1
  rw [if_neg c1]
  by_cases c2 : 0 ≤ zfindA nm 0 (zmw T m (i + 1)) N 0
  · rw [if_pos c2]
    exact Nat.le_add_right i 1
  rw [if_neg c2]
  by_cases c3 : zsNum T m (i + 2) 0 39 ≠ 0
  · rw [if_pos c3]
    exact Nat.le_add_right i 2
  rw [if_neg c3]
  by_cases c4 : zsNum T m (i + 3) 0 39 ≠ 0
  · rw [if_pos c4]
    exact Nat.le_add_right i 3
  rw [if_neg c4]
  by_cases c5 : zsNum T m (i + 4) 1 12 ≠ 0
  · rw [if_pos c5]
    exact Nat.le_add_right i 4
  rw [if_neg c5]
  by_cases c6 : zsNum T m (i + 5) 1 12 ≠ 0
  · rw [if_pos c6]
    exact Nat.le_add_right i 5
  rw [if_neg c6]
  by_cases c7 : zsNum T m (i + 6) 1 99 ≠ 0
  · rw [if_pos c7]
    exact Nat.le_add_right i 6
  rw [if_neg c7]
  exact hm2
/-- the same lines on both sides -/
def zLs (S C : Nat → Nat → Int32) (N : Nat) : Prop := S 0 15 = Int32.ofInt (N : Int) ∧ C 6 10 = Int32.ofInt (N : Int) ∧ (∀ u, u < N → C 7 u = S 3 (10 + u) ∧ C 8 u = S 4 (10 + u) ∧ C 9 u = S 5 (10 + u) ∧ C 10 u = S 6 (10 + u) ∧ C 11 u = S 7 (10 + u) ∧ C 12 u = S 8 (10 + u) ∧ C 13 u = S 10 (10 + u) ∧ C 14 u = S 11 (10 + u) ∧ C 15 u = S 12 (10 + u)) ∧ C 6 11 = S 0 16 ∧ C 6 12 = S 0 18 ∧ ((S 0 19).toInt = 0 ↔ ¬ 0 < (C 16 3).toInt)
/-- the round ones, as bits and as numbers -/
def zRb (S C : Nat → Nat → Int32) (N : Nat) : Prop := ∃ b : Nat, b < 2 ^ N ∧ C 6 9 = Int32.ofInt (b : Int) ∧ ∀ u, u < N → S 9 (10 + u) = if b.testBit u = true then Int32.ofInt 1 else Int32.ofInt 0
theorem zrb0 : ∀ N : Nat, N < 9 → ∀ b : Nat, b < 2 ^ N → (Int32.ofInt (b : Int) ||| Int32.ofInt 1 <<< (Int32.ofInt (N : Int) &&& 31) = Int32.ofInt ((b + 2 ^ N : Nat) : Int)) ∧ b.testBit N = false ∧ b + 2 ^ N < 2 ^ (N + 1) ∧ ∀ u, u < N + 1 → (b + 2 ^ N).testBit u = (if u = N then true else b.testBit u) := by decide +kernel
theorem zRb_same {S C S' C' : Nat → Nat → Int32} {N : Nat} (h : zRb S C N) (hc : C' 6 9 = C 6 9) (hs : ∀ u, u < N → S' 9 (10 + u) = S 9 (10 + u)) : zRb S' C' N := by
  obtain ⟨b, h1, h2, h3⟩ := h
  exact ⟨b, h1, hc.trans h2, fun u hu => (hs u hu).trans (h3 u hu)⟩
theorem zRb_up {S C S' C' : Nat → Nat → Int32} {N : Nat} {rd : Bool} (h : zRb S C N) (hN : N < 9) (hc : C' 6 9 = if rd = true then zrnd C N else C 6 9) (hn : S' 9 (10 + N) = if rd = true then Int32.ofInt 1 else Int32.ofInt 0) (hs : ∀ u, u < N → S' 9 (10 + u) = S 9 (10 + u)) : zRb S' C' (N + 1) := by
  obtain ⟨b, h1, h2, h3⟩ := h
  obtain ⟨z1, z2, z3, z4⟩ := zrb0 N hN b h1
  cases rd with
  | false =>
    rw [if_neg (by decide)] at hc hn
    refine ⟨b, by omega, hc.trans h2, fun u hu => ?_⟩
    by_cases g : u = N
    · subst g
      rw [z2, hn, if_neg (by decide)]
    · rw [hs u (by omega), h3 u (by omega)]
  | true =>
    rw [if_pos rfl] at hc hn
    refine ⟨b + 2 ^ N, z3, ?_, fun u hu => ?_⟩
    · rw [hc]
      unfold zrnd
      rw [h2, z1]
    · rw [z4 u hu]
      by_cases g : u = N
      · subst g
        rw [hn, if_pos rfl, if_pos rfl]
      · rw [hs u (by omega), h3 u (by omega), if_neg g]
/-- and fault, place -/
def zLs2 (S C : Nat → Nat → Int32) (N : Nat) : Prop := zLs S C N ∧ (S 0 4 = C 0 4 ∧ S 0 5 = C 0 5) ∧ zRb S C N
theorem zTh_eq {S : Nat → Nat → Int32} {N i : Nat} (h : zLs S C N) : zThM T m N S i = zThC T m N C i := by
  have hr := h.2.2.1
  unfold zThM zThC zThing
  dsimp only
  have e1 : zfindA (fun u => S 3 (10 + u)) 0 (zmw T m (i + 1)) N 0 = zfindA (C 7) 0 (zmw T m (i + 1)) N 0 := zfindA_congr N 0 (fun u _ hu => (hr u (by omega)).1.symm)
  have e2 : ∀ o, zThB T m N (fun u => decide (zovr (zmw T m (i + 2)) (zmw T m (i + 3)) (zmw T m (i + 4)) (zmw T m (i + 5)) S (10 + u))) i o = zThB T m N (fun u => decide (zovcr (zmw T m (i + 2)) (zmw T m (i + 3)) (zmw T m (i + 4)) (zmw T m (i + 5)) C u)) i o := fun o => zThB_congr (fun u hu => by
    obtain ⟨r1, r2, r3, r4, r5, _⟩ := hr u hu
    show decide (zovr _ _ _ _ S (10 + u)) = decide (zovcr _ _ _ _ C u)
    unfold zovr zovcr
    rw [r2, r3, r4, r5])
  rw [e1, e2]
/-- a line on both sides: either goes on -/
def zLnO (T : Nat → Int32) (m K i : Nat) (S1 : Nat → Nat → Int32) (r1 : Int32) (C C1 : Nat → Nat → Int32) (g : Int32) : Prop :=
  (r1.toInt ≠ 0 ∧ g.toInt ≠ 0 ∧ ∃ i' N' : Nat, i < i' ∧ zMd T m i' S1 ∧ zScT T m K i' C1 ∧ N' ≤ 9 ∧ zLs2 S1 C1 N' ∧ C1 0 3 = C 0 3) ∨
  (r1.toInt = 0 ∧ g.toInt = 0 ∧ S1 0 4 = C1 0 4 ∧ S1 0 5 = C1 0 5)
theorem zEnd_sg {S : Nat → Nat → Int32} {i : Nat} (hM : zMd T m i S) : zsg S 59 ↔ (zmk T m i = 4 ∧ (zmw T m i).toInt = 59) := by
  show ((S 0 8).toInt = 4 ∧ (S 0 9).toInt = (Int32.ofInt 59).toInt) ↔ _
  have k59 : (Int32.ofInt 59).toInt = 59 := by decide
  rw [k59, zMd_k hM]
  by_cases g : zmk T m i = 0
  · omega
  · rw [zMd_w hM g]
theorem zc_lthing (he : zeI e hp (zDC 7 6 x3 x4).length) {N i : Nat} {S S1 : Nat → Nat → Int32} {r1 : Int32} (hm : m ≤ 600) (hN : N ≤ 9) (hM : zMd T m i S) (hK : zScT T m K i C) (hL2 : zLs2 S C N) (hk0 : zmk T m i ≠ 0) (hR : ∃ r2 S2, zThR T m N i S S2 r2 ∧ ((r2.toInt = 0 ∧ r1.toInt = 0 ∧ S1 = S2) ∨ (r2.toInt ≠ 0 ∧ zEndR S2 S1 r1 m))) : zPn Lx xs n 54 (0, lv_args 0 [.ref (e 0)], [], zHS e (zDC 7 6 x3 x4) C hp, 0, 0) (fun rv hp1 => ∃ g C1, rv = some (.int g) ∧ hp1 = zHS e (zDC 7 6 x3 x4) C1 hp ∧ zLnO T m K i S1 r1 C C1 g) := by
  have hL := hL2.1
  have hO := zTh_eq (T := T) (m := m) (i := i) hL
  refine (zc_thing he hm hN hL.2.1 hK hk0).post ?_
  intro rv hp1 hq
  obtain ⟨g, C1, q1, q2, hC⟩ := hq
  obtain ⟨r2, S2, hT, hB⟩ := hR
  refine ⟨g, C1, q1, q2, ?_⟩
  unfold zThCR at hC
  rw [← hO] at hC
  rcases hT with ⟨a1, a2, a3, a4, a5⟩ | ⟨a1, a2, a3, a4, a5, a6, a7, a8, v3, v4, v5, v6, v7, v8, v12, v11, v10, v9⟩
  · rcases hB with ⟨_, b1, b2⟩ | ⟨b1, _⟩
    · rcases hC with ⟨_, c2, c3, c4⟩ | ⟨c1, _⟩
      · refine Or.inr ⟨b1, c2, ?_, ?_⟩
        · rw [b2, a3, c3]
        · rw [b2, a4, c4]
      · exact absurd c1 a1
    · exact absurd a2 b1
  · rcases hC with ⟨c1, _⟩ | ⟨_, c2, c3, c4, c5, c6, c7, c8, w7, w8, w9, w10, w11, w12, w15, w14, w13, cr⟩
    · exact absurd a1 c1
    · have hE := (zEnd_sg a4).mpr (zThing_end a1)
      rcases hB with ⟨b1, _⟩ | ⟨_, hB⟩
      · exact absurd b1 a2
      · have hr1 : r1.toInt ≠ 0 := by
          rcases hB with ⟨d1, _⟩ | ⟨_, d2, _⟩
          · exact absurd hE d1
          · rw [d2]
            decide
        obtain ⟨g1, g2⟩ := zEnd_md a4 hB hr1
        have hge := zThing_ge (T := T) (m := m) (N := N) (i := i) (nm := fun u => S 3 (10 + u)) (ov := fun u => decide (zovr (zmw T m (i + 2)) (zmw T m (i + 3)) (zmw T m (i + 4)) (zmw T m (i + 5)) S (10 + u)))
        have hge : i ≤ (zThM T m N S i).2.1 := hge
        refine Or.inl ⟨hr1, c2, _, N + 1, Nat.lt_succ_of_le hge, g1, c3, by omega, ⟨⟨?_, c4, fun u hu => ?_, ?_, ?_, ?_⟩, ⟨?_, ?_⟩, ?_⟩, c5 3 (by decide)⟩
        · rw [g2.2 15 (by decide) (by decide) (by decide) (by decide) (by decide)]
          exact a5
        · by_cases hu2 : u = N
          · subst hu2
            refine ⟨?_, ?_, ?_, ?_, ?_, ?_, ?_, ?_, ?_⟩
            · rw [w7, g2.1 3 (by decide), v3]
            · rw [w8, g2.1 4 (by decide), v4]
            · rw [w9, g2.1 5 (by decide), v5]
            · rw [w10, g2.1 6 (by decide), v6]
            · rw [w11, g2.1 7 (by decide), v7]
            · rw [w12, g2.1 8 (by decide), v8]
            · rw [w13, g2.1 10 (by decide), v10]
            · rw [w14, g2.1 11 (by decide), v11]
            · rw [w15, g2.1 12 (by decide), v12]
          · obtain ⟨r7, r8, r9, r10, r11, r12, r13, r14, r15⟩ := hL.2.2.1 u (by omega)
            refine ⟨?_, ?_, ?_, ?_, ?_, ?_, ?_, ?_, ?_⟩
            · rw [c8 7 u (by decide) (by decide) hu2, r7, g2.1 3 (by decide), a8 3 (10 + u) (by decide) (by omega)]
            · rw [c8 8 u (by decide) (by decide) hu2, r8, g2.1 4 (by decide), a8 4 (10 + u) (by decide) (by omega)]
            · rw [c8 9 u (by decide) (by decide) hu2, r9, g2.1 5 (by decide), a8 5 (10 + u) (by decide) (by omega)]
            · rw [c8 10 u (by decide) (by decide) hu2, r10, g2.1 6 (by decide), a8 6 (10 + u) (by decide) (by omega)]
            · rw [c8 11 u (by decide) (by decide) hu2, r11, g2.1 7 (by decide), a8 7 (10 + u) (by decide) (by omega)]
            · rw [c8 12 u (by decide) (by decide) hu2, r12, g2.1 8 (by decide), a8 8 (10 + u) (by decide) (by omega)]
            · rw [c8 13 u (by decide) (by decide) hu2, r13, g2.1 10 (by decide), a8 10 (10 + u) (by decide) (by omega)]
            · rw [c8 14 u (by decide) (by decide) hu2, r14, g2.1 11 (by decide), a8 11 (10 + u) (by decide) (by omega)]
            · rw [c8 15 u (by decide) (by decide) hu2, r15, g2.1 12 (by decide), a8 12 (10 + u) (by decide) (by omega)]
        · rw [c7 11 (by decide) (by decide), hL.2.2.2.1, g2.2 16 (by decide) (by decide) (by decide) (by decide) (by decide), a6 16 (by decide) (by decide) (by decide) (by decide) (by decide) (by decide)]
        · rw [c7 12 (by decide) (by decide), hL.2.2.2.2.1, g2.2 18 (by decide) (by decide) (by decide) (by decide) (by decide), a6 18 (by decide) (by decide) (by decide) (by decide) (by decide) (by decide)]
        · rw [c6 16 (by decide), g2.2 19 (by decide) (by decide) (by decide) (by decide) (by decide), a6 19 (by decide) (by decide) (by decide) (by decide) (by decide) (by decide)]
          exact hL.2.2.2.2.2
        · rw [g2.2 4 (by decide) (by decide) (by decide) (by decide) (by decide), a6 4 (by decide) (by decide) (by decide) (by decide) (by decide) (by decide), c5 4 (by decide)]
          exact hL2.2.1.1
        · rw [g2.2 5 (by decide) (by decide) (by decide) (by decide) (by decide), a6 5 (by decide) (by decide) (by decide) (by decide) (by decide) (by decide), c5 5 (by decide)]
          exact hL2.2.1.2
        · exact zRb_up hL2.2.2 (by omega) cr (by rw [g2.1 9 (by decide)]; exact v9) (fun u hu => by rw [g2.1 9 (by decide), a8 9 (10 + u) (by decide) (by omega)])
theorem zc_lshelf (he : zeI e hp (zDC 7 6 x3 x4).length) {N i : Nat} {S S1 : Nat → Nat → Int32} {r1 : Int32} (hm : m ≤ 600) (hN : N ≤ 9) (hM : zMd T m i S) (hK : zScT T m K i C) (hL2 : zLs2 S C N) (hk0 : zmk T m i ≠ 0) (hR : ((S 0 18).toInt ≠ 0 ∧ r1.toInt = 0 ∧ S1 = zwrong S (Int32.ofInt 3)) ∨ ((S 0 18).toInt = 0 ∧ ((zsNum T m (i + 1) 1 40 ≠ 0 ∧ r1.toInt = 0 ∧ S1 0 4 = Int32.ofInt (zsNum T m (i + 1) 1 40) ∧ S1 0 5 = Int32.ofInt (zpl T m (i + 1) : Nat) ∧ zFx S S1) ∨ (zsNum T m (i + 1) 1 40 = 0 ∧ ∃ S2, zMd T m (i + 2) S2 ∧ S2 0 16 = zmw T m (i + 1) ∧ S2 0 18 = Int32.ofInt 1 ∧ (∀ q, q ≠ 0 → S2 q = S q) ∧ (∀ f, f = 1 ∨ f = 4 ∨ f = 5 ∨ f = 15 ∨ f = 19 → S2 0 f = S 0 f) ∧ zEndR S2 S1 r1 m)))) : zPn Lx xs n 51 (0, lv_args 0 [.ref (e 0)], [], zHS e (zDC 7 6 x3 x4) C hp, 0, 0) (fun rv hp1 => ∃ g C1, rv = some (.int g) ∧ hp1 = zHS e (zDC 7 6 x3 x4) C1 hp ∧ zLnO T m K i S1 r1 C C1 g) := by
  have k1 : (Int32.ofInt 1).toInt = 1 := by decide
  have k40 : (Int32.ofInt 40).toInt = 40 := by decide
  have hL := hL2.1
  have h12 := hL.2.2.2.2.1
  have hlt := zScT_lt hK hm hk0
  have hKa : zScT T m K i (zuS C 6 12 (Int32.ofInt 1)) := zScT_fr hK rfl rfl rfl rfl
  have hK1 := zScT_nx hKa hlt
  refine zp0 (by rfl) rfl rfl ?_
  refine zy_ref (r := 6) he (by rfl) (by rfl) (by rfl) (by rfl) ?_
  refine zy_get (b := 12) he (by rfl) (by rfl) (by rfl) (by rfl) ?_
  refine zy_if (by rfl) (by rfl) (fun h1 => ?_) (fun h1 => ?_)
  · refine zp0 (by rfl) rfl rfl ?_
    refine zy_ref (r := 6) he (by rfl) (by rfl) (by rfl) (by rfl) ?_
    refine zp0 (by rfl) rfl rfl ?_
    refine zy_put (b := 12) he (by rfl) (by rfl) (by rfl) ?_
    refine zp0 (by rfl) rfl rfl ?_
    refine zy_ref (r := 1) he (by rfl) (by rfl) (by rfl) (by rfl) ?_
    refine zy_v0n (by rfl) (zc_nx he hKa hlt) ?_
    iterate 2 refine zp0 (by rfl) rfl rfl ?_
    refine zq_bip (by rfl) (by decide) ?_
    refine zy_v2 (by rfl) (zc_rdnum he hm hK1 (Int32.ofInt 1) (Int32.ofInt 40) (by decide) (by decide)) ?_
    intro rv hp1 hq
    obtain ⟨r3, C3, q1, q2, dj⟩ := hq
    rw [q1, q2]
    rw [k1, k40] at dj
    refine zy_if (by rfl) (by rfl) (fun h2 => ?_) (fun h2 => ?_)
    · have hz0 : (S 0 18).toInt = 0 := by
        simp only [zcf, h12, Classical.not_not] at h1
        exact h1
      rcases dj with ⟨d1, d2, d3⟩ | ⟨d1, d2, d3, d4⟩
      · exact absurd (show (0 : Int32).toInt = 0 by decide) (by rw [← d2]; exact h2)
      have h06 : C3 0 6 = zmw T m (i + 1) := by rw [d3, zcnx_ne (by decide), zuS_at]
      have hK2 : zScT T m K (i + 2) C3 := by
        rw [d3]
        exact zScT_nx (zScT_fr hK1 rfl rfl rfl rfl) d4
      have hK3 : zScT T m K (i + 2) (zuS C3 6 11 (zmw T m (i + 1))) := zScT_fr hK2 rfl rfl rfl rfl
      refine zp0 (by rfl) rfl rfl ?_
      refine zy_ref (r := 6) he (by rfl) (by rfl) (by rfl) (by rfl) ?_
      refine zp0 (by rfl) rfl rfl ?_
      refine zy_get (b := 6) he (by rfl) (by rfl) (by rfl) (by rfl) ?_
      refine zy_put (b := 11) he (by rfl) (by rfl) (by rfl) ?_
      refine zp0 (by rfl) rfl rfl ?_
      rw [h06]
      refine zy_v0 (by rfl) (zc_end he hm hK3) ?_
      intro rv hp1 hq
      obtain ⟨r9, C9, q1, q2, de⟩ := hq
      rw [q1, q2]
      refine zp_retI (by rfl) ?_
      rcases hR with ⟨b1, _⟩ | ⟨b1, ⟨b2, _⟩ | ⟨_, S2, b2, b3, b4, b5, b6, b7⟩⟩
      · exact absurd hz0 b1
      · exact absurd d1 b2
      have hsg := zEnd_sg b2
      rcases de with ⟨e1, e2, e3⟩ | ⟨e1, e2, e3, e4⟩
      · have hx := zcref_x (f := Int32.ofInt 1) hK3
        rcases b7 with ⟨_, b8, b9⟩ | ⟨b8, _⟩
        · refine ⟨_, _, rfl, rfl, Or.inr ⟨by rw [b8]; decide, by rw [e2]; decide, ?_, ?_⟩⟩
          · rw [b9, e3, hx.1]
            rfl
          · rw [b9, e3, hx.2, ← b2.2.2.2.1]
            rfl
        · exact absurd (hsg.mp b8) e1
      · have hr1 : r1.toInt ≠ 0 := by
          rcases b7 with ⟨b8, _⟩ | ⟨_, b8, _⟩
          · exact absurd (hsg.mpr e1) b8
          · rw [b8]
            decide
        obtain ⟨g1, g2⟩ := zEnd_md b2 b7 hr1
        have cq : ∀ q, 7 ≤ q → C9 q = C q := fun q hq => by rw [e3, zcnx_ne (by omega), zuS_ne (by omega), d3, zcnx_ne (by omega), zuS_ne (by omega), zcnx_ne (by omega), zuS_ne (by omega)]
        have c6 : ∀ f, f ≠ 11 → f ≠ 12 → C9 6 f = C 6 f := fun f f1 f2 => by rw [e3, zcnx_ne (by decide), zuS_off (Or.inr f1), d3, zcnx_ne (by decide), zuS_ne (by decide), zcnx_ne (by decide), zuS_off (Or.inr f2)]
        refine ⟨_, _, rfl, rfl, Or.inl ⟨hr1, by rw [e2]; decide, i + 2 + 1, N, by omega, g1, ?_, hN, ⟨⟨?_, ?_, fun u hu => ?_, ?_, ?_, ?_⟩, ⟨?_, ?_⟩, ?_⟩, ?_⟩⟩
        · rw [e3]
          exact zScT_nx hK3 e4
        · rw [g2.2 15 (by decide) (by decide) (by decide) (by decide) (by decide), b6 15 (by decide)]
          exact hL.1
        · rw [c6 10 (by decide) (by decide)]
          exact hL.2.1
        · rw [cq 7 (by decide), cq 8 (by decide), cq 9 (by decide), cq 10 (by decide), cq 11 (by decide), cq 12 (by decide), cq 13 (by decide), cq 14 (by decide), cq 15 (by decide), g2.1 3 (by decide), g2.1 4 (by decide), g2.1 5 (by decide), g2.1 6 (by decide), g2.1 7 (by decide), g2.1 8 (by decide), g2.1 10 (by decide), g2.1 11 (by decide), g2.1 12 (by decide), b5 3 (by decide), b5 4 (by decide), b5 5 (by decide), b5 6 (by decide), b5 7 (by decide), b5 8 (by decide), b5 10 (by decide), b5 11 (by decide), b5 12 (by decide)]
          exact hL.2.2.1 u hu
        · rw [e3, zcnx_ne (by decide), zuS_at, g2.2 16 (by decide) (by decide) (by decide) (by decide) (by decide), b3]
        · rw [e3, zcnx_ne (by decide), zuS_off (Or.inr (by decide)), d3, zcnx_ne (by decide), zuS_ne (by decide), zcnx_ne (by decide), zuS_at, g2.2 18 (by decide) (by decide) (by decide) (by decide) (by decide), b4]
        · rw [cq 16 (by decide), g2.2 19 (by decide) (by decide) (by decide) (by decide) (by decide), b6 19 (by decide)]
          exact hL.2.2.2.2.2
        · rw [g2.2 4 (by decide) (by decide) (by decide) (by decide) (by decide), b6 4 (by decide), e3, zcnx_ne (by decide), zuS_ne (by decide), d3, zcnx_ne (by decide), zuS_off (Or.inr (by decide)), zcnx_ne (by decide), zuS_ne (by decide)]
          exact hL2.2.1.1
        · rw [g2.2 5 (by decide) (by decide) (by decide) (by decide) (by decide), b6 5 (by decide), e3, zcnx_ne (by decide), zuS_ne (by decide), d3, zcnx_ne (by decide), zuS_off (Or.inr (by decide)), zcnx_ne (by decide), zuS_ne (by decide)]
          exact hL2.2.1.2
        · exact zRb_same hL2.2.2 (c6 9 (by decide) (by decide)) (fun u hu => by rw [g2.1 9 (by decide), b5 9 (by decide)])
        · rw [e3, zcnx_ne (by decide), zuS_ne (by decide), d3, zcnx_ne (by decide), zuS_off (Or.inr (by decide)), zcnx_ne (by decide), zuS_ne (by decide)]
    · refine zp0 (by rfl) rfl rfl ?_
      refine zp_retI (by rfl) ?_
      simp only [zcf, h12, Classical.not_not] at h1
      rcases hR with ⟨b1, _⟩ | ⟨_, hR⟩
      · exact absurd h1 b1
      rcases dj with ⟨d1, d2, d3⟩ | ⟨d1, d2, d3⟩
      · have hx := zcref_x (f := Int32.ofInt (zsNum T m (i + 1) 1 40)) hK1
        rcases hR with ⟨_, b1, b2, b3, _⟩ | ⟨b1, _⟩
        · refine ⟨_, _, rfl, rfl, Or.inr ⟨b1, by decide, ?_, ?_⟩⟩
          · rw [b2, d3, hx.1]
          · rw [b3, d3, hx.2]
        · exact absurd b1 d1
      · exact absurd (Classical.not_not.mp h2) (by rw [d2]; decide)
  · iterate 2 refine zp0 (by rfl) rfl rfl ?_
    refine zy_v1e (by rfl) (zc_refuse he _) ?_
    refine zp_retI (by rfl) ?_
    simp only [zcf, h12] at h1
    have hx := zcref_x (f := Int32.ofInt 3) hK
    rcases hR with ⟨_, b1, b2⟩ | ⟨b1, _⟩
    · refine ⟨_, _, rfl, rfl, Or.inr ⟨b1, by decide, ?_, ?_⟩⟩
      · rw [b2, hx.1]
        rfl
      · rw [b2, hx.2, ← hM.2.2.2.1]
        rfl
    · exact absurd b1 h1
theorem zc_lchild (he : zeI e hp (zDC 7 6 x3 x4).length) {N i : Nat} {S S1 : Nat → Nat → Int32} {r1 : Int32} (hm : m ≤ 600) (hN : N ≤ 9) (hM : zMd T m i S) (hK : zScT T m K i C) (hL2 : zLs2 S C N) (hk0 : zmk T m i ≠ 0) (hR : ((S 0 19).toInt ≠ 0 ∧ r1.toInt = 0 ∧ S1 = zwrong S (Int32.ofInt 3)) ∨ ((S 0 19).toInt = 0 ∧ ∃ S2, zMd T m (i + 1) S2 ∧ S2 0 19 = Int32.ofInt 1 ∧ (∀ q, q ≠ 0 → S2 q = S q) ∧ (∀ f, f = 1 ∨ f = 4 ∨ f = 5 ∨ f = 15 ∨ f = 16 ∨ f = 18 → S2 0 f = S 0 f) ∧ ∃ k r2 S3, zSum m k (zsm0 S2) S3 r2 ∧ ((r2.toInt = 0 ∧ r1.toInt = 0 ∧ S1 = S3) ∨ (r2.toInt ≠ 0 ∧ zEndR S3 S1 r1 m)))) : zPn Lx xs n 53 (0, lv_args 0 [.ref (e 0)], [], zHS e (zDC 7 6 x3 x4) C hp, 0, 0) (fun rv hp1 => ∃ g C1 y3 y4, rv = some (.int g) ∧ hp1 = zHS e (zDC 7 6 y3 y4) C1 hp ∧ zLnO T m K i S1 r1 C C1 g) := by
  have hL := hL2.1
  have h19 := hL.2.2.2.2.2
  have hlt := zScT_lt hK hm hk0
  have hK1 := zScT_nx hK hlt
  have he6 : zeI e hp (zDC 7 6 2 17).length := he
  have g11 : (if 0 < (C 16 3).toInt then (1 : Int32) else 0).toInt = 0 ↔ ¬ 0 < (C 16 3).toInt := by
    by_cases g : 0 < (C 16 3).toInt
    · rw [if_pos g]
      exact ⟨fun q => absurd q (by decide), fun q => absurd g q⟩
    · rw [if_neg g]
      exact ⟨fun _ => g, fun _ => by decide⟩
  refine zp0 (by rfl) rfl rfl ?_
  refine zy_ref (r := 6) he (by rfl) (by rfl) (by rfl) (by rfl) ?_
  refine zy_ref (r := 16) he (by rfl) (by rfl) (by rfl) (by rfl) ?_
  refine zy_v0e (by rfl) (zc_isTold he) ?_
  refine zy_if (by rfl) (by rfl) (fun h1 => ?_) (fun h1 => ?_)
  · refine zp0 (by rfl) rfl rfl ?_
    refine zy_ref (r := 1) he (by rfl) (by rfl) (by rfl) (by rfl) ?_
    refine zy_v0n (by rfl) (zc_nx he hK hlt) ?_
    have hz : (S 0 19).toInt = 0 := h19.mpr (g11.mp h1)
    rcases hR with ⟨b1, _⟩ | ⟨_, S2, b2, b3, b4, b5, k9, r2, S3, hsum, hB⟩
    · exact absurd hz b1
    have hf := zSum_fm k9 _ hsum
    refine zp0 (by rfl) rfl rfl ?_
    refine zy_ref (r := 18) he (by rfl) (by rfl) (by rfl) (by rfl) ?_
    refine zp0 (by rfl) rfl rfl ?_
    refine zy_ref (r := 1) he (by rfl) (by rfl) (by rfl) (by rfl) ?_
    refine zp0 (by rfl) rfl rfl ?_
    refine zy_ref (r := 6) he (by rfl) (by rfl) (by rfl) (by rfl) ?_
    refine zy_ref (r := 16) he (by rfl) (by rfl) (by rfl) (by rfl) ?_
    refine zy_v2 (by rfl) (zc_Eread (i := i + 1) he hsum b2 hK1 (by omega)) ?_
    intro rv hp1 hq
    obtain ⟨f, C5, q1, q2, hF, dE⟩ := hq
    rw [q1, q2]
    refine zp0 (by rfl) rfl rfl ?_
    refine zp0 (by rfl) rfl rfl ?_
    refine zy_if (by rfl) (by rfl) (fun h31 => ?_) (fun h31 => ?_)
    · iterate 2 refine zp0 (by rfl) rfl rfl ?_
      refine zy_v1e (by rfl) (zc_refuse he6 _) ?_
      refine zp_retI (by rfl) ?_
      rcases dE with ⟨_, a2, _⟩ | ⟨a1, a2, a3, a4⟩
      · exact absurd a2 h31
      · rcases hB with ⟨_, b6, b7⟩ | ⟨b6, _⟩
        · refine ⟨_, _, 2, 17, rfl, rfl, Or.inr ⟨b6, by decide, ?_, ?_⟩⟩
          · rw [b7, a3]
            rfl
          · rw [b7, a4]
            rfl
        · exact absurd a1 b6
    · rcases dE with ⟨a1, a2, i9, l9, a3, a4, a5, a6, a7, a8, a9⟩ | ⟨a1, a2, _⟩
      case inr => exact absurd (Classical.not_not.mp h31) a2
      rcases hB with ⟨b6, _⟩ | ⟨_, hB⟩
      · exact absurd b6 a1
      have hsg := zEnd_sg a4
      have cq : ∀ q, q = 6 ∨ q = 0 ∨ (7 ≤ q ∧ q ≤ 15) → C5 q = C q := fun q hq => by rw [hF q (by omega) (by omega) (by omega) (by omega) (by omega), zcnx_ne (by omega)]
      refine zp0 (by rfl) rfl rfl ?_
      refine zy_v0 (by rfl) (zc_end he6 hm a5) ?_
      intro rv hp1 hq
      obtain ⟨r9, C9, q1, q2, de⟩ := hq
      rw [q1, q2]
      refine zp0 (by rfl) rfl rfl ?_
      refine zp_retI (by rfl) ?_
      rcases de with ⟨e1, _⟩ | ⟨e1, e2, e3, e4⟩
      · exact absurd (hsg.mp a6) e1
      have hr1 : r1.toInt ≠ 0 := by
        rcases hB with ⟨b8, _⟩ | ⟨_, b8, _⟩
        · exact absurd a6 b8
        · rw [b8]
          decide
      obtain ⟨g1, g2⟩ := zEnd_md a4 hB hr1
      have c9 : ∀ q, q = 6 ∨ q = 0 ∨ (7 ≤ q ∧ q ≤ 15) → C9 q = C q := fun q hq => by rw [e3, zcnx_ne (by omega), cq q hq]
      have sq : ∀ q, 3 ≤ q → q ≤ 12 → S1 q = S q := fun q h1 h2 => by rw [g2.1 q (by omega), hf.1 q (by omega) h2]; unfold zsm0; rw [zuS_ne (by omega), zuS_ne (by omega), zuS_ne (by omega), zuS_ne (by omega), zuS_ne (by omega), zuS_ne (by omega)]; exact b4 q (by omega)
      have sf : ∀ f, f = 15 ∨ f = 16 ∨ f = 18 → S1 0 f = S 0 f := fun f hf2 => by
        rw [g2.2 f (by omega) (by omega) (by omega) (by omega) (by omega), hf.2 f (by omega)]
        rcases hf2 with rfl | rfl | rfl
        · exact b5 15 (by decide)
        · exact b5 16 (by decide)
        · exact b5 18 (by decide)
      refine ⟨_, _, 2, 17, rfl, rfl, Or.inl ⟨hr1, by rw [e2]; decide, i9 + 1, N, by omega, g1, ?_, hN, ⟨⟨?_, ?_, fun u hu => ?_, ?_, ?_, ?_⟩, ⟨?_, ?_⟩, ?_⟩, ?_⟩⟩
      · rw [e3]
        exact zScT_nx a5 e4
      · rw [sf 15 (by decide)]
        exact hL.1
      · rw [c9 6 (by decide)]
        exact hL.2.1
      · rw [c9 7 (by decide), c9 8 (by decide), c9 9 (by decide), c9 10 (by decide), c9 11 (by decide), c9 12 (by decide), c9 13 (by decide), c9 14 (by decide), c9 15 (by decide), sq 3 (by decide) (by decide), sq 4 (by decide) (by decide), sq 5 (by decide) (by decide), sq 6 (by decide) (by decide), sq 7 (by decide) (by decide), sq 8 (by decide) (by decide), sq 10 (by decide) (by decide), sq 11 (by decide) (by decide), sq 12 (by decide) (by decide)]
        exact hL.2.2.1 u hu
      · rw [c9 6 (by decide), sf 16 (by decide)]
        exact hL.2.2.2.1
      · rw [c9 6 (by decide), sf 18 (by decide)]
        exact hL.2.2.2.2.1
      · have h1 : S1 0 19 = Int32.ofInt 1 := by
          rw [g2.2 19 (by decide) (by decide) (by decide) (by decide) (by decide), hf.2 19 (by decide)]
          exact b3
        have h2 : (C9 16 3).toInt = l9 := by
          rw [e3, zcnx_ne (by decide), a7]
          exact zof_ix (by omega)
        rw [h1, h2]
        refine ⟨fun q => absurd q (by decide), fun q => ?_⟩
        omega
      · rw [g2.2 4 (by decide) (by decide) (by decide) (by decide) (by decide), (zSum_45 k9 _ hsum a1).1, show zsm0 S2 0 4 = S2 0 4 from rfl, b5 4 (by decide), c9 0 (by decide)]
        exact hL2.2.1.1
      · rw [g2.2 5 (by decide) (by decide) (by decide) (by decide) (by decide), (zSum_45 k9 _ hsum a1).2, show zsm0 S2 0 5 = S2 0 5 from rfl, b5 5 (by decide), c9 0 (by decide)]
        exact hL2.2.1.2
      · exact zRb_same hL2.2.2 (by rw [c9 6 (by decide)]) (fun u hu => by rw [sq 9 (by decide) (by decide)])
      · rw [c9 0 (by decide)]
  · iterate 2 refine zp0 (by rfl) rfl rfl ?_
    refine zy_v1e (by rfl) (zc_refuse he _) ?_
    refine zp_retI (by rfl) ?_
    have hn : (S 0 19).toInt ≠ 0 := fun q => h1 (g11.mpr (h19.mp q))
    have hx := zcref_x (f := Int32.ofInt 3) hK
    rcases hR with ⟨_, b1, b2⟩ | ⟨b1, _⟩
    · refine ⟨_, _, x3, x4, rfl, rfl, Or.inr ⟨b1, by decide, ?_, ?_⟩⟩
      · rw [b2, hx.1]
        rfl
      · rw [b2, hx.2, ← hM.2.2.2.1]
        rfl
    · exact absurd b1 hn
end ZCLK
