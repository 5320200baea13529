/-! class and model have the same tokens -/
def zdg6 (f : Nat → Nat) : Nat := ((((f 0 * 32 + f 1) * 32 + f 2) * 32 + f 3) * 32 + f 4) * 32 + f 5
theorem zdg6_inj {f g : Nat → Nat} (hf : ∀ i, i < 6 → f i < 32) (hg : ∀ i, i < 6 → g i < 32) (h : zdg6 f = zdg6 g) : ∀ i, i < 6 → f i = g i := by
  unfold zdg6 at h
  have f0 := hf 0 (by decide)
  have f1 := hf 1 (by decide)
  have f2 := hf 2 (by decide)
  have f3 := hf 3 (by decide)
  have f4 := hf 4 (by decide)
  have f5 := hf 5 (by decide)
  have g0 := hg 0 (by decide)
  have g1 := hg 1 (by decide)
  have g2 := hg 2 (by decide)
  have g3 := hg 3 (by decide)
  have g4 := hg 4 (by decide)
  have g5 := hg 5 (by decide)
  have hs : ∀ u v u2 v2 : Nat, v < 32 → v2 < 32 → u * 32 + v = u2 * 32 + v2 → u = u2 ∧ v = v2 := by
    intro u v u2 v2 q1 q2 q3
    omega
  obtain ⟨h, e5⟩ := hs _ _ _ _ f5 g5 h
  obtain ⟨h, e4⟩ := hs _ _ _ _ f4 g4 h
  obtain ⟨h, e3⟩ := hs _ _ _ _ f3 g3 h
  obtain ⟨h, e2⟩ := hs _ _ _ _ f2 g2 h
  obtain ⟨h, e1⟩ := hs _ _ _ _ f1 g1 h
  intro i hi
  match i, hi with
  | 0, _ => exact h
  | 1, _ => exact e1
  | 2, _ => exact e2
  | 3, _ => exact e3
  | 4, _ => exact e4
  | 5, _ => exact e5
def zlt6 (T : Nat → Int32) (a L : Nat) (i : Nat) : Nat := if i < L then (T (a + i)).toInt.toNat - 96 else 0
theorem zpv_dg {T : Nat → Int32} {a L : Nat} (h : L ≤ 6) : zpv T a L = zdg6 (zlt6 T a L) := by
  have z : ∀ i, zlt6 T a L i = if i < L then (T (a + i)).toInt.toNat - 96 else 0 := fun i => rfl
  unfold zpv zdg6
  rw [Nat.min_eq_left h, z, z, z, z, z, z]
  generalize hd : (fun i => (T (a + i)).toInt.toNat - 96) = d
  have hd : ∀ i, (T (a + i)).toInt.toNat - 96 = d i := fun i => by rw [← hd]
  simp only [hd]
  have e0 : zpu T a 0 = 0 := rfl
  have es : ∀ i, zpu T a (i + 1) = 32 * zpu T a i + d i := fun i => by
    rw [← hd]
    rfl
  have e1 : zpu T a 1 = d 0 := by rw [es, e0]; omega
  have e2 : zpu T a 2 = d 0 * 32 + d 1 := by rw [es, e1]; omega
  have e3 : zpu T a 3 = (d 0 * 32 + d 1) * 32 + d 2 := by rw [es, e2]; omega
  have e4 : zpu T a 4 = ((d 0 * 32 + d 1) * 32 + d 2) * 32 + d 3 := by rw [es, e3]; omega
  have e5 : zpu T a 5 = (((d 0 * 32 + d 1) * 32 + d 2) * 32 + d 3) * 32 + d 4 := by rw [es, e4]; omega
  have e6 : zpu T a 6 = ((((d 0 * 32 + d 1) * 32 + d 2) * 32 + d 3) * 32 + d 4) * 32 + d 5 := by rw [es, e5]; omega
  have h2 : L = 0 ∨ L = 1 ∨ L = 2 ∨ L = 3 ∨ L = 4 ∨ L = 5 ∨ L = 6 := by omega
  rcases h2 with rfl | rfl | rfl | rfl | rfl | rfl | rfl
  · rw [e0]
    simp +decide only [↓reduceIte]
  · rw [e1]
    simp +decide only [↓reduceIte]
    omega
  · rw [e2]
    simp +decide only [↓reduceIte]
    omega
  · rw [e3]
    simp +decide only [↓reduceIte]
    omega
  · rw [e4]
    simp +decide only [↓reduceIte]
    omega
  · rw [e5]
    simp +decide only [↓reduceIte]
    omega
  · rw [e6]
    simp +decide only [↓reduceIte]
    omega
theorem zpk_dg {T : Nat → Int32} {a L : Nat} : zpkA T (a + L) 6 a 0 = zdg6 (zlt6 T a L) := by
  have hi : ∀ i : Nat, (if a + i < a + L then (T (a + i)).toInt.toNat - 96 else 0) = zlt6 T a L i := by
    intro i
    unfold zlt6
    by_cases h : i < L
    · rw [if_pos h, if_pos (by omega)]
    · rw [if_neg h, if_neg (by omega)]
  show 32 * (32 * (32 * (32 * (32 * (32 * 0 + (if a + 0 < a + L then (T (a + 0)).toInt.toNat - 96 else 0)) + (if a + 1 < a + L then (T (a + 1)).toInt.toNat - 96 else 0)) + (if a + 2 < a + L then (T (a + 2)).toInt.toNat - 96 else 0)) + (if a + 3 < a + L then (T (a + 3)).toInt.toNat - 96 else 0)) + (if a + 4 < a + L then (T (a + 4)).toInt.toNat - 96 else 0)) + (if a + 5 < a + L then (T (a + 5)).toInt.toNat - 96 else 0) = _
  rw [hi, hi, hi, hi, hi, hi]
  unfold zdg6
  omega
/-- a word's own number -/
def zpw (ws : List Int) : Nat := zdg6 (fun i => if i < ws.length then (ws.getD i 0).toNat - 96 else 0)
def zidxW (V : Nat) : List Nat → Int → Int
  | [], _ => -1
  | p :: ps, k => if V = p then k else zidxW V ps (k + 1)
def zwok (ws : List Int) : Bool := Nat.ble 1 ws.length && Nat.ble ws.length 6 && ws.all (fun x => decide (97 ≤ x) && decide (x ≤ 122))
theorem zwok_x {ws : List Int} (h : zwok ws = true) : 1 ≤ ws.length ∧ ws.length ≤ 6 ∧ ∀ i, i < ws.length → 97 ≤ ws.getD i 0 ∧ ws.getD i 0 ≤ 122 := by
  unfold zwok at h
  simp only [Bool.and_eq_true, Nat.ble_eq, List.all_eq_true, decide_eq_true_eq] at h
  refine ⟨h.1.1, h.1.2, fun i hi => ?_⟩
  have := h.2 (ws.getD i 0) (by
    rw [List.getD_eq_getElem?_getD, List.getElem?_eq_getElem hi]
    exact List.getElem_mem hi)
  exact this
theorem zwdI_pk {T : Nat → Int32} {a L : Nat} (hL : L ≤ 6) (hT : ∀ i, i < L → 97 ≤ (T (a + i)).toInt ∧ (T (a + i)).toInt ≤ 122) : ∀ (l : List (List Int)) (k : Int), (∀ ws, ws ∈ l → zwok ws = true) → zwdI T a L l k = zidxW (zpv T a L) (l.map zpw) k
  | [], _, _ => rfl
  | ws :: l, k, h => by
    obtain ⟨w0, w1, w2⟩ := zwok_x (h ws List.mem_cons_self)
    have ih := zwdI_pk hL hT l (k + 1) (fun q hq => h q (List.mem_cons_of_mem _ hq))
    have hiff : (ws.length = L ∧ ∀ i, i < ws.length → ws.getD i 0 = (T (a + i)).toInt) ↔ zpv T a L = zpw ws := by
      rw [zpv_dg hL]
      constructor
      · intro g
        unfold zpw
        congr 1
        funext i
        unfold zlt6
        by_cases hi : i < L
        · rw [if_pos hi, if_pos (by omega), g.2 i (by omega)]
        · rw [if_neg hi, if_neg (by omega)]
      · intro g
        unfold zpw at g
        have g2 := zdg6_inj (fun i hi => by
          unfold zlt6
          split
          · rename_i q
            have := hT i q
            omega
          · omega) (fun i hi => by
          split
          · rename_i q
            have := w2 i q
            omega
          · omega) g
        have hl : ws.length = L := by
          apply Classical.byContradiction
          intro q
          by_cases q2 : ws.length < L
          · have g3 := g2 ws.length (by omega)
            unfold zlt6 at g3
            rw [if_pos q2, if_neg (by omega)] at g3
            have := hT ws.length q2
            omega
          · have g3 := g2 L (by omega)
            unfold zlt6 at g3
            rw [if_neg (by omega), if_pos (by omega)] at g3
            have := w2 L (by omega)
            omega
        refine ⟨hl, fun i hi => ?_⟩
        have g3 := g2 i (by omega)
        unfold zlt6 at g3
        rw [if_pos (by omega), if_pos hi] at g3
        have q1 := hT i (by omega)
        have q2 := w2 i hi
        omega
    show (if ws.length = L ∧ ∀ i, i < ws.length → ws.getD i 0 = (T (a + i)).toInt then k else zwdI T a L l (k + 1)) = (if zpv T a L = zpw ws then k else zidxW (zpv T a L) (l.map zpw) (k + 1))
    rw [ih]
    by_cases g : zpv T a L = zpw ws
    · rw [if_pos g, if_pos (hiff.mpr g)]
    · rw [if_neg g, if_neg (fun q => g (hiff.mp q))]
theorem zwdI_long {T : Nat → Int32} {a L : Nat} (hL : 6 < L) : ∀ (l : List (List Int)) (k : Int), (∀ ws, ws ∈ l → zwok ws = true) → zwdI T a L l k = -1
  | [], _, _ => rfl
  | ws :: l, k, h => by
    obtain ⟨w0, w1, w2⟩ := zwok_x (h ws List.mem_cons_self)
    show (if ws.length = L ∧ ∀ i, i < ws.length → ws.getD i 0 = (T (a + i)).toInt then k else zwdI T a L l (k + 1)) = -1
    rw [if_neg (by omega), zwdI_long hL l (k + 1) (fun q hq => h q (List.mem_cons_of_mem _ hq))]
theorem zidx_x {V : Nat} : ∀ (ps : List Nat) (k : Int), (zidxW V ps k = -1 ∧ ∀ j, j < ps.length → V ≠ ps.getD j 0) ∨ ∃ j, j < ps.length ∧ zidxW V ps k = k + (j : Int) ∧ V = ps.getD j 0
  | [], _ => Or.inl ⟨rfl, fun j hj => absurd hj (Nat.not_lt_zero j)⟩
  | p :: ps, k => by
    by_cases h : V = p
    · refine Or.inr ⟨0, Nat.zero_lt_succ _, ?_, h⟩
      show (if V = p then k else _) = _
      rw [if_pos h]
      omega
    · have e : zidxW V (p :: ps) k = zidxW V ps (k + 1) := if_neg h
      rw [e]
      rcases zidx_x ps (k + 1) with ⟨q1, q2⟩ | ⟨j, q1, q2, q3⟩
      · refine Or.inl ⟨q1, fun j hj => ?_⟩
        match j, hj with
        | 0, _ => exact h
        | j + 1, hj => exact q2 j (Nat.lt_of_succ_lt_succ hj)
      · refine Or.inr ⟨j + 1, Nat.succ_lt_succ q1, ?_, q3⟩
        rw [q2]
        omega
/-- the words' own numbers -/
def zWpk : List Nat := [646099136, 679786720, 109359232, 620411008, 273730176, 150637184, 620403968, 48365568, 522190848, 486146048, 777297172, 781325312, 278110208, 408113152, 217567232, 36165792, 418418688]
theorem zWpk_ok : zWds.map zpw = zWpk := by decide
theorem zWds_ok : ∀ ws, ws ∈ zWds → zwok ws = true := by decide
/-- one token, as the model has it and as the class has it -/
def zTR (mk mw K V : Int32) : Prop :=
  (mk = Int32.ofInt 0 ∧ K = Int32.ofInt 0) ∨
  (∃ w : Nat, w < 17 ∧ mk = Int32.ofInt 1 ∧ mw = Int32.ofInt (w : Int) ∧ K = Int32.ofInt 1 ∧ V = Int32.ofInt (zWpk.getD w 0 : Nat)) ∨
  (∃ v : Nat, mk = Int32.ofInt 2 ∧ K = Int32.ofInt 1 ∧ mw = Int32.ofInt (v : Int) ∧ V = Int32.ofInt (v : Int) ∧ v < 1073741824 ∧ ∀ w, w < 17 → v ≠ zWpk.getD w 0) ∨
  (∃ x y : Int, mk = Int32.ofInt 3 ∧ K = Int32.ofInt 2 ∧ mw = Int32.ofInt x ∧ V = Int32.ofInt y ∧ 0 ≤ x ∧ 0 ≤ y ∧ x < 100009 ∧ y ≤ 100000 ∧ ((x = y ∧ x ≤ 9999) ∨ (9999 < x ∧ 9999 < y))) ∨
  (∃ x : Int, mk = Int32.ofInt 4 ∧ K = Int32.ofInt 3 ∧ mw = Int32.ofInt x ∧ V = Int32.ofInt x ∧ (x = 59 ∨ x = 40 ∨ x = 41 ∨ x = 43 ∨ x = 45 ∨ x = 42 ∨ x = 47)) ∨
  (∃ x y : Int, mk = Int32.ofInt 5 ∧ K = Int32.ofInt 3 ∧ mw = Int32.ofInt x ∧ V = Int32.ofInt y ∧ ((x = 0 ∧ y = 60) ∨ (x = 1 ∧ y = 15421) ∨ (x = 2 ∧ y = 61) ∨ (x = 3 ∧ y = 15422) ∨ (x = 4 ∧ y = 15933) ∨ (x = 5 ∧ y = 62))) ∨
  (mk = Int32.ofInt 6 ∧ K = Int32.ofInt 4)
theorem zdig_cd {T : Nat → Int32} : ∀ (d a : Nat) (x y : Int), (∀ j, j < d → 48 ≤ (T (a + j)).toInt ∧ (T (a + j)).toInt ≤ 57) → 0 ≤ x → 0 ≤ y → x < 100009 → y ≤ 100000 → ((x = y ∧ x ≤ 9999) ∨ (9999 < x ∧ 9999 < y)) → 0 ≤ zdigA T d a x ∧ 0 ≤ zcdA T d a y ∧ zdigA T d a x < 100009 ∧ zcdA T d a y ≤ 100000 ∧ ((zdigA T d a x = zcdA T d a y ∧ zdigA T d a x ≤ 9999) ∨ (9999 < zdigA T d a x ∧ 9999 < zcdA T d a y))
  | 0, _, _, _, _, h1, h2, h3, h4, h5 => ⟨h1, h2, h3, h4, h5⟩
  | d + 1, a, x, y, hT, h1, h2, h3, h4, h5 => by
    have h0 := hT 0 (by omega)
    rw [Nat.add_zero] at h0
    refine zdig_cd d (a + 1) _ _ (fun j hj => ?_) ?_ ?_ ?_ ?_ ?_
    · have := hT (j + 1) (by omega)
      rwa [show a + (j + 1) = a + 1 + j by omega] at this
    · split <;> omega
    · split <;> omega
    · split <;> omega
    · split <;> omega
    · split <;> split <;> omega
theorem zTR_ok {T : Nat → Int32} {m b : Nat} {old : Int32} (hb : b ≤ m) (hm : m ≤ 600) : (zTkO T m b old (zcth T m b)).1 = (zcE T m b).1 ∧ zTR (Int32.ofInt (zTkO T m b old (zcth T m b)).2.1) (zTkO T m b old (zcth T m b)).2.2 (zcE T m b).2.1 (zcE T m b).2.2 := by
  unfold zTkO zcE
  by_cases h1 : m ≤ b
  · rw [if_pos h1, if_pos h1]
    exact ⟨rfl, Or.inl ⟨rfl, rfl⟩⟩
  rw [if_neg h1, if_neg h1]
  by_cases h2 : zcs1 (T b) = true
  · rw [if_pos h2, if_pos h2]
    refine ⟨rfl, ?_⟩
    have d1 := zend_le (p := fun q => zcs1 (T q)) (m := m) (m - b) b (by omega)
    have d3 := zend_all (p := fun q => zcs1 (T q)) (m := m) (m - b) b (by omega)
    generalize hd : zend (fun q => zcs1 (T q)) m b = d at d1 d3
    have hT : ∀ i, i < d - b → 97 ≤ (T (b + i)).toInt ∧ (T (b + i)).toInt ≤ 122 := by
      intro i hi
      have q3 := d3 (b + i) (by omega) (by omega)
      simp only [zcs1, Bool.and_eq_true, decide_eq_true_eq] at q3
      exact q3
    show zTR (Int32.ofInt (if 0 ≤ zwdI T b (d - b) zWds 0 then 1 else if 6 < d - b then 6 else 2)) (if 0 ≤ zwdI T b (d - b) zWds 0 ∨ 6 < d - b then Int32.ofInt (zwdI T b (d - b) zWds 0) else Int32.ofInt (zpkA T d 6 b 0 : Nat)) (if 6 < d - b then Int32.ofInt 4 else Int32.ofInt 1) (Int32.ofInt (zpv T b (d - b) : Nat))
    by_cases h6 : 6 < d - b
    · rw [zwdI_long h6 zWds 0 zWds_ok, if_neg (by decide), if_pos h6, if_pos h6]
      exact Or.inr (Or.inr (Or.inr (Or.inr (Or.inr (Or.inr ⟨rfl, rfl⟩)))))
    · rw [if_neg h6]
      have hw := zwdI_pk (T := T) (a := b) (L := d - b) (by omega) hT zWds 0 zWds_ok
      rw [zWpk_ok] at hw
      have hv : zpv T b (d - b) < 1073741824 := by
        unfold zpv
        rw [Nat.min_eq_left (by omega)]
        have := zpu_lt (T := T) (a := b) (d - b) (fun j hj => (hT j hj).2)
        have h7 : 32 ^ (d - b) * 32 ^ (6 - (d - b)) = 1073741824 := by
          rw [← Nat.pow_add, show d - b + (6 - (d - b)) = 6 by omega]
        rw [← h7]
        exact Nat.mul_lt_mul_of_pos_right this (Nat.pow_pos (by decide))
      rcases zidx_x (V := zpv T b (d - b)) zWpk 0 with ⟨q1, q2⟩ | ⟨j, q1, q2, q3⟩
      · rw [q1] at hw
        rw [hw, if_neg (by decide), if_neg h6, if_neg (by omega)]
        have he : zpkA T d 6 b 0 = zpv T b (d - b) := by
          rw [zpv_dg (by omega), ← zpk_dg, show b + (d - b) = d by omega]
        rw [he]
        exact Or.inr (Or.inr (Or.inl ⟨_, rfl, rfl, rfl, rfl, hv, fun w hw => q2 w hw⟩))
      · rw [q2] at hw
        rw [hw, if_pos (by omega), if_pos (by omega), q3, Int.zero_add, if_neg h6]
        exact Or.inr (Or.inl ⟨j, q1, rfl, rfl, rfl, rfl⟩)
  rw [if_neg h2, if_neg h2]
  by_cases h3 : zcd1 (T b) = true
  · rw [if_pos h3, if_pos h3]
    refine ⟨rfl, ?_⟩
    have d1 := zend_le (p := fun q => zcd1 (T q)) (m := m) (m - b) b (by omega)
    have d3 := zend_all (p := fun q => zcd1 (T q)) (m := m) (m - b) b (by omega)
    have := zdig_cd (T := T) (zend (fun q => zcd1 (T q)) m b - b) b 0 0 (fun j hj => by
      have q3 := d3 (b + j) (by omega) (by omega)
      simp only [zcd1, Bool.and_eq_true, decide_eq_true_eq] at q3
      exact q3) (by decide) (by decide) (by decide) (by decide) (Or.inl ⟨rfl, by decide⟩)
    exact Or.inr (Or.inr (Or.inr (Or.inl ⟨_, _, rfl, rfl, rfl, rfl, this⟩)))
  rw [if_neg h3, if_neg h3]
  refine ⟨rfl, ?_⟩
  show zTR (Int32.ofInt (zsgK (T b).toInt)) (Int32.ofInt (zsgW (T b).toInt (zcth T m b))) (Int32.ofInt (zcgK (T b).toInt)) (zcgV (T b) (zcth T m b))
  have hx : T b = Int32.ofInt (T b).toInt := (Int32.ofInt_toInt (T b)).symm
  generalize zcth T m b = y
  unfold zcgV
  generalize (T b).toInt = x at hx
  by_cases g1 : x = 60
  · rw [if_pos g1, g1]
    by_cases y1 : y = 61
    · rw [if_pos y1, y1]
      exact Or.inr (Or.inr (Or.inr (Or.inr (Or.inr (Or.inl ⟨1, 15421, rfl, rfl, rfl, rfl, by decide⟩)))))
    · rw [if_neg y1]
      by_cases y2 : y = 62
      · rw [if_pos y2, y2]
        exact Or.inr (Or.inr (Or.inr (Or.inr (Or.inr (Or.inl ⟨3, 15422, rfl, rfl, rfl, rfl, by decide⟩)))))
      · rw [if_neg y2, hx, g1]
        have e : zsgW 60 y = 0 := by
          unfold zsgW
          rw [if_neg (by decide), if_pos rfl, if_neg y1, if_neg y2]
        rw [e]
        exact Or.inr (Or.inr (Or.inr (Or.inr (Or.inr (Or.inl ⟨0, 60, rfl, rfl, rfl, rfl, by decide⟩)))))
  rw [if_neg g1]
  by_cases g2 : x = 62
  · rw [if_pos g2, g2]
    by_cases y1 : y = 61
    · rw [if_pos y1, y1]
      exact Or.inr (Or.inr (Or.inr (Or.inr (Or.inr (Or.inl ⟨4, 15933, rfl, rfl, rfl, rfl, by decide⟩)))))
    · rw [if_neg y1, hx, g2]
      have e : zsgW 62 y = 5 := by
        unfold zsgW
        rw [if_neg (by decide), if_neg (by decide), if_pos rfl, if_neg y1]
      rw [e]
      exact Or.inr (Or.inr (Or.inr (Or.inr (Or.inr (Or.inl ⟨5, 62, rfl, rfl, rfl, rfl, by decide⟩)))))
  rw [if_neg g2, hx]
  by_cases g3 : x = 61
  · rw [g3]
    exact Or.inr (Or.inr (Or.inr (Or.inr (Or.inr (Or.inl ⟨2, 61, rfl, rfl, rfl, rfl, by decide⟩)))))
  have e : zsgW x y = x := by
    unfold zsgW
    rw [if_neg g3, if_neg g1, if_neg g2]
  rw [e]
  by_cases g4 : x = 59 ∨ x = 40 ∨ x = 41 ∨ x = 43 ∨ x = 45 ∨ x = 42 ∨ x = 47
  · have e1 : zsgK x = 4 := by
      unfold zsgK
      rw [if_neg (by omega), if_pos g4]
    have e2 : zcgK x = 3 := if_pos (by omega)
    rw [e1, e2]
    exact Or.inr (Or.inr (Or.inr (Or.inr (Or.inl ⟨x, rfl, rfl, rfl, rfl, g4⟩))))
  · have e1 : zsgK x = 6 := by
      unfold zsgK
      rw [if_neg (by omega), if_neg g4]
    have e2 : zcgK x = 4 := if_neg (by omega)
    rw [e1, e2]
    exact Or.inr (Or.inr (Or.inr (Or.inr (Or.inr (Or.inr ⟨rfl, rfl⟩)))))
/-! two tapes that agree below a place -/
section ZCG
variable {T U : Nat → Int32} {m : Nat}
theorem zend_congr {p q : Nat → Bool} (h : ∀ i, i < m → p i = q i) : ∀ (d a : Nat), a + d = m → zend p m a = zend q m a := by
  intro d
  induction d with
  | zero =>
    intro a ha
    rw [zend_no (Or.inl (by omega)), zend_no (Or.inl (by omega))]
  | succ d ih =>
    intro a ha
    cases hp : p a with
    | true => rw [zend_up (by omega) hp, zend_up (by omega) ((h a (by omega)).symm.trans hp), ih (a + 1) (by omega)]
    | false => rw [zend_no (Or.inr hp), zend_no (Or.inr ((h a (by omega)).symm.trans hp))]
theorem zpu_congr (h : ∀ i, i < m → T i = U i) {a : Nat} : ∀ i, a + i ≤ m → zpu T a i = zpu U a i
  | 0, _ => rfl
  | i + 1, hi => by
    show 32 * zpu T a i + ((T (a + i)).toInt.toNat - 96) = 32 * zpu U a i + ((U (a + i)).toInt.toNat - 96)
    rw [zpu_congr h i (by omega), h (a + i) (by omega)]
theorem zcdA_congr (h : ∀ i, i < m → T i = U i) : ∀ (d a : Nat) (w : Int), a + d ≤ m → zcdA T d a w = zcdA U d a w
  | 0, _, _, _ => rfl
  | d + 1, a, w, hd => by
    show zcdA T d (a + 1) (if 10 * w + (T a).toInt - 48 ≤ 100000 then 10 * w + (T a).toInt - 48 else 100000) = zcdA U d (a + 1) (if 10 * w + (U a).toInt - 48 ≤ 100000 then 10 * w + (U a).toInt - 48 else 100000)
    rw [h a (by omega), zcdA_congr h d (a + 1) _ (by omega)]
theorem zcE_congr (h : ∀ i, i < m → T i = U i) {a : Nat} : zcE T m a = zcE U m a := by
  unfold zcE
  by_cases h1 : m ≤ a
  · rw [if_pos h1, if_pos h1]
  rw [if_neg h1, if_neg h1, h a (by omega)]
  have e1 : zend (fun q => zcs1 (T q)) m a = zend (fun q => zcs1 (U q)) m a := zend_congr (fun i hi => by rw [h i hi]) (m - a) a (by omega)
  have e2 : zend (fun q => zcd1 (T q)) m a = zend (fun q => zcd1 (U q)) m a := zend_congr (fun i hi => by rw [h i hi]) (m - a) a (by omega)
  have l1 := zend_le (p := fun q => zcs1 (U q)) (m := m) (m - a) a (by omega)
  have l2 := zend_le (p := fun q => zcd1 (U q)) (m := m) (m - a) a (by omega)
  have e3 : zcth T m a = zcth U m a := by
    unfold zcth
    by_cases g : a + 1 < m
    · rw [if_pos g, if_pos g, h (a + 1) g]
    · rw [if_neg g, if_neg g]
  have e4 : zpv T a (zend (fun q => zcs1 (U q)) m a - a) = zpv U a (zend (fun q => zcs1 (U q)) m a - a) := by
    unfold zpv
    rw [zpu_congr h _ (by omega)]
  rw [e1, e2, e3, e4, zcdA_congr h _ _ _ (by omega)]
theorem zpl_congr (h : ∀ i, i < m → T i = U i) : ∀ i, zpl T m i = zpl U m i
  | 0 => zend_congr (fun i hi => by rw [h i hi]) m 0 (by omega)
  | i + 1 => by
    show zend (fun q => zcb1 (T q)) m (zcE T m (zpl T m i)).1 = zend (fun q => zcb1 (U q)) m (zcE U m (zpl U m i)).1
    rw [zpl_congr h i, zcE_congr h]
    have := zcE_rg (T := U) (zpl_le (T := U) (m := m) i)
    exact zend_congr (fun i hi => by rw [h i hi]) (m - (zcE U m (zpl U m i)).1) _ (by omega)
end ZCG
