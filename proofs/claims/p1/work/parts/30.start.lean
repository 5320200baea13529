/-! from the law's entry to its end -/
theorem ztab_sub {w : Cond} (h : w ∈ ztab) : w ∈ lw_tbl := (List.mem_filter.mp h).1
set_option maxRecDepth 100000 in
theorem zinst : ∀ q ∈ zcl, Cond.instantiable q.1 q.2.2 ∈ lw_tbl := by decide +kernel
def zW5 : List Cond := [.arrayClass .int, .arrayClass .long, .arrayClass .byte, .arrayClass .boolean, .arrayOver (.object "TinTower$Scene"), .stringRef "TinTower" 127 "no such thing", .laysStatic Bundle.tN "UNASSIGNED_STACK" Bundle.steD, .laysStatic Bundle.tN "SUPPRESSED_SENTINEL" Bundle.listD, .initialized Bundle.tN]
set_option maxRecDepth 100000 in
theorem zW5_in : ∀ w ∈ zW5, w ∈ lw_tbl := by decide +kernel
theorem zarr_of {s : State} {args : Array Value} {ty : FieldType} (h : (Cond.arrayClass ty).before args s = true) : ∃ cA : ClassId, ArrOfT s cA ty ∧ s.vm.findClass ("[" ++ ty.toString) = some cA := by
  obtain ⟨c, k, comp, h1, h2, h3⟩ := Cond.arrayClass_spec h
  exact ⟨c, fun n z => ⟨fun k q => (by cases q), k, h2, comp, h3⟩, h1⟩
theorem zarr_ob {s : State} {args : Array Value} {C : String} (h : (Cond.arrayOver (.object C)).before args s = true) : ∃ cA : ClassId, ArrOfT s cA (.object C) ∧ va_RA s cA (.object C) := by
  obtain ⟨comp, c, k, h1, -, h2, h3, h4⟩ := Cond.arrayOver_spec h
  exact ⟨c, fun n z => ⟨fun k q => (by cases q), k, h2, comp, h3⟩, k, comp, h2, h3, h1, h4⟩
/-- what the world stands on, at the law's entry -/
theorem zstart_K {s : State} {b L : Nat} {xs : Nat → Int32} (hts : ∀ w ∈ lw_tbl, w.before #[Value.ref b] s = true) (hX : va_X b L xs s s.heap) (hbl : b < s.heap.size) (hgv : (Jvm.Cond.and given_1 narrow_1).before #[Value.ref b] s = true) : ∃ (D : va_G) (tA : Nat → ClassId), zK D (s.heap.size, b) tA L xs s.heap s := by
  have hD : ∀ ci : Nat, ∃ r : ClassId × (Nat → Nat), ∀ q, zcl[ci]? = some q → u_Kn s q.1 q.2.1 q.2.2 r.1 r.2 := by
    intro ci
    cases hq : zcl[ci]? with
    | none => exact ⟨(0, fun _ => 0), fun q h => by cases h⟩
    | some q =>
      obtain ⟨cC, iS, h⟩ := u_known (C := q.1) (T := q.2.1) (N := q.2.2) hts (fun w hw => ztab_sub ((zclass hq).1 w hw)) (hts _ (zinst q (List.mem_of_getElem? hq)))
      exact ⟨(cC, iS), fun q' h' => by cases h'; exact h⟩
  have hA : ∃ tA : Nat → ClassId, ∀ (k : Nat) (q : ClassId × FieldType), (zty tA)[k]? = some q → ArrOfT s q.1 q.2 ∧ va_RA s q.1 q.2 := by
    obtain ⟨a0, h0, g0⟩ := zarr_of (hts _ (zW5_in (.arrayClass .int) (by simp [zW5])))
    obtain ⟨a1, h1, g1⟩ := zarr_of (hts _ (zW5_in (.arrayClass .long) (by simp [zW5])))
    obtain ⟨a2, h2, g2⟩ := zarr_of (hts _ (zW5_in (.arrayClass .byte) (by simp [zW5])))
    obtain ⟨a3, h3, g3⟩ := zarr_of (hts _ (zW5_in (.arrayClass .boolean) (by simp [zW5])))
    obtain ⟨a4, h4, g4⟩ := zarr_ob (hts _ (zW5_in (.arrayOver (.object "TinTower$Scene")) (by simp [zW5])))
    refine ⟨fun t => match t with | 0 => a0 | 1 => a1 | 2 => a2 | 3 => a3 | _ => a4, fun k q hk => ?_⟩
    match k, hk with
    | 0, hk => cases hk; exact ⟨h0, g0⟩
    | 1, hk => cases hk; exact ⟨h1, g1⟩
    | 2, hk => cases hk; exact ⟨h2, g2⟩
    | 3, hk => cases hk; exact ⟨h3, g3⟩
    | 4, hk => cases hk; exact ⟨h4, g4⟩
    | n + 5, hk => simp [zty] at hk
  obtain ⟨tA, hA⟩ := hA
  have hs := flat_of_before _ hgv
  have hfree : ∀ a : Nat, a < s.heap.size → ¬ s.heap.size ≤ a := fun a h1 h2 => by omega
  refine ⟨(fun ci => (Classical.choose (hD ci)).1, fun ci => (Classical.choose (hD ci)).2), tA, ⟨fun ci q hq => Classical.choose_spec (hD ci) q hq, hA⟩, hX, hbl, va_AO.of (hts _ (zW5_in (.arrayOver (.object "TinTower$Scene")) (by simp [zW5]))), fun a i x h hw => va_Nw.of rfl (hts _ hw), ?_, fun C T hw => va_Nw.of rfl (hts _ hw), fun x hw => va_Nw.of rfl (hts _ hw), ?_, ?_⟩
  · have hw := hts _ (zW5_in (.stringRef "TinTower" 127 "no such thing") (by simp [zW5]))
    have hcur : s.vm.findClass "TinTower" = some (Classical.choose (hD 11)).1 := (Classical.choose_spec (hD 11) _ rfl).2.1
    obtain ⟨k, cf, i, a, -, -, -, -, -, hev⟩ := Cond.stringRef_spec hcur hw
    exact ⟨a, vk_R.of hw hev⟩
  · exact vx_Zqof (hts _ (zW5_in (.laysStatic Bundle.tN "UNASSIGNED_STACK" Bundle.steD) (by simp [zW5]))) (hts _ (zW5_in (.initialized Bundle.tN) (by simp [zW5]))) (hs _ (by decide +kernel)) hfree
  · exact vx_Zqof (hts _ (zW5_in (.laysStatic Bundle.tN "SUPPRESSED_SENTINEL" Bundle.listD) (by simp [zW5]))) (hts _ (zW5_in (.initialized Bundle.tN) (by simp [zW5]))) (hs _ (by decide +kernel)) hfree
/-- the symbols -/
def zrho (L : Nat) (xs : Nat → Int32) (j : Nat) : Int := match j with
  | 6 => L
  | 7 => (xs 0 &&& 31).toInt
  | j => (xs j).toInt
theorem zrho_X {L : Nat} {xs : Nat → Int32} (hL : L ≤ 6) : zX (zrho L xs) L xs := by
  refine ⟨fun j hj => ?_, rfl, by omega, rfl⟩
  match j, hj with
  | 0, _ => rfl
  | 1, _ => rfl
  | 2, _ => rfl
  | 3, _ => rfl
  | 4, _ => rfl
  | 5, _ => rfl
theorem zrho_E {L : Nat} {xs : Nat → Int32} {u v : Int} (hL : L ≤ 6) (h : u ≤ (xs 0 &&& 31).toInt ∧ (xs 0 &&& 31).toInt ≤ v) : zaE (zrho L xs) (zE0 u v) := by
  intro i q hq
  match i, hq with
  | 0, hq => cases hq; exact zb_rng _
  | 1, hq => cases hq; exact zb_rng _
  | 2, hq => cases hq; exact zb_rng _
  | 3, hq => cases hq; exact zb_rng _
  | 4, hq => cases hq; exact zb_rng _
  | 5, hq => cases hq; exact zb_rng _
  | 6, hq => cases hq; exact ⟨by show (0 : Int) ≤ (L : Int); omega, by show (L : Int) ≤ 6; omega⟩
  | 7, hq => cases hq; exact h
  | n + 8, hq => simp [zE0] at hq
/-- the law's body, out of its abstract run -/
theorem zlaw_go {p : Program} {e : Env} {s : State} {m : MethodId} {below : List Frame} {meth : Method} {c : Code} {l : Launch} {b L : Nat} {xs : Nat → Int32} {R : Room} {Q : State → Prop} {u v : Int} (htr : l.stackTraces = false) (hL : L ≤ 6)
    (hC : zC p s m #[Value.ref b] meth c zmLaw) (hts : ∀ w ∈ lw_tbl, w.before #[Value.ref b] s = true) (hX : va_X b L xs s s.heap) (hbl : b < s.heap.size) (hgv : (Jvm.Cond.and given_1 narrow_1).before #[Value.ref b] s = true)
    (hR : R.cells = 600002 ∧ R.slots = 7302232 ∧ R.frames = 10 ∧ R.locals = 422) (hz : zgo u v 100000 = true) (hk : u ≤ (xs 0 &&& 31).toInt ∧ (xs 0 &&& 31).toInt ≤ v)
    (hret : ∀ (H : Heap) (ls : Array Slot) (pc : Nat), decode zmLaw.2.1 pc = .ok (.ireturn, 1) → W p l e R s m #[Value.ref b] below meth c H [] 600002 7302232 Q (F0 m pc ls [.int 1])) :
    W p l e R s m #[Value.ref b] below meth c s.heap [] 0 0 Q (entryFrame m ([Value.ref b] : List Value).toArray 7) := by
  obtain ⟨D, tA, hK⟩ := zstart_K hts hX hbl hgv
  have hl := lv_entry ([Value.ref b] : List Value) (n := 7) (Nat.le_of_ble_eq_true rfl)
  rw [lg_entry_eq]
  have hrun := zrun_ok (l := l) zTB_ok (zrho_X hL) (zlook1_ok (l := l) htr zTB_ok (zrho_X hL)) 100000 _ _ _ _ _ _ _ _ _ _ _ _ _ _ _ hz zmLaw zLawOK (fun e he => he) rfl p e R s m #[Value.ref b] below meth c Q D (s.heap.size, b) tA s.heap hC hK hR.2.2.1 hR.2.2.2 hR.1 hR.2.1 (fun _ => hR) ?_
  · exact hrun (zrho_E hL hk) [(0, .float 0)] [] [] ⟨⟨rfl, rfl⟩, trivial⟩ trivial ⟨Or.inl rfl, fun i c hc => by simp [zhg] at hc⟩ s.heap [] _ ⟨rfl, fun i h hi => (by simp at hi), fun q _ => rfl⟩ (fun q hq => absurd hq List.not_mem_nil) hl
  · intro r h E hKr hE rv hp hr hH H locs ls pc c' s' hzH hlo hc hs hRI
    unfold zKr1 at hKr
    split at hKr
    · rename_i a
      have ha := zaveq_ok hKr
      subst ha
      match rv, hr with
      | some v, hr =>
        obtain ⟨y, rfl, y1, y2⟩ := hr
        have hy : y = 1 := Int32.toInt_inj.1 (by show y.toInt = (1 : Int32).toInt; have : (1 : Int32).toInt = 1 := rfl; omega)
        subst hy
        refine va_forget hlo (W.widen (k := 600002) (n := 7302232) (by rw [← hR.1]; exact hc) (by rw [← hR.2.1]; exact hs) ?_)
        rcases hRI with ⟨hd, -⟩ | ⟨-, z, hz2, -⟩ | ⟨-, hz2, -⟩
        · exact hret H ls pc hd
        · cases hz2
        · cases hz2
      | none, hr => exact hr.elim
    · cases hKr
theorem zlaw_all {p : Program} {e : Env} {s : State} {m : MethodId} {below : List Frame} {meth : Method} {c : Code} {l : Launch} {b L : Nat} {xs : Nat → Int32} {R : Room} {Q : State → Prop} (htr : l.stackTraces = false) (hL : L ≤ 6)
    (hC : zC p s m #[Value.ref b] meth c zmLaw) (hts : ∀ w ∈ lw_tbl, w.before #[Value.ref b] s = true) (hX : va_X b L xs s s.heap) (hbl : b < s.heap.size) (hgv : (Jvm.Cond.and given_1 narrow_1).before #[Value.ref b] s = true)
    (hR : R.cells = 600002 ∧ R.slots = 7302232 ∧ R.frames = 10 ∧ R.locals = 422)
    (hret : ∀ (H : Heap) (ls : Array Slot) (pc : Nat), decode zmLaw.2.1 pc = .ok (.ireturn, 1) → W p l e R s m #[Value.ref b] below meth c H [] 600002 7302232 Q (F0 m pc ls [.int 1])) :
    W p l e R s m #[Value.ref b] below meth c s.heap [] 0 0 Q (entryFrame m ([Value.ref b] : List Value).toArray 7) := by
  have hk := zb_and0 (x := xs 0) (y := 31) (by decide)
  have h31 : (31 : Int32).toInt = 31 := rfl
  rw [h31] at hk
  by_cases h0 : (xs 0 &&& 31).toInt ≤ 0
  · exact zlaw_go htr hL hC hts hX hbl hgv hR zgo_0 ⟨by omega, by omega⟩ hret
  by_cases h1 : (xs 0 &&& 31).toInt ≤ 1
  · exact zlaw_go htr hL hC hts hX hbl hgv hR zgo_1 ⟨by omega, by omega⟩ hret
  by_cases h2 : (xs 0 &&& 31).toInt ≤ 8
  · exact zlaw_go htr hL hC hts hX hbl hgv hR zgo_2 ⟨by omega, by omega⟩ hret
  by_cases h3 : (xs 0 &&& 31).toInt ≤ 10
  · exact zlaw_go htr hL hC hts hX hbl hgv hR zgo_9 ⟨by omega, by omega⟩ hret
  by_cases h4 : (xs 0 &&& 31).toInt ≤ 20
  · exact zlaw_go htr hL hC hts hX hbl hgv hR zgo_11 ⟨by omega, by omega⟩ hret
  · exact zlaw_go htr hL hC hts hX hbl hgv hR zgo_21 ⟨by omega, by omega⟩ hret
