/-! from the law's entry to its end -/
def zmLaw : zMe := (x, code, maxLocals, ret)
theorem ztab_sub {w : Cond} (h : w ∈ ztab) : w ∈ lw_tbl := (List.mem_filter.mp h).1
set_option maxRecDepth 100000 in
theorem zinst : ∀ q ∈ zcl, Cond.instantiable q.1 q.2.2 ∈ lw_tbl := by decide +kernel
def zW5 : List Cond := [.arrayClass .int, .arrayClass .long, .arrayClass .byte, .arrayClass .boolean, .arrayOver (.object "TinTower$Scene"), .stringRef "TinTower" 127 "no such thing", .laysStatic Bundle.tN "UNASSIGNED_STACK" Bundle.steD, .laysStatic Bundle.tN "SUPPRESSED_SENTINEL" Bundle.listD, .initialized Bundle.tN]
set_option maxRecDepth 100000 in
theorem zW5_in : ∀ w ∈ zW5, w ∈ lw_tbl := by decide +kernel
theorem zarr_of {s : State} {args : Array Value} {ty : FieldType} (h : (Cond.arrayClass ty).before args s = true) : ∃ cA : ClassId, ArrOfT s cA ty ∧ s.vm.findClass ("[" ++ ty.toString) = some cA := by
  obtain ⟨c, k, comp, h1, h2, h3⟩ := Cond.arrayClass_spec h
  exact ⟨c, fun n z => ⟨fun k q => (by cases q), k, h2, comp, h3⟩, h1⟩
theorem zarr_ob {s : State} {args : Array Value} {C : String} (h : (Cond.arrayOver (.object C)).before args s = true) : ∃ cA : ClassId, ArrOfT s cA (.object C) ∧ va_RA s cA (.object C) := by
  obtain ⟨comp, c, k, h1, -, h2, h3, h4⟩ := Cond.arrayOver_spec h
  exact ⟨c, fun n z => ⟨fun k q => (by cases q), k, h2, comp, h3⟩, k, comp, h2, h3, h1, h4⟩
/-- what the world stands on, at the law's entry -/
theorem zstart_K {s : State} {b L : Nat} {xs : Nat → Int32} (hts : ∀ w ∈ lw_tbl, w.before #[Value.ref b] s = true) (hX : va_X b L xs s s.heap) (hbl : b < s.heap.size) (hgv : (Jvm.Cond.and given_1 narrow_1).before #[Value.ref b] s = true) : ∃ (D : va_G) (tA : Nat → ClassId), zK D (s.heap.size, b) tA L xs s.heap s := by
  have hD : ∀ ci : Nat, ∃ r : ClassId × (Nat → Nat), ∀ q, zcl[ci]? = some q → u_Kn s q.1 q.2.1 q.2.2 r.1 r.2 := by
    intro ci
    cases hq : zcl[ci]? with
    | none => exact ⟨(0, fun _ => 0), fun q h => by cases h⟩
    | some q =>
      obtain ⟨cC, iS, h⟩ := u_known (C := q.1) (T := q.2.1) (N := q.2.2) hts (fun w hw => ztab_sub ((zclass hq).1 w hw)) (hts _ (zinst q (List.mem_of_getElem? hq)))
      exact ⟨(cC, iS), fun q' h' => by cases h'; exact h⟩
  have hA : ∃ tA : Nat → ClassId, ∀ (k : Nat) (q : ClassId × FieldType), (zty tA)[k]? = some q → ArrOfT s q.1 q.2 ∧ va_RA s q.1 q.2 := by
    obtain ⟨a0, h0, g0⟩ := zarr_of (hts _ (zW5_in (.arrayClass .int) (by simp [zW5])))
    obtain ⟨a1, h1, g1⟩ := zarr_of (hts _ (zW5_in (.arrayClass .long) (by simp [zW5])))
    obtain ⟨a2, h2, g2⟩ := zarr_of (hts _ (zW5_in (.arrayClass .byte) (by simp [zW5])))
    obtain ⟨a3, h3, g3⟩ := zarr_of (hts _ (zW5_in (.arrayClass .boolean) (by simp [zW5])))
    obtain ⟨a4, h4, g4⟩ := zarr_ob (hts _ (zW5_in (.arrayOver (.object "TinTower$Scene")) (by simp [zW5])))
    refine ⟨fun t => match t with | 0 => a0 | 1 => a1 | 2 => a2 | 3 => a3 | _ => a4, fun k q hk => ?_⟩
    match k, hk with
    | 0, hk => cases hk; exact ⟨h0, g0⟩
    | 1, hk => cases hk; exact ⟨h1, g1⟩
    | 2, hk => cases hk; exact ⟨h2, g2⟩
    | 3, hk => cases hk; exact ⟨h3, g3⟩
    | 4, hk => cases hk; exact ⟨h4, g4⟩
    | n + 5, hk => simp [zty] at hk
  obtain ⟨tA, hA⟩ := hA
  have hs := flat_of_before _ hgv
  have hfree : ∀ a : Nat, a < s.heap.size → ¬ s.heap.size ≤ a := fun a h1 h2 => by omega
  refine ⟨(fun ci => (Classical.choose (hD ci)).1, fun ci => (Classical.choose (hD ci)).2), tA, ⟨fun ci q hq => Classical.choose_spec (hD ci) q hq, hA⟩, hX, hbl, va_AO.of (hts _ (zW5_in (.arrayOver (.object "TinTower$Scene")) (by simp [zW5]))), fun a i x h hw => va_Nw.of rfl (hts _ hw), ?_, fun C T hw => va_Nw.of rfl (hts _ hw), fun x hw => va_Nw.of rfl (hts _ hw), ?_, ?_⟩
  · have hw := hts _ (zW5_in (.stringRef "TinTower" 127 "no such thing") (by simp [zW5]))
    have hcur : s.vm.findClass "TinTower" = some (Classical.choose (hD 11)).1 := (Classical.choose_spec (hD 11) _ rfl).2.1
    obtain ⟨k, cf, i, a, -, -, -, -, -, hev⟩ := Cond.stringRef_spec hcur hw
    exact ⟨a, vk_R.of hw hev⟩
  · exact vx_Zqof (hts _ (zW5_in (.laysStatic Bundle.tN "UNASSIGNED_STACK" Bundle.steD) (by simp [zW5]))) (hts _ (zW5_in (.initialized Bundle.tN) (by simp [zW5]))) (hs _ (by decide +kernel)) hfree
  · exact vx_Zqof (hts _ (zW5_in (.laysStatic Bundle.tN "SUPPRESSED_SENTINEL" Bundle.listD) (by simp [zW5]))) (hts _ (zW5_in (.initialized Bundle.tN) (by simp [zW5]))) (hs _ (by decide +kernel)) hfree
theorem zstart_Y {D : va_G} {tA : Nat → ClassId} {s : State} {b L : Nat} {xs : Nat → Int32} (hK : zK D (s.heap.size, b) tA L xs s.heap s) (hts : ∀ w ∈ lw_tbl, w.before #[Value.ref b] s = true) (hgv : (Jvm.Cond.and given_1 narrow_1).before #[Value.ref b] s = true) : zKY s := by
  have hs := flat_of_before _ hgv
  refine ⟨?_, va_Nc.of (hs (.not (.castable "java/util/NoSuchElementException" "java/lang/IndexOutOfBoundsException")) (by decide +kernel))⟩
  have hw := hts (.stringRef "TinTower" 162 "no such what") (by decide +kernel)
  have hcur : s.vm.findClass "TinTower" = some (D.1 11) := (hK.1.1 11 _ rfl).2.1
  obtain ⟨k, cf, i, a, -, -, -, -, -, hev⟩ := Cond.stringRef_spec hcur hw
  exact ⟨a, vk_R.of hw hev⟩
/-- the law's body, out of its run -/
theorem zlaw_go {p : Program} {e : Env} {s : State} {m : MethodId} {below : List Frame} {meth : Method} {c : Code} {l : Launch} {b L : Nat} {xs : Nat → Int32} {Q : State → Prop} (htr : l.stackTraces = false) (hTB : zTBok) (hMe : zMeK 276 zmLaw) (hL : L ≤ 3072)
    (hC : zC p s m #[Value.ref b] meth c zmLaw) (hts : ∀ w ∈ lw_tbl, w.before #[Value.ref b] s = true) (hX : va_X b L xs s s.heap) (hbl : b < s.heap.size) (hgv : (Jvm.Cond.and given_1 narrow_1).before #[Value.ref b] s = true)
    (hret : ∀ (H : Heap) (ls : Array Slot) (pc : Nat), decode zmLaw.2.1 pc = .ok (.ireturn, 1) → W p l e (zrm 276) s m #[Value.ref b] below meth c H [] 601024 7293034 Q (F0 m pc ls [.int 1])) :
    W p l e (zrm 276) s m #[Value.ref b] below meth c s.heap [] 0 0 Q (entryFrame m ([Value.ref b] : List Value).toArray 7) := by
  obtain ⟨D, tA, hK⟩ := zstart_K hts hX hbl hgv
  have hY := zstart_Y hK hts hgv
  have hl := lv_entry ([Value.ref b] : List Value) (n := 7) (Nat.le_of_ble_eq_true rfl)
  rw [lg_entry_eq]
  have hsh := zWP_okE (l := l) hTB (zlk2_ok htr hTB) (zentry (Lx := L) (xs := xs) (Q := fun rv _ => rv = some (.int 1)) (fun _ => rfl) hL)
  refine hsh zmLaw hMe p e s m #[Value.ref b] below meth c Q D (s.heap.size, b) tA s.heap hC hK hY ?_ s.heap [] _ ⟨rfl, fun i h hi => (by simp at hi), fun q _ => rfl⟩ (fun q hq => absurd hq List.not_mem_nil) hl
  intro rv hp hQ H locs ls pc c' s' hzH hlo hc hs hRI
  have hQ : rv = some (.int 1) := hQ
  subst hQ
  obtain ⟨r1, r2⟩ := zrm276
  refine va_forget hlo (W.widen (k := 601024) (n := 7293034) (by rw [← r1]; exact hc) (by rw [← r2]; exact hs) ?_)
  rcases hRI with ⟨hd, -⟩ | ⟨-, z, hz2, -⟩ | ⟨-, hz2, -⟩
  · exact hret H ls pc hd
  · cases hz2
  · cases hz2
