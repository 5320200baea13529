/-! an instruction of the pure machine is the machine's own -/
section ZPS
variable {p : Program} {l : Launch} {e : Env} {R : Room} {s0 : State} {m : MethodId} {args : Array Value} {below : List Frame} {meth : Method} {c0 : Code} {Q : State → Prop}
variable {D : va_G} {B : zB} {tA : Nat → ClassId} {H0 : Heap} {me : zMe} {Lx : Nat} {xs : Nat → Int32} {a b : Nat} {v : Int} {pc : Nat} {L : zL} {st : List Value} {hp : List zhE} {c s : Nat}
/-- what is shown of a frame -/
def zGo (p : Program) (l : Launch) (e : Env) (R : Room) (s0 : State) (m : MethodId) (args : Array Value) (below : List Frame) (meth : Method) (c0 : Code) (Q : State → Prop) (D : va_G) (B : zB) (tA : Nat → ClassId) (H0 : Heap) (nL : Nat) (z : zCF) : Prop :=
  ∀ (H : Heap) (locs : List Loc) (ls : Array Slot), zH D B tA H0 z.2.2.2.1 H → (∀ q ∈ locs, B.1 ≤ q.base) → lv_has ls nL (zmL B z.2.1) → W p l e R s0 m args below meth c0 H locs z.2.2.2.2.1 z.2.2.2.2.2 Q (F0 m z.1 ls (z.2.2.1.map (zvm B)))
theorem zvk_ok {w : Value} {ty : FieldType} (hz : zvk v w = true) (ht : zfkT v ty) (B : zB) : narrow ty (zvm B w) = zvm B w ∧ fits ty (zvm B w) = true := by
  unfold zvk at hz
  unfold zfkT at ht
  split at hz
  · subst ht; exact ⟨rfl, rfl⟩
  · subst ht
    simp only [Bool.or_eq_true, decide_eq_true_eq] at hz
    rcases hz with rfl | rfl
    · exact (show narrow .boolean (.int 0) = .int 0 ∧ fits .boolean (.int 0) = true by decide)
    · exact (show narrow .boolean (.int 1) = .int 1 ∧ fits .boolean (.int 1) = true by decide)
  · subst ht; exact ⟨rfl, rfl⟩
  · rcases ht with ⟨n, rfl⟩ | ⟨n, rfl⟩ <;> exact ⟨rfl, rfl⟩
  · rcases ht with ⟨n, rfl⟩ | ⟨n, rfl⟩ <;> exact ⟨rfl, rfl⟩
  · cases hz
theorem znn {x : Int32} (h : 0 ≤ x.toInt) : ¬ x < 0 := fun q => by
  have h1 := Int32.lt_iff_toInt_lt.mp q
  have h2 : (0 : Int32).toInt = 0 := rfl
  omega
theorem zcat_eq {B : zB} {w : Value} {n : Nat} (h : Nat.beq w.category n = true) : (zvm B w).category = n := by
  rw [zvm_cat]
  exact Nat.eq_of_beq_eq_true h
theorem zbr_t {b : Bool} {t f : Nat} {G : Nat → Prop} (h : G (cond b t f)) : (b = true → G t) ∧ (b = false → G f) := by
  cases b
  · exact ⟨fun hc => absurd hc Bool.false_ne_true, fun _ => h⟩
  · exact ⟨fun _ => h, fun hc => absurd hc.symm Bool.false_ne_true⟩
set_option maxHeartbeats 8000000 in
theorem zone_ok {i : Instr} {z : zCF} (hz : zone pc L st hp c s Lx xs me.2.2.1 R i a b v = some z) (hOK : zOK me (pc, i, a, b, v)) (hC : zC p s0 m args meth c0 me) (hK0 : zK D B tA Lx xs H0 s0)
    (next : zGo p l e R s0 m args below meth c0 Q D B tA H0 me.2.2.1 z) : zGo p l e R s0 m args below meth c0 Q D B tA H0 me.2.2.1 (pc, L, st, hp, c, s) := by
  obtain ⟨hx, hb, hr, hml, hown, hts, hlocks, hnm⟩ := id hC
  have hVK := hK0.1
  intro H locs ls h1 h2 h3
  unfold zone at hz
  split at hz
  -- numbers
  · have hd := zf_dec hOK rfl
    cases hz; exact lv_iconst hx hb hd rfl (next H locs ls h1 h2 h3)
  · have hd := zf_dec hOK rfl
    cases hz; exact lv_bipush hx hb hd rfl (next H locs ls h1 h2 h3)
  · have hd := zf_dec hOK rfl
    cases hz; exact lv_sipush hx hb hd rfl (next H locs ls h1 h2 h3)
  · have hd := zf_dec hOK rfl
    cases hz; exact lv_lconst hx hb hd rfl (next H locs ls h1 h2 h3)
  · have hd := zf_dec hOK rfl
    have hw := hts _ (zOK_tab hOK (List.mem_singleton.mpr rfl) rfl)
    cases hz; exact lv_ldc hx hb hown hw hd (next H locs ls h1 h2 h3)
  · have hd := zf_dec hOK rfl
    have hw := hts _ (zOK_tab hOK (List.mem_singleton.mpr rfl) rfl)
    cases hz; exact lv_ldcw hx hb hown hw hd (next H locs ls h1 h2 h3)
  · have hd := zf_dec hOK rfl
    have hw := hts _ (zOK_tab hOK (List.mem_singleton.mpr rfl) rfl)
    cases hz; exact lv_ldc2 hx hb hown hw hd (next H locs ls h1 h2 h3)
  -- two ints
  · have hd := zf_dec hOK rfl
    unfold zI2 at hz; split at hz <;> cases hz
    exact lv_iadd hx hb hd (next H locs ls h1 h2 h3)
  · have hd := zf_dec hOK rfl
    unfold zI2 at hz; split at hz <;> cases hz
    exact lv_isub hx hb hd (next H locs ls h1 h2 h3)
  · have hd := zf_dec hOK rfl
    unfold zI2 at hz; split at hz <;> cases hz
    exact lv_imul hx hb hd (next H locs ls h1 h2 h3)
  · have hd := zf_dec hOK rfl
    unfold zI2 at hz; split at hz <;> cases hz
    exact lv_iand hx hb hd (next H locs ls h1 h2 h3)
  · have hd := zf_dec hOK rfl
    unfold zI2 at hz; split at hz <;> cases hz
    exact lv_ior hx hb hd (next H locs ls h1 h2 h3)
  · have hd := zf_dec hOK rfl
    unfold zI2 at hz; split at hz <;> cases hz
    exact lv_ixor hx hb hd (next H locs ls h1 h2 h3)
  · have hd := zf_dec hOK rfl
    unfold zI2 at hz; split at hz <;> cases hz
    exact lv_ishl hx hb hd (next H locs ls h1 h2 h3)
  · have hd := zf_dec hOK rfl
    unfold zI2 at hz; split at hz <;> cases hz
    exact lv_ishr hx hb hd (next H locs ls h1 h2 h3)
  · have hd := zf_dec hOK rfl
    unfold zI2 at hz; split at hz <;> cases hz
    exact lv_iushr hx hb hd rfl (next H locs ls h1 h2 h3)
  · have hd := zf_dec hOK rfl
    unfold zDI at hz; split at hz <;> try cases hz
    split at hz <;> cases hz
    rename_i hne
    exact lv_idiv hx hb hd (of_decide_eq_false hne) (next H locs ls h1 h2 h3)
  · have hd := zf_dec hOK rfl
    unfold zDI at hz; split at hz <;> try cases hz
    split at hz <;> cases hz
    rename_i hne
    exact lv_irem hx hb hd (of_decide_eq_false hne) (next H locs ls h1 h2 h3)
  -- one
  · have hd := zf_dec hOK rfl
    split at hz <;> cases hz
    exact lv_ineg hx hb hd (next H locs ls h1 h2 h3)
  · have hd := zf_dec hOK rfl
    split at hz <;> cases hz
    exact lv_i2b hx hb hd rfl (next H locs ls h1 h2 h3)
  · have hd := zf_dec hOK rfl
    split at hz <;> cases hz
    exact lv_i2l hx hb hd rfl (next H locs ls h1 h2 h3)
  · have hd := zf_dec hOK rfl
    split at hz <;> cases hz
    exact lv_l2i hx hb hd rfl (next H locs ls h1 h2 h3)
  · have hd := zf_dec hOK rfl
    split at hz <;> cases hz
    exact lv_lneg hx hb hd (next H locs ls h1 h2 h3)
  -- longs
  · have hd := zf_dec hOK rfl
    unfold zL2 at hz; split at hz <;> cases hz
    exact lv_ladd hx hb hd (next H locs ls h1 h2 h3)
  · have hd := zf_dec hOK rfl
    unfold zL2 at hz; split at hz <;> cases hz
    exact lv_lsub hx hb hd (next H locs ls h1 h2 h3)
  · have hd := zf_dec hOK rfl
    unfold zL2 at hz; split at hz <;> cases hz
    exact lv_lmul hx hb hd (next H locs ls h1 h2 h3)
  · have hd := zf_dec hOK rfl
    unfold zL2 at hz; split at hz <;> cases hz
    exact lv_land hx hb hd (next H locs ls h1 h2 h3)
  · have hd := zf_dec hOK rfl
    unfold zL2 at hz; split at hz <;> cases hz
    exact lv_lor hx hb hd (next H locs ls h1 h2 h3)
  · have hd := zf_dec hOK rfl
    unfold zL2 at hz; split at hz <;> cases hz
    exact lv_lxor hx hb hd (next H locs ls h1 h2 h3)
  · have hd := zf_dec hOK rfl
    split at hz <;> try cases hz
    split at hz <;> cases hz
    rename_i hne
    exact lv_ldiv hx hb hd (of_decide_eq_false hne) (next H locs ls h1 h2 h3)
  · have hd := zf_dec hOK rfl
    unfold zLS at hz; split at hz <;> cases hz
    exact lv_lshl hx hb hd rfl (next H locs ls h1 h2 h3)
  · have hd := zf_dec hOK rfl
    unfold zLS at hz; split at hz <;> cases hz
    exact lv_lshr hx hb hd rfl (next H locs ls h1 h2 h3)
  · have hd := zf_dec hOK rfl
    split at hz <;> cases hz
    exact W.lcmp hx hb hd (next H locs ls h1 h2 h3)
  -- the stack
  · have hd := zf_dec hOK rfl
    split at hz <;> try cases hz
    split at hz <;> cases hz
    rename_i hc
    exact lv_dup hx hb hd (zcat_eq hc) (next H locs ls h1 h2 h3)
  · have hd := zf_dec hOK rfl
    split at hz <;> try cases hz
    split at hz <;> cases hz
    rename_i hc
    rw [Bool.and_eq_true] at hc
    exact lv_dup2_11 hx hb hd (zcat_eq hc.1) (zcat_eq hc.2) (next H locs ls h1 h2 h3)
  · have hd := zf_dec hOK rfl
    split at hz <;> try cases hz
    split at hz <;> cases hz
    rename_i hc
    exact lv_pop hx hb hd (zcat_eq hc) (next H locs ls h1 h2 h3)
  · have hd := zf_dec hOK rfl
    split at hz <;> cases hz
    exact lv_pop2_2 hx hb hd rfl (next H locs ls h1 h2 h3)
  -- loads
  · have hd := zf_dec hOK rfl
    unfold zldI at hz; split at hz <;> cases hz
    all_goals
      rename_i hk
      exact lv_iload hx hb hd (h3.2.2 _ (zmL_mem (B := B) (zlk_mem hk))) (next H locs ls h1 h2 h3)
  · have hd := zf_dec hOK rfl
    unfold zldI at hz; split at hz <;> cases hz
    all_goals
      rename_i hk
      exact lv_iload_n hx hb hd rfl (h3.2.2 _ (zmL_mem (B := B) (zlk_mem hk))) (next H locs ls h1 h2 h3)
  · have hd := zf_dec hOK rfl
    unfold zldL at hz; split at hz <;> cases hz
    all_goals
      rename_i hk
      exact lv_lload hx hb hd (h3.2.2 _ (zmL_mem (B := B) (zlk_mem hk))) (next H locs ls h1 h2 h3)
  · have hd := zf_dec hOK rfl
    unfold zldL at hz; split at hz <;> cases hz
    all_goals
      rename_i hk
      exact lv_lload_n hx hb hd rfl (h3.2.2 _ (zmL_mem (B := B) (zlk_mem hk))) (next H locs ls h1 h2 h3)
  · have hd := zf_dec hOK rfl
    unfold zldA at hz; split at hz <;> cases hz
    all_goals
      rename_i hk
      exact lv_aload hx hb hd (h3.2.2 _ (zmL_mem (B := B) (zlk_mem hk))) (next H locs ls h1 h2 h3)
  · have hd := zf_dec hOK rfl
    unfold zldA at hz; split at hz <;> cases hz
    all_goals
      rename_i hk
      exact lv_aload_n hx hb hd rfl (h3.2.2 _ (zmL_mem (B := B) (zlk_mem hk))) (next H locs ls h1 h2 h3)
  -- stores
  · have hd := zf_dec hOK rfl
    unfold zstI at hz; split at hz <;> try cases hz
    all_goals (split at hz <;> cases hz)
    all_goals
      rename_i hk
      exact lv_istore hx hb hd h3 (Nat.le_of_ble_eq_true hk) rfl (fun ls' hl' => next H locs ls' h1 h2 (by rw [zmL_put1]; exact hl'))
  · have hd := zf_dec hOK rfl
    unfold zstI at hz; split at hz <;> try cases hz
    all_goals (split at hz <;> cases hz)
    all_goals
      rename_i hk
      exact lv_istore_n hx hb hd rfl h3 (Nat.le_of_ble_eq_true hk) rfl (fun ls' hl' => next H locs ls' h1 h2 (by rw [zmL_put1]; exact hl'))
  · have hd := zf_dec hOK rfl
    unfold zstL at hz; split at hz <;> try cases hz
    all_goals (split at hz <;> cases hz)
    all_goals
      rename_i hk
      exact lv_lstore hx hb hd h3 (Nat.le_of_ble_eq_true hk) rfl (fun ls' hl' => next H locs ls' h1 h2 (by rw [zmL_put2]; exact hl'))
  · have hd := zf_dec hOK rfl
    unfold zstL at hz; split at hz <;> try cases hz
    all_goals (split at hz <;> cases hz)
    all_goals
      rename_i hk
      exact lv_lstore_n hx hb hd rfl h3 (Nat.le_of_ble_eq_true hk) rfl (fun ls' hl' => next H locs ls' h1 h2 (by rw [zmL_put2]; exact hl'))
  · have hd := zf_dec hOK rfl
    unfold zstA at hz; split at hz <;> try cases hz
    all_goals (split at hz <;> cases hz)
    all_goals
      rename_i hk
      exact lv_astore hx hb hd h3 (Nat.le_of_ble_eq_true hk) rfl (fun ls' hl' => next H locs ls' h1 h2 (by rw [zmL_put1]; exact hl'))
  · have hd := zf_dec hOK rfl
    unfold zstA at hz; split at hz <;> try cases hz
    all_goals (split at hz <;> cases hz)
    all_goals
      rename_i hk
      exact lv_astore_n hx hb hd rfl h3 (Nat.le_of_ble_eq_true hk) rfl (fun ls' hl' => next H locs ls' h1 h2 (by rw [zmL_put1]; exact hl'))
  · have hd := zf_dec hOK rfl
    split at hz <;> cases hz
    rename_i hk hn
    obtain ⟨j, hj⟩ := List.getElem?_of_mem (zmL_mem (B := B) (zlk_mem hk))
    exact lv_iinc hx hb hd h3 hj rfl (Nat.le_of_ble_eq_true hn) rfl (fun ls' hl' => next H locs ls' h1 h2 (by rw [zmL_put1]; exact hl'))
  -- branches
  · have hd := zf_dec hOK rfl
    unfold zjmp at hz; split at hz <;> cases hz
    rename_i ht
    exact lv_goto hx hb hd (zJ_ok ht) (next H locs ls h1 h2 h3)
  · rename_i cd off
    have hd := zf_dec hOK rfl
    split at hz <;> try cases hz
    unfold zbr at hz; split at hz <;> cases hz
    rename_i ht
    have ht := zJ_ok ht
    obtain ⟨T, F⟩ := zbr_t (G := fun t => W p l e R s0 m args below meth c0 H locs c s Q (F0 m t ls (List.map (zvm B) _))) (next H locs ls h1 h2 h3)
    cases cd
    · exact lv_icmp_eq hx hb hd ht (fun hc => T (decide_eq_true hc)) (fun hc => F (decide_eq_false hc))
    · exact lv_icmp_ne hx hb hd ht (fun hc => T (by simp [zcb, hc])) (fun hc => F (by simp [zcb, hc]))
    · exact lv_icmp_lt hx hb hd ht (fun hc => T (decide_eq_true hc)) (fun hc => F (decide_eq_false hc))
    · exact lv_icmp_ge hx hb hd ht (fun hc => T (decide_eq_true hc)) (fun hc => F (decide_eq_false hc))
    · exact lv_icmp_gt hx hb hd ht (fun hc => T (decide_eq_true hc)) (fun hc => F (decide_eq_false hc))
    · exact lv_icmp_le hx hb hd ht (fun hc => T (decide_eq_true hc)) (fun hc => F (decide_eq_false hc))
  · rename_i cd off
    have hd := zf_dec hOK rfl
    split at hz <;> try cases hz
    unfold zbr at hz; split at hz <;> cases hz
    rename_i ht
    have ht := zJ_ok ht
    obtain ⟨T, F⟩ := zbr_t (G := fun t => W p l e R s0 m args below meth c0 H locs c s Q (F0 m t ls (List.map (zvm B) _))) (next H locs ls h1 h2 h3)
    cases cd
    · exact lv_if_eq hx hb hd ht (fun hc => T (decide_eq_true hc)) (fun hc => F (decide_eq_false hc))
    · exact lv_if_ne hx hb hd ht (fun hc => T (by simp [zcb, hc])) (fun hc => F (by simp [zcb, hc]))
    · exact lv_if_lt hx hb hd ht (fun hc => T (decide_eq_true hc)) (fun hc => F (decide_eq_false hc))
    · exact lv_if_ge hx hb hd ht (fun hc => T (decide_eq_true hc)) (fun hc => F (decide_eq_false hc))
    · exact lv_if_gt hx hb hd ht (fun hc => T (decide_eq_true hc)) (fun hc => F (decide_eq_false hc))
    · exact lv_if_le hx hb hd ht (fun hc => T (decide_eq_true hc)) (fun hc => F (decide_eq_false hc))
  · have hd := zf_dec hOK rfl
    split at hz <;> try cases hz
    · unfold zjmp at hz; split at hz <;> cases hz
      rename_i ht
      exact lv_ifnullN hx hb hd (zJ_ok ht) (next H locs ls h1 h2 h3)
    · exact lv_ifnull hx hb hd (next H locs ls h1 h2 h3)
  · have hd := zf_dec hOK rfl
    split at hz <;> try cases hz
    · unfold zjmp at hz; split at hz <;> cases hz
      rename_i ht
      exact lv_ifnonnull hx hb hd (zJ_ok ht) (next H locs ls h1 h2 h3)
    · exact lv_ifnonnullN hx hb hd (next H locs ls h1 h2 h3)
  · obtain ⟨n, hd⟩ := zdk_sw hOK.1
    unfold ztsw at hz
    split at hz <;> try cases hz
    split at hz
    · rename_i hc
      simp only [Bool.or_eq_true, decide_eq_true_eq] at hc
      unfold zjmp at hz; split at hz <;> cases hz
      rename_i ht
      exact lv_tableOut hx hb hd hc (zJ_ok ht) (next H locs ls h1 h2 h3)
    · rename_i hc
      simp only [Bool.or_eq_false_iff, decide_eq_false_iff_not] at hc
      split at hz <;> try cases hz
      rename_i ho
      unfold zjmp at hz; split at hz <;> cases hz
      rename_i ht
      exact lv_tableIn hx hb hd hc.1 hc.2 ho (zJ_ok ht) (next H locs ls h1 h2 h3)
  · obtain ⟨n, hd⟩ := zdk_sw hOK.1
    unfold zlsw at hz
    split at hz <;> try cases hz
    split at hz <;> try cases hz
    rename_i hso
    unfold zjmp at hz; split at hz <;> cases hz
    rename_i ht
    exact lv_lookup hx hb hd hso rfl (zJ_ok ht) (next H locs ls h1 h2 h3)
  -- fields
  · have hd := zf_dec hOK rfl
    obtain ⟨⟨C, T, N⟩, hq, hlt, hw⟩ := zf_get hOK
    unfold zgf at hz
    split at hz <;> try cases hz
    split at hz <;> try cases hz
    rename_i ci fs he
    split at hz <;> cases hz
    rename_i hci hv
    have hci := Nat.eq_of_beq_eq_true hci
    subst hci
    exact zr_get hx hb hts hown hVK h1 he hq (zclass hq).1 hlt (hts _ hw) hv hd (next H locs ls h1 h2 h3)
  · have hd := zf_dec hOK rfl
    obtain ⟨⟨C, T, N⟩, hq, hlt, hfin, hv, hw⟩ := zf_put hOK
    obtain ⟨q1, q2, q3, q4, q6⟩ := zclass hq
    have hk : zfkT v (zFt a b) := by rw [hv]; exact q6 _ hlt
    unfold zpf at hz
    split at hz <;> try cases hz
    split at hz <;> try cases hz
    rename_i ci fs he
    split at hz <;> cases hz
    rename_i hc
    simp only [Bool.and_eq_true] at hc
    have hci := Nat.eq_of_beq_eq_true hc.1
    subst hci
    obtain ⟨n1, n2⟩ := zvk_ok hc.2.2 hk B
    exact zr_put hx hb hts hown hVK h1 h2 he hq q1 q2 q3 hlt (hts _ hw) (fun hf => ⟨hnm (hfin hf).1, (hfin hf).2⟩) n1 n2 (Nat.le_of_ble_eq_true hc.2.1) hd (fun H1 locs1 k1 k2 => next H1 locs1 ls k1 k2 h3)
  -- arrays
  · have hd := zf_dec hOK rfl
    split at hz
    · unfold zalI at hz
      split at hz <;> try cases hz
      split at hz <;> try cases hz
      rename_i he
      split at hz <;> cases hz
      rename_i hc
      rw [Bool.and_eq_true] at hc
      have ht := Nat.eq_of_beq_eq_true hc.1
      subst ht
      exact zr_iald hx hb hVK h1 he (zin_ok hc.2) hd (next H locs ls h1 h2 h3)
    · unfold zsl at hz
      split at hz <;> try cases hz
      split at hz <;> cases hz
      rename_i hc
      exact zr_sld hx hb hK0 h1 (zin_ok hc) hd (next H locs ls h1 h2 h3)
  · have hd := zf_dec hOK rfl
    unfold zalL at hz
    split at hz <;> try cases hz
    split at hz <;> try cases hz
    rename_i he
    split at hz <;> cases hz
    rename_i hc
    rw [Bool.and_eq_true] at hc
    have ht := Nat.eq_of_beq_eq_true hc.1
    subst ht
    exact zr_lald hx hb hVK h1 he (zin_ok hc.2) hd (next H locs ls h1 h2 h3)
  · have hd := zf_dec hOK rfl
    split at hz <;> try cases hz
    · unfold zalI at hz
      split at hz <;> try cases hz
      split at hz <;> try cases hz
      rename_i he
      split at hz <;> cases hz
      rename_i hc
      rw [Bool.and_eq_true] at hc
      have ht := Nat.eq_of_beq_eq_true hc.1
      subst ht
      exact zr_bald hx hb hVK h1 he (zin_ok hc.2) hd (next H locs ls h1 h2 h3)
    · unfold zalI at hz
      split at hz <;> try cases hz
      split at hz <;> try cases hz
      rename_i he
      split at hz <;> cases hz
      rename_i hc
      rw [Bool.and_eq_true] at hc
      have ht := Nat.eq_of_beq_eq_true hc.1
      subst ht
      exact zr_zald hx hb hVK h1 he (zin_ok hc.2) hd (next H locs ls h1 h2 h3)
  · have hd := zf_dec hOK rfl
    unfold zalA at hz
    split at hz <;> try cases hz
    split at hz <;> try cases hz
    rename_i he
    split at hz <;> cases hz
    rename_i hc
    rw [Bool.and_eq_true] at hc
    have ht := Nat.eq_of_beq_eq_true hc.1
    subst ht
    exact zr_aald hx hb hVK h1 he (zin_ok hc.2) hd (next H locs ls h1 h2 h3)
  · have hd := zf_dec hOK rfl
    unfold zasI at hz
    split at hz <;> try cases hz
    split at hz <;> try cases hz
    rename_i he
    split at hz <;> cases hz
    rename_i hc
    rw [Bool.and_eq_true] at hc
    have ht := Nat.eq_of_beq_eq_true hc.1
    subst ht
    exact zr_iast hx hb hVK h1 h2 he (zin_ok hc.2) hd (fun H1 locs1 k1 k2 => next H1 locs1 ls k1 k2 h3)
  · have hd := zf_dec hOK rfl
    unfold zasL at hz
    split at hz <;> try cases hz
    split at hz <;> try cases hz
    rename_i he
    split at hz <;> cases hz
    rename_i hc
    rw [Bool.and_eq_true] at hc
    have ht := Nat.eq_of_beq_eq_true hc.1
    subst ht
    exact zr_last hx hb hVK h1 h2 he (zin_ok hc.2) hd (fun H1 locs1 k1 k2 => next H1 locs1 ls k1 k2 h3)
  · have hd := zf_dec hOK rfl
    split at hz <;> try cases hz
    · unfold zasI at hz
      split at hz <;> try cases hz
      split at hz <;> try cases hz
      rename_i he
      split at hz <;> cases hz
      rename_i hc
      rw [Bool.and_eq_true] at hc
      have ht := Nat.eq_of_beq_eq_true hc.1
      subst ht
      exact zr_bast hx hb hVK h1 h2 he (zin_ok hc.2) hd (fun H1 locs1 k1 k2 => next H1 locs1 ls k1 k2 h3)
    · unfold zasZ at hz
      split at hz <;> try cases hz
      split at hz <;> try cases hz
      rename_i he
      split at hz <;> cases hz
      rename_i hc
      rw [Bool.and_eq_true] at hc
      have ht := Nat.eq_of_beq_eq_true hc.1
      subst ht
      simp only [Bool.and_eq_true, Bool.or_eq_true, decide_eq_true_eq] at hc
      obtain ⟨-, hin, hx01⟩ := hc
      exact zr_zast hx hb hVK h1 h2 he (by rcases hx01 with rfl | rfl <;> decide) (zin_ok hin) hd (fun H1 locs1 k1 k2 => next H1 locs1 ls k1 k2 h3)
  · have hd := zf_dec hOK rfl
    unfold zasA at hz
    split at hz <;> try cases hz
    split at hz <;> try cases hz
    rename_i he hv
    split at hz <;> cases hz
    rename_i hc
    rw [Bool.and_eq_true] at hc
    have ht := Nat.eq_of_beq_eq_true hc.1
    subst ht
    exact zr_aast hx hb hVK h1 h2 he hv (r := ("TinTower$Scene", zT6, 3)) rfl rfl (zin_ok hc.2) hd (fun H1 locs1 k1 k2 => next H1 locs1 ls k1 k2 h3)
  · have hd := zf_dec hOK rfl
    unfold zlen1 at hz
    split at hz <;> try cases hz
    · exact zr_slen hx hb hK0 h1 hd (next H locs ls h1 h2 h3)
    · split at hz <;> try cases hz
      rename_i he
      split at hz <;> cases hz
      rename_i hc
      exact zr_alen hx hb hVK h1 he (Nat.le_of_ble_eq_true hc) hd (next H locs ls h1 h2 h3)
  -- making
  · have hd := zf_dec hOK rfl
    obtain ⟨⟨C, T, N⟩, hq, hN, hw1, hw2, hw3⟩ := zf_new hOK
    obtain ⟨q1, q2, q3, q4, q6⟩ := zclass hq
    simp only at hN
    subst hN
    unfold znw at hz
    split at hz <;> cases hz
    rename_i hc
    rw [Bool.and_eq_true] at hc
    exact zr_new hx hb hts hown hVK h1 hq q1 q2 (q4 B) (hts _ hw1) (hts _ hw2) (hts _ hw3) (Nat.le_of_ble_eq_true hc.1) (Nat.le_of_ble_eq_true hc.2) hd (fun H1 k => next H1 locs ls k h2 h3)
  · have hd := zf_dec hOK rfl
    obtain ⟨hat, ha4, hw⟩ := zf_newa hOK
    unfold znwa at hz
    split at hz <;> try cases hz
    split at hz <;> cases hz
    rename_i hc
    simp only [Bool.and_eq_true, decide_eq_true_eq] at hc
    obtain ⟨c1, c2, c3, c4⟩ := hc
    exact zr_newa hx hb hVK h1 ha4 hat (hts _ hw) (znn c1) (Nat.le_of_ble_eq_true c2) (Nat.le_of_ble_eq_true c3) (Nat.le_of_ble_eq_true c4) hd (fun H1 k => next H1 locs ls k h2 h3)
  · have hd := zf_dec hOK rfl
    have hw1 := hts _ (zOK_tab hOK (List.mem_cons_self) rfl)
    unfold znwa at hz
    split at hz <;> try cases hz
    split at hz <;> cases hz
    rename_i hc
    simp only [Bool.and_eq_true, decide_eq_true_eq] at hc
    obtain ⟨c1, c2, c3, c4⟩ := hc
    exact zr_anew hx hb hown hVK h1 hw1 (va_AO.use hK0.2.2.2.1) (znn c1) (Nat.le_of_ble_eq_true c2) (Nat.le_of_ble_eq_true c3) (Nat.le_of_ble_eq_true c4) hd (fun H1 k => next H1 locs ls k h2 h3)
  · have hd := zf_dec hOK rfl
    split at hz <;> try cases hz
    have hw1 := hts _ (zOK_tab hOK List.mem_cons_self rfl)
    have hw2 := hts _ (zOK_tab hOK (List.mem_cons_of_mem _ List.mem_cons_self) rfl)
    have hw3 := hts _ (zOK_tab hOK (List.mem_cons_of_mem _ (List.mem_cons_of_mem _ List.mem_cons_self)) rfl)
    unfold zobi at hz
    split at hz <;> try cases hz
    split at hz <;> cases hz
    rename_i hc
    rw [Bool.and_eq_true] at hc
    exact zr_obj hx hb hml h3.1 hown hw1 hw2 hw3 (Nat.le_of_ble_eq_true hc.1) (by rw [zsum_vm]; exact Nat.le_of_ble_eq_true hc.2) hd (next H locs ls h1 h2 h3)
  · have hd := zf_dec hOK rfl
    split at hz <;> try cases hz
    rename_i hb99
    have hb99 := Nat.eq_of_beq_eq_true hb99
    subst hb99
    have hw1 := hts _ (zOK_tab hOK List.mem_cons_self rfl)
    have hw2 := hts _ (zOK_tab hOK (List.mem_cons_of_mem _ List.mem_cons_self) rfl)
    have hw3 := hts _ (zOK_tab hOK (List.mem_cons_of_mem _ (List.mem_cons_of_mem _ List.mem_cons_self)) rfl)
    have hw4 := hts _ (zOK_tab hOK (List.mem_cons_of_mem _ (List.mem_cons_of_mem _ (List.mem_cons_of_mem _ List.mem_cons_self))) rfl)
    unfold zcpo at hz
    split at hz <;> try cases hz
    split at hz <;> try cases hz
    rename_i hf hg
    split at hz <;> cases hz
    rename_i hc
    simp only [Bool.and_eq_true, decide_eq_true_eq] at hc
    obtain ⟨c1, c2, c3, c4, c5, c6, c7⟩ := hc
    exact zr_copy hx hb hml h3.1 hown hw1 hw2 hw3 hw4 hVK h1 h2 hf hg (znn c1) (znn c2) (znn c3) (Nat.le_of_ble_eq_true c4) (Nat.le_of_ble_eq_true c5) (Nat.le_of_ble_eq_true c6) (by rw [zsum_vm]; exact Nat.le_trans (Nat.add_le_add_left (by decide) _) (Nat.le_of_ble_eq_true c7)) hd (fun H1 locs1 k1 k2 => next H1 locs1 ls k1 k2 h3)
  · cases hz
end ZPS
