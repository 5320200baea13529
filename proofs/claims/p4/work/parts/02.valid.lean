/-! each printed instruction is the code's own, and what it links stands in the tables' words -/
/-- the tables' words by chunks: a place is 1000 times the chunk and the place in it -/
def zch (c : Nat) : List Cond := match c with
  | 0 => k2_sels lw_privs
  | 1 => tables_1_1
  | 2 => tables_1_2
  | 3 => tables_1_3
  | 4 => tables_1_4
  | 5 => tables_1_5
  | 6 => tables_1_6
  | 7 => tables_1_7
  | _ => tables_1_8
theorem zch_in {c : Nat} {w : Cond} (h : w ∈ zch c) : w ∈ lw_tbl := by
  unfold zch at h
  split at h <;> simp only [lw_tbl, tables_1, List.mem_append] <;> simp [h]
abbrev zMe : Type := MethodName × ByteArray × Nat × Option FieldType
def zM (k : Nat) : Option zMe := match zcp[k]? with
  | some p => (match (zch (p / 1000))[p % 1000]? with
    | some (.code y cc n r) => some (y, cc, n, r)
    | _ => none)
  | none => none
theorem zM_word {k : Nat} {m : zMe} (h : zM k = some m) : Cond.code m.1 m.2.1 m.2.2.1 m.2.2.2 ∈ lw_tbl := by
  unfold zM at h
  split at h
  · split at h
    · rename_i p hp y cc n r hw
      cases h
      exact zch_in (List.mem_of_getElem? hw)
    · cases h
  · cases h
def zlen : Instr → Nat
  | .iload _ => 2 | .istore _ => 2 | .lload _ => 2 | .lstore _ => 2 | .aload _ => 2 | .astore _ => 2 | .bipush _ => 2 | .ldc _ => 2 | .newarray _ => 2
  | .sipush _ => 3 | .ldc_w _ => 3 | .ldc2_w _ => 3 | .getfield _ => 3 | .putfield _ => 3 | .new _ => 3 | .anewarray _ => 3
  | .invokevirtual _ => 3 | .invokespecial _ => 3 | .invokestatic _ => 3 | .goto _ => 3 | .if_icmp _ _ => 3 | .ifCond _ _ => 3 | .ifnull _ => 3 | .ifnonnull _ => 3 | .iinc _ _ => 3
  | _ => 1
def zsw : Instr → Bool
  | .tableswitch _ _ _ _ => true
  | .lookupswitch _ _ => true
  | _ => false
def zdk (cc : ByteArray) (pc : Nat) (i : Instr) : Bool := match decode cc pc with
  | .ok (j, n) => decide (j = i) && (Nat.beq n (zlen i) || zsw i)
  | _ => false
theorem zdk_ok {cc : ByteArray} {pc : Nat} {i : Instr} (h : zdk cc pc i = true) (hs : zsw i = false) : decode cc pc = .ok (i, zlen i) := by
  unfold zdk at h
  split at h
  · rename_i j n hd
    simp only [Bool.and_eq_true, decide_eq_true_eq, Bool.or_eq_true, hs] at h
    obtain ⟨rfl, h2⟩ := h
    rcases h2 with h2 | h2
    · rw [hd, Nat.eq_of_beq_eq_true h2]
    · cases h2
  · cases h
theorem zdk_sw {cc : ByteArray} {pc : Nat} {i : Instr} (h : zdk cc pc i = true) : ∃ n, decode cc pc = .ok (i, n) := by
  unfold zdk at h
  split at h
  · rename_i j n hd
    simp only [Bool.and_eq_true, decide_eq_true_eq] at h
    obtain ⟨rfl, -⟩ := h
    exact ⟨n, hd⟩
  · cases h
def zat : List FieldType := [.int, .long, .byte, .boolean, .object "TinTower$Scene"]
/-- the words that an instruction rests on -/
def zwds (own : String) (i : Instr) (a b : Nat) (v : Int) : List Cond := match i with
  | .getfield x => (match zcl[a]? with | some q => [Cond.fieldLink own x (q.2.1 b).1 (q.2.1 b).2.1 (q.2.1 b).2.2.1] | none => [])
  | .putfield x => (match zcl[a]? with | some q => [Cond.fieldLink own x (q.2.1 b).1 (q.2.1 b).2.1 (q.2.1 b).2.2.1] | none => [])
  | .ldc x => [Cond.constant own x (Int32.ofInt v)]
  | .ldc_w x => [Cond.constant own x (Int32.ofInt v)]
  | .ldc2_w x => [Cond.constantLong own x (Int64.ofInt v)]
  | .new x => (match zcl[a]? with | some q => [Cond.classLink own x q.1, Cond.instantiable q.1 q.2.2, Cond.initialized q.1] | none => [])
  | .newarray t => [Cond.arrayClass (newarray.typeOf t)]
  | .anewarray x => [Cond.classLink own x "TinTower$Scene", Cond.arrayOver (.object "TinTower$Scene")]
  | .invokevirtual x => (match zM a with | some m => [Cond.methodLink own x m.1, Cond.instanceMethod m.1, Cond.selects m.1.cls m.1 m.1, Cond.initialized m.1.cls] | none => [])
  | .invokestatic x => (match b with
    | 99 => [Cond.methodLink own x arraycopyName, Cond.native arraycopyName, Cond.static arraycopyName, Cond.initialized "java/lang/System"]
    | _ => (match zM a with | some m => [Cond.methodLink own x m.1, Cond.static m.1, Cond.initialized m.1.cls] | none => []))
  | .invokespecial x => (match v with
    | 0 => [Cond.methodLink own x Lib.objectInit, Cond.instanceMethod Lib.objectInit, Cond.code Lib.objectInit ⟨#[0xb1]⟩ 1 none]
    | 1 => (match zM a with | some m => [Cond.methodLink own x m.1, Cond.instanceMethod m.1, Cond.initialized m.1.cls] | none => [])
    | _ => (match zM a with | some m => [Cond.methodLinkNest own x m.1 "TinTower", Cond.instanceMethod m.1, Cond.initialized m.1.cls] | none => []))
  | _ => []
def zcal (a b : Nat) : Bool := match zM a with
  | some m => decide (m.1.cls ≠ "java/lang/invoke/MethodHandle") && decide (m.1.cls ≠ "java/lang/invoke/VarHandle") && decide ((parseMethodDescriptor m.1.desc).map (fun d => d.parameters.length) = some b) && plainFor m.1
  | none => false
/-- what else it rests on -/
def zsd (m : zMe) (i : Instr) (a b : Nat) (v : Int) : Bool := match i with
  | .getfield _ => (match zcl[a]? with | some q => decide (b < q.2.2) | none => false)
  | .putfield _ => (match zcl[a]? with | some q => decide (b < q.2.2) && (!(q.2.1 b).2.2.2 || (decide (m.1.name = "<init>") && decide ((q.2.1 b).1 = m.1.cls))) && decide (v = match zFt a b with | .int => 0 | .boolean => 1 | .long => 2 | _ => 3) | none => false)
  | .new _ => (match zcl[a]? with | some q => decide (q.2.2 = b) | none => false)
  | .newarray t => decide (zat[a]? = some (newarray.typeOf t)) && decide (a < 4)
  | .invokevirtual _ => zcal a b && (match zM a, zcl[v.toNat]? with | some m, some q => decide (q.1 = m.1.cls) | _, _ => false)
  | .invokestatic _ => (match b with
    | 99 => true
    | _ => zcal a b)
  | .invokespecial _ => (match v with
    | 0 => true
    | _ => zcal a b && (match zM a with | some m => decide (m.1.name = "<init>") && decide (m.2.2.2 = none) | none => false))
  | .ireturn => (match a with | 0 => decide (m.2.2.2 = some .int) | _ => decide (m.2.2.2 = some .boolean))
  | .lreturn => decide (m.2.2.2 = some .long)
  | .return_ => decide (m.2.2.2 = none)
  | _ => true
def zOK (m : zMe) (e : zPE) : Prop := zdk m.2.1 e.1 e.2.1 = true ∧ zsd m e.2.1 e.2.2.1 e.2.2.2.1 e.2.2.2.2 = true ∧ ∀ w ∈ zwds m.1.cls e.2.1 e.2.2.1 e.2.2.2.1 e.2.2.2.2, w ∈ lw_tbl
def zins (ws : List Cond) (ps : List Nat) : Bool := match ws, ps with
  | [], _ => true
  | w :: ws, p :: ps => decide ((zch (p / 1000))[p % 1000]? = some w) && zins ws ps
  | _, _ => false
theorem zins_ok : ∀ (ws : List Cond) (ps : List Nat), zins ws ps = true → ∀ w ∈ ws, w ∈ lw_tbl
  | [], _, _, w, hw => absurd hw List.not_mem_nil
  | w :: ws, [], h, _, _ => by simp [zins] at h
  | w :: ws, p :: ps, h, z, hz => by
    simp only [zins, Bool.and_eq_true, decide_eq_true_eq] at h
    rcases List.mem_cons.mp hz with rfl | hz
    · exact zch_in (List.mem_of_getElem? h.1)
    · exact zins_ok ws ps h.2 z hz
def zchk (m : zMe) : List zPE → List (List Nat) → Bool
  | [], _ => true
  | e :: es, q :: qs => zdk m.2.1 e.1 e.2.1 && (zsd m e.2.1 e.2.2.1 e.2.2.2.1 e.2.2.2.2 && (zins (zwds m.1.cls e.2.1 e.2.2.1 e.2.2.2.1 e.2.2.2.2) q && zchk m es qs))
  | _, _ => false
theorem zchk_ok (m : zMe) : ∀ (es : List zPE) (qs : List (List Nat)), zchk m es qs = true → ∀ e ∈ es, zOK m e
  | [], _, _, e, he => absurd he List.not_mem_nil
  | e :: es, [], h, _, _ => by simp [zchk] at h
  | e :: es, q :: qs, h, z, hz => by
    simp only [zchk, Bool.and_eq_true] at h
    rcases List.mem_cons.mp hz with rfl | hz
    · exact ⟨h.1, h.2.1, zins_ok _ _ h.2.2.1⟩
    · exact zchk_ok m es qs h.2.2.2 z hz
def zck (k : Nat) : Bool := match zM k with
  | some m => zchk m (zPs.getD k []) (zQs.getD k [])
  | none => false
theorem zck_ok {k : Nat} (h : zck k = true) : ∃ m, zM k = some m ∧ ∀ e ∈ zPs.getD k [], zOK m e := by
  unfold zck at h
  split at h
  · rename_i m hm
    exact ⟨m, hm, zchk_ok m _ _ h⟩
  · cases h
