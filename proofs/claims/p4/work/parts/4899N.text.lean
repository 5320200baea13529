/-! the class's text, whatever else lies in the heap -/
def zMok (M : List Nat) (ci f : Nat) : Bool := M.all (fun k => (zrw k).1.all (fun e => match zkind e.2.1 e.2.2.1 e.2.2.2.1 e.2.2.2.2 with
  | 0 => (match e.2.1 with | .putfield _ => !(Nat.beq e.2.2.1 ci && Nat.beq e.2.2.2.1 f) | _ => true)
  | 1 => M.contains e.2.2.1
  | 2 => M.contains e.2.2.1
  | 3 => M.contains e.2.2.1
  | _ => true))
section ZNF
variable {Lx : Nat} {xs : Nat → Int32}
theorem zEv_kf {M : List Nat} {ci f : Nat} (hM : zMok M ci f = true) : ∀ (n k : Nat) (z : zCF) (rv : Option Value) (hp' : List zhE), k ∈ M → zEv Lx xs n k z rv hp' → zKf ci f z.2.2.2.1 hp'
  | 0, _, _, _, _, _, h => h.elim
  | n + 1, k, z, rv, hp', hk, h => by
    obtain ⟨e, h1, h2⟩ := h
    have he : e ∈ (zrw k).1 := List.mem_of_find?_eq_some h1
    have hc := List.all_eq_true.mp (List.all_eq_true.mp hM k hk) e he
    generalize hkk : zkind e.2.1 e.2.2.1 e.2.2.2.1 e.2.2.2.2 = kk at h2 hc
    split at h2
    · obtain ⟨z', h3, h4⟩ := h2
      refine zKf_tr (zone_kf (fun q hq => ?_) h3) (zEv_kf hM n k z' rv hp' hk h4)
      rw [hq] at hc
      have hc : (!(Nat.beq e.2.2.1 ci && Nat.beq e.2.2.2.1 f)) = true := hc
      intro q2
      rw [q2.1, q2.2, Nat.beq_refl, Nat.beq_refl] at hc
      exact absurd hc (by decide)
    · obtain ⟨vs, a, st, h3, h4, rv1, hp1, h5, h6⟩ := h2
      have hc : M.contains e.2.2.1 = true := hc
      exact zKf_tr (zEv_kf hM n _ (0, lv_args 0 (.ref a :: vs), [], z.2.2.2.1, 0, 0) rv1 hp1 (List.contains_iff_mem.mp hc) h5) (zEv_kf hM n k _ rv hp' hk h6)
    · obtain ⟨vs, st, h3, h4, rv1, hp1, h5, h6⟩ := h2
      have hc : M.contains e.2.2.1 = true := hc
      exact zKf_tr (zEv_kf hM n _ (0, lv_args 0 vs, [], z.2.2.2.1, 0, 0) rv1 hp1 (List.contains_iff_mem.mp hc) h5) (zEv_kf hM n k _ rv hp' hk h6)
    · obtain ⟨vs, a, st, h3, h4, rv1, hp1, h5, h6⟩ := h2
      have hc : M.contains e.2.2.1 = true := hc
      exact zKf_tr (zEv_kf hM n _ (0, lv_args 0 (.ref a :: vs), [], z.2.2.2.1, 0, 0) rv1 hp1 (List.contains_iff_mem.mp hc) h5) (zEv_kf hM n k _ rv hp' hk h6)
    · obtain ⟨x, _, _, h5⟩ := h2
      rw [h5]
      exact zKf_rfl
    · obtain ⟨x, _, _, h5⟩ := h2
      rw [h5]
      exact zKf_rfl
    · rw [h2.2.2]
      exact zKf_rfl
    · exact h2.elim
theorem zPn_kf {M : List Nat} {ci f n k : Nat} {z : zCF} (hM : zMok M ci f = true) (hk : k ∈ M) : zPn Lx xs n k z (fun _ hp' => zKf ci f z.2.2.2.1 hp') := fun rv hp' h => zEv_kf hM n k z rv hp' hk h
theorem zPn.conj {n k : Nat} {z : zCF} {P Q : ZP} (h : zPn Lx xs n k z P) (g : zPn Lx xs n k z Q) : zPn Lx xs n k z (fun rv hp' => P rv hp' ∧ Q rv hp') := fun rv hp' q => ⟨h rv hp' q, g rv hp' q⟩
def zVo (k : Nat) : Bool := (zrw k).1.all (fun e => match zkind e.2.1 e.2.2.1 e.2.2.2.1 e.2.2.2.2 with
  | 4 => false
  | 5 => false
  | _ => true)
theorem zEv_vo {k : Nat} (hk : zVo k = true) : ∀ (n : Nat) (z : zCF) (rv : Option Value) (hp' : List zhE), zEv Lx xs n k z rv hp' → rv = none
  | 0, _, _, _, h => h.elim
  | n + 1, z, rv, hp', h => by
    obtain ⟨e, h1, h2⟩ := h
    have he : e ∈ (zrw k).1 := List.mem_of_find?_eq_some h1
    have hc := List.all_eq_true.mp hk e he
    generalize hkk : zkind e.2.1 e.2.2.1 e.2.2.2.1 e.2.2.2.2 = kk at h2 hc
    split at h2
    · obtain ⟨z', h3, h4⟩ := h2
      exact zEv_vo hk n z' rv hp' h4
    · obtain ⟨vs, a, st, h3, h4, rv1, hp1, h5, h6⟩ := h2
      exact zEv_vo hk n _ rv hp' h6
    · obtain ⟨vs, st, h3, h4, rv1, hp1, h5, h6⟩ := h2
      exact zEv_vo hk n _ rv hp' h6
    · obtain ⟨vs, a, st, h3, h4, rv1, hp1, h5, h6⟩ := h2
      exact zEv_vo hk n _ rv hp' h6
    · exact absurd hc (by decide)
    · exact absurd hc (by decide)
    · exact h2.2.1
    · exact h2.elim
theorem zPn_vo {n k : Nat} {z : zCF} (hk : zVo k = true) : zPn Lx xs n k z (fun rv _ => rv = none) := fun rv hp' h => zEv_vo hk n z rv hp' h
/-- the methods behind the reading -/
def zMb : List Nat := [1, 2, 3, 4, 9, 14, 24, 26, 91, 93, 96, 97, 272, 274]
theorem zMb_1 : zMok zMb 11 1 = true := by decide +kernel
theorem zMb_3 : zMok zMb 11 3 = true := by decide +kernel
theorem zMb_6 : zMok zMb 11 6 = true := by decide +kernel
theorem zMb_8 : zMok zMb 11 8 = true := by decide +kernel
theorem zMb_l : zMok zMb 4 3 = true := by decide +kernel
theorem zMb_l4 : zMok zMb 4 4 = true := by decide +kernel
theorem zMb_l5 : zMok zMb 4 5 = true := by decide +kernel
/-- what lies where behind the reading -/
def zBh (p0 pr jo jh : Nat) (l l4 l5 : Int32) (hp : List zhE) : Prop := (∃ fs, hp[p0]? = some (.inr (11, fs)) ∧ fs[1]? = some (.int (Int32.ofInt 0)) ∧ fs[3]? = some (.ref pr) ∧ fs[6]? = some (.ref jo) ∧ fs[8]? = some (.ref jh)) ∧ ∃ gs, hp[pr]? = some (.inr (4, gs)) ∧ gs[3]? = some (.int l) ∧ gs[4]? = some (.int l4) ∧ gs[5]? = some (.int l5)
theorem zBh_put {p0 pr jo jh b : Nat} {l l4 l5 : Int32} {hp : List zhE} {fs : List Value} {w : Value} (h : zBh p0 pr jo jh l l4 l5 hp) (h0 : hp[p0]? = some (.inr (11, fs))) (hne : p0 ≠ pr) (hb : b ≠ 1 ∧ b ≠ 3 ∧ b ≠ 6 ∧ b ≠ 8) : zBh p0 pr jo jh l l4 l5 (hp.set p0 (.inr (11, fs.set b w))) := by
  obtain ⟨⟨fs2, a0, a1, a3, a6, a8⟩, gs, b0, b1⟩ := h
  rw [h0] at a0
  have e : fs = fs2 := congrArg (fun q : Option zhE => match q with | some (.inr p) => p.2 | _ => fs) a0
  subst e
  have hlt := (List.getElem?_eq_some_iff.mp h0).1
  refine ⟨⟨fs.set b w, by rw [List.getElem?_set_self hlt], ?_, ?_, ?_, ?_⟩, gs, by rw [List.getElem?_set_ne hne]; exact b0, b1⟩
  · rw [List.getElem?_set_ne hb.1]
    exact a1
  · rw [List.getElem?_set_ne hb.2.1]
    exact a3
  · rw [List.getElem?_set_ne hb.2.2.1]
    exact a6
  · rw [List.getElem?_set_ne hb.2.2.2]
    exact a8
theorem zBh_kf {p0 pr jo jh n k : Nat} {l l4 l5 : Int32} {z : zCF} (hk : k ∈ zMb) (h : zBh p0 pr jo jh l l4 l5 z.2.2.2.1) : zPn Lx xs n k z (fun _ hp' => zBh p0 pr jo jh l l4 l5 hp') := by
  refine ((((zPn_kf zMb_1 hk).conj (zPn_kf zMb_3 hk)).conj ((zPn_kf zMb_6 hk).conj (zPn_kf zMb_8 hk))).conj ((zPn_kf zMb_l hk).conj ((zPn_kf zMb_l4 hk).conj (zPn_kf zMb_l5 hk)))).post ?_
  intro rv hp' hq
  obtain ⟨⟨⟨q1, q3⟩, q6, q8⟩, ql, ql4, ql5⟩ := hq
  obtain ⟨⟨fs, a0, a1, a3, a6, a8⟩, gs, b0, b1⟩ := h
  obtain ⟨f1, c1, d1⟩ := q1 p0 fs a0
  obtain ⟨f3, c3, d3⟩ := q3 p0 fs a0
  obtain ⟨f6, c6, d6⟩ := q6 p0 fs a0
  obtain ⟨f8, c8, d8⟩ := q8 p0 fs a0
  obtain ⟨b1, b2, b3⟩ := b1
  obtain ⟨gl, cl, dl⟩ := ql pr gs b0
  obtain ⟨gl4, cl4, dl4⟩ := ql4 pr gs b0
  obtain ⟨gl5, cl5, dl5⟩ := ql5 pr gs b0
  have hsamg : ∀ f2, hp'[pr]? = some (.inr (4, f2)) → f2 = gl := fun f2 hf => by
    rw [cl] at hf
    exact (congrArg (fun q : Option zhE => match q with | some (.inr p) => p.2 | _ => gl) hf).symm
  have e4 := hsamg gl4 cl4
  have e5 := hsamg gl5 cl5
  subst e4
  subst e5
  have hsame : ∀ f2, hp'[p0]? = some (.inr (11, f2)) → f2 = f1 := fun f2 hf => by
    rw [c1] at hf
    exact (congrArg (fun q : Option zhE => match q with | some (.inr p) => p.2 | _ => f1) hf).symm
  have e3 := hsame f3 c3
  have e6 := hsame f6 c6
  have e8 := hsame f8 c8
  subst e3
  subst e6
  subst e8
  exact ⟨⟨_, c1, d1.trans a1, d3.trans a3, d6.trans a6, d8.trans a8⟩, _, cl, dl.trans b1, dl4.trans b2, dl5.trans b3⟩
section ZNT
variable {n k : Nat} {pc : Nat} {L : zL} {st : List Value} {hp : List zhE} {c s : Nat} {Q : ZP}
theorem zw_get {p0 q a b i : Nat} {v : Int} {fs : List Value} {w : Value} (h : zatp k pc = some (p0, .getfield q, a, b, v)) (hc : hp[i]? = some (.inr (a, fs))) (hv : fs[b]? = some w) (hn : zPn Lx xs n k (pc + 3, L, w :: st, hp, c, s) Q) : zPn Lx xs n k (pc, L, .ref i :: st, hp, c, s) Q := by
  refine zp0 h rfl ?_ hn
  show zgf pc L (.ref i :: st) hp c s a b = _
  unfold zgf
  simp only [hc, hv, Nat.beq_refl]
theorem zw_put {p0 q a b i : Nat} {v : Int} {fs : List Value} {w : Value} (h : zatp k pc = some (p0, .putfield q, a, b, v)) (hc : hp[i]? = some (.inr (a, fs))) (hn : zPn Lx xs n k (pc + 3, L, st, hp.set i (.inr (a, fs.set b w)), c, s) Q) : zPn Lx xs n k (pc, L, w :: .ref i :: st, hp, c, s) Q := by
  refine zp0g h rfl fun z' hz => ?_
  have hz : zpf pc L (w :: .ref i :: st) hp c s a b v = some z' := hz
  unfold zpf at hz
  simp only [hc] at hz
  split at hz
  · cases hz
    exact hn
  · cases hz
end ZNT
theorem zc_text {n : Nat} {H : List zhE} {p0 jn jo jh jt x1 x2 x3 x4 : Nat} {fs gs : List Value} {e : Nat → Nat} {C : Nat → Nat → Int32} {T : Nat → Int32} {S' : Nat → Nat → Int32} {nn tp r : Int32} (c0 : H[p0]? = some (.inr (11, fs))) (f0 : fs[0]? = some (.ref (e 5))) (f1 : fs[1]? = some (.int tp)) (f2 : fs[2]? = some (.ref (e 6))) (f3 : fs[3]? = some (.ref (e 0))) (f4 : fs[4]? = some (.ref jn)) (f6 : fs[6]? = some (.ref jo)) (f8 : fs[8]? = some (.ref jh)) (hjn : H[jn]? = some (.inr (3, gs))) (g0 : gs[0]? = some (.ref jt)) (hp0 : ∀ i, i < 20 → p0 ≠ e i) (hpn : ∀ i, i < 20 → jn ≠ e i) (hpj : p0 ≠ jn) (he : zeI e H 20) (hself : ∀ j d, (zDC x1 x2 x3 x4)[j]? = some d → H[e j]? = some (zCell e (C j) d)) (h600 : tp.toInt ≤ 600) (hT : ∀ q : Nat, (q : Int) < tp.toInt → zTc C q = T q) (hR : 0 ≤ nn.toInt → nn.toInt ≤ tp.toInt → ∃ S1 j, zMd T nn.toNatClampNeg 0 S1 ∧ S1 0 15 = Int32.ofInt 0 ∧ S1 0 16 = Int32.ofInt 20 ∧ S1 0 4 = Int32.ofInt 0 ∧ S1 0 5 = Int32.ofInt (-1) ∧ S1 0 18 = Int32.ofInt 0 ∧ S1 0 19 = Int32.ofInt 0 ∧ zTxR T nn.toNatClampNeg j S1 0 r S') : zPn Lx xs n 121 (0, lv_args 0 [.ref p0, .int nn], [], H, 0, 0) (fun rv hp1 => ∃ r', rv = some (.int r') ∧ (((nn.toInt < 0 ∨ tp.toInt < nn.toInt) ∧ r' = Int32.ofInt (-2) ∧ hp1 = H) ∨ (0 ≤ nn.toInt ∧ nn.toInt ≤ tp.toInt ∧ r' = r ∧ (∃ fs', hp1[p0]? = some (.inr (11, fs')) ∧ fs'[1]? = some (.int (Int32.ofInt 0))) ∧ ∃ gs', hp1[e 0]? = some (.inr (4, gs')) ∧ gs'[4]? = some (.int (S' 0 4)) ∧ gs'[5]? = some (.int (S' 0 5))))) := by
  have hlt := (List.getElem?_eq_some_iff.mp c0).1
  have h2 : ∀ c s, 0 ≤ nn.toInt → nn.toInt ≤ tp.toInt → zPn Lx xs n 121 (15, [(0, .ref p0), (1, .int nn)], [], H, c, s) (fun rv hp1 => ∃ r', rv = some (.int r') ∧ (((nn.toInt < 0 ∨ tp.toInt < nn.toInt) ∧ r' = Int32.ofInt (-2) ∧ hp1 = H) ∨ (0 ≤ nn.toInt ∧ nn.toInt ≤ tp.toInt ∧ r' = r ∧ (∃ fs', hp1[p0]? = some (.inr (11, fs')) ∧ fs'[1]? = some (.int (Int32.ofInt 0))) ∧ ∃ gs', hp1[e 0]? = some (.inr (4, gs')) ∧ gs'[4]? = some (.int (S' 0 4)) ∧ gs'[5]? = some (.int (S' 0 5))))) := by
    intro c s g1 g2
    obtain ⟨S1, j, m1, m2, m3, m7, m8, m4, m5, m6⟩ := hR g1 g2
    have hcl : nn.toNatClampNeg = nn.toInt.toNat := zb_cl
    have hnn : nn = Int32.ofInt ((nn.toNatClampNeg : Nat) : Int) := by
      rw [hcl, Int.toNat_of_nonneg g1, Int32.ofInt_toInt]
    iterate 2 refine zp0 (by rfl) rfl rfl ?_
    refine zw_put (by rfl) c0 ?_
    have c1 : (H.set p0 (.inr (11, fs.set 1 (.int (Int32.ofInt 0)))))[p0]? = some (.inr (11, fs.set 1 (.int (Int32.ofInt 0)))) := by rw [List.getElem?_set_self hlt]
    have hother : ∀ i, i ≠ p0 → (H.set p0 (.inr (11, fs.set 1 (.int (Int32.ofInt 0)))))[i]? = H[i]? := fun i hi => List.getElem?_set_ne (fun q => hi q.symm)
    have hlen : (H.set p0 (.inr (11, fs.set 1 (.int (Int32.ofInt 0))))).length = H.length := List.length_set
    generalize H.set p0 (.inr (11, fs.set 1 (.int (Int32.ofInt 0)))) = H1 at c1 hother hlen
    have he1 : zeI e H1 (zDC x1 x2 x3 x4).length := ⟨he.1, fun i hi => by rw [hlen]; exact he.2 i hi⟩
    have hs : zHS e (zDC x1 x2 x3 x4) C H1 = H1 := by
      refine zHe_self (fun q d hd => ?_)
      rw [Nat.zero_add]
      have hq : q < 20 := by
        have := (List.getElem?_eq_some_iff.mp hd).1
        rw [zCs_len] at this
        exact this
      rw [hother (e q) (fun w => hp0 q hq w.symm)]
      have hd2 : ∃ d2, (zDC x1 x2 x3 x4)[q]? = some d2 := ⟨_, List.getElem?_eq_getElem (show q < (zDC x1 x2 x3 x4).length from hq)⟩
      obtain ⟨d2, hd2⟩ := hd2
      have h3 := zCs_get (e := e) (S := C) (i := 0) hd2
      rw [hd, Nat.zero_add] at h3
      cases h3
      exact hself q d2 hd2
    have hread := zc_read (Lx := Lx) (xs := xs) (n := n) (m := nn.toNatClampNeg) he1 (C := C) (by omega) (fun q hq => hT q (by omega)) m1 m2 m3 m7 m8 m4 m5 m6
    rw [hs, ← hnn] at hread
    have k0 : (fs.set 1 (Value.int (Int32.ofInt 0)))[0]? = some (.ref (e 5)) := by rw [List.getElem?_set_ne (by decide)]; exact f0
    have k2 : (fs.set 1 (Value.int (Int32.ofInt 0)))[2]? = some (.ref (e 6)) := by rw [List.getElem?_set_ne (by decide)]; exact f2
    have k3 : (fs.set 1 (Value.int (Int32.ofInt 0)))[3]? = some (.ref (e 0)) := by rw [List.getElem?_set_ne (by decide)]; exact f3
    have k4 : (fs.set 1 (Value.int (Int32.ofInt 0)))[4]? = some (.ref jn) := by rw [List.getElem?_set_ne (by decide)]; exact f4
    have k6 : (fs.set 1 (Value.int (Int32.ofInt 0)))[6]? = some (.ref jo) := by rw [List.getElem?_set_ne (by decide)]; exact f6
    have k8 : (fs.set 1 (Value.int (Int32.ofInt 0)))[8]? = some (.ref jh) := by rw [List.getElem?_set_ne (by decide)]; exact f8
    have k1 : (fs.set 1 (Value.int (Int32.ofInt 0)))[1]? = some (.int (Int32.ofInt 0)) := by rw [List.getElem?_set_self (List.getElem?_eq_some_iff.mp f1).1]
    generalize fs.set 1 (Value.int (Int32.ofInt 0)) = fz at c1 k0 k1 k2 k3 k4 k6 k8
    refine zp0 (by rfl) rfl rfl ?_
    refine zw_get (by rfl) c1 k3 ?_
    refine zp0 (by rfl) rfl rfl ?_
    refine zw_get (by rfl) c1 k0 ?_
    iterate 2 refine zp0 (by rfl) rfl rfl ?_
    refine zw_get (by rfl) c1 k2 ?_
    refine zy_v3 (by rfl) hread ?_
    intro rv hp1 hq
    obtain ⟨g, C', y3, y4, q1, q2, hO⟩ := hq
    rw [q1, q2]
    have heY : zeI e H1 (zCs e C' 0 (zDC 7 6 y3 y4)).length := he1
    have d0 : (zHS e (zDC 7 6 y3 y4) C' H1)[p0]? = some (.inr (11, fz)) := by
      refine (zHe_out (fun q _ hq => hp0 q ?_)).trans c1
      rw [zCs_len, Nat.zero_add] at hq
      exact hq
    have dn : (zHS e (zDC 7 6 y3 y4) C' H1)[jn]? = some (.inr (3, gs)) := by
      refine (zHe_out (fun q _ hq => hpn q ?_)).trans ((hother jn (fun w => hpj w.symm)).trans hjn)
      rw [zCs_len, Nat.zero_add] at hq
      exact hq
    have dr : (zHS e (zDC 7 6 y3 y4) C' H1)[e 0]? = some (.inr (4, zFs (zOb [2, 19, 7, 0, 0, 0, 0] e (C' 0)) 7)) := zHe_get heY (j := 0) rfl
    have hB : zBh p0 (e 0) jo jh (C' 0 3) (C' 0 4) (C' 0 5) (zHS e (zDC 7 6 y3 y4) C' H1) := ⟨⟨fz, d0, k1, k3, k6, k8⟩, _, dr, rfl, rfl, rfl⟩
    generalize zHS e (zDC 7 6 y3 y4) C' H1 = H2 at d0 dn dr hB
    refine zy_if (by rfl) (by rfl) (fun h1 => ?_) (fun h1 => ?_)
    · rcases hO with ⟨o1, o2, N', -, -, ⟨o3, o4⟩, -⟩ | ⟨o1, _⟩
      · -- it was read
        refine zp0 (by rfl) rfl rfl ?_
        refine zw_get (by rfl) d0 k4 ?_
        refine zw_get (by rfl) dn g0 ?_
        iterate 2 refine zp0 (by rfl) rfl rfl ?_
        refine zw_get (by rfl) d0 k4 ?_
        refine zp0 (by rfl) rfl rfl ?_
        refine zw_get (by rfl) d0 k2 ?_
        refine zy_v1 (by rfl) ((zBh_kf (by decide) hB).conj (zPn_vo (by decide +kernel))) ?_
        intro rv hp1 hq
        obtain ⟨hB, q1⟩ := hq
        rw [q1]
        clear d0 dn dr
        obtain ⟨⟨fa, a0, -⟩, -⟩ := id hB
        iterate 2 refine zp0 (by rfl) rfl rfl ?_
        refine zw_put (by rfl) a0 ?_
        have hB := zBh_put (b := 2) (w := .ref jt) hB a0 (hp0 0 (by decide)) (by decide)
        obtain ⟨⟨fa2, a2, -, -, a6, -⟩, -⟩ := id hB
        refine zp0 (by rfl) rfl rfl ?_
        refine zw_get (by rfl) a2 a6 ?_
        refine zy_v0 (by rfl) ((zBh_kf (by decide) hB).conj (zPn_vo (by decide +kernel))) ?_
        intro rv hp1 hq
        obtain ⟨hB, q1⟩ := hq
        rw [q1]
        obtain ⟨⟨fa3, a3, -, -, -, a8⟩, -⟩ := id hB
        refine zp0 (by rfl) rfl rfl ?_
        refine zw_get (by rfl) a3 a8 ?_
        refine zy_v0 (by rfl) ((zBh_kf (by decide) hB).conj (zPn_vo (by decide +kernel))) ?_
        intro rv hp1 hq
        obtain ⟨hB, q1⟩ := hq
        rw [q1]
        obtain ⟨⟨fa4, a4, -⟩, -⟩ := id hB
        iterate 2 refine zp0 (by rfl) rfl rfl ?_
        refine zw_put (by rfl) a4 ?_
        have hB := zBh_put (b := 10) (w := .int (Int32.ofInt 0)) hB a4 (hp0 0 (by decide)) (by decide)
        obtain ⟨⟨fa5, a5, b1, b3, -⟩, ga, b4, b5, b6, b7⟩ := hB
        refine zp0 (by rfl) rfl rfl ?_
        refine zw_get (by rfl) a5 b3 ?_
        refine zw_get (by rfl) b4 b5 ?_
        refine zp_retI (by rfl) ?_
        exact ⟨_, rfl, Or.inr ⟨g1, g2, o2.symm, ⟨fa5, a5, b1⟩, ga, b4, by rw [o3]; exact b6, by rw [o4]; exact b7⟩⟩
      · exact absurd o1 h1
    · rcases hO with ⟨o1, _⟩ | ⟨_, o2, o3, o4⟩
      · exact absurd (Classical.not_not.mp h1) o1
      · refine zp0 (by rfl) rfl rfl ?_
        refine zp_retI (by rfl) ?_
        exact ⟨_, rfl, Or.inr ⟨g1, g2, o2.symm, ⟨fz, d0, k1⟩, _, dr, by rw [o3]; rfl, by rw [o4]; rfl⟩⟩
  refine zp0 (by rfl) rfl rfl ?_
  refine zy_if (by rfl) (by rfl) (fun h1 => ?_) (fun h1 => ?_)
  · refine zq_bip (by rfl) (by decide) ?_
    refine zp_retI (by rfl) ?_
    exact ⟨_, rfl, Or.inl ⟨Or.inl h1, rfl, rfl⟩⟩
  · iterate 2 refine zp0 (by rfl) rfl rfl ?_
    refine zw_get (by rfl) c0 f1 ?_
    refine zy_icmp (by rfl) (by rfl) (fun h3 => ?_) (fun h3 => ?_)
    · simp only [zcf] at h1 h3
      exact h2 _ _ (by omega) h3
    · refine zq_bip (by rfl) (by decide) ?_
      refine zp_retI (by rfl) ?_
      simp only [zcf] at h1 h3
      exact ⟨_, rfl, Or.inl ⟨Or.inr (by omega), rfl, rfl⟩⟩
end ZNF
