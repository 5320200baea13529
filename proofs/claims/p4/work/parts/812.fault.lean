/-! fault's turn: both answer the same number, whatever is asked -/
section ZFQ
variable {lk : ZLP} {Lx : Nat} {xs : Nat → Int32} {η : List Nat} {ρ : List Int} {L : zL} {hp : List zhE} {i : Int} {ca sa : Nat} {Q : ZP}

set_option maxRecDepth 100000 in
theorem zfltV {PQ PR PX : PT} {r : AV} {lo hi : Int} (hz1 : zlcW zlW [(292, PR, (30786, [(2, -10)]))] [] 8 (289, PQ, (30788, [(2, -10)])) 100000 = true) (hz2 : zlcW zlW [(23, zlP23, (30789, [(2, -10)]))] [] 2 (299, PX, (30785, [(2, -10)])) 100000 = true) (hQ : PQ = (zlLL, [(0, (0, [(3, 1)])), (2, (0, []))], PQ.2.2)) (hC : PQ.2.2.1 = zlPT.2.2.1) (hE : PQ.2.2.2.1 = zlPC.2.2.2.1.take 3 ++ [(lo, hi)] ++ zlPC.2.2.2.1.drop 3) (hF : PQ.2.2.2.2.1 = [(-6, [(0, 1), (2, -1)])]) (hO : PQ.2.2.2.2.2 = zlPC.2.2.2.2.2) (hR : PR = (zlLL, [r], PQ.2.2)) (hX : PX = (zlLL, [(0, (0, [(3, 1)])), (2, (1, [])), r], PQ.2.2)) (hf : zflN zlPT.2.2.1 1 1 (0, [(1, 1)]) = true)
    (hη : η.length = 208) (hinj : zinj η hp) (hpt : zptS η ρ zlPC L [] hp) (hT : zTA η hp) (h0 : ρ[0]? = some (Lx : Int)) (h2 : ρ[2]? = some i) (hi0 : 0 ≤ i) (hi6 : i + 6 ≤ (Lx : Int)) (hLx : Lx ≤ 3072) (hca : ca ≤ (zrm 276).cells) (hsa : sa ≤ (zrm 276).slots) {y n : Int32} {a : Nat} (ey : y.toInt = i) (hn : xs (y + Int32.ofInt 1).toNatClampNeg = n) (n1 : lo ≤ n.toInt) (n2 : n.toInt ≤ hi) (c1 : η[0]? = some a)
    (IH : ∀ (i' : Int) (L' : zL) (hp' : List zhE), i < i' → zLI Lx L' hp' i' → zWP lk Lx xs 276 (23, L', [], hp', ca, sa) Q) : zWP lk Lx xs 276 (289, L, [.int n, .ref a], hp, ca, sa) Q := by
  obtain ⟨p1, p2, p3, p4, p5, p6⟩ := id hpt
  obtain ⟨tp, ht1, ht0, ht6⟩ := zaE_get (ρ := ρ) p4 (i := 1) (q := (0, 600)) (by rfl)
  obtain ⟨u, rfl⟩ := zlist3 h0 ht1 h2
  have hsh : ∀ (s : Nat) (x : Int), ((Lx : Int) :: tp :: i :: u)[s]? = some x → ((Lx : Int) :: tp :: i :: n.toInt :: u)[zshg 3 1 s]? = some x := zshg_ok (a := [(Lx : Int), tp, i]) (l := [n.toInt]) (b := u)
  have q1 : zaL η ((Lx : Int) :: tp :: i :: n.toInt :: u) zlLL L := by
    rw [← zlLL_1]
    exact zreL_ok zpid hsh zlLL_ok p1
  have qC := zreCl_ok (f := zshg 3 1) (ρ' := (Lx : Int) :: tp :: i :: n.toInt :: u) zpid hsh zlPC_ok p3
  rw [zlT_C, ← hC] at qC
  have p4' : zaE ([(Lx : Int), tp, i] ++ u) (zlPC.2.2.2.1.take 3 ++ zlPC.2.2.2.1.drop 3) := by
    rw [List.take_append_drop]
    exact p4
  have qE : zaE ((Lx : Int) :: tp :: i :: n.toInt :: u) PQ.2.2.2.1 := by
    rw [hE]
    have w : zaE [n.toInt] [(lo, hi)] := ⟨rfl, fun s q x hq hx => by
      match s, hq, hx with
      | 0, hq, hx => cases hq; cases hx; exact ⟨n1, n2⟩
      | s + 1, hq, hx => simp at hx⟩
    exact zaE_insg p4' zlE3 w
  have qF : zaF ((Lx : Int) :: tp :: i :: n.toInt :: u) PQ.2.2.2.2.1 := by
    rw [hF]
    exact zlF1 (Lx := Lx) rfl rfl hi6
  have qO : zaO η PQ.2.2.2.2.2 hp := by
    rw [hO]
    exact p6
  have qT : zptS η ((Lx : Int) :: tp :: i :: n.toInt :: u) PQ L [.int n, .ref a] hp := by
    rw [hQ]
    exact ⟨q1, ⟨⟨n, rfl, zxr_s rfl⟩, ⟨a, c1, rfl⟩, trivial⟩, qC, qE, qF, qO⟩
  have hlen : 8 ≤ ((Lx : Int) :: tp :: i :: n.toInt :: u).length := by
    have h9 : ((Lx : Int) :: tp :: i :: u).length = 109 := by rw [← p4.1]; rfl
    simp only [List.length_cons] at h9 ⊢
    omega
  refine zlcW_ok (q := (289, PQ, (30788, [(2, -10)]))) hz1 (List.forall_mem_nil _) hη hinj qT rfl (by omega) hlen (M := 30788 - 10 * i) (zrk rfl) hca hsa ?_
  rintro q' hq' ρ' L' st' hp' rr ⟨l, hl⟩ g2 g3 g4 g5 g6 gk
  rw [List.mem_singleton] at hq'
  subst hq'
  have hk : ∀ k, k < 4 → ρ'[k]? = ((Lx : Int) :: tp :: i :: n.toInt :: u)[k]? := fun k hk => by
    rw [hl, List.getElem?_append_left (by rw [List.length_take]; omega), List.getElem?_take_of_lt (by omega)]
  have g2 : zptS η ρ' PR L' st' hp' := g2
  rw [hR] at g2
  obtain ⟨k1, k2, k3, k4, k5, k6⟩ := g2
  obtain ⟨a2, b, o, y2, l0, l1, c1, l2, c2, l3, c3, l4, ey2⟩ := zLlk (i := i) k1 (hk 2 (by decide))
  have e2 : y2 = y := Int32.toInt_inj.1 (by rw [ey2, ey])
  subst e2
  match st', k2 with
  | [v], k2 =>
    refine zl_ldR (by rfl) l2 ?_
    refine zl_ldS (by rfl) l0 ?_
    refine zl_ldI (by rfl) l4 ?_
    refine zs0 (by rfl) rfl rfl ?_
    refine zl_iadd (by rfl) ?_
    refine zl_sld (by rfl) (zargI ey hi0 hi6 (k := 1) (by decide) (by decide) hLx) ?_
    rw [hn]
    have t1 := zxr_fun (zflN_ok (idx := zxM) (j := 0) p3 zlPC_1 rfl) (zxr_s (i := 1) rfl)
    have k3' := k3
    rw [hC] at k3'
    have t2 := zxr_fun (zflN_ok (idx := zxM) (j := 0) k3' hf rfl) (zxr_s (show ρ'[1]? = some tp from hk 1 (by decide)))
    have hpX : zptS η ρ' PX L' [.int n, .ref b, v] hp' := by
      rw [hX]
      exact ⟨k1, ⟨⟨n, rfl, zxr_s (show ρ'[3]? = some n.toInt from hk 3 (by decide))⟩, ⟨b, c2, rfl⟩, k2.1, trivial⟩, k3, k4, k5, k6⟩
    have hfX : zflN PX.2.2.1 1 1 (0, [(1, 1)]) = true := by
      rw [hX]
      show zflN PQ.2.2.1 1 1 (0, [(1, 1)]) = true
      rw [hC]
      exact hf
    exact zto23 (q := (299, PX, (30785, [(2, -10)]))) hz2 (List.forall_mem_nil _) rfl (by decide) hfX hη g3 hpX (zTA_keep hη hinj hT t1 t2 gk) (hk 0 (by decide)) (hk 2 (by decide)) hLx hca hsa IH
  | [], k2 => exact k2.elim
  | _ :: _ :: _, k2 => exact k2.2.elim
theorem zfT : zflN zlPT.2.2.1 1 1 (0, [(1, 1)]) = true := by decide +kernel
set_option maxRecDepth 100000 in
theorem zfqa : zlPQa = (zlLL, [(0, (0, [(3, 1)])), (2, (0, []))], zlPQa.2.2) ∧ zlPQa.2.2.1 = zlPT.2.2.1 ∧ zlPQa.2.2.2.1 = zlPC.2.2.2.1.take 3 ++ [(0, 0)] ++ zlPC.2.2.2.1.drop 3 ∧ zlPQa.2.2.2.2.1 = [(-6, [(0, 1), (2, -1)])] ∧ zlPQa.2.2.2.2.2 = zlPC.2.2.2.2.2 := ⟨rfl, zeqP_ok (by decide +kernel), by decide +kernel, by decide +kernel, by decide +kernel⟩
set_option maxRecDepth 100000 in
theorem zfqb : zlPQb = (zlLL, [(0, (0, [(3, 1)])), (2, (0, []))], zlPQb.2.2) ∧ zlPQb.2.2.1 = zlPT.2.2.1 ∧ zlPQb.2.2.2.1 = zlPC.2.2.2.1.take 3 ++ [(1, 1)] ++ zlPC.2.2.2.1.drop 3 ∧ zlPQb.2.2.2.2.1 = [(-6, [(0, 1), (2, -1)])] ∧ zlPQb.2.2.2.2.2 = zlPC.2.2.2.2.2 := ⟨rfl, zeqP_ok (by decide +kernel), by decide +kernel, by decide +kernel, by decide +kernel⟩
set_option maxRecDepth 100000 in
theorem zfqc : zlPQc = (zlLL, [(0, (0, [(3, 1)])), (2, (0, []))], zlPQc.2.2) ∧ zlPQc.2.2.1 = zlPT.2.2.1 ∧ zlPQc.2.2.2.1 = zlPC.2.2.2.1.take 3 ++ [((-2147483648), (-1))] ++ zlPC.2.2.2.1.drop 3 ∧ zlPQc.2.2.2.2.1 = [(-6, [(0, 1), (2, -1)])] ∧ zlPQc.2.2.2.2.2 = zlPC.2.2.2.2.2 := ⟨rfl, zeqP_ok (by decide +kernel), by decide +kernel, by decide +kernel, by decide +kernel⟩
set_option maxRecDepth 100000 in
theorem zfqd : zlPQd = (zlLL, [(0, (0, [(3, 1)])), (2, (0, []))], zlPQd.2.2) ∧ zlPQd.2.2.1 = zlPT.2.2.1 ∧ zlPQd.2.2.2.1 = zlPC.2.2.2.1.take 3 ++ [(2, 2147483647)] ++ zlPC.2.2.2.1.drop 3 ∧ zlPQd.2.2.2.2.1 = [(-6, [(0, 1), (2, -1)])] ∧ zlPQd.2.2.2.2.2 = zlPC.2.2.2.2.2 := ⟨rfl, zeqP_ok (by decide +kernel), by decide +kernel, by decide +kernel, by decide +kernel⟩
set_option maxRecDepth 100000 in
theorem zfra : zlPRa = (zlLL, [(0, (0, [(6, 1)]))], zlPQa.2.2) ∧ zlPXa = (zlLL, [(0, (0, [(3, 1)])), (2, (1, [])), (0, (0, [(6, 1)]))], zlPQa.2.2) := ⟨rfl, rfl⟩
set_option maxRecDepth 100000 in
theorem zfrb : zlPRb = (zlLL, [(0, (0, [(7, 1)]))], zlPQb.2.2) ∧ zlPXb = (zlLL, [(0, (0, [(3, 1)])), (2, (1, [])), (0, (0, [(7, 1)]))], zlPQb.2.2) := ⟨rfl, rfl⟩
set_option maxRecDepth 100000 in
theorem zfrc : zlPRc = (zlLL, [(0, ((-1), []))], zlPQc.2.2) ∧ zlPXc = (zlLL, [(0, (0, [(3, 1)])), (2, (1, [])), (0, ((-1), []))], zlPQc.2.2) := ⟨rfl, rfl⟩
set_option maxRecDepth 100000 in
theorem zfrd : zlPRd = (zlLL, [(0, ((-1), []))], zlPQd.2.2) ∧ zlPXd = (zlLL, [(0, (0, [(3, 1)])), (2, (1, [])), (0, ((-1), []))], zlPQd.2.2) := ⟨rfl, rfl⟩
theorem z2 (hη : η.length = 208) (hinj : zinj η hp) (hpt : zptS η ρ zlPC L [] hp) (hT : zTA η hp) (h0 : ρ[0]? = some (Lx : Int)) (h2 : ρ[2]? = some i) (hi0 : 0 ≤ i) (hi6 : i + 6 ≤ (Lx : Int)) (hLx : Lx ≤ 3072) (hca : ca ≤ (zrm 276).cells) (hsa : sa ≤ (zrm 276).slots)
    (IH : ∀ (i' : Int) (L' : zL) (hp' : List zhE), i < i' → zLI Lx L' hp' i' → zWP lk Lx xs 276 (23, L', [], hp', ca, sa) Q) : zWP lk Lx xs 276 (282, L, [], hp, ca, sa) Q := by
  obtain ⟨p1, p2, p3, p4, p5, p6⟩ := id hpt
  obtain ⟨a, b, o, y, l0, l1, c1, l2, c2, l3, c3, l4, ey⟩ := zLlk p1 h2
  refine zl_ldR (by rfl) l1 ?_
  refine zl_ldS (by rfl) l0 ?_
  refine zl_ldI (by rfl) l4 ?_
  refine zs0 (by rfl) rfl rfl ?_
  refine zl_iadd (by rfl) ?_
  refine zl_sld (by rfl) (zargI ey hi0 hi6 (k := 1) (by decide) (by decide) hLx) ?_
  generalize hn : xs (y + Int32.ofInt 1).toNatClampNeg = n
  have hr := zb_rng n
  rcases (show n.toInt = 0 ∨ n.toInt = 1 ∨ n.toInt ≤ -1 ∨ 2 ≤ n.toInt by omega) with g | g | g | g
  · exact zfltV (lo := 0) (hi := 0) zlt_qa zlt_xa zfqa.1 zfqa.2.1 zfqa.2.2.1 zfqa.2.2.2.1 zfqa.2.2.2.2 zfra.1 zfra.2 zfT hη hinj hpt hT h0 h2 hi0 hi6 hLx hca hsa ey hn (by omega) (by omega) c1 IH
  · exact zfltV (lo := 1) (hi := 1) zlt_qb zlt_xb zfqb.1 zfqb.2.1 zfqb.2.2.1 zfqb.2.2.2.1 zfqb.2.2.2.2 zfrb.1 zfrb.2 zfT hη hinj hpt hT h0 h2 hi0 hi6 hLx hca hsa ey hn (by omega) (by omega) c1 IH
  · exact zfltV (lo := (-2147483648)) (hi := (-1)) zlt_qc zlt_xc zfqc.1 zfqc.2.1 zfqc.2.2.1 zfqc.2.2.2.1 zfqc.2.2.2.2 zfrc.1 zfrc.2 zfT hη hinj hpt hT h0 h2 hi0 hi6 hLx hca hsa ey hn (hr.1) (g) c1 IH
  · exact zfltV (lo := 2) (hi := 2147483647) zlt_qd zlt_xd zfqd.1 zfqd.2.1 zfqd.2.2.1 zfqd.2.2.2.1 zfqd.2.2.2.2 zfrd.1 zfrd.2 zfT hη hinj hpt hT h0 h2 hi0 hi6 hLx hca hsa ey hn (g) (hr.2) c1 IH
end ZFQ
