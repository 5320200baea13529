section ZST
variable {p : Program} {l : Launch} {e : Env} {R : Room} {s0 : State} {m : MethodId} {args : Array Value} {below : List Frame} {meth : Method} {c0 : Code} {Q : State → Prop}
variable {D : va_G} {B : zB} {tA : Nat → ClassId} {H0 : Heap} {nL : Nat} {ρ : Nat → Int} {K : ZK} {pc : Nat} {A : AL} {S : List AV} {h : AH} {E : AE} {c s : Nat} {me : zMe} {Lx : Nat} {xs : Nat → Int32}
set_option maxHeartbeats 4000000 in
theorem zdo_ok {i : Instr} {a b : Nat} {v : Int} (hz : zdo i a b v nL R.frames R.locals R.cells R.slots pc A S h E c s K = true) (hK : zKS (zW p l e R s0 m args below meth c0 Q) D B tA H0 nL ρ K) (hOK : zOK me (pc, i, a, b, v)) (hC : zC p s0 m args meth c0 me) (hK0 : zK D B tA Lx xs H0 s0) (hX : zX ρ Lx xs) (hnL : nL = me.2.2.1) :
    zS (zW p l e R s0 m args below meth c0 Q) D B tA H0 nL ρ pc A S h E c s := by
  obtain ⟨hx, hb, hr, hml, hown, hts, hlocks, hnm⟩ := id hC
  have hVK := hK0.1
  unfold zdo at hz
  split at hz
  -- iconst
  · have hd := zf_dec hOK rfl
    exact zs_pushI hz hK (fun H locs ls st k => lv_iconst hx hb hd rfl k)
  · have hd := zf_dec hOK rfl
    exact zs_pushI hz hK (fun H locs ls st k => lv_bipush hx hb hd rfl k)
  · have hd := zf_dec hOK rfl
    exact zs_pushI hz hK (fun H locs ls st k => lv_sipush hx hb hd rfl k)
  · have hd := zf_dec hOK rfl
    exact zs_pushL hz hK (fun H locs ls st k => lv_lconst hx hb hd rfl k)
  -- ldc
  · have hd := zf_dec hOK rfl
    have hw := hts _ (zOK_tab hOK (List.mem_singleton.mpr rfl) rfl)
    exact zs_pushI hz hK (fun H locs ls st k => lv_ldc hx hb hown hw hd k)
  · have hd := zf_dec hOK rfl
    have hw := hts _ (zOK_tab hOK (List.mem_singleton.mpr rfl) rfl)
    exact zs_pushI hz hK (fun H locs ls st k => lv_ldcw hx hb hown hw hd k)
  · have hd := zf_dec hOK rfl
    have hw := hts _ (zOK_tab hOK (List.mem_singleton.mpr rfl) rfl)
    exact zs_pushL hz hK (fun H locs ls st k => lv_ldc2 hx hb hown hw hd k)
  -- int arithmetic
  · have hd := zf_dec hOK rfl
    exact zs_bin zadd_ok hz hK (fun H locs ls st x y k => lv_iadd hx hb hd k)
  · have hd := zf_dec hOK rfl
    exact zs_bin zsub_ok hz hK (fun H locs ls st x y k => lv_isub hx hb hd k)
  · have hd := zf_dec hOK rfl
    exact zs_bin (zbin_ok zmulS_ok) hz hK (fun H locs ls st x y k => lv_imul hx hb hd k)
  · have hd := zf_dec hOK rfl
    exact zs_iand hz hX hK (fun H locs ls st x y k => lv_iand hx hb hd k)
  · have hd := zf_dec hOK rfl
    exact zs_bin (zbin_ok zorS_ok) hz hK (fun H locs ls st x y k => lv_ior hx hb hd k)
  · have hd := zf_dec hOK rfl
    exact zs_bin (zbin_ok (ztop2_ok _)) hz hK (fun H locs ls st x y k => lv_ixor hx hb hd k)
  · have hd := zf_dec hOK rfl
    exact zs_bin (zbin_ok (zshS_ok (fun x y => x <<< (y &&& 31)) zb_shl0)) hz hK (fun H locs ls st x y k => lv_ishl hx hb hd k)
  · have hd := zf_dec hOK rfl
    exact zs_bin (zbin_ok (zshS_ok (fun x y => x >>> (y &&& 31)) zb_shr0)) hz hK (fun H locs ls st x y k => lv_ishr hx hb hd k)
  · have hd := zf_dec hOK rfl
    exact zs_bin (zbin_ok (ztop2_ok _)) hz hK (fun H locs ls st x y k => lv_iushr hx hb hd rfl k)
  · have hd := zf_dec hOK rfl
    exact zs_div hz hK (fun H locs ls st x y hne k => lv_idiv hx hb hd hne k)
  · have hd := zf_dec hOK rfl
    exact zs_div hz hK (fun H locs ls st x y hne k => lv_irem hx hb hd hne k)
  · have hd := zf_dec hOK rfl
    exact zs_un zu_neg_ok hz hK (fun H locs ls st v w hR k => by obtain ⟨x, rfl, rfl⟩ := hR; exact lv_ineg hx hb hd k)
  · have hd := zf_dec hOK rfl
    exact zs_un zu_i2b_ok hz hK (fun H locs ls st v w hR k => by obtain ⟨x, rfl, rfl⟩ := hR; exact lv_i2b hx hb hd rfl k)
  · have hd := zf_dec hOK rfl
    exact zs_un zu_i2l_ok hz hK (fun H locs ls st v w hR k => by obtain ⟨x, rfl, rfl⟩ := hR; exact lv_i2l hx hb hd rfl k)
  · have hd := zf_dec hOK rfl
    exact zs_un zu_l2i_ok hz hK (fun H locs ls st v w hR k => by obtain ⟨x, rfl, rfl⟩ := hR; exact lv_l2i hx hb hd rfl k)
  · have hd := zf_dec hOK rfl
    exact zs_un zu_lneg_ok hz hK (fun H locs ls st v w hR k => by obtain ⟨x, rfl, rfl⟩ := hR; exact lv_lneg hx hb hd k)
  -- long arithmetic
  · have hd := zf_dec hOK rfl
    exact zs_binL (zbinL_ok (ztopS_ok _)) hz hK (fun H locs ls st x y k => lv_ladd hx hb hd k)
  · have hd := zf_dec hOK rfl
    exact zs_binL (zbinL_ok (ztopS_ok _)) hz hK (fun H locs ls st x y k => lv_lsub hx hb hd k)
  · have hd := zf_dec hOK rfl
    exact zs_binL (zbinL_ok (ztopS_ok _)) hz hK (fun H locs ls st x y k => lv_lmul hx hb hd k)
  · have hd := zf_dec hOK rfl
    exact zs_binL (zbinL_ok zandL_ok) hz hK (fun H locs ls st x y k => lv_land hx hb hd k)
  · have hd := zf_dec hOK rfl
    exact zs_binL (zbinL_ok (ztopS_ok _)) hz hK (fun H locs ls st x y k => lv_lor hx hb hd k)
  · have hd := zf_dec hOK rfl
    exact zs_binL (zbinL_ok (ztopS_ok _)) hz hK (fun H locs ls st x y k => lv_lxor hx hb hd k)
  · have hd := zf_dec hOK rfl
    exact zs_ldiv hz hK (fun H locs ls st x y hne k => lv_ldiv hx hb hd hne k)
  · have hd := zf_dec hOK rfl
    exact zs_lsh hz hK (fun H locs ls st x y k => lv_lshl hx hb hd rfl k)
  · have hd := zf_dec hOK rfl
    exact zs_lsh hz hK (fun H locs ls st x y k => lv_lshr hx hb hd rfl k)
  · have hd := zf_dec hOK rfl
    exact zs_lcmp hz hK (fun H locs ls st x y k => W.lcmp hx hb hd k)
  -- stack
  · have hd := zf_dec hOK rfl
    exact zs_dup hz hK (fun H locs ls st v hv k => lv_dup hx hb hd hv k)
  · have hd := zf_dec hOK rfl
    exact zs_dup2 hz hK (fun H locs ls st v w hv hw k => lv_dup2_11 hx hb hd hv hw k)
  · have hd := zf_dec hOK rfl
    exact zs_pop hz hK (fun H locs ls st v hv k => lv_pop hx hb hd hv k)
  -- loads
  · have hd := zf_dec hOK rfl
    exact zs_load hz hK (fun H locs ls st a v hok ha hls k => by obtain ⟨x, rfl⟩ := zint_of (zint_ok hok) ha; exact lv_iload hx hb hd hls k)
  · have hd := zf_dec hOK rfl
    exact zs_load hz hK (fun H locs ls st a v hok ha hls k => by obtain ⟨x, rfl⟩ := zint_of (zint_ok hok) ha; exact lv_iload_n hx hb hd rfl hls k)
  · have hd := zf_dec hOK rfl
    exact zs_load hz hK (fun H locs ls st a v hok ha hls k => by obtain ⟨x, rfl⟩ := zlng_ok hok ha; exact lv_lload hx hb hd hls k)
  · have hd := zf_dec hOK rfl
    exact zs_load hz hK (fun H locs ls st a v hok ha hls k => by obtain ⟨x, rfl⟩ := zlng_ok hok ha; exact lv_lload_n hx hb hd rfl hls k)
  · have hd := zf_dec hOK rfl
    exact zs_load hz hK (fun H locs ls st a v hok ha hls k => by obtain ⟨x, ex⟩ := zrfn_ok (B := B) hok ha; rw [ex] at hls k; exact lv_aload hx hb hd hls k)
  · have hd := zf_dec hOK rfl
    exact zs_load hz hK (fun H locs ls st a v hok ha hls k => by obtain ⟨x, ex⟩ := zrfn_ok (B := B) hok ha; rw [ex] at hls k; exact lv_aload_n hx hb hd rfl hls k)
  -- stores
  · have hd := zf_dec hOK rfl
    exact zs_st1 hz hK (fun H locs ls st a v lv hok ha hi hlv k => by obtain ⟨x, rfl⟩ := zint_of (zint_ok hok) ha; exact lv_istore hx hb hd hlv hi rfl k)
  · have hd := zf_dec hOK rfl
    exact zs_st1 hz hK (fun H locs ls st a v lv hok ha hi hlv k => by obtain ⟨x, rfl⟩ := zint_of (zint_ok hok) ha; exact lv_istore_n hx hb hd rfl hlv hi rfl k)
  · have hd := zf_dec hOK rfl
    exact zs_st1 hz hK (fun H locs ls st a v lv hok ha hi hlv k => by obtain ⟨x, ex⟩ := zrfn_ok (B := B) hok ha; rw [ex] at k ⊢; exact lv_astore hx hb hd hlv hi rfl k)
  · have hd := zf_dec hOK rfl
    exact zs_st1 hz hK (fun H locs ls st a v lv hok ha hi hlv k => by obtain ⟨x, ex⟩ := zrfn_ok (B := B) hok ha; rw [ex] at k ⊢; exact lv_astore_n hx hb hd rfl hlv hi rfl k)
  · have hd := zf_dec hOK rfl
    exact zs_st2 hz hK (fun H locs ls st x lv hi hlv k => lv_lstore hx hb hd hlv hi rfl k)
  · have hd := zf_dec hOK rfl
    exact zs_st2 hz hK (fun H locs ls st x lv hi hlv k => lv_lstore_n hx hb hd rfl hlv hi rfl k)
  · have hd := zf_dec hOK rfl
    exact zs_inc hz hK (fun H locs ls st x lv hi hlv hmem k => by obtain ⟨j, hj⟩ := List.getElem?_of_mem hmem; exact lv_iinc hx hb hd hlv hj rfl hi rfl k)
  -- branches
  · have hd := zf_dec hOK rfl
    exact zs_goto hz hK (fun H locs ls st t ht k => lv_goto hx hb hd ht k)
  · have hd := zf_dec hOK rfl
    refine zs_icmp hz hK (fun H locs ls st x y t ht kt kf => ?_)
    rename_i cd off
    cases cd
    · exact lv_icmp_eq hx hb hd ht kt kf
    · exact lv_icmp_ne hx hb hd ht kt (fun e => kf (fun hn => hn e))
    · exact lv_icmp_lt hx hb hd ht kt kf
    · exact lv_icmp_ge hx hb hd ht kt kf
    · exact lv_icmp_gt hx hb hd ht kt kf
    · exact lv_icmp_le hx hb hd ht kt kf
  · have hd := zf_dec hOK rfl
    refine zs_if hz hK (fun H locs ls st x t ht kt kf => ?_)
    rename_i cd off
    cases cd
    · exact lv_if_eq hx hb hd ht kt kf
    · exact lv_if_ne hx hb hd ht kt (fun e => kf (fun hn => hn e))
    · exact lv_if_lt hx hb hd ht kt kf
    · exact lv_if_ge hx hb hd ht kt kf
    · exact lv_if_gt hx hb hd ht kt kf
    · exact lv_if_le hx hb hd ht kt kf
  · have hd := zf_dec hOK rfl
    exact zs_nul hz hK (fun H locs ls st a t hn ht k => by cases hn) (fun H locs ls st a hn k => lv_ifnull hx hb hd k) (fun H locs ls st t hn ht k => lv_ifnullN hx hb hd ht k) (fun H locs ls st hn k => by cases hn)
  · have hd := zf_dec hOK rfl
    exact zs_nul hz hK (fun H locs ls st a t hn ht k => lv_ifnonnull hx hb hd ht k) (fun H locs ls st a hn k => by cases hn) (fun H locs ls st t hn ht k => by cases hn) (fun H locs ls st hn k => lv_ifnonnullN hx hb hd k)
  · obtain ⟨n, hd⟩ := zdk_sw hOK.1
    exact zs_tsw hz hK (fun H locs ls st x t h1 ht k => lv_tableOut hx hb hd h1 ht k) (fun H locs ls st x off t h1 h2 ho ht k => lv_tableIn hx hb hd h1 h2 (by rw [← Array.getElem?_toList]; exact ho) ht k)
  -- fields
  · have hd := zf_dec hOK rfl
    obtain ⟨⟨C, T, N⟩, hq, hlt, hw⟩ := zf_get hOK
    exact zs_get hz hK (fun H locs ls st i vs v hp hH he hv k => zr_get hx hb hts hown hVK hH he hq (zclass hq).1 hlt (hts _ hw) hv hd k)
  · have hd := zf_dec hOK rfl
    obtain ⟨⟨C, T, N⟩, hq, hlt, hfin, hv, hw⟩ := zf_put hOK
    obtain ⟨q1, q2, q3, q4, q5, q6⟩ := zclass hq
    have hk : zfkT v (zFt a b) := by rw [hv]; exact q6 _ hlt
    exact zs_put hz hK hk (fun H locs ls st i vs w hp hH hl he hlen hn hf k => zr_put hx hb hts hown hVK hH hl he hq q1 q2 q3 hlt (hts _ hw) (fun hf => ⟨hnm (hfin hf).1, (hfin hf).2⟩) hn hf hlen hd k)
  -- arrays
  · have hd := zf_dec hOK rfl
    exact zs_iald hz hX hK (fun H locs ls st j hp hH hj k => zr_sld hx hb hK0 hH hj hd k) (fun H locs ls st i n f hp j hH he ht hj k => by obtain ⟨g, rfl⟩ := ht; exact zr_iald hx hb hVK hH he hj hd k)
  · have hd := zf_dec hOK rfl
    exact zs_ald hz hK (fun H locs ls st i n f hp j hH he ht hj k => by obtain ⟨g, rfl⟩ := ht; exact zr_lald hx hb hVK hH he hj hd k)
  · have hd := zf_dec hOK rfl
    unfold zo_bald at hz
    split at hz
    · obtain ⟨t, hz⟩ := zaty_ok hz
      split at hz
      · exact zs_ald hz hK (fun H locs ls st i n f hp j hH he ht hj k => by obtain ⟨g, rfl⟩ := ht; exact zr_bald hx hb hVK hH he hj hd k)
      · exact zs_ald hz hK (fun H locs ls st i n f hp j hH he ht hj k => by obtain ⟨g, rfl⟩ := ht; exact zr_zald hx hb hVK hH he hj hd k)
      · cases hz
    · cases hz
  · have hd := zf_dec hOK rfl
    exact zs_ald hz hK (fun H locs ls st i n f hp j hH he ht hj k => by obtain ⟨g, rfl⟩ := ht; exact zr_aald hx hb hVK hH he hj hd k)
  · have hd := zf_dec hOK rfl
    refine zs_ast hz hK (fun H locs ls st i n f hp j v hH hl he ht hj hv k => ?_)
    rcases hv with ⟨h1, x, rfl⟩ | ⟨h1, x, rfl⟩ | ⟨h1, x, rfl, h2⟩
    · cases h1
    · obtain ⟨g, rfl⟩ := ht
      exact zr_iast hx hb hVK hH hl he hj hd k
    · cases h1
  · have hd := zf_dec hOK rfl
    refine zs_ast hz hK (fun H locs ls st i n f hp j v hH hl he ht hj hv k => ?_)
    rcases hv with ⟨h1, x, rfl⟩ | ⟨h1, x, rfl⟩ | ⟨h1, x, rfl, h2⟩
    · obtain ⟨g, rfl⟩ := ht
      exact zr_last hx hb hVK hH hl he hj hd k
    · rcases h1 with h1 | h1 <;> cases h1
    · cases h1
  · have hd := zf_dec hOK rfl
    unfold zo_bast at hz
    split at hz
    · obtain ⟨t, hz⟩ := zaty_ok hz
      split at hz
      · refine zs_ast hz hK (fun H locs ls st i n f hp j v hH hl he ht hj hv k => ?_)
        rcases hv with ⟨h1, x, rfl⟩ | ⟨h1, x, rfl⟩ | ⟨h1, x, rfl, h2⟩
        · cases h1
        · obtain ⟨g, rfl⟩ := ht
          exact zr_bast hx hb hVK hH hl he hj hd k
        · cases h1
      · refine zs_ast hz hK (fun H locs ls st i n f hp j v hH hl he ht hj hv k => ?_)
        rcases hv with ⟨h1, x, rfl⟩ | ⟨h1, x, rfl⟩ | ⟨h1, x, rfl, h2⟩
        · cases h1
        · rcases h1 with h1 | h1 <;> cases h1
        · obtain ⟨g, rfl⟩ := ht
          exact zr_zast hx hb hVK hH hl he h2 hj hd k
      · cases hz
    · cases hz
  · have hd := zf_dec hOK rfl
    exact zs_aast hz hK (fun H locs ls st i n f x vs hp j hH hl he hv hj k => zr_aast hx hb hVK hH hl he hv (r := ("TinTower$Scene", zT6, 3)) rfl rfl hj hd k)
  · have hd := zf_dec hOK rfl
    exact zs_slen hz hX hK (fun H locs ls st hp hH k => zr_slen hx hb hK0 hH hd k) (fun H locs ls st i t n f hp hH he ht k => zr_alen hx hb hVK hH he ht hd k)
  -- making
  · have hd := zf_dec hOK rfl
    obtain ⟨⟨C, T, N⟩, hq, hN, hw1, hw2, hw3⟩ := zf_new hOK
    obtain ⟨q1, q2, q3, q4, q5, q6⟩ := zclass hq
    simp only at hN
    subst hN
    exact zs_new hz hK (q5 ρ) (fun H locs ls st hp hH hc1 hc2 k => zr_new hx hb hts hown hVK hH hq q1 q2 (q4 B) (hts _ hw1) (hts _ hw2) (hts _ hw3) hc1 hc2 hd k)
  · have hd := zf_dec hOK rfl
    obtain ⟨hat, ha4, hw⟩ := zf_newa hOK
    exact zs_newa hz hK (fun H locs ls st hp x hH h0 hle hc1 hc2 k => zr_newa hx hb hVK hH ha4 hat (hts _ hw) h0 hle hc1 hc2 hd k)
  · have hd := zf_dec hOK rfl
    have hw1 := hts _ (zOK_tab hOK (List.mem_cons_self) rfl)
    exact zs_newa hz hK (fun H locs ls st hp x hH h0 hle hc1 hc2 k => zr_anew hx hb hown hVK hH hw1 (va_AO.use hK0.2.2.2.1) h0 hle hc1 hc2 hd k)
  -- Object's constructor, System.arraycopy
  · have hd := zf_dec hOK rfl
    split at hz
    · have hw1 := hts _ (zOK_tab hOK List.mem_cons_self rfl)
      have hw2 := hts _ (zOK_tab hOK (List.mem_cons_of_mem _ List.mem_cons_self) rfl)
      have hw3 := hts _ (zOK_tab hOK (List.mem_cons_of_mem _ (List.mem_cons_of_mem _ List.mem_cons_self)) rfl)
      exact zs_obj hz hK (fun H locs ls st a hs h1 h2 k => zr_obj hx hb hml (hs.trans hnL) hown hw1 hw2 hw3 h1 h2 hd k)
    · cases hz
  · have hd := zf_dec hOK rfl
    split at hz
    · have hw1 := hts _ (zOK_tab hOK List.mem_cons_self rfl)
      have hw2 := hts _ (zOK_tab hOK (List.mem_cons_of_mem _ List.mem_cons_self) rfl)
      have hw3 := hts _ (zOK_tab hOK (List.mem_cons_of_mem _ (List.mem_cons_of_mem _ List.mem_cons_self)) rfl)
      have hw4 := hts _ (zOK_tab hOK (List.mem_cons_of_mem _ (List.mem_cons_of_mem _ (List.mem_cons_of_mem _ List.mem_cons_self))) rfl)
      exact zs_cpy hz hK (fun H locs ls st i j n0 n1 f g hp sp dp n hs h1 h2 hH hl hf hg k1 k2 k3 k4 k5 k => zr_copy hx hb hml (hs.trans hnL) hown hw1 hw2 hw3 hw4 hVK hH hl hf hg k1 k2 k3 k4 k5 h1 (Nat.le_trans (Nat.add_le_add_left (by decide) _) h2) hd k)
    · cases hz
  · cases hz
end ZST
