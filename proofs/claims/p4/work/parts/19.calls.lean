/-! the pattern's words in the state's own: values, cells, facts -/
section ZSB
variable {η η' : List Nat} {ρ ρ' : List Int} {θ : List LX} {μ : List Nat} {hp : List zhE}
def zsbv (θ : List LX) (μ : List Nat) (p : AV) (k : AV → Bool) : Bool := match p.1 with
  | 0 => zsb θ p.2 (fun e => k (0, e))
  | 1 => zsb θ p.2 (fun e => k (1, e))
  | 2 => zlg μ p.2.1.toNat (fun m => zfn m (fun m => k (2, ((m : Int), []))))
  | 3 => k p
  | 4 => k p
  | 5 => k p
  | _ => false
theorem zsbv_ok (h : zth ρ θ ρ') (hm : zmu η μ η') {p : AV} {k : AV → Bool} {v : Value} (hz : zsbv θ μ p k = true) (hv : zav η' ρ' p v) : ∃ a, k a = true ∧ zav η ρ a v := by
  obtain ⟨t, p⟩ := p
  unfold zsbv at hz
  split at hz
  · rename_i q
    simp only at q
    subst q
    obtain ⟨x, rfl, hx⟩ := hv
    obtain ⟨r, h1, h2⟩ := zsb_to h hz hx
    exact ⟨_, h1, x, rfl, h2⟩
  · rename_i q
    simp only at q
    subst q
    obtain ⟨x, rfl, hx⟩ := hv
    obtain ⟨r, h1, h2⟩ := zsb_to h hz hx
    exact ⟨_, h1, x, rfl, h2⟩
  · rename_i q
    simp only at q
    subst q
    obtain ⟨x, hx, rfl⟩ := hv
    obtain ⟨m, h1, h2⟩ := zlg_ok hz
    rw [zfn_eq] at h2
    obtain ⟨y, h3, h4⟩ := hm.2 _ _ h1
    cases hx.symm.trans h3
    exact ⟨_, h2, _, h4, rfl⟩
  · rename_i q
    simp only at q
    subst q
    exact ⟨_, hz, hv⟩
  · rename_i q
    simp only at q
    subst q
    exact ⟨_, hz, hv⟩
  · rename_i q
    simp only at q
    subst q
    exact ⟨_, hz, hv⟩
  · cases hz
def zsbS (θ : List LX) (μ : List Nat) : List AV → (List AV → Bool) → Bool
  | [], k => k []
  | p :: ps, k => zsbv θ μ p (fun a => zsbS θ μ ps (fun as => k (a :: as)))
theorem zsbS_ok (h : zth ρ θ ρ') (hm : zmu η μ η') : ∀ {ps : List AV} {k : List AV → Bool} {vs : List Value}, zsbS θ μ ps k = true → zaS η' ρ' ps vs → ∃ as, k as = true ∧ zaS η ρ as vs
  | [], k, [], hz, _ => ⟨[], hz, trivial⟩
  | [], k, _ :: _, _, hv => hv.elim
  | _ :: _, k, [], _, hv => hv.elim
  | p :: ps, k, v :: vs, hz, hv => by
    obtain ⟨a, h1, h2⟩ := zsbv_ok h hm hz hv.1
    obtain ⟨as, h3, h4⟩ := zsbS_ok h hm h1 hv.2
    exact ⟨_, h3, h2, h4⟩
def zsbE (θ : List LX) : List (LX × LX) → (List (LX × LX) → Bool) → Bool
  | [], k => k []
  | q :: es, k => zsb θ q.1 (fun i => zsb θ q.2 (fun v => zsbE θ es (fun es => k ((i, v) :: es))))
theorem zsbE_ok (h : zth ρ θ ρ') {n : Nat} {f : zhA} : ∀ {es : List (LX × LX)} {k : List (LX × LX) → Bool}, zsbE θ es k = true → (∀ e ∈ es, ∃ j : Nat, zxr ρ' e.1 (j : Int) ∧ j < n ∧ zxr ρ' e.2 (zei f j)) → ∃ es', k es' = true ∧ ∀ e ∈ es', ∃ j : Nat, zxr ρ e.1 (j : Int) ∧ j < n ∧ zxr ρ e.2 (zei f j)
  | [], k, hz, _ => ⟨[], hz, fun e he => absurd he List.not_mem_nil⟩
  | q :: es, k, hz, hv => by
    unfold zsbE at hz
    obtain ⟨j, g1, g2, g3⟩ := hv q List.mem_cons_self
    obtain ⟨i, h1, h2⟩ := zsb_to h hz g1
    obtain ⟨v, h3, h4⟩ := zsb_to h h1 g3
    obtain ⟨es', h5, h6⟩ := zsbE_ok h h3 (fun e he => hv e (List.mem_cons_of_mem _ he))
    refine ⟨_, h5, fun e he => ?_⟩
    rcases List.mem_cons.mp he with rfl | he
    · exact ⟨j, h2, g2, h4⟩
    · exact h6 e he
def zsbC (θ : List LX) (μ : List Nat) (p : AC) (k : AC → Bool) : Bool := match p with
  | .inl (ci, ps) => zsbS θ μ ps (fun as => k (.inl (ci, as)))
  | .inr (.inl (t, n, p, rs, es)) => zsbE θ es (fun es => k (.inr (.inl (t, n, p, rs, es))))
  | .inr (.inr ps) => zsbS θ μ ps (fun as => k (.inr (.inr as)))
theorem zsbC_ok (h : zth ρ θ ρ') (hm : zmu η μ η') {p : AC} {k : AC → Bool} {x : zhE} (hz : zsbC θ μ p k = true) (hv : zac η' ρ' p x) : ∃ c, k c = true ∧ zac η ρ c x := by
  unfold zsbC at hz
  split at hz
  · obtain ⟨vs, rfl, h1⟩ := hv
    obtain ⟨as, h2, h3⟩ := zsbS_ok h hm hz h1
    exact ⟨_, h2, vs, rfl, h3⟩
  · obtain ⟨f, rfl, h1, h2⟩ := hv
    obtain ⟨es', h3, h4⟩ := zsbE_ok h hz h2.2.2.2
    exact ⟨_, h3, f, rfl, h1, h2.1, h2.2.1, h2.2.2.1, h4⟩
  · obtain ⟨f, rfl, h1⟩ := hv
    obtain ⟨as, h2, h3⟩ := zsbS_ok h hm hz (zrf_list h1)
    obtain ⟨d1, d2⟩ := zrf_back h3
    exact ⟨_, h2, f, by rw [d1], d2⟩
def zsbF (θ : List LX) : List LX → List LX → (List LX → Bool) → Bool
  | [], F, k => k F
  | f :: fs, F, k => zsb θ f (fun f => zsbF θ fs F (fun F => k (f :: F)))
theorem zsbF_ok (h : zth ρ θ ρ') : ∀ {fs F : List LX} {k : List LX → Bool}, zsbF θ fs F k = true → zaF ρ' fs → zaF ρ F → ∃ F', k F' = true ∧ zaF ρ F'
  | [], F, k, hz, _, hF => ⟨F, hz, hF⟩
  | f :: fs, F, k, hz, hf, hF => by
    unfold zsbF at hz
    obtain ⟨z, h1, h2⟩ := hf f List.mem_cons_self
    obtain ⟨r, h3, h4⟩ := zsb_to h hz h1
    obtain ⟨F', h5, h6⟩ := zsbF_ok h h3 (fun g hg => hf g (List.mem_cons_of_mem _ hg)) hF
    refine ⟨_, h5, fun g hg => ?_⟩
    rcases List.mem_cons.mp hg with rfl | hg
    · exact ⟨z, h4, h2⟩
    · exact h6 g hg
/-- all but some cells hold -/
def zaHb (η : List Nat) (ρ : List Int) (A : AH) (hp : List zhE) (bad : Nat → Prop) : Prop := A.1 = η.length ∧ (∀ i c, zhg A.2 i = some c → ¬ bad i → ∃ j h, η[i]? = some j ∧ hp[j]? = some h ∧ zac η ρ c h) ∧ (∀ (i j x : Nat), η[i]? = some x → η[j]? = some x → i = j) ∧ ∀ (i x : Nat), η[i]? = some x → x < hp.length
def zsbH (θ : List LX) (μ : List Nat) : PC → AH → (AH → Bool) → Bool
  | [], A, k => k A
  | q :: C, A, k => zlg μ q.1 (fun m => zsbC θ μ q.2 (fun c => zhset A m c (fun A => zsbH θ μ C A k)))
theorem zsbH_ok (h : zth ρ θ ρ') (hm : zmu η μ η') : ∀ {C : PC} {A : AH} {k : AH → Bool} {bad : Nat → Prop}, zsbH θ μ C A k = true → zcl2 η' ρ' C hp → zaHb η ρ A hp bad → ∃ A', k A' = true ∧ zaHb η ρ A' hp (fun i => bad i ∧ ∀ q ∈ C, μ[q.1]? ≠ some i)
  | [], A, k, bad, hz, _, hA => ⟨A, hz, hA.1, fun i c hc hb => hA.2.1 i c hc (fun q => hb ⟨q, fun q hq => absurd hq List.not_mem_nil⟩), hA.2.2⟩
  | q :: C, A, k, bad, hz, hC, hA => by
    unfold zsbH at hz
    obtain ⟨m, h1, h2⟩ := zlg_ok hz
    obtain ⟨x, y, g1, g2, g3⟩ := hC q List.mem_cons_self
    obtain ⟨c, h3, h4⟩ := zsbC_ok h hm h2 g3
    obtain ⟨x', h5, h6⟩ := hm.2 _ _ h1
    cases g1.symm.trans h5
    obtain ⟨ch, e1, e2⟩ := zlg_ok h3
    obtain ⟨e3, e4⟩ := zls_ok e2
    obtain ⟨e5, e6⟩ := zls_ok e4
    obtain ⟨A', a1, a2⟩ := zsbH_ok (bad := fun i => bad i ∧ i ≠ m) h hm e6 (fun r hr => hC r (List.mem_cons_of_mem _ hr)) ⟨hA.1, fun j d hj hb => by
      rcases zhg_set e1 e3 hj with ⟨e7, e8⟩ | ⟨e7, e8⟩
      · rw [e8, ← e7]; exact ⟨x, y, h6, g2, h4⟩
      · exact hA.2.1 j d e8 (fun q => hb ⟨q, fun e => e7 e.symm⟩), hA.2.2⟩
    refine ⟨A', a1, a2.1, fun j d hj hb => a2.2.1 j d hj (fun ⟨⟨b1, b2⟩, b3⟩ => hb ⟨b1, fun r hr e => ?_⟩), a2.2.2⟩
    rcases List.mem_cons.mp hr with rfl | hr
    · cases h1.symm.trans e; exact b2 rfl
    · exact b3 r hr e
/-- new symbols -/
def zfrs : LE → List LX → AG → (List LX → AG → Bool) → Bool
  | [], θ, G, k => k θ G
  | q :: E, θ, G, k => zfr G q.1 q.2 (fun s G => zla θ s (fun θ => zfrs E θ G k))
theorem zfrs_ok : ∀ {E : LE} {ρ ρ' : List Int} {θ : List LX} {G : AG} {k : List LX → AG → Bool} {l : List Int}, zfrs E θ G k = true → zaG ρ G → zth ρ θ ρ' → l.length = E.length → (∀ (i : Nat) (q : Int × Int) (x : Int), E[i]? = some q → l[i]? = some x → q.1 ≤ x ∧ x ≤ q.2) → ∃ θ2 G', k θ2 G' = true ∧ zaG (ρ ++ l) G' ∧ zth (ρ ++ l) θ2 (ρ' ++ l) ∧ G'.2.2.2.2 = G.2.2.2.2
  | [], ρ, ρ', θ, G, k, l, hz, hG, h, hl, _ => by
    have : l = [] := List.length_eq_zero_iff.mp hl
    subst this
    exact ⟨θ, G, hz, by rw [List.append_nil]; exact hG, by rw [List.append_nil, List.append_nil]; exact h, rfl⟩
  | q :: E, ρ, ρ', θ, G, k, [], hz, hG, h, hl, _ => by simp at hl
  | q :: E, ρ, ρ', θ, G, k, x :: l, hz, hG, h, hl, hb => by
    unfold zfrs at hz
    have hx := hb 0 q x rfl rfl
    obtain ⟨s, G', h1, h2, h3, h4⟩ := zfr_ok hz hG hx.1 hx.2
    have h5 := zla_ok h1
    have h6 : zth (ρ ++ [x]) θ ρ' := ⟨h.1, fun i e he => by
      obtain ⟨y, a1, a2⟩ := h.2 i e he
      exact ⟨y, a1, zxr_mono a2⟩⟩
    obtain ⟨θ2, G2, h7, h8, h9, h10⟩ := zfrs_ok h5 h2 (zth_push h6 h3) (l := l) (by simpa using hl) (fun i q y hq hy => hb (i + 1) q y (by simpa using hq) (by simpa using hy))
    exact ⟨θ2, G2, h7, by rw [List.append_assoc] at h8; exact h8, by rw [List.append_assoc, List.append_assoc] at h9; exact h9, h10.trans h4⟩
def zdrp : LE → List LX → LE
  | E, [] => E
  | _ :: E, _ :: θ => zdrp E θ
  | [], _ => []
theorem zdrp_eq : ∀ {E : LE} {θ : List LX}, zdrp E θ = E.drop θ.length
  | E, [] => by cases E <;> rfl
  | _ :: E, _ :: θ => by simp [zdrp, zdrp_eq (E := E) (θ := θ)]
  | [], _ :: _ => by simp [zdrp]
/-- ids as the state's -/
def zmpW (μ : List Nat) : List Nat → (List Nat → Bool) → Bool
  | [], k => k []
  | w :: W, k => zlg μ w (fun m => zmpW μ W (fun W => k (m :: W)))
theorem zmpW_ok {μ : List Nat} : ∀ {W : List Nat} {k : List Nat → Bool}, zmpW μ W k = true → ∃ W', k W' = true ∧ (∀ m ∈ W', ∃ w ∈ W, μ[w]? = some m) ∧ ∀ w ∈ W, ∃ m ∈ W', μ[w]? = some m
  | [], k, hz => ⟨[], hz, fun m hm => absurd hm List.not_mem_nil, fun w hw => absurd hw List.not_mem_nil⟩
  | w :: W, k, hz => by
    unfold zmpW at hz
    obtain ⟨m, h1, h2⟩ := zlg_ok hz
    obtain ⟨W', h3, h4, h5⟩ := zmpW_ok h2
    refine ⟨_, h3, fun x hx => ?_, fun x hx => ?_⟩
    · rcases List.mem_cons.mp hx with rfl | hx
      · exact ⟨w, List.mem_cons_self, h1⟩
      · obtain ⟨y, h6, h7⟩ := h4 x hx
        exact ⟨y, List.mem_cons_of_mem _ h6, h7⟩
    · rcases List.mem_cons.mp hx with rfl | hx
      · exact ⟨m, List.mem_cons_self, h1⟩
      · obtain ⟨y, h6, h7⟩ := h5 x hx
        exact ⟨y, List.mem_cons_of_mem _ h6, h7⟩
def zsbO (μ : List Nat) : List Nat → List Nat → (List Nat → Bool) → Bool
  | [], O, k => k O
  | o :: os, O, k => zlg μ (o % 1000) (fun m => Nat.ble (m + 1) 1000 && zfn (1000 * (o / 1000) + m) (fun o => zsbO μ os O (fun O => k (o :: O))))
theorem zsbO_ok (hm : zmu η μ η') : ∀ {os O : List Nat} {k : List Nat → Bool}, zsbO μ os O k = true → zaO η' os hp → zaO η O hp → ∃ O', k O' = true ∧ zaO η O' hp
  | [], O, k, hz, _, hO => ⟨O, hz, hO⟩
  | o :: os, O, k, hz, h1, hO => by
    unfold zsbO at hz
    obtain ⟨m, h2, h3⟩ := zlg_ok hz
    rw [Bool.and_eq_true, zfn_eq] at h3
    have hlt := Nat.le_of_ble_eq_true h3.1
    obtain ⟨O', h4, h5⟩ := zsbO_ok hm h3.2 (fun q hq => h1 q (List.mem_cons_of_mem _ hq)) hO
    refine ⟨_, h4, fun q hq => ?_⟩
    rcases List.mem_cons.mp hq with rfl | hq
    · obtain ⟨j, g1, g2⟩ := h1 o List.mem_cons_self
      obtain ⟨x, g3, g4⟩ := hm.2 _ _ h2
      cases g1.symm.trans g3
      refine ⟨j, ?_, ?_⟩
      · rw [show (1000 * (o / 1000) + m) % 1000 = m by omega]; exact g4
      · rw [show (1000 * (o / 1000) + m) / 1000 = o / 1000 by omega]; exact g2
    · exact h5 q hq
def zcov (C : PC) : List Nat → Bool
  | [] => true
  | w :: W => C.any (fun q => Nat.beq q.1 w) && zcov C W
theorem zcov_ok {C : PC} : ∀ {W : List Nat}, zcov C W = true → ∀ w ∈ W, ∃ q ∈ C, q.1 = w
  | [], _, w, hw => absurd hw List.not_mem_nil
  | v :: W, hz, w, hw => by
    simp only [zcov, Bool.and_eq_true] at hz
    rcases List.mem_cons.mp hw with rfl | hw
    · obtain ⟨q, h1, h2⟩ := List.any_eq_true.mp hz.1
      exact ⟨q, h1, Nat.eq_of_beq_eq_true h2⟩
    · exact zcov_ok hz.2 w hw
end ZSB
/-! contracts as data -/
/-- the method, what holds before, how many cells, which may be written, what holds after (one of several) -/
abbrev CT : Type := Nat × PT × Nat × List Nat × List PT
def zinj (η : List Nat) (hp : List zhE) : Prop := (∀ (i j x : Nat), η[i]? = some x → η[j]? = some x → i = j) ∧ ∀ (i x : Nat), η[i]? = some x → x < hp.length
def zPo (C : CT) (η : List Nat) (ρ : List Int) (hp : List zhE) : ZP := fun rv hp' => ∃ P ∈ C.2.2.2.2, ∃ l, zptS η (ρ ++ l) P [] rv.toList hp' ∧ hp.length ≤ hp'.length ∧ ∀ i, i < hp.length → (∀ w ∈ C.2.2.2.1, η[w]? ≠ some i) → hp'[i]? = hp[i]?
def zHolds (lk : ZLP) (Lx : Nat) (xs : Nat → Int32) (C : CT) : Prop := ∀ (η : List Nat) (ρ : List Int) (hp : List zhE) (av : List Value), η.length = C.2.2.1 → zinj η hp → zptS η ρ C.2.1 [] av hp → zWP lk Lx xs C.1 (0, lv_args 0 av, [], hp, 0, 0) (zPo C η ρ hp)
section ZCT
variable {η0 : ZN} {ρ0 : List Int} {hp0 : List zhE} {W : List Nat} {n0 : Nat} {η : List Nat} {ρ : List Int} {hp : List zhE} {h : AH} {G : AG}
/-- what comes behind a call, for one of its ends -/
def zpost (W : List Nat) (P : PT) (θ : List LX) (μ : List Nat) (h : AH) (G : AG) (k : List AV → AH → AG → Bool) : Bool :=
  zcov P.2.2.1 W && zmpW μ W (fun Wm => zfrs (zdrp P.2.2.2.1 θ) θ G (fun θ G => zsbS θ μ P.2.1 (fun r => zsbF θ P.2.2.2.2.1 G.2.2.1 (fun F => zsbH θ μ P.2.2.1 h (fun h' => zOf (fun kind m => zHKw kind m h Wm || zHKx kind m h h' Wm) G.2.2.2.2 (fun O => zsbO μ P.2.2.2.2.2 O (fun O => k r h' (G.1, G.2.1, F, G.2.2.2.1, O))))))))
/-- an end that can't be: one of its facts is refuted -/
def zpdead (θ : List LX) (G : AG) : List LX → Bool
  | [] => false
  | f :: fs => zsb θ f (fun e => zxscl (-1) e (fun e => zxshi e (-1) (fun e => zprv G.2.1 G.2.2.1 e))) || zpdead θ G fs
theorem zpdead_ok {θ : List LX} {G : AG} {ρ ρ' l : List Int} (h : zth ρ θ ρ') (hG : zaG ρ G) : ∀ {fs : List LX}, zpdead θ G fs = true → zaF (ρ' ++ l) fs → False
  | [], hz, _ => by cases hz
  | f :: fs, hz, hF => by
    unfold zpdead at hz
    rw [Bool.or_eq_true] at hz
    rcases hz with hz | hz
    · obtain ⟨e, z, h1, h2, h3⟩ := zsb_ok h hz
      obtain ⟨e2, h4, h5⟩ := zxscl_ok h1 h2
      obtain ⟨e3, h6, h7⟩ := zxshi_ok h4 h5
      have h8 := zprv_ok hG.2.1 h6 hG.2.2.1 h7
      obtain ⟨w, h9, h10⟩ := hF f List.mem_cons_self
      have := zxr_fun h9 (zxr_mono (l := l) h3)
      omega
    · exact zpdead_ok h hG hz (fun g hg => hF g (List.mem_cons_of_mem _ hg))
def zposts (W : List Nat) (θ : List LX) (μ : List Nat) (h : AH) (G : AG) (k : List AV → AH → AG → Bool) : List PT → Bool
  | [] => true
  | P :: Ps => (zpdead θ G P.2.2.2.2.1 || zpost W P θ μ h G k) && zposts W θ μ h G k Ps
theorem zposts_in {W' : List Nat} {θ : List LX} {μ : List Nat} {k : List AV → AH → AG → Bool} : ∀ {Ps : List PT}, zposts W' θ μ h G k Ps = true → ∀ P ∈ Ps, zpdead θ G P.2.2.2.2.1 = true ∨ zpost W' P θ μ h G k = true
  | [], _, P, hP => absurd hP List.not_mem_nil
  | Q :: Ps, hz, P, hP => by
    simp only [zposts, Bool.and_eq_true, Bool.or_eq_true] at hz
    rcases List.mem_cons.mp hP with rfl | hP
    · exact hz.1
    · exact zposts_in hz.2 P hP
/-- a call by its contract -/
def zct (W : List Nat) (n0 : Nat) (C : CT) (as : List AV) (h : AH) (G : AG) (k : List AV → AH → AG → Bool) : Bool :=
  zmt C.2.1 [] as h G [] [] (fun θ μ => Nat.beq μ.length C.2.2.1 && (zmpW μ C.2.2.2.1 (fun Wm => zmap2 (zwk W n0) Wm) && zposts C.2.2.2.1 θ μ h G k C.2.2.2.2))
theorem zct_ok {lk : ZLP} {Lx : Nat} {xs : Nat → Int32} {C : CT} {as : List AV} {k : List AV → AH → AG → Bool} {av : List Value} (hC : zHolds lk Lx xs C) (hn : n0 = η0.1.length) (hz : zct W n0 C as h G k = true) (hS : zSt η0 ρ0 hp0 W h G η ρ hp) (ha : zaS η ρ as av) :
    zWP lk Lx xs C.1 (0, lv_args 0 av, [], hp, 0, 0) (fun rv hp' => ∃ (r : List AV) (h' : AH) (G' : AG) (l : List Int), k r h' G' = true ∧ zSt η0 ρ0 hp0 W h' G' η (ρ ++ l) hp' ∧ zaS η (ρ ++ l) r rv.toList) := by
  obtain ⟨q1, q2, q3, q4, q5, q6⟩ := id hS
  have ht0 : zth ρ [] [] := ⟨rfl, fun i e he => by simp at he⟩
  have hm0 : zmu η [] [] := ⟨rfl, fun i m hm => by simp at hm⟩
  have ha0 : zap [] := fun i j m hi => by simp at hi
  obtain ⟨θ, μ, l, m, z1, z2, z3, z4, z5⟩ := zmt_ok (L := []) ht0 hm0 ha0 hz (fun q hq => absurd hq List.not_mem_nil) ha q4 q3 q5
  rw [List.nil_append] at z2 z3 z5
  rw [List.nil_append] at z5
  simp only [Bool.and_eq_true] at z1
  obtain ⟨y1, y2, y3⟩ := z1
  have y1 := Nat.eq_of_beq_eq_true y1
  have hinj : zinj m hp := by
    refine ⟨fun i j x hi hj => ?_, fun i x hi => ?_⟩
    · have hi2 : i < μ.length := by rw [z3.1]; exact (List.getElem?_eq_some_iff.mp hi).1
      have hj2 : j < μ.length := by rw [z3.1]; exact (List.getElem?_eq_some_iff.mp hj).1
      obtain ⟨x1, a1, a2⟩ := z3.2 i _ (List.getElem?_eq_getElem hi2)
      obtain ⟨x2, b1, b2⟩ := z3.2 j _ (List.getElem?_eq_getElem hj2)
      cases hi.symm.trans a1
      cases hj.symm.trans b1
      have e := q4.2.2.1 _ _ _ a2 b2
      exact z4 i j _ (List.getElem?_eq_getElem hi2) (by rw [List.getElem?_eq_getElem hj2, e])
    · have hi2 : i < μ.length := by rw [z3.1]; exact (List.getElem?_eq_some_iff.mp hi).1
      obtain ⟨x1, a1, a2⟩ := z3.2 i _ (List.getElem?_eq_getElem hi2)
      cases hi.symm.trans a1
      exact q4.2.2.2 _ _ a2
  refine (hC m l hp av (by rw [← z3.1]; exact y1) hinj z5).post ?_
  rintro rv hp' ⟨P, hP, l2, p1, p2, p3⟩
  obtain ⟨p4, p5, p6, p7, p8, p9⟩ := p1
  have hz2 := (zposts_in y3 P hP).resolve_left (fun hd => zpdead_ok (l := l2) z2 q3 hd p8)
  unfold zpost at hz2
  rw [Bool.and_eq_true] at hz2
  obtain ⟨x1, x2⟩ := hz2
  obtain ⟨Wm, x3, x4, x5⟩ := zmpW_ok x2
  have hlen : l2.length = (zdrp P.2.2.2.1 θ).length := by
    rw [zdrp_eq, List.length_drop, p7.1, List.length_append, z2.1]; omega
  obtain ⟨θ2, G2, x6, x7, x8, x9⟩ := zfrs_ok x3 q3 z2 hlen (fun i q x hq hx => by
    rw [zdrp_eq, List.getElem?_drop] at hq
    refine p7.2 _ q x hq ?_
    rw [z2.1, List.getElem?_append_right (by omega)]
    rw [show l.length + i - l.length = i by omega]
    exact hx)
  obtain ⟨r, x10, x11⟩ := zsbS_ok x8 z3 x6 p5
  obtain ⟨F', x12, x13⟩ := zsbF_ok x8 x10 p8 x7.2.2.1
  obtain ⟨Wc, c1, c2, c3⟩ := zmpW_ok y2
  have hfr : ∀ i, i < hp.length → (∀ w ∈ Wm, η[w]? ≠ some i) → hp'[i]? = hp[i]? := fun i hi hw => p3 i hi (fun w hw2 e => by
    obtain ⟨m1, m2, m3⟩ := x5 w hw2
    obtain ⟨y, m4, m5⟩ := z3.2 _ _ m3
    cases e.symm.trans m4
    exact hw m1 m2 m5)
  have hb : zaHb η (ρ ++ l2) h hp' (fun i => ∃ w ∈ C.2.2.2.1, μ[w]? = some i) := by
    refine ⟨q4.1, fun i c hc hnb => ?_, q4.2.2.1, fun i x hx => Nat.lt_of_lt_of_le (q4.2.2.2 i x hx) p2⟩
    obtain ⟨j, y, a1, a2, a3⟩ := q4.2.1 i c hc
    refine ⟨j, y, a1, ?_, zac_mono1 a3⟩
    rw [← a2]
    refine p3 j (q4.2.2.2 i j a1) (fun w hw e => hnb ⟨w, hw, ?_⟩)
    obtain ⟨m1, m2, m3⟩ := x5 w hw
    obtain ⟨y2, m4, m5⟩ := z3.2 _ _ m3
    cases e.symm.trans m4
    rw [q4.2.2.1 i m1 j a1 m5]
    exact m3
  obtain ⟨h', x18, x19⟩ := zsbH_ok x8 z3 x12 p6 hb
  have hH' : zaH η (ρ ++ l2) h' hp' := ⟨x19.1, fun i c hc => x19.2.1 i c hc (by
    rintro ⟨⟨w, hw, e⟩, hno⟩
    obtain ⟨q, hq1, hq2⟩ := zcov_ok x1 w hw
    exact hno q hq1 (by rw [hq2]; exact e)), x19.2.2⟩
  obtain ⟨O', x14, x15⟩ := zOf_ok (hp' := hp') (fun kind m2 j hk hm2 hO => by
    rw [Bool.or_eq_true] at hk
    rcases hk with hk | hk
    · exact zHKw_ok hk q4 hm2 hfr hO
    · exact zHKx_ok hk q4 hH' hm2 hfr hO) x18 (by rw [x9]; exact q5)
  obtain ⟨O2, x16, x17⟩ := zsbO_ok z3 x14 p9 x15
  refine ⟨r, h', _, l2, x16, ⟨q1, by obtain ⟨l0, e⟩ := q2; exact ⟨l0 ++ l2, by rw [e, List.append_assoc]⟩, ⟨x7.1, x7.2.1, x13, x7.2.2.2⟩, hH', x17, ?_⟩, x11⟩
  · obtain ⟨f1, f2, f3, f4⟩ := q6
    refine ⟨Nat.le_trans f1 p2, f2, fun i hi hw => ?_, f4⟩
    rw [← f3 i hi hw]
    refine p3 i (by omega) (fun w hw2 e => ?_)
    obtain ⟨m1, m2, m3⟩ := c3 w hw2
    obtain ⟨y, m4, m5⟩ := z3.2 _ _ m3
    cases e.symm.trans m4
    have hk := zmap2_ok c1 m1 m2
    unfold zwk at hk
    rw [Bool.or_eq_true] at hk
    by_cases hlt : m1 < η0.1.length
    · rcases hk with hk | hk
      · have := Nat.le_of_ble_eq_true hk; omega
      · obtain ⟨mm, rfl⟩ := f4
        rw [List.getElem?_append_left hlt] at m5
        exact hw m1 (zmemN_iff.mp hk) m5
    · have := f2 m1 i (by omega) m5
      omega
end ZCT
