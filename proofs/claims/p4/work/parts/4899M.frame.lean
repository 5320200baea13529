/-! what a run can't change: a field of a class that none of its methods writes -/
def zKf (ci f : Nat) (hp hp' : List zhE) : Prop := ∀ (i : Nat) (fs : List Value), hp[i]? = some (.inr (ci, fs)) → ∃ fs', hp'[i]? = some (.inr (ci, fs')) ∧ fs'[f]? = fs[f]?
theorem zKf_rfl {ci f : Nat} {hp : List zhE} : zKf ci f hp hp := fun _ fs h => ⟨fs, h, rfl⟩
theorem zKf_tr {ci f : Nat} {h1 h2 h3 : List zhE} (a : zKf ci f h1 h2) (b : zKf ci f h2 h3) : zKf ci f h1 h3 := fun i fs h => by
  obtain ⟨g, g1, g2⟩ := a i fs h
  obtain ⟨g', g3, g4⟩ := b i g g1
  exact ⟨g', g3, g4.trans g2⟩
theorem zKf_arr {ci f i : Nat} {hp : List zhE} {x y : Nat × Nat × zhA} (h : hp[i]? = some (.inl x)) : zKf ci f hp (hp.set i (.inl y)) := fun j fs hj => by
  have hne : i ≠ j := by
    intro q
    subst q
    rw [h] at hj
    cases hj
  exact ⟨fs, by rw [List.getElem?_set_ne hne]; exact hj, rfl⟩
theorem zKf_app {ci f : Nat} {hp : List zhE} {l : List zhE} : zKf ci f hp (hp ++ l) := fun j fs hj => by
  have hlt := (List.getElem?_eq_some_iff.mp hj).1
  exact ⟨fs, by rw [List.getElem?_append_left hlt]; exact hj, rfl⟩
theorem zKf_put {ci f i a b : Nat} {hp : List zhE} {fs : List Value} {w : Value} (h : hp[i]? = some (.inr (a, fs))) (hno : ¬ (a = ci ∧ b = f)) : zKf ci f hp (hp.set i (.inr (a, fs.set b w))) := fun j gs hj => by
  by_cases hij : i = j
  · subst hij
    rw [h] at hj
    have hj := Option.some.inj hj
    have e1 : a = ci := congrArg (fun q : zhE => match q with | .inl _ => a | .inr p => p.1) hj
    have e2 : fs = gs := congrArg (fun q : zhE => match q with | .inl _ => fs | .inr p => p.2) hj
    subst e1
    subst e2
    have hlt := (List.getElem?_eq_some_iff.mp h).1
    refine ⟨fs.set b w, by rw [List.getElem?_set_self hlt], ?_⟩
    rw [List.getElem?_set_ne (fun q => hno ⟨rfl, q⟩)]
  · exact ⟨gs, by rw [List.getElem?_set_ne hij]; exact hj, rfl⟩
section ZMF
variable {pc : Nat} {L : zL} {st : List Value} {hp : List zhE} {c s : Nat} {Lx : Nat} {xs : Nat → Int32} {nL : Nat} {R : Room} {z' : zCF} {ci f : Nat}
theorem zkf_zjmp {off : Int} (hz : zjmp pc L hp c s off st = some z') : zKf ci f hp z'.2.2.2.1 := by
  unfold zjmp at hz
  split at hz
  · cases hz
    exact zKf_rfl
  · cases hz
theorem zkf_zpf {a b : Nat} {v : Int} (hno : ¬ (a = ci ∧ b = f)) (hz : zpf pc L st hp c s a b v = some z') : zKf ci f hp z'.2.2.2.1 := by
  unfold zpf at hz
  split at hz
  · split at hz
    · rename_i h1
      split at hz
      · rename_i h2
        rw [Bool.and_eq_true] at h2
        have e := Nat.eq_of_beq_eq_true h2.1
        subst e
        cases hz
        exact zKf_put h1 hno
      · cases hz
    · cases hz
  · cases hz
theorem zkf_zasI {t : Nat} {g : Int32 → Int32} (hz : zasI pc L st hp c s t g = some z') : zKf ci f hp z'.2.2.2.1 := by
  unfold zasI at hz
  split at hz
  · split at hz
    · rename_i h1
      split at hz
      · cases hz
        exact zKf_arr h1
      · cases hz
    · cases hz
  · cases hz
theorem zkf_zasZ (hz : zasZ pc L st hp c s = some z') : zKf ci f hp z'.2.2.2.1 := by
  unfold zasZ at hz
  split at hz
  · split at hz
    · rename_i h1
      split at hz
      · cases hz
        exact zKf_arr h1
      · cases hz
    · cases hz
  · cases hz
theorem zkf_zasL (hz : zasL pc L st hp c s = some z') : zKf ci f hp z'.2.2.2.1 := by
  unfold zasL at hz
  split at hz
  · split at hz
    · rename_i h1
      split at hz
      · cases hz
        exact zKf_arr h1
      · cases hz
    · cases hz
  · cases hz
theorem zkf_zasA (hz : zasA pc L st hp c s = some z') : zKf ci f hp z'.2.2.2.1 := by
  unfold zasA at hz
  split at hz
  · split at hz
    · rename_i h1 h2
      split at hz
      · cases hz
        exact zKf_arr h1
      · cases hz
    · cases hz
  · cases hz
theorem zkf_zcpo (hz : zcpo pc L st hp c s R = some z') : zKf ci f hp z'.2.2.2.1 := by
  unfold zcpo at hz
  split at hz
  · split at hz
    · rename_i h1 h2
      split at hz
      · cases hz
        exact zKf_arr h2
      · cases hz
    · cases hz
  · cases hz
theorem zkf_znw {a b : Nat} (hz : znw pc L st hp c s R a b = some z') : zKf ci f hp z'.2.2.2.1 := by
  unfold znw at hz
  split at hz
  · cases hz
    exact zKf_app
  · cases hz
theorem zkf_znwa {a b : Nat} (hz : znwa pc L st hp c s R a b = some z') : zKf ci f hp z'.2.2.2.1 := by
  unfold znwa at hz
  split at hz
  · split at hz
    · cases hz
      exact zKf_app
    · cases hz
  · cases hz
theorem zone_kf {i : Instr} {a b : Nat} {v : Int} (hno : ∀ q, i = .putfield q → ¬ (a = ci ∧ b = f)) (hz : zone pc L st hp c s Lx xs nL R i a b v = some z') : zKf ci f hp z'.2.2.2.1 := by
  have K := zKf_rfl (ci := ci) (f := f) (hp := hp)
  unfold zone at hz
  split at hz
  all_goals first
    | (cases hz; exact K)
    | exact zkf_zjmp hz
    | exact zkf_zpf (hno _ rfl) hz
    | exact zkf_zasI hz
    | exact zkf_zasL hz
    | exact zkf_zasA hz
    | exact zkf_znw hz
    | exact zkf_znwa hz
    | (unfold zI2 at hz; (repeat' split at hz) <;> first | (cases hz; exact K) | (cases hz; done))
    | (unfold zL2 at hz; (repeat' split at hz) <;> first | (cases hz; exact K) | (cases hz; done))
    | (unfold zLS at hz; (repeat' split at hz) <;> first | (cases hz; exact K) | (cases hz; done))
    | (unfold zDI at hz; (repeat' split at hz) <;> first | (cases hz; exact K) | (cases hz; done))
    | (unfold zldI at hz; (repeat' split at hz) <;> first | (cases hz; exact K) | (cases hz; done))
    | (unfold zldL at hz; (repeat' split at hz) <;> first | (cases hz; exact K) | (cases hz; done))
    | (unfold zldA at hz; (repeat' split at hz) <;> first | (cases hz; exact K) | (cases hz; done))
    | (unfold zstI at hz; (repeat' split at hz) <;> first | (cases hz; exact K) | (cases hz; done))
    | (unfold zstL at hz; (repeat' split at hz) <;> first | (cases hz; exact K) | (cases hz; done))
    | (unfold zstA at hz; (repeat' split at hz) <;> first | (cases hz; exact K) | (cases hz; done))
    | (unfold zgf at hz; (repeat' split at hz) <;> first | (cases hz; exact K) | (cases hz; done))
    | (unfold zalL at hz; (repeat' split at hz) <;> first | (cases hz; exact K) | (cases hz; done))
    | (unfold zalA at hz; (repeat' split at hz) <;> first | (cases hz; exact K) | (cases hz; done))
    | (unfold zlen1 at hz; (repeat' split at hz) <;> first | (cases hz; exact K) | (cases hz; done))
    | (unfold ztsw at hz; (repeat' split at hz) <;> first | exact zkf_zjmp hz | (cases hz; exact K) | (cases hz; done))
    | (unfold zlsw at hz; (repeat' split at hz) <;> first | exact zkf_zjmp hz | (cases hz; exact K) | (cases hz; done))
    | (split at hz <;> first | exact zkf_zcpo hz | (cases hz; exact K) | (cases hz; done))
    | (split at hz <;> first | (unfold zobi at hz; (repeat' split at hz) <;> first | (cases hz; exact K) | (cases hz; done)) | (cases hz; exact K) | (cases hz; done))
    | (split at hz <;> first | (unfold zbr at hz; (repeat' split at hz) <;> first | (cases hz; exact K) | (cases hz; done)) | (cases hz; exact K) | (cases hz; done))
    | (split at hz <;> first | exact zkf_zjmp hz | (cases hz; exact K) | (cases hz; done))
    | (split at hz <;> first | (unfold zalI at hz; (repeat' split at hz) <;> first | (cases hz; exact K) | (cases hz; done)) | (unfold zsl at hz; (repeat' split at hz) <;> first | (cases hz; exact K) | (cases hz; done)) | (cases hz; exact K) | (cases hz; done))
    | (split at hz <;> first | exact zkf_zasI hz | exact zkf_zasZ hz | (cases hz; exact K) | (cases hz; done))
    | ((repeat' split at hz) <;> first | (cases hz; exact K) | (cases hz; done))
end ZMF
