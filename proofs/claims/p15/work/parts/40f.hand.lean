/-! ===== the case of which what is true at all places is shown by hand: a rule goes ===== -/
noncomputable def dqL {α : Type} (h : DecidableEq α) : DecidableEq (List α) := inferInstance
noncomputable def dqP {α β : Type} (h : DecidableEq α) (h2 : DecidableEq β) : DecidableEq (α × β) := inferInstance
noncomputable def dqO {α : Type} (h : DecidableEq α) : DecidableEq (Option α) := inferInstance
noncomputable def dqN : DecidableEq Nat := inferInstance
noncomputable def dqI : DecidableEq Int := inferInstance
noncomputable def dqX : DecidableEq rX := dqP (dqL (dqP dqN dqI)) dqI
noncomputable def dqV : DecidableEq rV := dqP dqN (dqP dqN dqX)
noncomputable def dqD : DecidableEq rD := dqP dqN (dqP (dqP dqN (dqP dqX (dqP dqX dqX))) (dqP dqN (dqL dqN)))
noncomputable def dqM : DecidableEq rMm := dqP dqN (dqP dqN (dqP dqX (dqP dqX dqX)))
noncomputable def dqR : DecidableEq aRg := dqL (dqP dqI dqI)
noncomputable def dqS : DecidableEq rS := dqP dqR (dqP (dqL dqX) (dqP (dqL (dqP dqN dqV)) (dqP (dqL dqV) (dqP (dqL dqD) (dqP (dqL dqM) (dqP dqN dqN))))))
noncomputable def dqU : DecidableEq (Option (List (Nat × rS))) := dqO (dqL (dqP dqN dqS))
noncomputable def dqT : DecidableEq (Option (List rX × rS)) := dqO (dqP (dqL dqX) dqS)
noncomputable def dqJ : DecidableEq (Option rIT) := dqO (dqP dqR (dqP (dqL (dqP dqN (dqP dqX dqX))) (dqP (dqL dqX) (dqP (dqL dqX) (dqP (dqL (dqP dqN (dqL dqX))) (dqL (dqP dqN dqX)))))))
noncomputable def hP_ : rS := ([(0, 59), (0, 60), (0, 60), (0, 59)], [([(1, 1), (0, (-1))], (-1)), ([(3, 1), (0, (-1))], 0), ([(3, (-1)), (1, 1)], (-1))], [(0, (2, 1, ([], 0))), (1, (0, 0, ([(0, 1)], 0))), (2, (2, 9, ([(2, 1)], 0))), (3, (0, 0, ([(3, 1)], 0)))], [], [(1, (0, ([], 0), ([], 0), ([], 0)), 35532923950314040371555233996418615656447617690238539146959371986022792206109678041799221488951283425582368554579803649017449976541515788402769950908636090777205360942168155648586474173300819726209681126039184510259985831643477341306518809198263784101496089352281596201953796059875051696372027610327966734540107252024900186875743088800481127980217988171608446445416342510149241532365371062218047151691422639690112607414061483206221285197480827977314873249359417722033893059562132484634985190497104680125508246532317173717599562373960055023275063395611543489536294285752699889564327051548862766114884574517469304247713892512301056, [])], [(0, 1, ([], 0), ([], 10), ([(1, 1)], 0)), (0, 40, ([], 0), ([(0, 1)], 0), ([(2, 1)], 0))], 0, 0)
noncomputable def hSA_ : rS := ([(0, 59), (0, 60), (0, 60)], [([(1, 1), (0, (-1))], (-1))], [(3, (0, 0, ([(0, 1)], 0))), (2, (2, 9, ([(2, 1)], 0))), (0, (2, 1, ([], 0))), (1, (0, 0, ([(0, 1)], 0)))], [], [(1, (0, ([], 0), ([], 0), ([], 0)), 0, [])], [(0, 1, ([], 0), ([], 10), ([(1, 1)], 0)), (0, 40, ([], 0), ([(0, 1)], 0), ([(2, 1)], 0))], 0, 0)
noncomputable def hSB_ : rS := ([(0, 59), (0, 60), (0, 60), (0, 59), (0, 60)], [([(3, (-1)), (1, 1)], (-2)), ([(1, 1), (0, (-1))], (-1)), ([(3, 1), (0, (-1))], 0), ([(3, (-1)), (1, 1)], (-1))], [(3, (0, 0, ([(3, 1)], 1))), (0, (2, 1, ([], 0))), (1, (0, 0, ([(0, 1)], 0))), (2, (2, 9, ([(2, 1)], 0)))], [], [(0, (40, ([], 0), ([(3, 1)], 0), ([(4, 1)], 0)), 0, []), (1, (0, ([], 0), ([], 0), ([], 0)), 35532923950314040371555233996418615656447617690238539146959371986022792206109678041799221488951283425582368554579803649017449976541515788402769950908636090777205360942168155648586474173300819726209681126039184510259985831643477341306518809198263784101496089352281596201953796059875051696372027610327966734540107252024900186875743088800481127980217988171608446445416342510149241532365371062218047151691422639690112607414061483206221285197480827977314873249359417722033893059562132484634985190497104680125508246532317173717599562373960055023275063395611543489536294285752699889564327051548862766114884574517469304247713892512301056, [])], [(0, 1, ([], 0), ([], 10), ([(1, 1)], 0)), (0, 40, ([], 0), ([(0, 1)], 0), ([(2, 1)], 0)), (1, 40, ([], 0), ([(3, 1)], 1), ([(4, 1)], 0))], 0, 0)
noncomputable def hSX_ : rS := ([(0, 59), (0, 60), (0, 60), (0, 59)], [([(3, 1), (1, (-1))], 1), ([(1, 1), (0, (-1))], (-1)), ([(3, 1), (0, (-1))], 0), ([(3, (-1)), (1, 1)], (-1))], [(0, (2, 1, ([], 0))), (1, (0, 0, ([(0, 1)], 0))), (2, (2, 9, ([(2, 1)], 0))), (3, (0, 0, ([(3, 1)], 0)))], [], [(1, (0, ([], 0), ([], 0), ([], 0)), 35532923950314040371555233996418615656447617690238539146959371986022792206109678041799221488951283425582368554579803649017449976541515788402769950908636090777205360942168155648586474173300819726209681126039184510259985831643477341306518809198263784101496089352281596201953796059875051696372027610327966734540107252024900186875743088800481127980217988171608446445416342510149241532365371062218047151691422639690112607414061483206221285197480827977314873249359417722033893059562132484634985190497104680125508246532317173717599562373960055023275063395611543489536294285752699889564327051548862766114884574517469304247713892512301056, [])], [(0, 1, ([], 0), ([], 10), ([(1, 1)], 0)), (0, 40, ([], 0), ([(0, 1)], 0), ([(2, 1)], 0))], 0, 0)
noncomputable def hSD_ : rS := ([(0, 59), (0, 60), (0, 60), (0, 59)], [([(3, 1), (1, (-1))], 1), ([(1, 1), (0, (-1))], (-1)), ([(3, 1), (0, (-1))], 0), ([(3, (-1)), (1, 1)], (-1))], [(0, (2, 1, ([], 0))), (1, (0, 0, ([(0, 1)], 0))), (2, (2, 9, ([(2, 1)], 0))), (3, (0, 0, ([(3, 1)], 0)))], [], [(0, (40, ([], 0), ([(1, 1)], (-1)), ([(2, 1)], 0)), 0, []), (0, (1, ([], 0), ([], 10), ([(1, 1)], (-1))), 0, []), (1, (0, ([], 0), ([], 0), ([], 0)), 35532923950314040371555233996418615656447617690238539146959371986022792206109678041799221488951283425582368554579803649017449976541515788402769950908636090777205360942168155648586474173300819726209681126039184510259985831643477341306518809198263784101496089352281596201953796059875051696372027610327966734540107252024900186875743088800481127980217988171608446445416342510149241532365371062218047151691422639690112607414061483206221285197480827977314873249359417722033893059562132484634985190497104680125508246532317173717599562373960055023275063395611543489536294285752699889564327051548862766114884574517469304247713892512301056, [])], [(0, 1, ([], 0), ([], 10), ([(1, 1)], 0)), (0, 40, ([], 0), ([(0, 1)], 0), ([(2, 1)], 0))], 0, 0)
noncomputable def hSE_ : rS := ([(0, 59), (0, 60), (0, 60), (0, 59)], [([(3, 1), (1, (-1))], 1), ([(1, 1), (0, (-1))], (-1)), ([(3, 1), (0, (-1))], 0), ([(3, (-1)), (1, 1)], (-1))], [], [], [(0, (40, ([], 0), ([(1, 1)], (-1)), ([(2, 1)], 0)), 0, []), (0, (1, ([], 0), ([], 10), ([(1, 1)], (-1))), 0, []), (1, (0, ([], 0), ([], 0), ([], 0)), 35532923950314040371555233996418615656447617690238539146959371986022792206109678041799221488951283425582368554579803649017449976541515788402769950908636090777205360942168155648586474173300819726209681126039184510259985831643477341306518809198263784101496089352281596201953796059875051696372027610327966734540107252024900186875743088800481127980217988171608446445416342510149241532365371062218047151691422639690112607414061483206221285197480827977314873249359417722033893059562132484634985190497104680125508246532317173717599562373960055023275063395611543489536294285752699889564327051548862766114884574517469304247713892512301056, [])], [(0, 1, ([], 0), ([], 10), ([(1, 1)], 0)), (0, 40, ([], 0), ([(0, 1)], 0), ([(2, 1)], 0))], 0, 0)
noncomputable def hE2_ : rS := ([(0, 59), (0, 60), (0, 60), (0, 60)], [([(1, 1), (0, (-1))], (-1))], [], [], [(1, (0, ([], 0), ([], 0), ([], 0)), 35532923950314040371555233996418615656447617690238539146959371986022792206109678041799221488951283425582368554579803649017449976541515788402769950908636090777205360942168155648586474173300819726209681126039184510259985831643477341306518809198263784101496089352281596201953796059875051696372027610327966734540107252024900186875743088800481127980217988171608446445416342510149241532365371062218047151691422639690112607414061483206221285197480827977314873249359417722033893059562132484634985190497104680125508246532317173717599562373960055023275063395611543489536294285752699889564327051549211215258611615504055799845724023160832000, [])], [(0, 1, ([], 0), ([], 10), ([(1, 1)], 0)), (0, 40, ([], 0), ([(0, 1)], 0), ([(2, 1)], 0)), (1, 1, ([], 0), ([], 10), ([(1, 1)], (-1))), (1, 40, ([], 0), ([(0, 1)], 0), ([(3, 1)], 0))], 0, 0)
noncomputable def hD9_ : rS := ([(0, 59), (0, 60), (0, 60), (0, 59), (0, 60)], [([(3, 1), (1, (-1))], 1), ([(1, 1), (0, (-1))], (-1)), ([(3, 1), (0, (-1))], 0), ([(3, (-1)), (1, 1)], (-1))], [], [], [(0, (40, ([], 0), ([(1, 1)], (-1)), ([(2, 1)], 0)), 0, []), (0, (1, ([], 0), ([], 10), ([(1, 1)], (-1))), 0, []), (1, (0, ([], 0), ([], 0), ([], 0)), 35532923950314040371555233996418615656447617690238539146959371986022792206109678041799221488951283425582368554579803649017449976541515788402769950908636090777205360942168155648586474173300819726209681126039184510259985831643477341306518809198263784101496089352281596201953796059875051696372027610327966734540107252024900186875743088800481127980217988171608446445416342510149241532365371062218047151691422639690112607414061483206221285197480827977314873249359417722033893059562132484634985190497104680125508246532317173717599562373960055023275063395611543489536294285752699889564327051548862766114884574517469304247713892512301056, [])], [(0, 1, ([], 0), ([], 10), ([(1, 1)], 0)), (0, 40, ([], 0), ([(0, 1)], 0), ([(2, 1)], 0)), (3, 40, ([], 0), ([(0, 1)], 0), ([(4, 1)], 0))], 0, 0)
noncomputable def hB_ : rBd := (v146_, a168_.2)
set_option maxRecDepth 100000 in
theorem hA_ck : rUt false uMx uW uT w168_ (uJL.take 168) hB_ (fun pc => Nat.beq pc 8) 20 0 (rEnt w168_) = some [(8, hSA_)] := @of_decide_eq_true _ (dqU _ _) (by decide +kernel)
set_option maxRecDepth 100000 in
theorem hB_ck : rUt false uMx uW uT w168_ (uJL.take 168) hB_ (fun pc => Nat.beq pc 8 || Nat.beq pc 38) 40 8 hP_ = some [(38, hSX_), (8, hSB_)] := @of_decide_eq_true _ (dqU _ _) (by decide +kernel)
set_option maxRecDepth 100000 in
theorem hD_ck : rUt false uMx uW uT w168_ (uJL.take 168) hB_ (fun pc => Nat.beq pc 58) 40 38 hSX_ = some [(58, hSD_)] := @of_decide_eq_true _ (dqU _ _) (by decide +kernel)
noncomputable def hsA_ : List rX := [([(0, 1)], 0), ([(1, 1)], 0), ([(2, 1)], 0), ([(0, 1)], 0)]
set_option maxRecDepth 100000 in
theorem hmA_ck : rMt0 uW hSA_ hP_ [] 3 1 = some (hsA_, hSA_) := @of_decide_eq_true _ (dqT _ _) (by decide +kernel)
set_option maxRecDepth 100000 in
theorem hcA_ck : rCk uW uT w168_.2.2.2.1 w168_.2.2.2.1 hSA_ hP_ hsA_ 1 = true := by decide +kernel
noncomputable def hsB_ : List rX := [([(0, 1)], 0), ([(1, 1)], 0), ([(2, 1)], 0), ([(3, 1)], 1)]
set_option maxRecDepth 100000 in
theorem hmB_ck : rMt0 uW hSB_ hP_ [] 3 1 = some (hsB_, hSB_) := @of_decide_eq_true _ (dqT _ _) (by decide +kernel)
set_option maxRecDepth 100000 in
theorem hcB_ck : rCk uW uT w168_.2.2.2.1 w168_.2.2.2.1 hSB_ hP_ hsB_ 1 = true := by decide +kernel
noncomputable def hsD_ : List rX := [([(0, 1)], 0), ([(1, 1)], 0), ([(2, 1)], 0), ([(4, 1)], 0)]
set_option maxRecDepth 100000 in
theorem hmD_ck : rMt0 uW hSE_ hE2_ [] 3 1 = some (hsD_, hD9_) := @of_decide_eq_true _ (dqT _ _) (by decide +kernel)
set_option maxRecDepth 100000 in
theorem hcD_ck : rCk uW uT w168_.2.2.2.1 w168_.2.2.2.1 hD9_ hE2_ hsD_ 1 = true := by decide +kernel
noncomputable def hv38_ : rIT := ([(0, 60), (0, 60)], [(40, ([], 0), ([(0, 1)], 0)), (40, ([], 0), ([(1, 1)], 0))], [([(1, 1), (0, (-1))], (-1)), ([(3, (-9)), (2, 9)], 8), ([(3, 9), (2, (-9))], 8)], [([], (-1))], [], [])
noncomputable def hv39_ : rIT := ([(0, 59)], [(1, ([], 0), ([], 10)), (40, ([], 0), ([(0, 1)], 0)), (10, ([(2, 9)], 0), ([], 8))], [([(1, 1), (0, (-1))], (-1))], [([(3, 1)], 0)], [(38, [([(0, 1)], 0), ([(1, 1)], 0)])], [(2, ([(1, (-1)), (0, 1)], 1))])
noncomputable def hv40_ : rIT := ([(0, 59)], [(1, ([], 0), ([], 10)), (40, ([], 0), ([(0, 1)], 0)), (10, ([(2, 9)], 0), ([], 12)), (10, ([(2, 9)], 0), ([], 14)), (1, ([], 0), ([], 10))], [([(1, 1), (0, (-1))], (-1)), ([(3, 1)], (-2))], [([(4, 1)], 0)], [(38, [([(0, 1)], 0), ([(1, 1)], 0)])], [(2, ([(1, (-1)), (0, 1)], 1)), (5, ([(4, 1)], 0))])
noncomputable def hv41_ : rIT := ([(0, 62), (0, 7)], [(1, ([], 0), ([], 10)), (40, ([], 0), ([(2, 1)], 0)), (9, ([(0, 1)], 0), ([], 2)), (10, ([(1, 1), (0, 9)], 1), ([], 4)), (10, ([(1, 1), (0, 9)], 1), ([], 8))], [([(4, 1), (1, (-1))], (-1)), ([(5, 1)], (-1)), ([(5, (-1))], 2)], [([(6, 1)], 0)], [], [(4, ([(3, (-1)), (0, 1)], 0)), (5, ([(4, (-1)), (1, 1)], 1))])
noncomputable def hv42_ : rIT := ([(0, 62), (0, 7)], [(1, ([], 0), ([], 10)), (40, ([], 0), ([(2, 1)], 0)), (9, ([(0, 1)], 0), ([], 2)), (10, ([(1, 1), (0, 9)], 1), ([], 4)), (10, ([(1, 1), (0, 9)], 1), ([], 11))], [([(4, 1), (1, (-1))], (-1)), ([(5, 1)], (-6))], [([(6, 1)], 0)], [], [(4, ([(3, (-1)), (0, 1)], 0)), (5, ([(4, (-1)), (1, 1)], 1))])
noncomputable def hv43_ : rIT := ([(0, 62), (0, 7)], [(1, ([], 0), ([], 10)), (40, ([], 0), ([(2, 1)], 0)), (9, ([(0, 1)], 0), ([], 2)), (10, ([(1, 1), (0, 9)], 1), ([], 4))], [([(4, 1), (1, (-1))], (-1))], [([(5, 1)], (-1))], [], [(4, ([(3, (-1)), (0, 1)], 0)), (5, ([(4, (-1)), (1, 1)], 1))])
set_option maxRecDepth 100000 in
theorem hv38_at : uT[38]? = some hv38_ := @of_decide_eq_true _ (dqJ _ _) (by decide +kernel)
set_option maxRecDepth 100000 in
theorem hv39_at : uT[39]? = some hv39_ := @of_decide_eq_true _ (dqJ _ _) (by decide +kernel)
set_option maxRecDepth 100000 in
theorem hv40_at : uT[40]? = some hv40_ := @of_decide_eq_true _ (dqJ _ _) (by decide +kernel)
set_option maxRecDepth 100000 in
theorem hv41_at : uT[41]? = some hv41_ := @of_decide_eq_true _ (dqJ _ _) (by decide +kernel)
set_option maxRecDepth 100000 in
theorem hv42_at : uT[42]? = some hv42_ := @of_decide_eq_true _ (dqJ _ _) (by decide +kernel)
set_option maxRecDepth 100000 in
theorem hv43_at : uT[43]? = some hv43_ := @of_decide_eq_true _ (dqJ _ _) (by decide +kernel)
theorem hRg2 {P : Nat → Int × Int → Prop} {x y : Int × Int} (h0 : P 0 x) (h1 : P 1 y) : ∀ (i : Nat) (q : Int × Int), [x, y][i]? = some q → P i q
  | 0, q, h => by
    simp only [List.getElem?_cons_zero, Option.some.injEq] at h
    subst h
    exact h0
  | 1, q, h => by
    simp only [List.getElem?_cons_succ, List.getElem?_cons_zero, Option.some.injEq] at h
    subst h
    exact h1
  | n + 2, q, h => by simp at h
theorem hRg1 {P : Nat → Int × Int → Prop} {x : Int × Int} (h0 : P 0 x) : ∀ (i : Nat) (q : Int × Int), [x][i]? = some q → P i q
  | 0, q, h => by
    simp only [List.getElem?_cons_zero, Option.some.injEq] at h
    subst h
    exact h0
  | n + 1, q, h => by simp at h
section S47
variable {g g_q : rHp}
theorem hv38_iff : rIv g hv38_ ↔ ∀ a b : Int, 0 ≤ a → a < b → b ≤ 60 → g 40 0 a ≠ g 40 0 b := by
  constructor
  · intro h a b h1 h2 h3 e
    have := h [a, b] rfl (hRg2 ⟨h1, by show a ≤ 60; omega⟩ ⟨by show 0 ≤ b; omega, h3⟩) (fun x hx => by
      simp only [hv38_, List.mem_cons, List.not_mem_nil, or_false] at hx
      rcases hx with rfl | rfl | rfl <;> simp [hv38_, rCe, rE, rSm, aUp, rPs] <;> omega) _ List.mem_cons_self
    simp [rE, rSm] at this
  · intro h p hl hr hg
    match p, hl with
    | [a, b], _ =>
      have r0 := hr 0 _ rfl
      have r1 := hr 1 _ rfl
      simp only [rPs, List.getD_cons_zero, List.getD_cons_succ] at r0 r1
      have g0 := hg _ List.mem_cons_self
      have g1 := hg _ (List.mem_cons_of_mem _ List.mem_cons_self)
      have g2 := hg _ (List.mem_cons_of_mem _ (List.mem_cons_of_mem _ List.mem_cons_self))
      simp [hv38_, rCe, rE, rSm, aUp, rPs] at g0 g1 g2
      have := h a b (by omega) (by omega) (by omega)
      omega
theorem hv39_iff : rIv g hv39_ ↔ ∀ a : Int, 0 ≤ a → a ≤ 59 → a < g 1 0 10 → 0 ≤ g 10 (9 * g 40 0 a) 8 := by
  constructor
  · intro h a h1 h2 h3
    have := h [a] rfl (hRg1 ⟨h1, h2⟩) (fun x hx => by
      simp only [hv39_, List.mem_cons, List.not_mem_nil, or_false] at hx
      subst hx
      simp [hv39_, rCe, rE, rSm, aUp, rPs]
      omega) _ List.mem_cons_self
    simpa [hv39_, rCe, rE, rSm, aUp, rPs] using this
  · intro h p hl hr hg x hx
    match p, hl with
    | [a], _ =>
      have r0 := hr 0 _ rfl
      simp only [rPs, List.getD_cons_zero] at r0
      have g0 := hg _ List.mem_cons_self
      simp [hv39_, rCe, rE, rSm, aUp, rPs] at g0
      simp only [hv39_, List.mem_cons, List.not_mem_nil, or_false] at hx
      subst hx
      have := h a (by omega) (by omega) (by omega)
      simpa [hv39_, rCe, rE, rSm, aUp, rPs] using this
theorem hv40_iff : rIv g hv40_ ↔ ∀ a : Int, 0 ≤ a → a ≤ 59 → a < g 1 0 10 → 2 ≤ g 10 (9 * g 40 0 a) 12 → 0 ≤ g 10 (9 * g 40 0 a) 14 := by
  constructor
  · intro h a h1 h2 h3 h4
    have := h [a] rfl (hRg1 ⟨h1, h2⟩) (fun x hx => by
      simp only [hv40_, List.mem_cons, List.not_mem_nil, or_false] at hx
      rcases hx with rfl | rfl <;> simp [hv40_, rCe, rE, rSm, aUp, rPs] <;> omega) _ List.mem_cons_self
    simpa [hv40_, rCe, rE, rSm, aUp, rPs] using this
  · intro h p hl hr hg x hx
    match p, hl with
    | [a], _ =>
      have r0 := hr 0 _ rfl
      simp only [rPs, List.getD_cons_zero] at r0
      have g0 := hg _ List.mem_cons_self
      have g1 := hg _ (List.mem_cons_of_mem _ List.mem_cons_self)
      simp [hv40_, rCe, rE, rSm, aUp, rPs] at g0 g1
      simp only [hv40_, List.mem_cons, List.not_mem_nil, or_false] at hx
      subst hx
      have := h a (by omega) (by omega) (by omega) (by omega)
      simpa [hv40_, rCe, rE, rSm, aUp, rPs] using this
/-- what speaks of the goals alone stays -/
theorem hvG {iv : rIT} (hc : iv.1.length = 2) (hcs : ∃ k1 j1 k2 j2 r, iv.2.1 = (1, k1, j1) :: (40, k2, j2) :: r ∧ (∀ q ∈ r, (q.1 = 9 ∨ q.1 = 10) ∧ (∀ z ∈ q.2.1.1, z.1 ≠ 2 ∧ z.1 ≠ 3) ∧ ∀ z ∈ q.2.2.1, z.1 ≠ 2 ∧ z.1 ≠ 3)) (hg : ∀ x ∈ iv.2.2.1, ∀ z ∈ x.1, z.1 ≠ 2 ∧ z.1 ≠ 3) (hcl : ∀ x ∈ iv.2.2.2.1, ∀ z ∈ x.1, z.1 ≠ 2 ∧ z.1 ≠ 3)
    (hs : ∀ G k j, G = 9 ∨ G = 10 → g_q G k j = g G k j) (h : rIv g iv) : rIv g_q iv := by
  have hE : ∀ (ρ ρ_q : Nat → Int), (∀ k, k ≠ 2 → k ≠ 3 → ρ_q k = ρ k) → ∀ (l : List (Nat × Int)) (c : Int), (∀ z ∈ l, z.1 ≠ 2 ∧ z.1 ≠ 3) → rE ρ_q (l, c) = rE ρ (l, c) := by
    intro ρ ρ_q hρ l c hl
    unfold rE
    dsimp only
    congr 1
    induction l with
    | nil => rfl
    | cons z r ih =>
      simp only [rSm]
      rw [hρ _ (hl z List.mem_cons_self).1 (hl z List.mem_cons_self).2, ih (fun y hy => hl y (List.mem_cons_of_mem _ hy))]
  have hCe : ∀ (r : List (Nat × rX × rX)), (∀ q ∈ r, (q.1 = 9 ∨ q.1 = 10) ∧ (∀ z ∈ q.2.1.1, z.1 ≠ 2 ∧ z.1 ≠ 3) ∧ ∀ z ∈ q.2.2.1, z.1 ≠ 2 ∧ z.1 ≠ 3) → ∀ (n : Nat) (ρ ρ_q : Nat → Int), (∀ k, k ≠ 2 → k ≠ 3 → ρ_q k = ρ k) → ∀ k, k ≠ 2 → k ≠ 3 → rCe g_q n r ρ_q k = rCe g n r ρ k := by
    intro r
    induction r with
    | nil => intro _ n ρ ρ_q hρ k h2 h3; exact hρ k h2 h3
    | cons q r ih =>
      intro hr n ρ ρ_q hρ k h2 h3
      simp only [rCe]
      obtain ⟨q1, q2, q3⟩ := hr q List.mem_cons_self
      refine ih (fun y hy => hr y (List.mem_cons_of_mem _ hy)) (n + 1) _ _ (fun k2 e2 e3 => ?_) k h2 h3
      have e1 : g_q q.1 (rE ρ_q q.2.1) (rE ρ_q q.2.2) = g q.1 (rE ρ q.2.1) (rE ρ q.2.2) := by
        rw [hs _ _ _ q1, hE ρ ρ_q hρ q.2.1.1 q.2.1.2 q2, hE ρ ρ_q hρ q.2.2.1 q.2.2.2 q3]
      rw [e1]
      unfold aUp
      split
      · rfl
      · exact hρ k2 e2 e3
  obtain ⟨k1, j1, k2, j2, r, e, hr⟩ := hcs
  have key : ∀ (ρ : Nat → Int) (k : Nat), k ≠ 2 → k ≠ 3 → rCe g_q 2 iv.2.1 ρ k = rCe g 2 iv.2.1 ρ k := by
    intro ρ k h2 h3
    rw [e]
    simp only [rCe]
    refine hCe r hr _ _ _ (fun k2 e2 e3 => ?_) k h2 h3
    rw [aUp_ne _ _ e3, aUp_ne _ _ e2, aUp_ne _ _ e3, aUp_ne _ _ e2]
  intro p hl hr2 hg2
  rw [hc] at hg2 ⊢
  have h3 := h p hl hr2 (by
    rw [hc]
    intro x hx
    rw [hE _ _ (fun k h2 h3 => (key _ k h2 h3).symm) x.1 x.2 (hg x hx)]
    exact hg2 x hx)
  rw [hc] at h3
  intro x hx
  rw [hE _ _ (fun k h2 h3 => key _ k h2 h3) x.1 x.2 (hcl x hx)]
  exact h3 x hx
/-- the rules turned by one from r on -/
theorem hRot {r n : Int} (h0 : 0 ≤ r) (h1 : r < n) (h2 : n ≤ 60) (hn : g 1 0 10 = n) (hn_q : g_q 1 0 10 = n - 1) (hG : ∀ G k j, G = 9 ∨ G = 10 → g_q G k j = g G k j)
    (hr : ∀ j : Int, g_q 40 0 j = if r ≤ j ∧ j < n - 1 then g 40 0 (j + 1) else if j = n - 1 then g 40 0 r else g 40 0 j) (hI : rIvs uT g [38, 39, 40, 41, 42, 43]) : rIvs uT g_q [38, 39, 40, 41, 42, 43] := by
  have i38 := hv38_iff.mp (hI 38 (by simp) _ hv38_at)
  have i39 := hv39_iff.mp (hI 39 (by simp) _ hv39_at)
  have i40 := hv40_iff.mp (hI 40 (by simp) _ hv40_at)
  have src : ∀ j : Int, 0 ≤ j → j ≤ 60 → ∃ i : Int, 0 ≤ i ∧ i ≤ 60 ∧ g_q 40 0 j = g 40 0 i ∧ ((r ≤ j ∧ j < n - 1 ∧ i = j + 1) ∨ (j = n - 1 ∧ i = r) ∨ (¬ (r ≤ j ∧ j < n - 1) ∧ j ≠ n - 1 ∧ i = j)) := by
    intro j j1 j2
    by_cases c1 : r ≤ j ∧ j < n - 1
    · exact ⟨j + 1, by omega, by omega, by rw [hr, if_pos c1], Or.inl ⟨c1.1, c1.2, rfl⟩⟩
    · by_cases c2 : j = n - 1
      · exact ⟨r, by omega, by omega, by rw [hr, if_neg c1, if_pos c2], Or.inr (Or.inl ⟨c2, rfl⟩)⟩
      · exact ⟨j, by omega, by omega, by rw [hr, if_neg c1, if_neg c2], Or.inr (Or.inr ⟨c1, c2, rfl⟩)⟩
  intro i hi iv hiv
  simp only [List.mem_cons, List.not_mem_nil, or_false] at hi
  rcases hi with rfl | rfl | rfl | rfl | rfl | rfl
  · cases hv38_at.symm.trans hiv
    refine hv38_iff.mpr fun a b a1 a2 a3 e => ?_
    obtain ⟨x, x1, x2, x3, x4⟩ := src a (by omega) (by omega)
    obtain ⟨y, y1, y2, y3, y4⟩ := src b (by omega) (by omega)
    rw [x3, y3] at e
    have hne : x ≠ y := by omega
    rcases Int.lt_or_gt_of_ne hne with h | h
    · exact i38 x y x1 h y2 e
    · exact i38 y x y1 h x2 e.symm
  · cases hv39_at.symm.trans hiv
    refine hv39_iff.mpr fun a a1 a2 a3 => ?_
    obtain ⟨x, x1, x2, x3, x4⟩ := src a (by omega) (by omega)
    rw [x3, hG _ _ _ (Or.inr rfl)]
    rw [hn_q] at a3
    exact i39 x x1 (by omega) (by rw [hn]; omega)
  · cases hv40_at.symm.trans hiv
    refine hv40_iff.mpr fun a a1 a2 a3 a4 => ?_
    obtain ⟨x, x1, x2, x3, x4⟩ := src a (by omega) (by omega)
    rw [x3, hG _ _ _ (Or.inr rfl)] at a4 ⊢
    rw [hn_q] at a3
    exact i40 x x1 (by omega) (by rw [hn]; omega) a4
  · cases hv41_at.symm.trans hiv
    exact hvG rfl ⟨_, _, _, _, _, rfl, by decide⟩ (by decide) (by decide) hG (hI 41 (by simp) _ hv41_at)
  · cases hv42_at.symm.trans hiv
    exact hvG rfl ⟨_, _, _, _, _, rfl, by decide⟩ (by decide) (by decide) hG (hI 42 (by simp) _ hv42_at)
  · cases hv43_at.symm.trans hiv
    exact hvG rfl ⟨_, _, _, _, _, rfl, by decide⟩ (by decide) (by decide) hG (hI 43 (by simp) _ hv43_at)
end S47

