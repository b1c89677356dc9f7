/-! tree, step, height, label, joins, same, agree, middle -/
theorem bd_s {α β : Type} {a : α} {σ : St} {k : α → St → Option β} : bd (some (a, σ)) k = k a σ := rfl
theorem gd_t {α : Type} {b : Bool} {x : Option α} (h : b = true) : gd b x = x := if_pos h
theorem nx_r {α β : Type} {x : α} {k : α → β} : nx x k = k x := rfl
theorem oc_none {α β : Type} {a : β} {b : α → β} : oc none a b = a := rfl
theorem oc_some {α β : Type} {x : α} {a : β} {b : α → β} : oc (some x) a b = b x := rfl
theorem n10 : ¬ (1 : Int32) = 0 := by decide
theorem i19 {q k : Nat} : (19 : Int32) * nI q + nI k = nI (19 * q + k) := by
  show nI 19 * nI q + nI k = _
  rw [pk_mul, nI_add]
section
variable {N : Nat}
theorem X_treeNo {σ : St} {x : Int32} (h : x < 0 ∨ nI 4 ≤ x) : fX7_treeIn N x σ = some (none, σ) := by
  unfold fX7_treeIn
  by_cases h0 : x < 0
  · rw [if_pos h0]
  · rw [if_neg h0, if_pos (show (4 : Int32) ≤ x from h.resolve_left h0)]
theorem X_tree0 {σ : St} {q : Nat} (hq : q < 4) (h : σ.1 (52 + 2 * q) 0 = 0) : fX7_treeIn N (nI q) σ = some (none, σ) := by
  unfold fX7_treeIn
  rw [if_neg (nI_pos (by omega)), if_neg (show ¬ (4 : Int32) ≤ nI q from nI_ge (b := 4) hq (by omega))]
  unfold gd
  rw [if_pos (ibn hq (by decide)), cl q (by omega), if_pos h]
theorem X_tree1 {σ : St} {q : Nat} (hq : q < 4) (h : σ.1 (52 + 2 * q) 0 = 1) : fX7_treeIn N (nI q) σ = some (some q, σ) := by
  unfold fX7_treeIn
  rw [if_neg (nI_pos (by omega)), if_neg (show ¬ (4 : Int32) ≤ nI q from nI_ge (b := 4) hq (by omega))]
  rw [gd_t (ibn hq (by decide)), cl q (by omega), h, if_neg n10, gd_t (ibn hq (by decide))]
theorem M_treeNo {σ : St} {x : Int32} (h : x < 0 ∨ nI 4 ≤ x) : fX8_isTree N x σ = some (0, σ) := by
  unfold fX8_isTree
  have e : fX8_isIn N x (4 : Int32) σ = some (0, σ) := M_in0 h
  rw [e]; rfl
theorem M_tree0 {σ : St} {q : Nat} (hq : q < 4) (h : σ.1 8 q = 0) : fX8_isTree N (nI q) σ = some (0, σ) := by
  unfold fX8_isTree
  have e : fX8_isIn N (nI q) (4 : Int32) σ = some (1, σ) := M_in1 (n := 4) (by omega) hq
  rw [e, bd_s, if_neg n10, gd_t (ibn hq (by decide)), cl q (by omega), if_pos h]
theorem M_tree1 {σ : St} {q : Nat} (hq : q < 4) (h : σ.1 8 q = 1) : fX8_isTree N (nI q) σ = some (1, σ) := by
  unfold fX8_isTree
  have e : fX8_isIn N (nI q) (4 : Int32) σ = some (1, σ) := M_in1 (n := 4) (by omega) hq
  rw [e, bd_s, if_neg n10, gd_t (ibn hq (by decide)), cl q (by omega), h, if_neg n10]
/-- a slot: none on both sides, or one tree -/
theorem slot_c {σ τ : St} (h : Rel σ τ) (x : Int32) : (fX7_treeIn N x σ = some (none, σ) ∧ fX8_isTree N x τ = some (0, τ)) ∨ ∃ q t, q < 4 ∧ x = nI q ∧ TP t ∧ SX σ q t ∧ SM τ q t ∧ fX7_treeIn N x σ = some (some q, σ) ∧ fX8_isTree N x τ = some (1, τ) := by
  rcases ixc x (n := 4) (by omega) with hx | ⟨q, hq, rfl⟩
  · exact Or.inl ⟨X_treeNo hx, M_treeNo hx⟩
  · rcases h.2.2.2.2 q hq with ⟨h1, h2⟩ | ⟨t, h1, h2, h3⟩
    · exact Or.inl ⟨X_tree0 hq h1, M_tree0 hq h2⟩
    · exact Or.inr ⟨q, t, hq, rfl, h1, h2, h3, X_tree1 hq h2.1.1, M_tree1 hq h3.1.1⟩
theorem M_steps {τ : St} {q : Nat} {t : Td} (hq : q < 4) (hT : TP t) (h : SM τ q t) : fX8_steps N (nI q) τ = some (nI (tN t - 1), τ) := by
  have hn := hT.1.1
  unfold fX8_steps
  unfold gd
  rw [if_pos (ibn hq (by decide)), cl q (by omega), h.1.2.2.1]
  by_cases h1 : tN t ≤ 1
  · rw [if_pos (show nI (tN t) ≤ (1 : Int32) from nI_le (b := 1) h1 (by omega)), show tN t - 1 = 0 by omega]; rfl
  · rw [if_neg (show ¬ nI (tN t) ≤ (1 : Int32) from nI_ge (a := 1) (by omega) (by omega))]
    rw [if_pos (ibn hq (by decide))]
    show some (nI (tN t) - nI 1, τ) = _
    rw [pk_sub (by omega)]
theorem X_shas {σ : St} {q k : Nat} {t : Td} (hT : TP t) (h : SX σ q t) (hk : k + 1 < tN t) : fX4_has N (28 + 6 * q) (nI k) σ = some (1, σ) := by
  have hn := hT.1.1
  unfold fX4_has
  rw [if_neg (nI_pos (by omega)), h.1.2.2.2.2.2, if_neg (nI_ge (by omega) (by omega))]
theorem X_shas0 {σ : St} {q : Nat} {t : Td} {x : Int32} (h : SX σ q t) (hx : x < 0 ∨ nI (tN t - 1) ≤ x) : fX4_has N (28 + 6 * q) x σ = some (0, σ) := by
  unfold fX4_has
  by_cases h0 : x < 0
  · rw [if_pos h0]
  · rw [if_neg h0, h.1.2.2.2.2.2, if_pos (hx.resolve_left h0)]
theorem X_phas {σ : St} {q k : Nat} {t : Td} (hT : TP t) (h : SX σ q t) (hk : k < tN t) : fX6_has N q (nI k) σ = some (1, σ) := by
  have hn := hT.1.1
  unfold fX6_has
  rw [if_neg (nI_pos (by omega)), h.1.2.2.1, if_neg (nI_ge (by omega) (by omega))]
theorem X_phas0 {σ : St} {q : Nat} {t : Td} {x : Int32} (h : SX σ q t) (hx : x < 0 ∨ nI (tN t) ≤ x) : fX6_has N q x σ = some (0, σ) := by
  unfold fX6_has
  by_cases h0 : x < 0
  · rw [if_pos h0]
  · rw [if_neg h0, h.1.2.2.1, if_pos (hx.resolve_left h0)]
theorem M_isStep1 {τ : St} {q k : Nat} {t : Td} (hq : q < 4) (hT : TP t) (h : SM τ q t) (hk : k + 1 < tN t) : fX8_isStep N (nI q) (nI k) τ = some (1, τ) := by
  have hn := hT.1.1
  unfold fX8_isStep
  rw [M_tree1 hq h.1.1, bd_s, if_neg n10, M_steps hq hT h]
  show bd (fX8_isIn N (nI k) (nI (tN t - 1)) τ) _ = _
  rw [M_in1 (by omega) (by omega)]; rfl
theorem M_isStep0 {τ : St} {q : Nat} {x : Int32} {t : Td} (hq : q < 4) (hT : TP t) (h : SM τ q t) (hx : x < 0 ∨ nI (tN t - 1) ≤ x) : fX8_isStep N (nI q) x τ = some (0, τ) := by
  unfold fX8_isStep
  rw [M_tree1 hq h.1.1, bd_s, if_neg n10, M_steps hq hT h]
  show bd (fX8_isIn N x (nI (tN t - 1)) τ) _ = _
  rw [M_in0 hx]; rfl
theorem J_tree {σ τ : St} (h : Rel σ τ) (x w : Int32) : jt (fX7_tree N x w σ) (fX8_tree N x w τ) Rel := by
  unfold fX7_tree fX8_tree
  rcases slot_c (N := N) h x with ⟨e1, e2⟩ | ⟨q, t, hq, rfl, hT, hX, hM, e1, e2⟩
  · rw [e1, e2]; exact jt_no h rfl rfl
  rw [e1, e2, bd_s, bd_s, oc_some, nx_r, if_neg n10]
  have hch := hT.1.2.1
  have gq : ∀ {α : Type} {z : Option α}, gd (ib (nI q) 4) z = z := fun {α z} => by unfold gd; rw [if_pos (ibn hq (by decide))]
  rw [nx_r]
  by_cases w0 : w = 0
  · rw [if_pos w0, if_pos w0, M_steps hq hT hM]
    refine jt_no h (a := nI (tN t - 1)) ?_ rfl
    rw [hX.1.2.2.2.2.2]
  rw [if_neg w0, if_neg w0]
  by_cases w1 : w = 1
  · rw [if_pos w1, if_pos w1, gq, cl q (by omega)]
    refine jt_no h (a := tTies t) ?_ ?_
    · rw [hX.1.2.2.2.2.1]
    · rw [hM.1.2.2.2.2]
  rw [if_neg w1, if_neg w1]
  by_cases w2 : w = 2
  · rw [if_pos w2, if_pos w2, gq, cl q (by omega)]
    refine jt_no h (a := nI (tN t)) ?_ ?_
    · rw [hX.1.2.2.1]
    · rw [hM.1.2.2.1]
  rw [if_neg w2, if_neg w2]
  by_cases w3 : w = 3
  · rw [if_pos w3, if_pos w3, gq, cl q (by omega)]
    refine jt_no h (a := tKind t) ?_ ?_
    · rw [hX.1.2.2.2.1]
    · rw [hM.1.2.2.2.1]
  rw [if_neg w3, if_neg w3]
  by_cases w4 : w = 4
  · rw [if_pos w4, if_pos w4, gq, cl q (by omega), hX.1.2.1, hM.1.2.1]
    rcases hch with z | z
    · rw [z, if_pos rfl]; exact jt_no h rfl rfl
    · rw [z, if_neg (by decide)]; exact jt_no h rfl rfl
  rw [if_neg w4, if_neg w4]
  exact jt_no h rfl rfl
theorem tb_sm {t : Td} (hT : TP t) {k : Nat} (hk : k + 1 < tN t) : ∀ i, bt (tB t k) i = true → i < 20 := fun i hi => by
  have := (hT.2.1 k hk).2.2.2.2.2.2 i hi
  have := hT.1.1
  omega
theorem J_step {σ τ : St} (h : Rel σ τ) (hN : 3000 ≤ N) (x y w : Int32) : jt (fX7_step N x y w σ) (fX8_step N x y w τ) Rel := by
  unfold fX7_step fX8_step
  rcases slot_c (N := N) h x with ⟨e1, e2⟩ | ⟨q, t, hq, rfl, hT, hX, hM, e1, e2⟩
  · rw [e1]
    refine jt_no h rfl ?_
    unfold fX8_isStep
    rw [e2]; rfl
  rw [e1]
  have hn := hT.1.1
  rcases ixc y (n := tN t - 1) (by omega) with hy | ⟨k, hk, rfl⟩
  · refine jt_no h (a := -1) ?_ ?_
    · show bd (fX4_has N (28 + 6 * q) y σ) _ = _
      rw [X_shas0 hX hy]; rfl
    · rw [M_isStep0 hq hT hM hy]; rfl
  show jt (bd (fX4_has N (28 + 6 * q) (nI k) σ) _) _ Rel
  rw [X_shas hT hX (by omega), M_isStep1 hq hT hM (by omega), bd_s, bd_s, if_neg n10, if_neg n10, nx_r, nx_r, i19]
  have g1 : ∀ {α : Type} {z : Option α}, gd (ib (nI k) 19) z = z := fun {α z} => by unfold gd; rw [if_pos (ibn (by omega) (by decide))]
  have g2 : ∀ {α : Type} {z : Option α}, gd (ib (nI (19 * q + k)) 76) z = z := fun {α z} => by unfold gd; rw [if_pos (ibn (by omega) (by decide))]
  have hs := hX.2.1 k (by omega)
  have hm := hM.2.1 k (by omega)
  by_cases w0 : w = 0
  · rw [if_pos w0, if_pos w0, g1, g2, cl k (by omega), cl _ (by omega)]
    exact jt_no h (a := nI (tF t k)) (by rw [hs.1]) (by rw [hm.1])
  rw [if_neg w0, if_neg w0]
  by_cases w1 : w = 1
  · rw [if_pos w1, if_pos w1, g1, g2, cl k (by omega), cl _ (by omega)]
    exact jt_no h (a := nI (tS t k)) (by rw [hs.2.1]) (by rw [hm.2.1])
  rw [if_neg w1, if_neg w1]
  by_cases w2 : w = 2
  · rw [if_pos w2, if_pos w2, g1, g2, cl k (by omega), cl _ (by omega), hs.2.2.1, hm.2.2.1]
    obtain ⟨v, hv, ev⟩ := sm_of (tb_sm hT (k := k) (by omega))
    rw [ev, X_bitc hv, M_many hv hN]
    exact jt_no h rfl rfl
  rw [if_neg w2, if_neg w2]
  by_cases w3 : w = 3
  · rw [if_pos w3, if_pos w3, g1, g2, cl k (by omega), cl _ (by omega)]
    exact jt_no h (a := tB t k) (by rw [hs.2.2.1]) (by rw [hm.2.2.1])
  rw [if_neg w3, if_neg w3]
  exact jt_no h rfl rfl
theorem J_height {σ τ : St} (h : Rel σ τ) (x y w : Int32) : jt (fX7_height N x y w σ) (fX8_height N x y w τ) Rel := by
  unfold fX7_height fX8_height
  rcases slot_c (N := N) h x with ⟨e1, e2⟩ | ⟨q, t, hq, rfl, hT, hX, hM, e1, e2⟩
  · rw [e1]
    refine jt_no h rfl ?_
    unfold fX8_isStep
    rw [e2]; rfl
  rw [e1]
  have hn := hT.1.1
  rcases ixc y (n := tN t - 1) (by omega) with hy | ⟨k, hk, rfl⟩
  · refine jt_no h (a := -1) ?_ ?_
    · show bd (fX4_has N (28 + 6 * q) y σ) _ = _
      rw [X_shas0 hX hy]; rfl
    · rw [M_isStep0 hq hT hM hy]; rfl
  show jt (bd (fX4_has N (28 + 6 * q) (nI k) σ) _) _ Rel
  rw [X_shas hT hX (by omega), M_isStep1 hq hT hM (by omega), bd_s, bd_s, if_neg n10, if_neg n10, i19]
  have g1 : ∀ {α : Type} {z : Option α}, gd (ib (nI k) 19) z = z := fun {α z} => by unfold gd; rw [if_pos (ibn (by omega) (by decide))]
  have g2 : ∀ {α : Type} {z : Option α}, gd (ib (nI (19 * q + k)) 76) z = z := fun {α z} => by unfold gd; rw [if_pos (ibn (by omega) (by decide))]
  have hs := hX.2.1 k (by omega)
  have hm := hM.2.1 k (by omega)
  by_cases w0 : w = 0
  · subst w0
    rw [if_neg (show ¬ (0 : Int32) < 0 by decide), if_pos (show (0 : Int32) ≤ 1 by decide), if_pos rfl, if_pos rfl, g1, g2, cl k (by omega), cl _ (by omega)]
    exact jt_no h (a := tT t k) (by rw [hs.2.2.2.1]) (by rw [hm.2.2.2.1])
  rw [if_neg w0, if_neg w0]
  by_cases w1 : w = 1
  · subst w1
    rw [if_neg (show ¬ (1 : Int32) < 0 by decide), if_pos (show (1 : Int32) ≤ 1 by decide), if_pos rfl, g1, g2, cl k (by omega), cl _ (by omega)]
    exact jt_no h (a := tO t k) (by rw [hs.2.2.2.2]) (by rw [hm.2.2.2.2])
  rw [if_neg w1]
  refine jt_no h (a := -1) ?_ rfl
  by_cases c0 : w < 0
  · rw [if_pos c0]
  · rw [if_neg c0, if_neg]
    intro c1
    obtain ⟨j, hj, e⟩ := nI_of2 (M := 1) (n := 1) (by decide) c0 c1
    rcases (show j = 0 ∨ j = 1 by omega) with z | z
    · exact w0 (by rw [e, z]; rfl)
    · exact w1 (by rw [e, z]; rfl)
theorem J_label {σ τ : St} (h : Rel σ τ) (x y : Int32) : jt (fX7_label N x y σ) (fX8_label N x y τ) Rel := by
  unfold fX7_label fX8_label
  rcases slot_c (N := N) h x with ⟨e1, e2⟩ | ⟨q, t, hq, rfl, hT, hX, hM, e1, e2⟩
  · rw [e1, e2]; exact jt_no h rfl rfl
  rw [e1, e2, bd_s, bd_s, oc_some, if_neg n10]
  have hn := hT.1.1
  have gq : ∀ {α : Type} {z : Option α}, gd (ib (nI q) 4) z = z := fun {α z} => by unfold gd; rw [if_pos (ibn hq (by decide))]
  rw [gq, cl q (by omega), hM.1.2.2.1]
  rcases ixc y (n := tN t) (by omega) with hy | ⟨i, hi, rfl⟩
  · rw [X_phas0 hX hy, M_in0 hy]; exact jt_no h rfl rfl
  rw [X_phas hT hX hi, M_in1 (by omega) hi]
  rw [bd_s, bd_s, if_neg n10, if_neg n10]
  have e20 : (20 : Int32) * nI q + nI i = nI (20 * q + i) := by show nI 20 * nI q + nI i = _; rw [pk_mul, nI_add]
  rw [e20]
  rw [gd_t (ibn (show i < 20 by omega) (by decide)), gd_t (ibn (show 20 * q + i < 80 by omega) (by decide)), cl i (by omega), cl _ (by omega)]
  exact jt_no h (a := nI (tL t i)) (by rw [hX.2.2 i (by omega)]) (by rw [hM.2.2 i (by omega)])
end
