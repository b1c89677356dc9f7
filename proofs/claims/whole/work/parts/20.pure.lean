/-! PURE: what the printed functions answer -/
def wp {α : Type} (x : Option (α × St)) (Q : α → St → Prop) : Prop := ∃ a σ, x = some (a, σ) ∧ Q a σ
section
variable {α β : Type} {x : Option (α × St)} {k : α → St → Option (β × St)} {Q : α → St → Prop} {P : β → St → Prop}
theorem wp_some {a : α} {σ : St} (h : Q a σ) : wp (some (a, σ)) Q := ⟨a, σ, rfl, h⟩
theorem wp_gd {b : Bool} (hb : b = true) (h : wp x Q) : wp (gd b x) Q := by unfold gd; rw [if_pos hb]; exact h
theorem wp_bd {k : α → St → Option (β × St)} {P : β → St → Prop} (h : wp x Q) (hk : ∀ a σ, Q a σ → wp (k a σ) P) : wp (bd x k) P := by
  obtain ⟨a, σ, rfl, hq⟩ := h
  exact hk a σ hq
theorem wp_bde {a : α} {σ : St} (e : x = some (a, σ)) (h : wp (k a σ) P) : wp (bd x k) P := by subst e; exact h
theorem wp_nx {γ : Type} {v : γ} {f : γ → Option (α × St)} (h : wp (f v) Q) : wp (nx v f) Q := h
theorem wp_t {c : Prop} {dc : Decidable c} {y : Option (α × St)} (h : c) (hx : wp x Q) : wp (@ite _ c dc x y) Q := by rw [if_pos h]; exact hx
theorem wp_f {c : Prop} {dc : Decidable c} {y : Option (α × St)} (h : ¬ c) (hx : wp y Q) : wp (@ite _ c dc x y) Q := by rw [if_neg h]; exact hx
theorem wp_i {c : Prop} {dc : Decidable c} {y : Option (α × St)} (h1 : c → wp x Q) (h2 : ¬ c → wp y Q) : wp (@ite _ c dc x y) Q := by
  by_cases h : c
  · exact wp_t h (h1 h)
  · exact wp_f h (h2 h)
theorem wp_ndz {b : Prop} {dc : Decidable b} (h : ¬ b) (hx : wp x Q) : wp (ndz b dc x) Q := by unfold ndz; rw [if_neg h]; exact hx
theorem wp_mono {Q2 : α → St → Prop} (h : wp x Q) (hq : ∀ a σ, Q a σ → Q2 a σ) : wp x Q2 := by
  obtain ⟨a, σ, e, hh⟩ := h
  exact ⟨a, σ, e, hq a σ hh⟩
end
/-- places that may change -/
def fr (S : Nat → Nat → Prop) (σ σ' : St) : Prop := ∀ c k, ¬ S c k → σ'.1 c k = σ.1 c k ∧ σ'.2 c k = σ.2 c k
theorem fr_rf {S : Nat → Nat → Prop} {σ : St} : fr S σ σ := fun _ _ _ => ⟨rfl, rfl⟩
theorem fr_tr {S : Nat → Nat → Prop} {σ1 σ2 σ3 : St} (h1 : fr S σ1 σ2) (h2 : fr S σ2 σ3) : fr S σ1 σ3 := fun c k h => ⟨(h2 c k h).1.trans (h1 c k h).1, (h2 c k h).2.trans (h1 c k h).2⟩
theorem fr_mo {S T : Nat → Nat → Prop} {σ σ' : St} (h : fr S σ σ') (hs : ∀ c k, S c k → T c k) : fr T σ σ' := fun c k hn => h c k (fun z => hn (hs c k z))
theorem fr_I {S : Nat → Nat → Prop} {σ σ' : St} {c k : Nat} {v : Int32} (h : fr S σ σ') (hs : S c k) : fr S σ (sI σ' c k v) := by
  intro a b hn
  have hne : ¬ (a = c ∧ b = k) := fun e => hn (by rw [e.1, e.2]; exact hs)
  refine ⟨?_, (h a b hn).2⟩
  show (if a = c ∧ b = k then v else σ'.1 a b) = _
  rw [if_neg hne]; exact (h a b hn).1
theorem fr_J {S : Nat → Nat → Prop} {σ σ' : St} {c k : Nat} {v : Int64} (h : fr S σ σ') (hs : S c k) : fr S σ (sJ σ' c k v) := by
  intro a b hn
  have hne : ¬ (a = c ∧ b = k) := fun e => hn (by rw [e.1, e.2]; exact hs)
  refine ⟨(h a b hn).1, ?_⟩
  show (if a = c ∧ b = k then v else σ'.2 a b) = _
  rw [if_neg hne]; exact (h a b hn).2
theorem sI_at {σ : St} {c k : Nat} {v : Int32} : (sI σ c k v).1 c k = v := if_pos ⟨rfl, rfl⟩
theorem sI_of {σ : St} {c k a b : Nat} {v : Int32} (h : ¬ (a = c ∧ b = k)) : (sI σ c k v).1 a b = σ.1 a b := if_neg h
theorem sI_2 {σ : St} {c k : Nat} {v : Int32} : (sI σ c k v).2 = σ.2 := rfl
theorem sJ_at {σ : St} {c k : Nat} {v : Int64} : (sJ σ c k v).2 c k = v := if_pos ⟨rfl, rfl⟩
theorem sJ_of {σ : St} {c k a b : Nat} {v : Int64} (h : ¬ (a = c ∧ b = k)) : (sJ σ c k v).2 a b = σ.2 a b := if_neg h
theorem sJ_1 {σ : St} {c k : Nat} {v : Int64} : (sJ σ c k v).1 = σ.1 := rfl
theorem sI_if {σ : St} {c k a b : Nat} {v : Int32} : (sI σ c k v).1 a b = if a = c ∧ b = k then v else σ.1 a b := rfl
theorem sJ_if {σ : St} {c k a b : Nat} {v : Int64} : (sJ σ c k v).2 a b = if a = c ∧ b = k then v else σ.2 a b := rfl
/-- numbers -/
theorem ibn {i n : Nat} (h : i < n) (hn : n < 2 ^ 31) : ib (nI i) n = true := decide_eq_true (nI_in h hn)
theorem cl (n : Nat) (h : n < 2 ^ 31) : (nI n).toNatClampNeg = n := nI_clamp h
theorem i20 {i j : Nat} (hi : i < 20) (hj : j < 20) : (20 : Int32) * nI i + nI j = nI (20 * i + j) := by
  show nI 20 * nI i + nI j = _
  rw [pk_mul, nI_add]
/-- two answers alike, and what holds behind them -/
def jt {α : Type} (x y : Option (α × St)) (R : St → St → Prop) : Prop := ∃ a σ τ, x = some (a, σ) ∧ y = some (a, τ) ∧ R σ τ
theorem jt_wp {α : Type} {x y : Option (α × St)} {R : St → St → Prop} {P Q : α → St → Prop} (hx : wp x P) (hy : wp y Q) (h : ∀ a b σ τ, P a σ → Q b τ → a = b ∧ R σ τ) : jt x y R := by
  obtain ⟨a, σ, e1, h1⟩ := hx
  obtain ⟨b, τ, e2, h2⟩ := hy
  obtain ⟨rfl, hr⟩ := h a b σ τ h1 h2
  exact ⟨a, σ, τ, e1, e2, hr⟩
/-! the abstract desk: points, distances, places -/
def PX (σ : St) (n : Nat) (d : Nat → Nat → Nat) (px py : Nat → Int32) : Prop := σ.1 1 0 = nI n ∧ (∀ i j, i < 20 → j < 20 → σ.1 (60 + i) j = nI (d i j)) ∧ ∀ i, i < 20 → σ.1 2 i = px i ∧ σ.1 3 i = py i
def PM (τ : St) (n : Nat) (d : Nat → Nat → Nat) (px py : Nat → Int32) : Prop := τ.1 0 0 = nI n ∧ (∀ i j, i < 20 → j < 20 → τ.1 1 (20 * i + j) = nI (d i j)) ∧ ∀ i, i < 20 → τ.1 2 i = px i ∧ τ.1 3 i = py i
def inR (v : Int32) : Prop := -500 ≤ v.toInt ∧ v.toInt ≤ 500
def DOK (n : Nat) (d : Nat → Nat → Nat) (px py : Nat → Int32) : Prop := n ≤ 20 ∧ (∀ i j, d i j ≤ 2000000 ∧ d i j = d j i) ∧ (∀ i, d i i = 0) ∧ ∀ i, inR (px i) ∧ inR (py i)
def sP (c _ : Nat) : Prop := c = 1 ∨ c = 2 ∨ c = 3 ∨ (60 ≤ c ∧ c < 80)
def sPM (c k : Nat) : Prop := (c = 0 ∧ k = 0) ∨ c = 1 ∨ c = 2 ∨ c = 3
theorem PX.fr {S : Nat → Nat → Prop} {σ σ' : St} {n : Nat} {d : Nat → Nat → Nat} {px py : Nat → Int32} (h : PX σ n d px py) (hf : fr S σ σ') (hs : ∀ c k, sP c k → ¬ S c k) : PX σ' n d px py := by
  refine ⟨?_, fun i j hi hj => ?_, fun i hi => ⟨?_, ?_⟩⟩
  · rw [(hf 1 0 (hs _ _ (Or.inl rfl))).1]; exact h.1
  · rw [(hf (60 + i) j (hs _ _ (Or.inr (Or.inr (Or.inr ⟨by omega, by omega⟩))))).1]; exact h.2.1 i j hi hj
  · rw [(hf 2 i (hs _ _ (Or.inr (Or.inl rfl)))).1]; exact (h.2.2 i hi).1
  · rw [(hf 3 i (hs _ _ (Or.inr (Or.inr (Or.inl rfl))))).1]; exact (h.2.2 i hi).2
theorem PM.fr {S : Nat → Nat → Prop} {σ σ' : St} {n : Nat} {d : Nat → Nat → Nat} {px py : Nat → Int32} (h : PM σ n d px py) (hf : fr S σ σ') (hs : ∀ c k, sPM c k → ¬ S c k) : PM σ' n d px py := by
  refine ⟨?_, fun i j hi hj => ?_, fun i hi => ⟨?_, ?_⟩⟩
  · rw [(hf 0 0 (hs _ _ (Or.inl ⟨rfl, rfl⟩))).1]; exact h.1
  · rw [(hf 1 (20 * i + j) (hs _ _ (Or.inr (Or.inl rfl)))).1]; exact h.2.1 i j hi hj
  · rw [(hf 2 i (hs _ _ (Or.inr (Or.inr (Or.inl rfl))))).1]; exact (h.2.2 i hi).1
  · rw [(hf 3 i (hs _ _ (Or.inr (Or.inr (Or.inr rfl))))).1]; exact (h.2.2 i hi).2
section
variable {N : Nat}
theorem X_has1 {σ : St} {n i : Nat} (h : σ.1 1 0 = nI n) (hn : n ≤ 20) (hi : i < n) : fX3_has N (nI i) σ = some (1, σ) := by
  unfold fX3_has
  rw [if_neg (nI_pos (by omega)), h, if_neg (nI_ge hi (by omega))]
theorem X_has0 {σ : St} {n : Nat} {x : Int32} (h : σ.1 1 0 = nI n) (hx : x < 0 ∨ nI n ≤ x) : fX3_has N x σ = some (0, σ) := by
  unfold fX3_has
  rcases hx with hx | hx
  · rw [if_pos hx]
  · by_cases h0 : x < 0
    · rw [if_pos h0]
    · rw [if_neg h0, h, if_pos hx]
theorem M_in1 {σ : St} {n i : Nat} (hn : n < 2 ^ 31) (hi : i < n) : fX8_isIn N (nI i) (nI n) σ = some (1, σ) := by
  unfold fX8_isIn
  rw [if_neg (nI_pos (by omega)), if_neg (nI_ge hi (by omega))]
theorem M_in0 {σ : St} {n x : Int32} (hx : x < 0 ∨ n ≤ x) : fX8_isIn N x n σ = some (0, σ) := by
  unfold fX8_isIn
  rcases hx with hx | hx
  · rw [if_pos hx]
  · by_cases h0 : x < 0
    · rw [if_pos h0]
    · rw [if_neg h0, if_pos hx]
theorem ixc (x : Int32) {n : Nat} (hn : n < 2 ^ 31) : (x < 0 ∨ nI n ≤ x) ∨ ∃ j : Nat, j < n ∧ x = nI j := by
  rcases pk_ix x hn with h | h | h
  · exact Or.inl (Or.inl h)
  · exact Or.inl (Or.inr h)
  · exact Or.inr h
/-- setApart, sets: one distance -/
def dset (d : Nat → Nat → Nat) (i j v : Nat) : Nat → Nat → Nat := fun a b => if (a = i ∧ b = j) ∨ (a = j ∧ b = i) then v else d a b
theorem X_set {σ : St} {n i j v : Nat} {d : Nat → Nat → Nat} {px py : Nat → Int32} (h : PX σ n d px py) (hi : i < 20) (hj : j < 20) : wp (fX3_setApart N (nI i) (nI j) (nI v) σ) (fun _ σ' => PX σ' n (dset d i j v) px py ∧ fr (fun c _ => 60 ≤ c ∧ c < 80) σ σ') := by
  unfold fX3_setApart
  refine wp_gd (ibn hi (by decide)) (wp_gd (ibn hj (by decide)) (wp_nx (wp_gd (ibn hj (by decide)) (wp_gd (ibn hi (by decide)) (wp_nx (wp_some ?_))))))
  rw [cl i (by omega), cl j (by omega), Nat.one_mul, Nat.one_mul]
  refine ⟨⟨?_, fun a b ha hb => ?_, fun a ha => ⟨?_, ?_⟩⟩, fr_I (fr_I fr_rf ⟨by omega, by omega⟩) ⟨by omega, by omega⟩⟩
  · rw [sI_of (by omega), sI_of (by omega)]; exact h.1
  · unfold dset
    by_cases h1 : a = j ∧ b = i
    · rw [if_pos (Or.inr h1), h1.1, h1.2]; exact sI_at
    · rw [sI_of (by omega)]
      by_cases h2 : a = i ∧ b = j
      · rw [if_pos (Or.inl h2), h2.1, h2.2]; exact sI_at
      · rw [sI_of (by omega), if_neg (by omega)]; exact h.2.1 a b ha hb
  · rw [sI_of (by omega), sI_of (by omega)]; exact (h.2.2 a ha).1
  · rw [sI_of (by omega), sI_of (by omega)]; exact (h.2.2 a ha).2
theorem M_set {σ : St} {n i j v : Nat} {d : Nat → Nat → Nat} {px py : Nat → Int32} (h : PM σ n d px py) (hi : i < 20) (hj : j < 20) : wp (fX8_sets N (nI i) (nI j) (nI v) σ) (fun _ σ' => PM σ' n (dset d i j v) px py ∧ fr (fun c _ => c = 1) σ σ') := by
  unfold fX8_sets
  rw [i20 hi hj, i20 hj hi]
  refine wp_gd (ibn (by omega) (by decide)) (wp_nx (wp_gd (ibn (by omega) (by decide)) (wp_nx (wp_some ?_))))
  rw [cl _ (by omega), cl _ (by omega)]
  refine ⟨⟨?_, fun a b ha hb => ?_, fun a ha => ⟨?_, ?_⟩⟩, fr_I (fr_I fr_rf rfl) rfl⟩
  · rw [sI_of (by omega), sI_of (by omega)]; exact h.1
  · unfold dset
    by_cases h1 : a = j ∧ b = i
    · rw [if_pos (Or.inr h1), h1.1, h1.2]; exact sI_at
    · rw [sI_of (by omega)]
      by_cases h2 : a = i ∧ b = j
      · rw [if_pos (Or.inl h2), h2.1, h2.2]; exact sI_at
      · rw [sI_of (by omega), if_neg (by omega)]; exact h.2.1 a b ha hb
  · rw [sI_of (by omega), sI_of (by omega)]; exact (h.2.2 a ha).1
  · rw [sI_of (by omega), sI_of (by omega)]; exact (h.2.2 a ha).2
theorem dset_ok {n i j v : Nat} {d : Nat → Nat → Nat} {px py : Nat → Int32} (h : DOK n d px py) (hij : i ≠ j) (hv : v ≤ 2000000) : DOK n (dset d i j v) px py := by
  refine ⟨h.1, fun a b => ⟨?_, ?_⟩, fun a => ?_, h.2.2.2⟩
  · unfold dset; split
    · exact hv
    · exact (h.2.1 a b).1
  · unfold dset
    by_cases h1 : (a = i ∧ b = j) ∨ (a = j ∧ b = i)
    · rw [if_pos h1, if_pos (by omega)]
    · rw [if_neg h1, if_neg (by omega)]; exact (h.2.1 a b).2
  · unfold dset; rw [if_neg (by omega)]; exact h.2.2.1 a
end
