/-! the text of a tree: its clusters -/
theorem low_bit {v l : Nat} (hv : v < 2 ^ 20) (h1 : v.testBit l = true) (h2 : ∀ j, j < l → v.testBit j = false) : (nI v) &&& (-(nI v)) = nI (2 ^ l) := by
  have hl : l < 20 := by
    rcases Nat.lt_or_ge l 20 with z | z
    · exact z
    · have : v.testBit l = false := Nat.testBit_lt_two_pow (Nat.lt_of_lt_of_le hv (Nat.pow_le_pow_right (by omega) z))
      rw [this] at h1; cases h1
  have hpos : 0 < v := by
    rcases Nat.eq_zero_or_pos v with z | z
    · subst z; rw [Nat.zero_testBit] at h1; cases h1
    · exact z
  have en : -(nI v) = nI (2 ^ 32 - v) := by
    apply Int32.toBitVec_inj.mp
    show -(BitVec.ofNat 32 v) = BitVec.ofNat 32 (2 ^ 32 - v)
    apply BitVec.eq_of_toNat_eq
    rw [BitVec.toNat_neg, BitVec.toNat_ofNat, BitVec.toNat_ofNat]
    rw [Nat.mod_eq_of_lt (show v < 2 ^ 32 by omega)]
  rw [en, nI_and]
  congr 1
  apply Nat.eq_of_testBit_eq
  intro j
  rw [Nat.testBit_and, Nat.testBit_two_pow]
  have es : 2 ^ 32 - v = 2 ^ 32 - ((v - 1) + 1) := by congr 1; omega
  rw [es, Nat.testBit_two_pow_sub_succ (by omega)]
  -- v = 2^l (2 w + 1)
  obtain ⟨w, hw⟩ : ∃ w, v = 2 ^ l * (2 * w + 1) := by
    have d0 : v % 2 ^ l = 0 := by
      apply Nat.eq_of_testBit_eq
      intro j
      rw [Nat.testBit_mod_two_pow, Nat.zero_testBit]
      by_cases hj : j < l
      · rw [h2 j hj, Bool.and_false]
      · simp [hj]
    have e := Nat.div_add_mod v (2 ^ l)
    rw [d0, Nat.add_zero] at e
    have od : v / 2 ^ l % 2 = 1 := by
      have := h1
      rw [Nat.testBit_eq_decide_div_mod_eq] at this
      exact of_decide_eq_true this
    refine ⟨v / 2 ^ l / 2, ?_⟩
    rw [show 2 * (v / 2 ^ l / 2) + 1 = v / 2 ^ l by omega]
    exact e.symm
  have hp : 0 < 2 ^ l := Nat.pow_pos (by omega)
  have e1 : v - 1 = 2 ^ l * (2 * w) + (2 ^ l - 1) := by rw [hw, Nat.mul_add, Nat.mul_one]; omega
  have t1 : ∀ j, (v - 1).testBit j = if j < l then (2 ^ l - 1).testBit j else (2 * w).testBit (j - l) := fun j => by
    rw [e1]; exact Nat.testBit_two_pow_mul_add _ (by omega) _
  have t2 : ∀ j, v.testBit j = if j < l then false else (2 * w + 1).testBit (j - l) := fun j => by
    have : v = 2 ^ l * (2 * w + 1) + 0 := by rw [Nat.add_zero]; exact hw
    rw [this, Nat.testBit_two_pow_mul_add _ hp]
    simp
  rw [t1 j, t2 j]
  rcases Nat.lt_trichotomy j l with z | z | z
  · simp [z, Nat.ne_of_gt z]
  · subst z
    simp
    omega
  · obtain ⟨m, hm⟩ : ∃ m, j - l = m + 1 := ⟨j - l - 1, by omega⟩
    have e3 : (2 * w + 1).testBit (m + 1) = w.testBit m := by rw [Nat.testBit_succ]; congr 1; omega
    have e4 : (2 * w).testBit (m + 1) = w.testBit m := by rw [Nat.testBit_succ]; congr 1; omega
    rw [hm, e3, e4]
    simp [show ¬ j < l by omega, Nat.ne_of_lt z]
    intro h _; exact h
theorem cb_ne {t : Td} (hT : TP t) {c : Nat} (hc : c + 1 < 2 * tN t ∨ c < tN t) : ∃ i, cbt t c i = true := by
  unfold cbt
  by_cases h : c < tN t
  · exact ⟨c, by rw [if_pos h]; exact decide_eq_true rfl⟩
  · have hk := hT.2.1 (c - tN t) (by omega)
    obtain ⟨i, hi⟩ := hk.2.2.2.2.1
    exact ⟨i, by rw [if_neg h, hk.2.2.1 i, hi]; rfl⟩
theorem cb_lt {t : Td} (hT : TP t) {c i : Nat} (hc : c + 1 < 2 * tN t ∨ c < tN t) (h : cbt t c i = true) : i < tN t := by
  unfold cbt at h
  by_cases hh : c < tN t
  · rw [if_pos hh] at h; have := of_decide_eq_true h; omega
  · rw [if_neg hh] at h; exact (hT.2.1 (c - tN t) (by omega)).2.2.2.2.2.2 i h
theorem lp_ex (t : Td) (c : Nat) : ∃ k, (cbt t c k = true ∨ 100 ≤ k) ∧ ∀ j, j < k → ¬ (cbt t c j = true ∨ 100 ≤ j) := pk_least (fun k => cbt t c k = true ∨ 100 ≤ k) ⟨100, Or.inr (Nat.le_refl _)⟩
/-- the least point of a cluster -/
noncomputable def lp (t : Td) (c : Nat) : Nat := Classical.choose (lp_ex t c)
theorem lp_in {t : Td} (hT : TP t) {c : Nat} (hc : c + 1 < 2 * tN t ∨ c < tN t) : cbt t c (lp t c) = true := by
  obtain ⟨i, hi⟩ := cb_ne hT hc
  have := cb_lt hT hc hi
  have h20 := hT.1.1
  rcases (Classical.choose_spec (lp_ex t c)).1 with z | z
  · exact z
  · exact absurd (Or.inl hi) ((Classical.choose_spec (lp_ex t c)).2 i (by show i < lp t c; unfold lp; omega))
theorem lp_min {t : Td} {c j : Nat} (h : j < lp t c) : cbt t c j = false := by
  have := (Classical.choose_spec (lp_ex t c)).2 j h
  cases e : cbt t c j with
  | false => rfl
  | true => exact absurd (Or.inl e) this
noncomputable def ld (t : Td) (k : Nat) : Nat := if lp t (tF t k) < lp t (tS t k) then tF t k else tS t k
noncomputable def tl (t : Td) (k : Nat) : Nat := if lp t (tF t k) < lp t (tS t k) then tS t k else tF t k
theorem ld_lt {t : Td} (hT : TP t) {k : Nat} (hk : k + 1 < tN t) : ld t k < tN t + k ∧ tl t k < tN t + k := by
  have h := hT.2.1 k hk
  unfold ld tl
  split
  · exact ⟨h.1, h.2.1⟩
  · exact ⟨h.2.1, h.1⟩
theorem lp_ne {t : Td} (hT : TP t) {k : Nat} (hk : k + 1 < tN t) : lp t (tF t k) ≠ lp t (tS t k) := by
  intro e
  have h := hT.2.1 k hk
  have h1 := lp_in hT (c := tF t k) (by omega)
  have h2 := lp_in hT (c := tS t k) (by omega)
  rw [← e] at h2
  exact h.2.2.2.1 _ ⟨h1, h2⟩
/-- how many points -/
def pcp (P : Nat → Bool) : Nat → Nat
  | 0 => 0
  | k + 1 => pcp P k + (if P k = true then 1 else 0)
theorem pcp_add {P A B : Nat → Bool} (h : ∀ i, P i = (A i || B i)) (hd : ∀ i, ¬ (A i = true ∧ B i = true)) : ∀ k, pcp P k = pcp A k + pcp B k
  | 0 => rfl
  | k + 1 => by
    have ih := pcp_add h hd k
    show pcp P k + _ = pcp A k + _ + (pcp B k + _)
    rw [ih, h k]
    have := hd k
    cases e1 : A k <;> cases e2 : B k
    · simp
    · simp; omega
    · simp; omega
    · exact absurd ⟨e1, e2⟩ this
theorem pcp_le (P : Nat → Bool) : ∀ k, pcp P k ≤ k
  | 0 => Nat.le_refl 0
  | k + 1 => by
    have := pcp_le P k
    show pcp P k + _ ≤ k + 1
    split <;> omega
theorem pcp_one {c : Nat} : ∀ k, pcp (fun i => decide (i = c)) k = if c < k then 1 else 0
  | 0 => rfl
  | k + 1 => by
    have ih := pcp_one (c := c) k
    show pcp _ k + _ = _
    rw [ih]
    by_cases h : k = c
    · subst h; simp
    · by_cases h2 : c < k
      · simp [h, h2, Nat.lt_succ_of_lt h2]
      · simp [h, h2, show ¬ c < k + 1 by omega]
theorem pcn_p (v : Nat) : ∀ k, k ≤ 32 → pcn v k = pcp (fun i => bt (nI v) i) k
  | 0, _ => rfl
  | k + 1, hk => by
    have ih := pcn_p v k (by omega)
    show pcn v k + v / 2 ^ k % 2 = pcp _ k + (if bt (nI v) k = true then 1 else 0)
    rw [ih, bt_nI k (by omega), tb1]
    have : v / 2 ^ k % 2 < 2 := Nat.mod_lt _ (by omega)
    by_cases h : v / 2 ^ k % 2 = 1
    · simp [h]
    · simp [h, show v / 2 ^ k % 2 = 0 by omega]
noncomputable def sz (t : Td) (c : Nat) : Nat := pcp (cbt t c) 20
theorem sz_leaf {t : Td} (hT : TP t) {c : Nat} (h : c < tN t) : sz t c = 1 := by
  have h20 := hT.1.1
  unfold sz
  have : cbt t c = fun i => decide (i = c) := by funext i; unfold cbt; rw [if_pos h]
  rw [this, pcp_one, if_pos (by omega)]
theorem sz_step {t : Td} (hT : TP t) {k : Nat} (hk : k + 1 < tN t) : sz t (tN t + k) = sz t (ld t k) + sz t (tl t k) := by
  have h := hT.2.1 k hk
  unfold sz
  have e : pcp (cbt t (tN t + k)) 20 = pcp (cbt t (tF t k)) 20 + pcp (cbt t (tS t k)) 20 := by
    refine pcp_add (fun i => ?_) h.2.2.2.1 20
    rw [← h.2.2.1 i]
    show (if tN t + k < tN t then _ else _) = _
    rw [if_neg (by omega), Nat.add_sub_cancel_left]
  rw [e]
  unfold ld tl
  split
  · rfl
  · exact Nat.add_comm _ _
theorem sz_pos {t : Td} (hT : TP t) : ∀ c, (c + 1 < 2 * tN t ∨ c < tN t) → 1 ≤ sz t c := by
  intro c
  induction c using Nat.strongRecOn with
  | ind c ih =>
    intro hc
    by_cases h : c < tN t
    · rw [sz_leaf hT h]; omega
    · obtain ⟨k, rfl⟩ : ∃ k, c = tN t + k := ⟨c - tN t, by omega⟩
      rw [sz_step hT (by omega)]
      have := ld_lt hT (k := k) (by omega)
      have := ih (ld t k) this.1 (by omega)
      omega
/-- the text and the order of a cluster -/
def chn (n : Nat) : Int32 := (nI n).toInt8.toInt32
noncomputable def htx (t : Td) (k : Nat) : List Int32 := chn 41 :: chn 58 :: (dgs (tT t k).toInt.toNat ++ (if tO t k = 1 then [] else chn 47 :: dgs (tO t k).toInt.toNat))
noncomputable def tx (t : Td) : Nat → Nat → List Int32
  | 0, _ => []
  | f + 1, c => if c < tN t then dgs c else chn 40 :: (tx t f (ld t (c - tN t)) ++ (chn 44 :: (tx t f (tl t (c - tN t)) ++ htx t (c - tN t))))
noncomputable def ol (t : Td) : Nat → Nat → List Nat
  | 0, _ => []
  | f + 1, c => if c < tN t then [c] else ol t f (ld t (c - tN t)) ++ ol t f (tl t (c - tN t))
theorem ol_len {t : Td} (hT : TP t) : ∀ f c, c < f → (c + 1 < 2 * tN t ∨ c < tN t) → (ol t f c).length = sz t c := by
  intro f
  induction f with
  | zero => intro c h; omega
  | succ f ih =>
    intro c hf hc
    rw [ol]
    by_cases h : c < tN t
    · rw [if_pos h, sz_leaf hT h]; rfl
    · obtain ⟨k, rfl⟩ : ∃ k, c = tN t + k := ⟨c - tN t, by omega⟩
      have hl := ld_lt hT (k := k) (by omega)
      rw [if_neg h, Nat.add_sub_cancel_left, List.length_append, ih _ (by omega) (by omega), ih _ (by omega) (by omega), sz_step hT (by omega)]
theorem nat13 {z : Int} (h : 0 ≤ z) (h2 : z ≤ 1000000000000) : z.toNat < 10 ^ 18 ∧ kkv z.toNat ≤ 12 := ⟨by omega, kkv_le (by omega)⟩
theorem htx_len {t : Td} (hT : TP t) {k : Nat} (hk : k + 1 < tN t) : (htx t k).length ≤ 28 := by
  have h := hT.2.2.1 k hk
  have h1 := nat13 h.1 h.2.1
  have h2 : kkv (tO t k).toInt.toNat ≤ 5 := kkv_le (by omega)
  unfold htx
  rw [List.length_cons, List.length_cons, List.length_append, dgs_len]
  split
  · show _ + 0 + 1 + 1 ≤ 28; omega
  · rw [List.length_cons, dgs_len]; omega
theorem tx_len {t : Td} (hT : TP t) : ∀ f c, c < f → (c + 1 < 2 * tN t ∨ c < tN t) → (tx t f c).length + 30 ≤ 60 * sz t c := by
  intro f
  induction f with
  | zero => intro c h; omega
  | succ f ih =>
    intro c hf hc
    rw [tx]
    by_cases h : c < tN t
    · have : kkv c ≤ 1 := kkv_le (by have := hT.1.1; omega)
      rw [if_pos h, sz_leaf hT h, dgs_len]; omega
    · obtain ⟨k, rfl⟩ : ∃ k, c = tN t + k := ⟨c - tN t, by omega⟩
      have hl := ld_lt hT (k := k) (by omega)
      have i1 := ih (ld t k) (by omega) (by omega)
      have i2 := ih (tl t k) (by omega) (by omega)
      have i3 := htx_len hT (k := k) (by omega)
      rw [if_neg h, Nat.add_sub_cancel_left, sz_step hT (by omega)]
      simp only [List.length_cons, List.length_append]
      omega
theorem tx_f {t : Td} (hT : TP t) : ∀ f c g, c < f → c < g → (c + 1 < 2 * tN t ∨ c < tN t) → tx t f c = tx t g c ∧ ol t f c = ol t g c := by
  intro f
  induction f with
  | zero => intro c g h; omega
  | succ f ih =>
    intro c g hf hg hc
    obtain ⟨g, rfl⟩ : ∃ g', g = g' + 1 := ⟨g - 1, by omega⟩
    rw [tx, tx, ol, ol]
    by_cases h : c < tN t
    · rw [if_pos h, if_pos h, if_pos h, if_pos h]; exact ⟨rfl, rfl⟩
    · obtain ⟨k, rfl⟩ : ∃ k, c = tN t + k := ⟨c - tN t, by omega⟩
      have hl := ld_lt hT (k := k) (by omega)
      rw [if_neg h, if_neg h, if_neg h, if_neg h, Nat.add_sub_cancel_left, (ih (ld t k) g (by omega) (by omega) (by omega)).1, (ih (tl t k) g (by omega) (by omega) (by omega)).1, (ih (ld t k) g (by omega) (by omega) (by omega)).2, (ih (tl t k) g (by omega) (by omega) (by omega)).2]
      exact ⟨rfl, rfl⟩
theorem tx_nb {t : Td} : ∀ {f c : Nat} {b : Int32}, b ∈ tx t f c → b.toInt8.toInt32 = b := by
  intro f
  induction f with
  | zero => intro c b h; exact absurd h List.not_mem_nil
  | succ f ih =>
    intro c b h
    rw [tx] at h
    by_cases hc : c < tN t
    · rw [if_pos hc] at h; exact dl_nb h
    · rw [if_neg hc] at h
      rcases List.mem_cons.mp h with h | h
      · rw [h]; exact nb2 _
      rcases List.mem_append.mp h with h | h
      · exact ih h
      rcases List.mem_cons.mp h with h | h
      · rw [h]; exact nb2 _
      rcases List.mem_append.mp h with h | h
      · exact ih h
      unfold htx at h
      rcases List.mem_cons.mp h with h | h
      · rw [h]; exact nb2 _
      rcases List.mem_cons.mp h with h | h
      · rw [h]; exact nb2 _
      rcases List.mem_append.mp h with h | h
      · exact dl_nb h
      · by_cases e : tO t (c - tN t) = 1
        · rw [if_pos e] at h; exact absurd h List.not_mem_nil
        · rw [if_neg e] at h
          rcases List.mem_cons.mp h with h | h
          · rw [h]; exact nb2 _
          · exact dl_nb h
