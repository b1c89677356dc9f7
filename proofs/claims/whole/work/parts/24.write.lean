/-! numbers in digits; write -/
theorem kk_ex (v : Nat) : ∃ k, v / 10 ^ k ≤ 9 ∧ ∀ j, j < k → ¬ v / 10 ^ j ≤ 9 := by
  refine pk_least (fun k => v / 10 ^ k ≤ 9) ⟨v, ?_⟩
  have h : v < 10 ^ v := Nat.lt_pow_self (by omega)
  show v / 10 ^ v ≤ 9
  rw [Nat.div_eq_of_lt h]; omega
noncomputable def kkv (v : Nat) : Nat := Classical.choose (kk_ex v)
theorem kkv_at (v : Nat) : v / 10 ^ kkv v ≤ 9 := (Classical.choose_spec (kk_ex v)).1
theorem kkv_lo (v : Nat) {j : Nat} (h : j < kkv v) : ¬ v / 10 ^ j ≤ 9 := (Classical.choose_spec (kk_ex v)).2 j h
theorem kkv_le {v k : Nat} (h : v < 10 ^ (k + 1)) : kkv v ≤ k := by
  rcases Nat.lt_or_ge k (kkv v) with hk | hk
  · have := kkv_lo v hk
    have h2 : v / 10 ^ k < 10 := by
      rw [Nat.div_lt_iff_lt_mul (Nat.pow_pos (by omega))]
      rw [Nat.pow_succ] at h; omega
    omega
  · exact hk
def dgc (m : Nat) : Int32 := (nI (48 + m)).toInt8.toInt32
def dl (v : Nat) : Nat → List Int32
  | 0 => [dgc (v / 1 % 10)]
  | k + 1 => dgc (v / 10 ^ (k + 1) % 10) :: dl v k
theorem dl_len (v : Nat) : ∀ k, (dl v k).length = k + 1
  | 0 => rfl
  | k + 1 => by show (dl v k).length + 1 = _; rw [dl_len v k]
noncomputable def dgs (v : Nat) : List Int32 := dl v (kkv v)
theorem dgs_len (v : Nat) : (dgs v).length = kkv v + 1 := dl_len v _
theorem dl_nb {v : Nat} : ∀ {k : Nat} {b : Int32}, b ∈ dl v k → b.toInt8.toInt32 = b
  | 0, b, h => by
    rw [List.mem_singleton.mp h]; exact nb2 _
  | k + 1, b, h => by
    rcases List.mem_cons.mp h with h | h
    · rw [h]; exact nb2 _
    · exact dl_nb h
theorem LOK.app {L M : List Int32} (h : LOK L) (hl : L.length + M.length ≤ 2400) (hm : ∀ b ∈ M, b.toInt8.toInt32 = b) : LOK (L ++ M) := by
  refine ⟨by rw [List.length_append]; exact hl, fun b hb => ?_⟩
  rcases List.mem_append.mp hb with hb | hb
  · exact h.2 b hb
  · exact hm b hb
theorem p18 {k : Nat} (h : k ≤ 17) : 10 ^ k ≤ 10 ^ 17 := Nat.pow_le_pow_right (by omega) h
theorem l1 (n : Nat) : (@OfNat.ofNat Int64 n Int64.instOfNat) = lN n := rfl
section
variable {N : Nat}
theorem lNne {u : Nat} (h0 : 0 < u) (hu : u < 2 ^ 63) : ¬ lN u = 0 := by
  show ¬ lN u = lN 0
  rw [pk_lEQ hu (by omega)]; omega
theorem X_num37 {a v : Nat} (hv : v < 10 ^ 18) : ∀ (k n : Nat) (c : Nat) (L : List Int32) (σ : St), c + k < 18 → k + 1 < n → BX σ a L → L.length + k + 1 ≤ 2400 → wp (fX0_addNumber_37 N a n (lN v) (lN (10 ^ k)) (nI c) σ) (fun _ σ' => BX σ' a (L ++ dl v k) ∧ fr (fun c _ => c = a ∨ c = a + 1) σ σ') := by
  intro k
  induction k with
  | zero =>
    intro n c L σ hc hn hB hl
    obtain ⟨m, rfl⟩ : ∃ m, n = m + 2 := ⟨n - 2, by omega⟩
    rw [fX0_addNumber_37]
    refine wp_f (nI_ge (b := 18) (by omega) (by omega)) (wp_f ?_ (wp_ndz (lNne (by omega) (by omega)) ?_))
    · rw [lg_cmp_le]; show ¬ lN (10 ^ 0) ≤ lN 0
      rw [pk_lLE (by omega) (by omega)]; omega
    · have e1 : lN v / lN (10 ^ 0) = lN (v / 10 ^ 0) := pk_lDiv (by omega) (by omega) (by omega)
      have e2 : lN (v / 10 ^ 0) - lN (v / 10 ^ 0) / (10 : Int64) * (10 : Int64) = lN (v / 10 ^ 0 % 10) := pk_lRem (b := 10) (by simp; omega) (by omega) (by omega)
      have e3 : lN (10 ^ 0) / (10 : Int64) = lN (10 ^ 0 / 10) := pk_lDiv (b := 10) (by omega) (by omega) (by omega)
      rw [e1, e2, e3, lN_i]
      have e4 : (48 : Int32) + nI (v / 10 ^ 0 % 10) = nI (48 + v / 10 ^ 0 % 10) := nI_add 48 _
      rw [e4]
      refine wp_bd (X_add hB (by omega)) (fun _ s1 h1 => wp_nx (wp_nx ?_))
      show wp (fX0_addNumber_37 N a (m + 1) (lN v) (lN (10 ^ 0 / 10)) (nI c + 1) s1) _
      rw [nI_1, fX0_addNumber_37]
      have hz : lg_cmp (lN (10 ^ 0 / 10)) 0 ≤ 0 := by
        rw [lg_cmp_le]; show lN (10 ^ 0 / 10) ≤ lN 0
        rw [pk_lLE (by omega) (by omega)]; decide
      have fin : BX s1 a (L ++ dl v 0) ∧ fr (fun c _ => c = a ∨ c = a + 1) σ s1 := ⟨by have := h1.1; exact this, h1.2⟩
      exact wp_i (fun _ => wp_some fin) (fun _ => wp_t hz (wp_some fin))
  | succ k ih =>
    intro n c L σ hc hn hB hl
    obtain ⟨m, rfl⟩ : ∃ m, n = m + 1 := ⟨n - 1, by omega⟩
    have hp : 10 ^ (k + 1) ≤ 10 ^ 17 := p18 (by omega)
    have hp0 : 0 < 10 ^ (k + 1) := Nat.pow_pos (by omega)
    have hp1 : 10 ^ (k + 1) = 10 ^ k * 10 := Nat.pow_succ 10 k
    rw [fX0_addNumber_37]
    refine wp_f (nI_ge (b := 18) (by omega) (by omega)) (wp_f ?_ (wp_ndz (lNne hp0 (by omega)) ?_))
    · rw [lg_cmp_le]; show ¬ lN (10 ^ (k + 1)) ≤ lN 0
      rw [pk_lLE (by omega) (by omega)]; omega
    · have e1 : lN v / lN (10 ^ (k + 1)) = lN (v / 10 ^ (k + 1)) := pk_lDiv (by omega) hp0 (by omega)
      have hq : v / 10 ^ (k + 1) ≤ v := Nat.div_le_self _ _
      have e2 : lN (v / 10 ^ (k + 1)) - lN (v / 10 ^ (k + 1)) / (10 : Int64) * (10 : Int64) = lN (v / 10 ^ (k + 1) % 10) := pk_lRem (b := 10) (by omega) (by omega) (by omega)
      have e3 : lN (10 ^ (k + 1)) / (10 : Int64) = lN (10 ^ (k + 1) / 10) := pk_lDiv (b := 10) (by omega) (by omega) (by omega)
      have e5 : 10 ^ (k + 1) / 10 = 10 ^ k := by rw [hp1]; exact Nat.mul_div_cancel _ (by omega)
      rw [e1, e2, e3, e5, lN_i]
      have e4 : (48 : Int32) + nI (v / 10 ^ (k + 1) % 10) = nI (48 + v / 10 ^ (k + 1) % 10) := nI_add 48 _
      rw [e4]
      refine wp_bd (X_add hB (by omega)) (fun _ s1 h1 => wp_nx (wp_nx ?_))
      show wp (fX0_addNumber_37 N a m (lN v) (lN (10 ^ k)) (nI c + 1) s1) _
      rw [nI_1]
      refine wp_mono (ih m (c + 1) _ s1 (by omega) (by omega) h1.1 (by rw [List.length_append]; show L.length + 1 + k + 1 ≤ 2400; omega)) (fun _ s2 h2 => ⟨?_, fr_tr h1.2 h2.2⟩)
      have := h2.1
      rw [List.append_assoc] at this
      exact this
theorem X_num {a v : Nat} {L : List Int32} {σ : St} (hv : v < 10 ^ 18) (hB : BX σ a L) (hl : L.length + kkv v + 1 ≤ 2400) (hN : 3000 ≤ N) : wp (fX0_addNumber N a (lN v) σ) (fun _ σ' => BX σ' a (L ++ dgs v) ∧ fr (fun c _ => c = a ∨ c = a + 1) σ σ') := by
  have hk : kkv v ≤ 17 := kkv_le hv
  unfold fX0_addNumber
  have key : ∀ m i τ, i ≤ kkv v → kkv v - i < m → τ = σ → wp (fX0_addNumber_5 N a m (lN v) (lN (10 ^ i)) (nI (i + 1)) τ) (fun _ σ' => BX σ' a (L ++ dgs v) ∧ fr (fun c _ => c = a ∨ c = a + 1) σ σ') := by
    have last : wp (fX0_addNumber_34 N a (lN v) (lN (10 ^ kkv v)) σ) (fun _ σ' => BX σ' a (L ++ dgs v) ∧ fr (fun c _ => c = a ∨ c = a + 1) σ σ') := by
      unfold fX0_addNumber_34
      exact X_num37 hv (kkv v) N 0 L σ (by omega) (by omega) hB hl
    refine loop_i (fun m i τ => wp (fX0_addNumber_5 N a m (lN v) (lN (10 ^ i)) (nI (i + 1)) τ) (fun _ σ' => BX σ' a (L ++ dgs v) ∧ fr (fun c _ => c = a ∨ c = a + 1) σ σ')) (fun _ τ => τ = σ) (kkv v) ?_ ?_
    · intro m τ he
      subst he
      have hp0 : 0 < 10 ^ kkv v := Nat.pow_pos (by omega)
      have hp : 10 ^ kkv v ≤ 10 ^ 17 := p18 hk
      rw [fX0_addNumber_5]
      refine wp_i (fun _ => last) (fun _ => wp_ndz (lNne hp0 (by omega)) (wp_t ?_ last))
      rw [pk_lDiv (by omega) hp0 (by omega), lg_cmp_lt]
      show lN _ < lN 10
      rw [pk_lLT (Nat.lt_of_le_of_lt (Nat.div_le_self _ _) (by omega)) (by omega)]
      have := kkv_at v; omega
    · intro m i τ hi he ih
      subst he
      have hp0 : 0 < 10 ^ i := Nat.pow_pos (by omega)
      have hp : 10 ^ i ≤ 10 ^ 17 := p18 (by omega)
      rw [fX0_addNumber_5]
      refine wp_f (nI_ge (b := 18) (by omega) (by omega)) (wp_ndz (lNne hp0 (by omega)) (wp_f ?_ (wp_nx (wp_nx ?_))))
      · rw [pk_lDiv (by omega) hp0 (by omega), lg_cmp_lt]
        show ¬ lN _ < lN 10
        rw [pk_lLT (Nat.lt_of_le_of_lt (Nat.div_le_self _ _) (by omega)) (by omega)]
        have := kkv_lo v hi; omega
      · show wp (fX0_addNumber_5 N a m (lN v) (lN (10 ^ i) * lN 10) (nI (i + 1) + 1) τ) _
        rw [nI_1, lN_mul, ← Nat.pow_succ]
        exact ih τ rfl
  exact key N 0 σ (by omega) (by omega) rfl
theorem M_ink {τ : St} {L : List Int32} {x : Int32} (h : OM τ L) (hl : L.length < 2400) : wp (fX8_ink N x τ) (fun _ τ' => OM τ' (L ++ [x.toInt8.toInt32]) ∧ fr sOM τ τ') := by
  unfold fX8_ink
  rw [h.1]
  refine wp_gd (ibn hl (by decide)) (wp_nx (wp_nx (wp_some ?_)))
  rw [cl _ (by omega), nb2]
  refine ⟨⟨?_, ?_⟩, fr_I (fr_I fr_rf (Or.inr rfl)) (Or.inl ⟨rfl, rfl⟩)⟩
  · rw [sI_at, sI_of (by omega), h.1, List.length_append]
    show nI L.length + 1 = _
    rw [nI_1]; rfl
  · refine BL_app (fun i hi => ?_) (fun i hi => ?_)
    · rw [sI_of (by omega), sI_of (by omega)]; exact h.2 i hi
    · have e : i = 0 := by simp at hi; exact hi
      subst e
      rw [sI_of (by omega)]; exact sI_at
theorem M_num42 {v : Nat} (hv : v < 10 ^ 18) : ∀ (k n : Nat) (L : List Int32) (σ : St), k ≤ 17 → k + 1 < n → OM σ L → L.length + k + 1 ≤ 2400 → wp (fX8_inkNumber_42 N n (lN v) (lN (10 ^ k)) σ) (fun _ σ' => OM σ' (L ++ dl v k) ∧ fr sOM σ σ') := by
  intro k
  induction k with
  | zero =>
    intro n L σ hk hn hB hl
    obtain ⟨m, rfl⟩ : ∃ m, n = m + 2 := ⟨n - 2, by omega⟩
    rw [fX8_inkNumber_42]
    refine wp_f ?_ (wp_ndz (lNne (by omega) (by omega)) ?_)
    · rw [lg_cmp_le]; show ¬ lN (10 ^ 0) ≤ lN 0
      rw [pk_lLE (by omega) (by omega)]; omega
    · have e1 : lN v / lN (10 ^ 0) = lN (v / 10 ^ 0) := pk_lDiv (by omega) (by omega) (by omega)
      have e2 : lN (v / 10 ^ 0) - lN (v / 10 ^ 0) / (10 : Int64) * (10 : Int64) = lN (v / 10 ^ 0 % 10) := pk_lRem (b := 10) (by simp; omega) (by omega) (by omega)
      have e3 : lN (10 ^ 0) / (10 : Int64) = lN (10 ^ 0 / 10) := pk_lDiv (b := 10) (by omega) (by omega) (by omega)
      have e4 : (48 : Int64) + lN (v / 10 ^ 0 % 10) = lN (48 + v / 10 ^ 0 % 10) := lN_add 48 _
      rw [e1, e2, e3, e4, lN_i]
      refine wp_bd (M_ink hB (by omega)) (fun _ s1 h1 => wp_nx ?_)
      show wp (fX8_inkNumber_42 N (m + 1) (lN v) (lN (10 ^ 0 / 10)) s1) _
      rw [fX8_inkNumber_42]
      have hz : lg_cmp (lN (10 ^ 0 / 10)) 0 ≤ 0 := by
        rw [lg_cmp_le]; show lN (10 ^ 0 / 10) ≤ lN 0
        rw [pk_lLE (by omega) (by omega)]; decide
      have fin : OM s1 (L ++ dl v 0) ∧ fr sOM σ s1 := ⟨by have := h1.1; exact this, h1.2⟩
      exact wp_t hz (wp_some fin)
  | succ k ih =>
    intro n L σ hk hn hB hl
    obtain ⟨m, rfl⟩ : ∃ m, n = m + 1 := ⟨n - 1, by omega⟩
    have hp : 10 ^ (k + 1) ≤ 10 ^ 17 := p18 (by omega)
    have hp0 : 0 < 10 ^ (k + 1) := Nat.pow_pos (by omega)
    have hp1 : 10 ^ (k + 1) = 10 ^ k * 10 := Nat.pow_succ 10 k
    rw [fX8_inkNumber_42]
    refine wp_f ?_ (wp_ndz (lNne hp0 (by omega)) ?_)
    · rw [lg_cmp_le]; show ¬ lN (10 ^ (k + 1)) ≤ lN 0
      rw [pk_lLE (by omega) (by omega)]; omega
    · have e1 : lN v / lN (10 ^ (k + 1)) = lN (v / 10 ^ (k + 1)) := pk_lDiv (by omega) hp0 (by omega)
      have hq : v / 10 ^ (k + 1) ≤ v := Nat.div_le_self _ _
      have e2 : lN (v / 10 ^ (k + 1)) - lN (v / 10 ^ (k + 1)) / (10 : Int64) * (10 : Int64) = lN (v / 10 ^ (k + 1) % 10) := pk_lRem (b := 10) (by omega) (by omega) (by omega)
      have e3 : lN (10 ^ (k + 1)) / (10 : Int64) = lN (10 ^ (k + 1) / 10) := pk_lDiv (b := 10) (by omega) (by omega) (by omega)
      have e5 : 10 ^ (k + 1) / 10 = 10 ^ k := by rw [hp1]; exact Nat.mul_div_cancel _ (by omega)
      have e4 : (48 : Int64) + lN (v / 10 ^ (k + 1) % 10) = lN (48 + v / 10 ^ (k + 1) % 10) := lN_add 48 _
      rw [e1, e2, e3, e5, e4, lN_i]
      refine wp_bd (M_ink hB (by omega)) (fun _ s1 h1 => wp_nx ?_)
      refine wp_mono (ih m _ s1 (by omega) (by omega) h1.1 (by rw [List.length_append]; show L.length + 1 + k + 1 ≤ 2400; omega)) (fun _ s2 h2 => ⟨?_, fr_tr h1.2 h2.2⟩)
      have := h2.1
      rw [List.append_assoc] at this
      exact this
theorem M_num {v : Nat} {L : List Int32} {σ : St} (hv : v < 10 ^ 18) (hB : OM σ L) (hl : L.length + kkv v + 1 ≤ 2400) (hN : 3000 ≤ N) : wp (fX8_inkNumber N (lN v) σ) (fun _ σ' => OM σ' (L ++ dgs v) ∧ fr sOM σ σ') := by
  have hk : kkv v ≤ 17 := kkv_le hv
  unfold fX8_inkNumber fX8_inkNumber_17
  refine wp_t ?_ ?_
  · rw [lg_cmp_ge]; show lN 0 ≤ lN v
    rw [pk_lLE (by omega) (by omega)]; omega
  have key : ∀ m i τ, i ≤ kkv v → kkv v - i < m → τ = σ → wp (fX8_inkNumber_20 N m (lN v) (lN (10 ^ i)) τ) (fun _ σ' => OM σ' (L ++ dgs v) ∧ fr sOM σ σ') := by
    refine loop_i (fun m i τ => wp (fX8_inkNumber_20 N m (lN v) (lN (10 ^ i)) τ) (fun _ σ' => OM σ' (L ++ dgs v) ∧ fr sOM σ σ')) (fun _ τ => τ = σ) (kkv v) ?_ ?_
    · intro m τ he
      subst he
      have hp0 : 0 < 10 ^ kkv v := Nat.pow_pos (by omega)
      have hp : 10 ^ kkv v ≤ 10 ^ 17 := p18 hk
      rw [fX8_inkNumber_20]
      refine wp_ndz (lNne hp0 (by omega)) (wp_t ?_ (M_num42 hv (kkv v) N L τ hk (by omega) hB hl))
      rw [pk_lDiv (by omega) hp0 (by omega), lg_cmp_le]
      show lN _ ≤ lN 9
      rw [pk_lLE (Nat.lt_of_le_of_lt (Nat.div_le_self _ _) (by omega)) (by omega)]
      exact kkv_at v
    · intro m i τ hi he ih
      subst he
      have hp0 : 0 < 10 ^ i := Nat.pow_pos (by omega)
      have hp : 10 ^ i ≤ 10 ^ 17 := p18 (by omega)
      rw [fX8_inkNumber_20]
      refine wp_ndz (lNne hp0 (by omega)) (wp_f ?_ (wp_nx ?_))
      · rw [pk_lDiv (by omega) hp0 (by omega), lg_cmp_le]
        show ¬ lN _ ≤ lN 9
        rw [pk_lLE (Nat.lt_of_le_of_lt (Nat.div_le_self _ _) (by omega)) (by omega)]
        exact kkv_lo v hi
      · show wp (fX8_inkNumber_20 N m (lN v) (lN (10 ^ i) * lN 10) τ) _
        rw [lN_mul, ← Nat.pow_succ]
        exact ih τ rfl
  exact key N 0 σ (by omega) (by omega) rfl
/-- the text of write() -/
noncomputable def wr (d : Nat → Nat → Nat) (i : Nat) : Nat → List Int32
  | 0 => []
  | j + 1 => wr d i j ++ ((32 : Int32).toInt8.toInt32 :: dgs (d i j))
noncomputable def wa (n : Nat) (d : Nat → Nat → Nat) : Nat → List Int32
  | 0 => dgs n
  | i + 1 => wa n d i ++ wr d i i
theorem wr_len {n : Nat} {d : Nat → Nat → Nat} {px py : Nat → Int32} (hd : DOK n d px py) (i : Nat) : ∀ j, (wr d i j).length ≤ 8 * j
  | 0 => Nat.zero_le _
  | j + 1 => by
    have h := wr_len hd i j
    have h2 : kkv (d i j) ≤ 6 := kkv_le (Nat.lt_of_le_of_lt (hd.2.1 i j).1 (by decide))
    show (wr d i j ++ (_ :: dgs (d i j))).length ≤ _
    rw [List.length_append, List.length_cons, dgs_len]; omega
theorem wa_len {n : Nat} {d : Nat → Nat → Nat} {px py : Nat → Int32} (hd : DOK n d px py) : ∀ i, (wa n d i).length ≤ 2 + 4 * (i * i)
  | 0 => by
    have h2 : kkv n ≤ 1 := kkv_le (Nat.lt_of_le_of_lt hd.1 (by decide))
    show (dgs n).length ≤ _
    rw [dgs_len]; omega
  | i + 1 => by
    have h := wa_len hd i
    have h2 := wr_len hd i i
    have e : (i + 1) * (i + 1) = i * i + 2 * i + 1 := by rw [Nat.add_mul, Nat.mul_add]; omega
    show (wa n d i ++ wr d i i).length ≤ _
    rw [List.length_append, e]; omega
theorem wr_nb {d : Nat → Nat → Nat} {i : Nat} : ∀ {j : Nat} {b : Int32}, b ∈ wr d i j → b.toInt8.toInt32 = b
  | 0, b, h => absurd h List.not_mem_nil
  | j + 1, b, h => by
    rcases List.mem_append.mp h with h | h
    · exact wr_nb h
    · rcases List.mem_cons.mp h with h | h
      · rw [h]; exact nb2 _
      · exact dl_nb h
theorem wa_nb {n : Nat} {d : Nat → Nat → Nat} : ∀ {i : Nat} {b : Int32}, b ∈ wa n d i → b.toInt8.toInt32 = b
  | 0, b, h => dl_nb h
  | i + 1, b, h => by
    rcases List.mem_append.mp h with h | h
    · exact wa_nb h
    · exact wr_nb h
theorem sq_le {i : Nat} (h : i ≤ 20) : i * i ≤ 400 := Nat.mul_le_mul h h
theorem d18 {n : Nat} {d : Nat → Nat → Nat} {px py : Nat → Int32} (hd : DOK n d px py) (i j : Nat) : d i j < 10 ^ 18 ∧ kkv (d i j) ≤ 6 := ⟨Nat.lt_of_le_of_lt (hd.2.1 i j).1 (by decide), kkv_le (Nat.lt_of_le_of_lt (hd.2.1 i j).1 (by decide))⟩
theorem X_write {σ : St} {n : Nat} {d : Nat → Nat → Nat} {px py : Nat → Int32} (hd : DOK n d px py) (hP : PX σ n d px py) (hN : 3000 ≤ N) : wp (fX7_write N σ) (fun r σ' => r = nI (wa n d n).length ∧ OX σ' (wa n d n) ∧ fr sO σ σ') := by
  have hn := hd.1
  have sP_O : ∀ {ρ : St}, fr sO σ ρ → PX ρ n d px py := fun hf => hP.fr hf (fun c k h => by unfold sP at h; unfold sO; omega)
  have mo : ∀ {ρ ρ2 : St}, fr (fun c _ => c = 7 ∨ c = 7 + 1) ρ ρ2 → fr sO ρ ρ2 := fun h => fr_mo h (fun c k hc => hc)
  unfold fX7_write
  refine wp_nx ?_
  have f0 : fr sO σ (sI σ 7 1 0) := fr_I fr_rf (Or.inl rfl)
  have e0 : (sI σ 7 1 0).1 1 0 = nI n := (sP_O f0).1
  have b0 : BX (sI σ 7 1 0) 7 [] := ⟨sI_at, fun i hi => absurd hi (Nat.not_lt_zero _)⟩
  have hkn : kkv n ≤ 1 := kkv_le (Nat.lt_of_le_of_lt hn (by decide))
  have n18 : n < 10 ^ 18 := Nat.lt_of_le_of_lt hn (by decide)
  rw [e0, nI_l (by omega)]
  refine wp_bd (X_num n18 b0 (by show 0 + kkv n + 1 ≤ 2400; omega) hN) (fun _ s1 h1 => ?_)
  have key : ∀ m i τ, i ≤ (if n = 0 then 1 else n) → (if n = 0 then 1 else n) - i < m → (1 ≤ i ∧ BX τ 7 (wa n d i) ∧ fr sO σ τ) → wp (fX7_write_25 N m (nI i) τ) (fun r σ' => r = nI (wa n d n).length ∧ OX σ' (wa n d n) ∧ fr sO σ σ') := by
    refine loop_i (fun m i τ => wp (fX7_write_25 N m (nI i) τ) (fun r σ' => r = nI (wa n d n).length ∧ OX σ' (wa n d n) ∧ fr sO σ σ')) (fun i τ => 1 ≤ i ∧ BX τ 7 (wa n d i) ∧ fr sO σ τ) (if n = 0 then 1 else n) ?_ ?_
    · intro m τ hi
      rw [fX7_write_25, (sP_O hi.2.2).1]
      have ew : wa n d (if n = 0 then 1 else n) = wa n d n := by
        by_cases hz : n = 0
        · rw [if_pos hz, hz]; show wa 0 d 0 ++ [] = _; rw [List.append_nil]
        · rw [if_neg hz]
      rw [ew] at hi
      refine wp_t (nI_le (by split <;> omega) (by split <;> omega)) (wp_some ⟨hi.2.1.1, hi.2.1, hi.2.2⟩)
    · intro m i τ hin hi ih
      have hi20 : i < n := by
        by_cases e : n = 0
        · rw [if_pos e] at hin; omega
        · rw [if_neg e] at hin; exact hin
      rw [fX7_write_25, (sP_O hi.2.2).1]
      refine wp_f (nI_ge hi20 (by omega)) ?_
      have inner : ∀ m2 j ρ, j ≤ i → i - j < m2 → (BX ρ 7 (wa n d i ++ wr d i j) ∧ fr sO σ ρ) → wp (fX7_write_38 N (fX7_write_25 N m) m2 (nI i) (nI j) ρ) (fun r σ' => r = nI (wa n d n).length ∧ OX σ' (wa n d n) ∧ fr sO σ σ') := by
        refine loop_i (fun m2 j ρ => wp (fX7_write_38 N (fX7_write_25 N m) m2 (nI i) (nI j) ρ) (fun r σ' => r = nI (wa n d n).length ∧ OX σ' (wa n d n) ∧ fr sO σ σ')) (fun j ρ => BX ρ 7 (wa n d i ++ wr d i j) ∧ fr sO σ ρ) i ?_ ?_
        · intro m2 ρ hp
          rw [fX7_write_38]
          refine wp_t (nI_le (Nat.le_refl i) (by omega)) (wp_nx ?_)
          show wp (fX7_write_25 N m (nI i + 1) ρ) _
          rw [nI_1]
          exact ih ρ ⟨by omega, hp⟩
        · intro m2 j ρ hj hp ih2
          have l1 := wa_len hd i
          have l2 := wr_len hd i j
          have l3 := sq_le (show i ≤ 20 by omega)
          have len : (wa n d i ++ wr d i j).length ≤ 1800 := by rw [List.length_append]; omega
          rw [fX7_write_38]
          refine wp_f (nI_ge hj (by omega)) (wp_bd (X_add hp.1 (by omega)) (fun _ s2 h2 => ?_))
          have f2 := fr_tr hp.2 (mo h2.2)
          refine wp_gd (ibn (by omega) (by decide)) (wp_gd (ibn (by omega) (by decide)) ?_)
          rw [cl i (by omega), cl j (by omega), Nat.one_mul, (sP_O f2).2.1 i j (by omega) (by omega), nI_l (Nat.lt_of_le_of_lt (hd.2.1 i j).1 (by decide))]
          have dk := d18 hd i j
          refine wp_bd (X_num dk.1 h2.1 (by rw [List.length_append]; show _ + 1 + _ + 1 ≤ 2400; omega) hN) (fun _ s3 h3 => wp_nx ?_)
          show wp (fX7_write_38 N (fX7_write_25 N m) m2 (nI i) (nI j + 1) s3) _
          rw [nI_1]
          refine ih2 s3 ⟨?_, fr_tr f2 (mo h3.2)⟩
          have := h3.1
          rw [List.append_assoc, List.append_assoc] at this
          exact this
      exact inner N 0 τ (by omega) (by omega) ⟨by show BX τ 7 (wa n d i ++ []); rw [List.append_nil]; exact hi.2.1, hi.2.2⟩
  have hb1 : BX s1 7 (wa n d 1) := by show BX s1 7 (dgs n ++ []); rw [List.append_nil]; exact h1.1
  exact key N 1 s1 (by split <;> omega) (by split <;> omega) ⟨by omega, hb1, fr_tr f0 (mo h1.2)⟩
theorem M_write {σ : St} {n : Nat} {d : Nat → Nat → Nat} {px py : Nat → Int32} (hd : DOK n d px py) (hP : PM σ n d px py) (hN : 3000 ≤ N) : wp (fX8_write N σ) (fun r σ' => r = nI (wa n d n).length ∧ OM σ' (wa n d n) ∧ fr sOM σ σ') := by
  have hn := hd.1
  have sP_O : ∀ {ρ : St}, fr sOM σ ρ → PM ρ n d px py := fun hf => hP.fr hf (fun c k h => by unfold sPM at h; unfold sOM; omega)
  unfold fX8_write
  refine wp_nx ?_
  have f0 : fr sOM σ (sI σ 0 7 0) := fr_I fr_rf (Or.inl ⟨rfl, rfl⟩)
  have e0 : (sI σ 0 7 0).1 0 0 = nI n := (sP_O f0).1
  have b0 : OM (sI σ 0 7 0) [] := ⟨sI_at, fun i hi => absurd hi (Nat.not_lt_zero _)⟩
  have hkn : kkv n ≤ 1 := kkv_le (Nat.lt_of_le_of_lt hn (by decide))
  have n18 : n < 10 ^ 18 := Nat.lt_of_le_of_lt hn (by decide)
  rw [e0, nI_l (by omega)]
  refine wp_bd (M_num n18 b0 (by show 0 + kkv n + 1 ≤ 2400; omega) hN) (fun _ s1 h1 => ?_)
  have key : ∀ m i τ, i ≤ n → n - i < m → (OM τ (wa n d i) ∧ fr sOM σ τ) → wp (fX8_write_16 N m (nI i) τ) (fun r σ' => r = nI (wa n d n).length ∧ OM σ' (wa n d n) ∧ fr sOM σ σ') := by
    refine loop_i (fun m i τ => wp (fX8_write_16 N m (nI i) τ) (fun r σ' => r = nI (wa n d n).length ∧ OM σ' (wa n d n) ∧ fr sOM σ σ')) (fun i τ => OM τ (wa n d i) ∧ fr sOM σ τ) n ?_ ?_
    · intro m τ hi
      rw [fX8_write_16, (sP_O hi.2).1]
      refine wp_t (nI_le (Nat.le_refl n) (by omega)) (wp_some ⟨hi.1.1, hi.1, hi.2⟩)
    · intro m i τ hin hi ih
      rw [fX8_write_16, (sP_O hi.2).1]
      refine wp_f (nI_ge hin (by omega)) ?_
      have inner : ∀ m2 j ρ, j ≤ i → i - j < m2 → (OM ρ (wa n d i ++ wr d i j) ∧ fr sOM σ ρ) → wp (fX8_write_26 N (fX8_write_16 N m) m2 (nI i) (nI j) ρ) (fun r σ' => r = nI (wa n d n).length ∧ OM σ' (wa n d n) ∧ fr sOM σ σ') := by
        refine loop_i (fun m2 j ρ => wp (fX8_write_26 N (fX8_write_16 N m) m2 (nI i) (nI j) ρ) (fun r σ' => r = nI (wa n d n).length ∧ OM σ' (wa n d n) ∧ fr sOM σ σ')) (fun j ρ => OM ρ (wa n d i ++ wr d i j) ∧ fr sOM σ ρ) i ?_ ?_
        · intro m2 ρ hp
          rw [fX8_write_26]
          refine wp_t (nI_le (Nat.le_refl i) (by omega)) (wp_nx ?_)
          show wp (fX8_write_16 N m (nI i + 1) ρ) _
          rw [nI_1]
          exact ih ρ hp
        · intro m2 j ρ hj hp ih2
          have l1 := wa_len hd i
          have l2 := wr_len hd i j
          have l3 := sq_le (show i ≤ 20 by omega)
          have len : (wa n d i ++ wr d i j).length ≤ 1800 := by rw [List.length_append]; omega
          rw [fX8_write_26]
          refine wp_f (nI_ge hj (by omega)) (wp_bd (M_ink hp.1 (by omega)) (fun _ s2 h2 => ?_))
          have f2 := fr_tr hp.2 h2.2
          rw [i20 (by omega) (by omega)]
          refine wp_gd (ibn (by omega) (by decide)) ?_
          rw [cl _ (by omega), (sP_O f2).2.1 i j (by omega) (by omega), nI_l (Nat.lt_of_le_of_lt (hd.2.1 i j).1 (by decide))]
          have dk := d18 hd i j
          refine wp_bd (M_num dk.1 h2.1 (by rw [List.length_append]; show _ + 1 + _ + 1 ≤ 2400; omega) hN) (fun _ s3 h3 => wp_nx ?_)
          show wp (fX8_write_26 N (fX8_write_16 N m) m2 (nI i) (nI j + 1) s3) _
          rw [nI_1]
          refine ih2 s3 ⟨?_, fr_tr f2 h3.2⟩
          have := h3.1
          rw [List.append_assoc, List.append_assoc] at this
          exact this
      exact inner N 0 τ (by omega) (by omega) ⟨by show OM τ (wa n d i ++ []); rw [List.append_nil]; exact hi.1, hi.2⟩
  exact key N 0 s1 (by omega) (by omega) ⟨h1.1, fr_tr f0 h1.2⟩
theorem J_write {σ τ : St} (h : Rel σ τ) (hN : 3000 ≤ N) : jt (fX7_write N σ) (fX8_write N τ) Rel := by
  obtain ⟨n, d, px, py, hd, hX, hM⟩ := h.1
  refine jt_wp (X_write hd hX hN) (M_write hd hM hN) ?_
  intro a b σ' τ' hp hq
  have l1 := wa_len hd n
  have l3 := sq_le hd.1
  refine ⟨hp.1.trans hq.1.symm, h.O hp.2.2 (fr_mo hq.2.2 (fun c k hc => Or.inl hc)) ⟨_, ⟨by omega, fun b hb => wa_nb hb⟩, hp.2.1, hq.2.1⟩⟩
end
