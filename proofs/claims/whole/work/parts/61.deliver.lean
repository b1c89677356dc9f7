/-! the class delivers a tree -/
section
variable {N n kd : Nat} {d : Nat → Nat → Nat} {A : Aj} {rk r : Nat → Nat} {R : Nat → Nat}
def MKX (σ : St) (n : Nat) (A : Aj) : Prop := σ.1 11 0 = nI n ∧ σ.1 22 0 = nI (aK A) ∧ ∀ k, k < aK A → σ.1 23 k = nI (aA A k) ∧ σ.1 24 k = nI (aB A k) ∧ σ.1 25 k = aC A (n + k) ∧ σ.2 26 k = lZ (aT A k) ∧ σ.2 27 k = lN (aO A k)
theorem MKXfr {S : Nat → Nat → Prop} {σ σ' : St} (h : MKX σ n A) (hf : fr S σ σ') (hs : ∀ c k, (c = 11 ∨ (22 ≤ c ∧ c ≤ 27)) → ¬ S c k) : MKX σ' n A := by
  have e : ∀ c k, (c = 11 ∨ (22 ≤ c ∧ c ≤ 27)) → σ'.1 c k = σ.1 c k ∧ σ'.2 c k = σ.2 c k := fun c k hc => hf c k (hs c k hc)
  refine ⟨?_, ?_, fun k hk => ?_⟩
  · rw [(e _ _ (by omega)).1]; exact h.1
  · rw [(e _ _ (by omega)).1]; exact h.2.1
  · rw [(e _ _ (by omega)).1, (e _ _ (by omega)).1, (e _ _ (by omega)).1, (e _ _ (by omega)).2, (e _ _ (by omega)).2]; exact h.2.2 k hk
theorem X_rank {σ : St} {k : Nat} (hM : MKX σ n A) (h3 : I3 n kd d A) (hK : aK A ≤ 19) (hk : k < aK A) (hN : 3000 ≤ N) : fX4_rankOf N 22 (nI k) σ = some (nI (rkc A (aK A) k), σ) := by
  unfold fX4_rankOf
  have key : ∀ m j (ρ : Unit), j ≤ aK A → aK A - j < m → True → fX4_rankOf_4 N 22 m (nI k) (nI (rkc A j k)) (nI j) σ = some (nI (rkc A (aK A) k), σ) := by
    refine loop_i (fun m j (ρ : Unit) => fX4_rankOf_4 N 22 m (nI k) (nI (rkc A j k)) (nI j) σ = some (nI (rkc A (aK A) k), σ)) (fun j ρ => True) (aK A) ?_ ?_
    · intro m ρ _
      rw [fX4_rankOf_4, hM.2.1, if_pos (nI_le (Nat.le_refl _) (by omega))]
    · intro m j ρ hj _ ih
      have ih := ih () trivial
      have gj : ib (nI j) 19 = true := ibn (by omega) (by decide)
      have gk : ib (nI k) 19 = true := ibn (by omega) (by decide)
      have tj := h3.2.2.1 j hj
      have tk := h3.2.2.1 k hk
      have p1 := pr_b (t := aT A j) (b := aO A k) tj.1 tj.2.1 tk.2.2.2.1
      have p2 := pr_b (t := aT A k) (b := aO A j) tk.1 tk.2.1 tj.2.2.2.1
      have mj := hM.2.2 j hj
      have mk := hM.2.2 k hk
      have j1 : nI j + (1 : Int32) = nI (j + 1) := nI_1 j
      have c1 : ∀ z, nI z + (1 : Int32) = nI (z + 1) := fun z => nI_1 z
      rw [fX4_rankOf_4, hM.2.1, if_neg (nI_ge hj (by omega)), gd_t gj, gd_t gk, gd_t gk, gd_t gj, cl j (by omega), cl k (by omega)]
      have e1 : σ.2 (22 + 4) j = lZ (aT A j) := mj.2.2.2.1
      have e2 : σ.2 (22 + 5) k = lN (aO A k) := mk.2.2.2.2
      have e3 : σ.2 (22 + 4) k = lZ (aT A k) := mk.2.2.2.1
      have e4 : σ.2 (22 + 5) j = lN (aO A j) := mj.2.2.2.2
      rw [e1, e2, e3, e4, lZ_N, lZ_N, lZ_mul, lZ_mul, J_cmp (by omega) (by omega), bd_s]
      unfold fX4_rankOf_58 fX4_rankOf_61
      simp only [nx_r, c1]
      rw [rkc_s] at ih
      by_cases hlt : aT A j * aO A k - aT A k * aO A j < 0
      · rw [if_pos (sg_lt.mpr hlt)]
        rw [if_pos ((dec_iff _).mpr (show ahd A j k from Or.inl (by omega)))] at ih
        exact ih
      · rw [if_neg (fun z => hlt (sg_lt.mp z))]
        by_cases heq : aT A j * aO A k - aT A k * aO A j = 0
        · rw [if_pos (sg_eq.mpr heq)]
          by_cases hkj : k ≤ j
          · rw [if_pos (nI_le hkj (by omega))]
            rw [if_neg (fun z => by have := (dec_iff _).mp z; unfold ahd at this; omega)] at ih
            exact ih
          · rw [if_neg (nI_ge (by omega) (by omega))]
            rw [if_pos ((dec_iff _).mpr (show ahd A j k from Or.inr ⟨by omega, by omega⟩))] at ih
            exact ih
        · rw [if_neg (fun z => heq (sg_eq.mp z))]
          rw [if_neg (fun z => by have := (dec_iff _).mp z; unfold ahd at this; omega)] at ih
          exact ih
  exact key N 0 () (by omega) (by omega) trivial
theorem X_ren {σ : St} {c : Nat} (hM : MKX σ n A) (hn : n ≤ 20) (hK : aK A ≤ 19) (h12 : ∀ j, j < aK A → σ.1 12 j = nI (rk j)) (hrk : ∀ j, j < aK A → rk j < aK A) (hc : c < n + aK A) : fX1_renumbered N (nI c) σ = some (nI (ren n rk c), σ) := by
  unfold fX1_renumbered fX4_has ren
  rw [hM.1, hM.2.1]
  by_cases h : c < n
  · rw [if_pos (pk_sneg (by omega) h), bd_s, if_pos rfl, if_pos h]
  · rw [pk_sub (by omega), if_neg (nI_pos (by omega)), if_neg (nI_ge (by omega) (by omega)), bd_s, if_neg n10, hM.1, pk_sub (by omega), gd_t (ibn (by omega) (by decide)), cl _ (by omega), h12 _ (by omega), nI_add, if_neg h]
/-- the places of a slot's steps -/
def sSx (q c _ : Nat) : Prop := 28 + 6 * q + 1 ≤ c ∧ c ≤ 28 + 6 * q + 5
def enX (σ : St) (q n : Nat) (A : Aj) (rk : Nat → Nat) (k : Nat) : Prop := σ.1 (28 + 6 * q + 1) (rk k) = nI (min (ren n rk (aA A k)) (ren n rk (aB A k))) ∧ σ.1 (28 + 6 * q + 2) (rk k) = nI (max (ren n rk (aA A k)) (ren n rk (aB A k))) ∧ σ.1 (28 + 6 * q + 3) (rk k) = aC A (n + k) ∧ σ.2 (28 + 6 * q + 4) (rk k) = lZ (aT A k) ∧ σ.2 (28 + 6 * q + 5) (rk k) = lN (aO A k)
theorem ren_lt {c : Nat} (hn : n ≤ 20) (hK : aK A ≤ 19) (hrk : ∀ j, j < aK A → rk j < aK A) (hc : c < n + aK A) : ren n rk c < 40 := by
  unfold ren
  split
  · omega
  · have := hrk (c - n) (by omega); omega
theorem X_dl91 {σ0 : St} {q : Nat} (hq : q < 4) (hM : MKX σ0 n A) (h2 : I2 n A) (h3 : I3 n kd d A) (hn : n ≤ 20) (hK : aK A ≤ 19) (hp : PR (aK A) rk r) (h12 : ∀ j, j < aK A → σ0.1 12 j = nI (rk j)) (hN : 3000 ≤ N) : wp (fX1_deliver_91 N q N 0 σ0) (fun _ σ' => (∀ k, k < aK A → enX σ' q n A rk k) ∧ (∀ i, i < 20 → σ'.1 (52 + 2 * q + 1) i = 0) ∧ fr (fun c k => sSx q c k ∨ c = 52 + 2 * q + 1) σ0 σ') := by
  have hrk : ∀ j, j < aK A → rk j < aK A := fun j hj => (hp.1 j hj).1
  have lab : ∀ σ1, (∀ k, k < aK A → enX σ1 q n A rk k) → fr (sSx q) σ0 σ1 → wp (fX1_deliver_189 N q N 0 σ1) (fun _ σ' => (∀ k, k < aK A → enX σ' q n A rk k) ∧ (∀ i, i < 20 → σ'.1 (52 + 2 * q + 1) i = 0) ∧ fr (fun c k => sSx q c k ∨ c = 52 + 2 * q + 1) σ0 σ') := by
    intro σ1 hE hf
    have key : ∀ m i τ, i ≤ 20 → 20 - i < m → ((∀ z, z < i → τ.1 (52 + 2 * q + 1) z = 0) ∧ fr (fun c _ => c = 52 + 2 * q + 1) σ1 τ) → wp (fX1_deliver_189 N q m (nI i) τ) (fun _ σ' => (∀ k, k < aK A → enX σ' q n A rk k) ∧ (∀ i, i < 20 → σ'.1 (52 + 2 * q + 1) i = 0) ∧ fr (fun c k => sSx q c k ∨ c = 52 + 2 * q + 1) σ0 σ') := by
      refine loop_i (fun m i τ => wp (fX1_deliver_189 N q m (nI i) τ) _) (fun i τ => (∀ z, z < i → τ.1 (52 + 2 * q + 1) z = 0) ∧ fr (fun c _ => c = 52 + 2 * q + 1) σ1 τ) 20 ?_ ?_
      · intro m τ h
        rw [fX1_deliver_189]
        refine wp_t (nI_le (a := 20) (b := 20) (by omega) (by omega)) (wp_some ⟨fun k hk => ?_, h.1, fr_tr (fr_mo hf (fun c k hc => Or.inl hc)) (fr_mo h.2 (fun c k hc => Or.inr hc))⟩)
        unfold enX
        rw [(h.2 _ _ (by omega)).1, (h.2 _ _ (by omega)).1, (h.2 _ _ (by omega)).1, (h.2 _ _ (by omega)).2, (h.2 _ _ (by omega)).2]
        exact hE k hk
      · intro m i τ hi h ih
        rw [fX1_deliver_189]
        refine wp_f (nI_ge (b := 20) hi (by omega)) (wp_gd (ibn hi (by decide)) (wp_nx (wp_nx ?_)))
        show wp (fX1_deliver_189 N q m (nI i + 1) _) _
        rw [nI_1, cl i (by omega)]
        refine ih _ ⟨fun z hz => ?_, fr_I h.2 rfl⟩
        by_cases e : z = i
        · subst e; exact sI_at
        · rw [sI_of (by omega)]; exact h.1 z (by omega)
    exact key N 0 σ1 (by omega) (by omega) ⟨fun z hz => absurd hz (Nat.not_lt_zero z), fr_rf⟩
  have key : ∀ m k τ, k ≤ aK A → aK A - k < m → ((∀ j, j < k → enX τ q n A rk j) ∧ fr (sSx q) σ0 τ) → wp (fX1_deliver_91 N q m (nI k) τ) (fun _ σ' => (∀ k, k < aK A → enX σ' q n A rk k) ∧ (∀ i, i < 20 → σ'.1 (52 + 2 * q + 1) i = 0) ∧ fr (fun c k => sSx q c k ∨ c = 52 + 2 * q + 1) σ0 σ') := by
    refine loop_i (fun m k τ => wp (fX1_deliver_91 N q m (nI k) τ) _) (fun k τ => (∀ j, j < k → enX τ q n A rk j) ∧ fr (sSx q) σ0 τ) (aK A) ?_ ?_
    · intro m τ h
      have M1 := MKXfr hM h.2 (fun c k hc => by unfold sSx; omega)
      rw [fX1_deliver_91, M1.2.1]
      exact wp_t (nI_le (Nat.le_refl _) (by omega)) (lab τ h.1 h.2)
    · intro m k τ hk h ih
      have M1 := MKXfr hM h.2 (fun c k hc => by unfold sSx; omega)
      have r12 : ∀ j, j < aK A → τ.1 12 j = nI (rk j) := fun j hj => by rw [(h.2 12 j (by unfold sSx; omega)).1]; exact h12 j hj
      have g : ib (nI k) 19 = true := ibn (by omega) (by decide)
      have s1 := h2.1 k hk
      have t := h3.2.2.1 k hk
      have mk := M1.2.2 k hk
      have hr := hrk k hk
      have w1 := ren_lt hn hK hrk (c := aA A k) (by omega)
      have w2 := ren_lt hn hK hrk (c := aB A k) (by omega)
      rw [fX1_deliver_91, M1.2.1]
      have e1 : τ.1 (22 + 1) k = nI (aA A k) := mk.1
      have e2 : τ.1 (22 + 2) k = nI (aB A k) := mk.2.1
      have e3 : τ.1 (22 + 3) k = aC A (n + k) := mk.2.2.1
      refine wp_f (nI_ge hk (by omega)) (wp_gd g (wp_gd g ?_))
      rw [cl k (by omega), e1, X_ren M1 hn hK r12 hrk (by omega), bd_s, gd_t g, e2, X_ren M1 hn hK r12 hrk (by omega), bd_s, gd_t g, r12 k hk, e3, X_setCl (by omega) (by omega) (by omega), bd_s, gd_t g, gd_t g, gd_t g]
      have q12 : ∀ a b c, (sI (sI (sI τ (28 + 6 * q + 1) (rk k) a) (28 + 6 * q + 2) (rk k) b) (28 + 6 * q + 3) (rk k) c).1 12 k = nI (rk k) := fun a b c => by
        rw [sI_of (by omega), sI_of (by omega), sI_of (by omega)]; exact r12 k hk
      have q26 : ∀ a b c, (sI (sI (sI τ (28 + 6 * q + 1) (rk k) a) (28 + 6 * q + 2) (rk k) b) (28 + 6 * q + 3) (rk k) c).2 (22 + 4) k = lZ (aT A k) := fun a b c => mk.2.2.2.1
      have q27 : ∀ a b c, (sI (sI (sI τ (28 + 6 * q + 1) (rk k) a) (28 + 6 * q + 2) (rk k) b) (28 + 6 * q + 3) (rk k) c).2 (22 + 5) k = lN (aO A k) := fun a b c => mk.2.2.2.2
      rw [q12, q26, q27, X_setH (by omega) (by omega) (by omega) t.2.2.1 (by omega) hN, bd_s, (r_one t.2.2.2.2).1, (r_one t.2.2.2.2).2]
      refine wp_nx ?_
      show wp (fX1_deliver_91 N q m (nI k + 1) _) _
      rw [nI_1]
      refine ih _ ⟨fun j hj => ?_, ?_⟩
      · by_cases ej : j = k
        · subst ej
          refine ⟨?_, ?_, ?_, ?_, sJ_at⟩
          · rw [sJ_p, sJ_p, sI_of (by omega), sI_of (by omega)]; exact sI_at
          · rw [sJ_p, sJ_p, sI_of (by omega)]; exact sI_at
          · rw [sJ_p, sJ_p]; exact sI_at
          · rw [sJ_of (by omega)]; exact sJ_at
        · have hne : rk j ≠ rk k := fun z => ej (by rw [← (hp.1 j (by omega)).2, ← (hp.1 k hk).2, z])
          have o := h.1 j (by omega)
          unfold enX
          refine ⟨?_, ?_, ?_, ?_, ?_⟩
          · rw [sJ_p, sJ_p, sI_of (by omega), sI_of (by omega), sI_of (by omega)]; exact o.1
          · rw [sJ_p, sJ_p, sI_of (by omega), sI_of (by omega), sI_of (by omega)]; exact o.2.1
          · rw [sJ_p, sJ_p, sI_of (by omega), sI_of (by omega), sI_of (by omega)]; exact o.2.2.1
          · rw [sJ_of (by omega), sJ_of (by omega)]; exact o.2.2.2.1
          · rw [sJ_of (by omega), sJ_of (by omega)]; exact o.2.2.2.2
      · refine fr_J (fr_J (fr_I (fr_I (fr_I h.2 ?_) ?_) ?_) ?_) ?_ <;> (unfold sSx; omega)
  exact key N 0 σ0 (by omega) (by omega) ⟨fun j hj => absurd hj (Nat.not_lt_zero j), fr_rf⟩
theorem X_deliver {σ : St} {q : Nat} {x2 : Int32} (hq : q < 4) (hA : AI n kd d A) (hX : CX σ n kd d A R) (hM : aK A = n - 1) (hp : PR (aK A) rk r) (hx : (x2 = 0 ∧ ∀ k, k < aK A → rk k = k) ∨ (x2 = 1 ∧ ∀ k, k < aK A → rk k = rkc A (aK A) k)) (hN : 3000 ≤ N) : wp (fX1_deliver N q x2 σ) (fun _ σ' => SX σ' q (aTree n kd A rk r x2) ∧ fr (sSZ q) σ σ') := by
  have hn := hA.1.2.1
  have hK : aK A ≤ 19 := by omega
  have zbx : zb x2 = true := by rcases hx with ⟨rfl, -⟩ | ⟨rfl, -⟩ <;> decide
  unfold fX1_deliver
  refine wp_nx (wp_gd zbx (wp_nx (wp_nx (wp_nx (wp_nx (wp_nx ?_))))))
  have rr : ∀ c k, (c = 11 ∨ c = 22) → ∀ (ρ : St) (v : Int32) (j : Nat), (sI ρ (52 + 2 * q) j v).1 c k = ρ.1 c k := fun c k hc ρ v j => sI_of (by omega)
  simp only [rr 11 0 (Or.inl rfl), rr 11 1 (Or.inl rfl), rr 11 2 (Or.inl rfl), rr 22 0 (Or.inr rfl)]
  rw [hX.1.1, hX.1.2.1, hX.1.2.2.1, hX.1.2.2.2]
  generalize hs7 : sI (sI (sI (sI (sI (sI σ (52 + 2 * q) 0 1) (52 + 2 * q) 1 x2) (52 + 2 * q) 2 (nI n)) (52 + 2 * q) 3 (nI kd)) (52 + 2 * q) 4 (nI (aS A))) (28 + 6 * q) 0 (nI (aK A)) = s7
  have f7 : fr (fun c _ => c = 52 + 2 * q ∨ c = 28 + 6 * q) σ s7 := by
    rw [← hs7]
    exact fr_I (fr_I (fr_I (fr_I (fr_I (fr_I fr_rf (Or.inl rfl)) (Or.inl rfl)) (Or.inl rfl)) (Or.inl rfl)) (Or.inl rfl)) (Or.inr rfl)
  have M7 : MKX s7 n A := MKXfr ⟨hX.1.1, hX.1.2.2.2, hX.2.2.2.2.2⟩ f7 (fun c k hc => by omega)
  have a0 : s7.1 (52 + 2 * q) 0 = 1 := by rw [← hs7, sI_of (by omega), sI_of (by omega), sI_of (by omega), sI_of (by omega), sI_of (by omega)]; exact sI_at
  have a1 : s7.1 (52 + 2 * q) 1 = x2 := by rw [← hs7, sI_of (by omega), sI_of (by omega), sI_of (by omega), sI_of (by omega)]; exact sI_at
  have a2 : s7.1 (52 + 2 * q) 2 = nI n := by rw [← hs7, sI_of (by omega), sI_of (by omega), sI_of (by omega)]; exact sI_at
  have a3 : s7.1 (52 + 2 * q) 3 = nI kd := by rw [← hs7, sI_of (by omega), sI_of (by omega)]; exact sI_at
  have a4 : s7.1 (52 + 2 * q) 4 = nI (aS A) := by rw [← hs7, sI_of (by omega)]; exact sI_at
  have a5 : s7.1 (28 + 6 * q) 0 = nI (aK A) := by rw [← hs7]; exact sI_at
  clear hs7
  have key : ∀ m k τ, k ≤ aK A → aK A - k < m → ((∀ j, j < k → τ.1 12 j = nI (rk j)) ∧ fr (fun c _ => c = 12) s7 τ) → wp (fX1_deliver_50 N q m x2 (nI k) τ) (fun _ σ' => SX σ' q (aTree n kd A rk r x2) ∧ fr (sSZ q) σ σ') := by
    refine loop_i (fun m k τ => wp (fX1_deliver_50 N q m x2 (nI k) τ) _) (fun k τ => (∀ j, j < k → τ.1 12 j = nI (rk j)) ∧ fr (fun c _ => c = 12) s7 τ) (aK A) ?_ ?_
    · intro m τ h
      have M1 := MKXfr M7 h.2 (fun c k hc => by omega)
      rw [fX1_deliver_50, M1.2.1]
      refine wp_t (nI_le (Nat.le_refl _) (by omega)) (wp_mono (X_dl91 hq M1 hA.2.1 hA.2.2 hn hK hp h.1 hN) (fun _ σ' hh => ?_))
      obtain ⟨g1, g2, g3⟩ := hh
      have f27 : fr (fun c k => (sSx q c k ∨ c = 52 + 2 * q + 1) ∨ c = 12) s7 σ' := fr_tr (fr_mo h.2 (fun c k hc => Or.inr hc)) (fr_mo g3 (fun c k hc => Or.inl hc))
      have b : ∀ c k, c = 52 + 2 * q ∨ c = 28 + 6 * q → σ'.1 c k = s7.1 c k := fun c k hc => (f27 c k (by unfold sSx; omega)).1
      refine ⟨⟨⟨?_, ?_, ?_, ?_, ?_, ?_⟩, fun p hp' => ?_, fun i hi => g2 i hi⟩, ?_⟩
      · rw [b _ _ (Or.inl rfl)]; exact a0
      · rw [b _ _ (Or.inl rfl)]; exact a1
      · rw [b _ _ (Or.inl rfl)]; exact a2
      · rw [b _ _ (Or.inl rfl)]; exact a3
      · rw [b _ _ (Or.inl rfl)]; exact a4
      · rw [b _ _ (Or.inr rfl), a5, hM]; rfl
      · have hp' : p + 1 < n := hp'
        have rp := hp.2 p (by omega)
        have e := g1 (r p) rp.1
        unfold enX at e
        rw [rp.2] at e
        exact e
      · refine fr_tr (fr_mo f7 (fun c k hc => ?_)) (fr_mo f27 (fun c k hc => ?_))
        · unfold sSZ sS; omega
        · unfold sSx at hc; unfold sSZ sS; omega
    · intro m k τ hk h ih
      have M1 := MKXfr M7 h.2 (fun c k hc => by omega)
      have g : ib (nI k) 19 = true := ibn (by omega) (by decide)
      have k1 : nI k + (1 : Int32) = nI (k + 1) := nI_1 k
      rw [fX1_deliver_50, M1.2.1]
      unfold fX1_deliver_82
      have go : ∀ v, v = nI (rk k) → wp (gd (ib (nI k) 19) (nx (sI τ 12 (nI k).toNatClampNeg v) (fun s2 => nx (nI k + 1) (fun v3 => fX1_deliver_50 N q m x2 v3 s2)))) (fun _ σ' => SX σ' q (aTree n kd A rk r x2) ∧ fr (sSZ q) σ σ') := by
        rintro v rfl
        refine wp_gd g (wp_nx (wp_nx ?_))
        rw [k1, cl k (by omega)]
        refine ih _ ⟨fun j hj => ?_, fr_I h.2 rfl⟩
        by_cases ej : j = k
        · subst ej; exact sI_at
        · rw [sI_of (by omega)]; exact h.1 j (by omega)
      refine wp_f (nI_ge hk (by omega)) ?_
      rcases hx with ⟨rfl, hr⟩ | ⟨rfl, hr⟩
      · exact wp_t rfl (go _ (by rw [hr k hk]))
      · refine wp_f (by decide) ?_
        rw [X_rank M1 hA.2.2 hK hk hN, bd_s]
        exact go _ (by rw [hr k hk])
  exact key N 0 s7 (by omega) (by omega) ⟨fun j hj => absurd hj (Nat.not_lt_zero j), fr_rf⟩
end
