/-! the reference keeps a tree -/
section
variable {N n kd : Nat} {d : Nat → Nat → Nat} {A : Aj} {rk r : Nat → Nat}
def MKM (τ : St) (n : Nat) (A : Aj) : Prop := (τ.1 0 0 = nI n ∧ τ.1 0 11 = nI (aK A) ∧ τ.1 0 31 = nI (aS A)) ∧ ∀ k, k < aK A → τ.1 7 k = aC A (n + k) ∧ τ.1 21 k = nI (aA A k) ∧ τ.1 22 k = nI (aB A k) ∧ τ.2 23 k = lZ (aT A k) ∧ τ.2 24 k = lN (aO A k)
theorem MKMfr {S : Nat → Nat → Prop} {τ τ' : St} (h : MKM τ n A) (hf : fr S τ τ') (hs : ∀ c k, (c = 0 ∨ c = 7 ∨ (21 ≤ c ∧ c ≤ 24)) → ¬ S c k) : MKM τ' n A := by
  have e : ∀ c k, (c = 0 ∨ c = 7 ∨ (21 ≤ c ∧ c ≤ 24)) → τ'.1 c k = τ.1 c k ∧ τ'.2 c k = τ.2 c k := fun c k hc => hf c k (hs c k hc)
  refine ⟨⟨?_, ?_, ?_⟩, fun k hk => ?_⟩
  · rw [(e _ _ (by omega)).1]; exact h.1.1
  · rw [(e _ _ (by omega)).1]; exact h.1.2.1
  · rw [(e _ _ (by omega)).1]; exact h.1.2.2
  · rw [(e _ _ (by omega)).1, (e _ _ (by omega)).1, (e _ _ (by omega)).1, (e _ _ (by omega)).2, (e _ _ (by omega)).2]; exact h.2 k hk
/-- a step is put in -/
def ins (ρ : Nat → Nat) (s k p : Nat) : Nat := if p < s then ρ p else if p = s then k else ρ (p - 1)
theorem PR_ins {ρ : Nat → Nat} {k s : Nat} (ho : ∀ k, k < aK A → 1 ≤ aO A k) (hk : k < aK A) (hp : PR k (rkc A k) ρ) (hs : s ≤ k) (h1 : ∀ p, p < s → ahd A (ρ p) k) (h2 : ∀ p, s ≤ p → p < k → ahd A k (ρ p)) : PR (k + 1) (rkc A (k + 1)) (ins ρ s k) := by
  have old : ∀ j, j < k → rkc A (k + 1) j = if rkc A k j < s then rkc A k j else rkc A k j + 1 := by
    intro j hj
    have pj := hp.1 j hj
    rw [rkc_s]
    by_cases c : rkc A k j < s
    · have := h1 _ c
      rw [pj.2] at this
      rw [if_pos c, if_neg (fun z => ahd_as this ((dec_iff _).mp z)), Nat.add_zero]
    · have := h2 _ (by omega) pj.1
      rw [pj.2] at this
      rw [if_neg c, if_pos ((dec_iff _).mpr this)]
  have new : rkc A (k + 1) k = s := by
    rw [rkc_s, if_neg (fun z => ahd_ir ((dec_iff _).mp z)), Nat.add_zero]
    by_cases e : s = k
    · subst e
      unfold rkc
      refine pcp_all s (fun j hj => (dec_iff _).mpr ?_)
      have pj := hp.1 j hj
      have := h1 _ pj.1
      rwa [pj.2] at this
    · have ps := hp.2 s (by omega)
      rw [← ps.2]
      unfold rkc
      refine pcp_con k (fun j hj => ?_)
      have ke := h2 s (Nat.le_refl s) (by omega)
      have pj := hp.1 j hj
      refine Bool.eq_iff_iff.mpr ⟨fun z => (dec_iff _).mpr ?_, fun z => (dec_iff _).mpr ?_⟩
      · exact ahd_tr (ho j (by omega)) (ho k hk) (ho _ (by omega)) ((dec_iff _).mp z) ke
      · have lt := rkc_mono (m := k) ho (by omega) hj ps.1 ((dec_iff _).mp z)
        rw [ps.2] at lt
        have := h1 _ lt
        rwa [pj.2] at this
  refine ⟨fun j hj => ?_, fun p hpk => ?_⟩
  · by_cases e : j = k
    · subst e
      rw [new]
      refine ⟨by omega, ?_⟩
      unfold ins
      rw [if_neg (by omega), if_pos rfl]
    · have pj := hp.1 j (by omega)
      rw [old j (by omega)]
      by_cases c : rkc A k j < s
      · rw [if_pos c]
        refine ⟨by omega, ?_⟩
        unfold ins; rw [if_pos c]; exact pj.2
      · rw [if_neg c]
        refine ⟨by omega, ?_⟩
        unfold ins
        rw [if_neg (by omega), if_neg (by omega), Nat.add_sub_cancel]; exact pj.2
  · unfold ins
    by_cases c : p < s
    · have pp := hp.2 p (by omega)
      rw [if_pos c]
      refine ⟨by omega, ?_⟩
      rw [old _ pp.1, pp.2, if_pos c]
    · by_cases c2 : p = s
      · rw [if_neg c, if_pos c2]
        exact ⟨by omega, by rw [new]; exact c2.symm⟩
      · have pp := hp.2 (p - 1) (by omega)
        rw [if_neg c, if_neg c2]
        refine ⟨by omega, ?_⟩
        rw [old _ pp.1, pp.2, if_neg (by omega)]; omega
theorem PR_lt {ρ : Nat → Nat} {k p q : Nat} (ho : ∀ k, k < aK A → 1 ≤ aO A k) (hk : k ≤ aK A) (hp : PR k (rkc A k) ρ) (hpq : p < q) (hq : q < k) : ahd A (ρ p) (ρ q) := by
  have a := hp.2 p (by omega)
  have b := hp.2 q hq
  have hne : ρ p ≠ ρ q := fun z => by
    have : p = q := by rw [← a.2, ← b.2, z]
    omega
  rcases ahd_tot (A := A) hne with z | z
  · exact z
  · have := rkc_mono (m := k) ho hk b.1 a.1 z
    rw [a.2, b.2] at this
    omega
/-- the labels -/
theorem M_k395 {τ0 : St} {q : Nat} {Q : Unit → St → Prop} (hq : q < 4) (hQ : ∀ τ', (∀ i, i < 20 → τ'.1 18 (20 * q + i) = 0) → fr (fun c k => c = 18 ∧ 20 * q ≤ k ∧ k < 20 * q + 20) τ0 τ' → Q () τ') (hN : 3000 ≤ N) : wp (fX8_keeps_395 N N (nI q) 0 τ0) Q := by
  have key : ∀ m i τ, i ≤ 20 → 20 - i < m → ((∀ z, z < i → τ.1 18 (20 * q + z) = 0) ∧ fr (fun c k => c = 18 ∧ 20 * q ≤ k ∧ k < 20 * q + 20) τ0 τ) → wp (fX8_keeps_395 N m (nI q) (nI i) τ) Q := by
    refine loop_i (fun m i τ => wp (fX8_keeps_395 N m (nI q) (nI i) τ) Q) (fun i τ => (∀ z, z < i → τ.1 18 (20 * q + z) = 0) ∧ fr (fun c k => c = 18 ∧ 20 * q ≤ k ∧ k < 20 * q + 20) τ0 τ) 20 ?_ ?_
    · intro m τ h
      rw [fX8_keeps_395]
      exact wp_t (nI_le (a := 20) (b := 20) (by omega) (by omega)) (wp_some (hQ τ h.1 h.2))
    · intro m i τ hi h ih
      rw [fX8_keeps_395, i20']
      refine wp_f (nI_ge (b := 20) hi (by omega)) (wp_gd (ibn (by omega) (by decide)) (wp_nx (wp_nx ?_)))
      show wp (fX8_keeps_395 N m (nI q) (nI i + 1) _) _
      rw [nI_1, cl _ (by omega)]
      refine ih _ ⟨fun z hz => ?_, fr_I h.2 ⟨rfl, by omega, by omega⟩⟩
      by_cases e : z = i
      · subst e; exact sI_at
      · rw [sI_of (by omega)]; exact h.1 z (by omega)
  exact key N 0 τ0 (by omega) (by omega) ⟨fun z hz => absurd hz (Nat.not_lt_zero z), fr_rf⟩
def kst (τ : St) (at' mn mx : Nat) (m : Int32) (T O : Int64) : St := sJ (sJ (sI (sI (sI τ 13 at' (nI mn)) 14 at' (nI mx)) 15 at' m) 16 at' T) 17 at' O
def sK5 (q c k : Nat) : Prop := 13 ≤ c ∧ c ≤ 17 ∧ 19 * q ≤ k ∧ k < 19 * q + 19
theorem M_k182 {τ0 : St} {q : Nat} {x3 : Int32} (hq : q < 4) (hM : MKM τ0 n A) (h2 : I2 n A) (hn : n ≤ 20) (hK : aK A = n - 1) (hp : PR (aK A) rk r) (h26 : ∀ p, p < aK A → τ0.1 26 p = nI (r p)) (h27 : ∀ c, c < n + aK A → τ0.1 27 c = nI (ren n rk c)) (hx : x3 = 0 ∨ x3 = 1) (hN : 3000 ≤ N) : wp (fX8_keeps_182 N N (nI q) (nI kd) x3 0 τ0) (fun _ τ' => SM τ' q (aTree n kd A rk r x3) ∧ fr (sSM q) τ0 τ' ) := by
  have hrk : ∀ j, j < aK A → rk j < aK A := fun j hj => (hp.1 j hj).1
  have key : ∀ m p τ, p ≤ aK A → aK A - p < m → ((∀ j, j < p → τ.1 13 (19 * q + j) = nI (min (ren n rk (aA A (r j))) (ren n rk (aB A (r j)))) ∧ τ.1 14 (19 * q + j) = nI (max (ren n rk (aA A (r j))) (ren n rk (aB A (r j)))) ∧ τ.1 15 (19 * q + j) = aC A (n + r j) ∧ τ.2 16 (19 * q + j) = lZ (aT A (r j)) ∧ τ.2 17 (19 * q + j) = lN (aO A (r j))) ∧ fr (sK5 q) τ0 τ) → wp (fX8_keeps_182 N m (nI q) (nI kd) x3 (nI p) τ) (fun _ τ' => SM τ' q (aTree n kd A rk r x3) ∧ fr (sSM q) τ0 τ') := by
    refine loop_i (fun m p τ => wp (fX8_keeps_182 N m (nI q) (nI kd) x3 (nI p) τ) _) (fun p τ => (∀ j, j < p → τ.1 13 (19 * q + j) = nI (min (ren n rk (aA A (r j))) (ren n rk (aB A (r j)))) ∧ τ.1 14 (19 * q + j) = nI (max (ren n rk (aA A (r j))) (ren n rk (aB A (r j)))) ∧ τ.1 15 (19 * q + j) = aC A (n + r j) ∧ τ.2 16 (19 * q + j) = lZ (aT A (r j)) ∧ τ.2 17 (19 * q + j) = lN (aO A (r j))) ∧ fr (sK5 q) τ0 τ) (aK A) ?_ ?_
    · intro m τ h
      have M1 := MKMfr hM h.2 (fun c k hc => by unfold sK5; omega)
      have g : ib (nI q) 4 = true := ibn hq (by decide)
      rw [fX8_keeps_182, M1.1.2.1]
      refine wp_t (nI_le (Nat.le_refl _) (by omega)) (wp_gd g (wp_nx (wp_gd g (wp_nx (wp_gd g (wp_nx ?_))))))
      have r0 : (sI τ 8 (nI q).toNatClampNeg (vp_nar .boolean 1)).1 0 0 = nI n := by rw [sI_of (by omega)]; exact M1.1.1
      rw [r0, cl q (by omega), vb1]
      have fin : ∀ y0, y0 = x3 → wp (fX8_keeps_381 N (nI q) y0 (nI q) (sI (sI (sI τ 8 q 1) 9 q (nI n)) 10 q (nI kd))) (fun _ τ' => SM τ' q (aTree n kd A rk r x3) ∧ fr (sSM q) τ0 τ') := by
        rintro y0 rfl
        unfold fX8_keeps_381
        refine wp_gd g (wp_nx (wp_gd g (wp_nx ?_)))
        rw [cl q (by omega)]
        have r31 : (sI (sI (sI (sI τ 8 q 1) 9 q (nI n)) 10 q (nI kd)) 11 q y0).1 0 31 = nI (aS A) := by
          rw [sI_of (by omega), sI_of (by omega), sI_of (by omega), sI_of (by omega)]; exact M1.1.2.2
        rw [r31]
        refine M_k395 hq (fun τ' hl hf => ?_) hN
        have b : ∀ c k, c ≠ 18 → τ'.1 c k = (sI (sI (sI (sI (sI τ 8 q 1) 9 q (nI n)) 10 q (nI kd)) 11 q y0) 12 q (nI (aS A))).1 c k ∧ τ'.2 c k = (sI (sI (sI (sI (sI τ 8 q 1) 9 q (nI n)) 10 q (nI kd)) 11 q y0) 12 q (nI (aS A))).2 c k := fun c k hc => hf c k (by omega)
        refine ⟨⟨⟨?_, ?_, ?_, ?_, ?_⟩, fun j hj => ?_, fun i hi => hl i hi⟩, ?_⟩
        · rw [(b _ _ (by omega)).1, sI_of (by omega), sI_of (by omega), sI_of (by omega), sI_of (by omega)]; exact sI_at
        · rw [(b _ _ (by omega)).1, sI_of (by omega)]; exact sI_at
        · rw [(b _ _ (by omega)).1, sI_of (by omega), sI_of (by omega), sI_of (by omega)]; exact sI_at
        · rw [(b _ _ (by omega)).1, sI_of (by omega), sI_of (by omega)]; exact sI_at
        · rw [(b _ _ (by omega)).1]; exact sI_at
        · have hj : j + 1 < n := hj
          have o := h.1 j (by omega)
          rw [(b _ _ (by omega)).1, (b _ _ (by omega)).1, (b _ _ (by omega)).1, (b _ _ (by omega)).2, (b _ _ (by omega)).2]
          refine ⟨?_, ?_, ?_, o.2.2.2.1, o.2.2.2.2⟩
          · rw [sI_of (by omega), sI_of (by omega), sI_of (by omega), sI_of (by omega), sI_of (by omega)]; exact o.1
          · rw [sI_of (by omega), sI_of (by omega), sI_of (by omega), sI_of (by omega), sI_of (by omega)]; exact o.2.1
          · rw [sI_of (by omega), sI_of (by omega), sI_of (by omega), sI_of (by omega), sI_of (by omega)]; exact o.2.2.1
        · refine fr_tr (fr_mo h.2 (fun c k hc => ?_)) (fr_tr (fr_I (fr_I (fr_I (fr_I (fr_I fr_rf ?_) ?_) ?_) ?_) ?_) (fr_mo hf (fun c k hc => ?_)))
          · unfold sK5 at hc; unfold sSM; omega
          all_goals (unfold sSM; omega)
      rcases hx with rfl | rfl
      · exact wp_t rfl (fin 0 rfl)
      · exact wp_f (by decide) (fin 1 rfl)
    · intro m p τ hpk h ih
      have M1 := MKMfr hM h.2 (fun c k hc => by unfold sK5; omega)
      have rp := hp.2 p hpk
      have a26 : τ.1 26 p = nI (r p) := by rw [(h.2 26 p (by unfold sK5; omega)).1]; exact h26 p hpk
      have a27 : ∀ c, c < n + aK A → τ.1 27 c = nI (ren n rk c) := fun c hc => by rw [(h.2 27 c (by unfold sK5; omega)).1]; exact h27 c hc
      have s1 := h2.1 (r p) rp.1
      have mk := M1.2 (r p) rp.1
      have w1 := ren_lt (A := A) hn (by omega) hrk (c := aA A (r p)) (by omega)
      have w2 := ren_lt (A := A) hn (by omega) hrk (c := aB A (r p)) (by omega)
      have g1 : ib (nI p) 19 = true := ibn (by omega) (by decide)
      have g2 : ib (nI (r p)) 19 = true := ibn (by omega) (by decide)
      have g3 : ib (nI (aA A (r p))) 40 = true := ibn (by omega) (by decide)
      have g4 : ib (nI (aB A (r p))) 40 = true := ibn (by omega) (by decide)
      have g5 : ib (nI (19 * q + p)) 76 = true := ibn (by omega) (by decide)
      have c1 : (nI p).toNatClampNeg = p := cl _ (by omega)
      have c2 : (nI (r p)).toNatClampNeg = r p := cl _ (by omega)
      have c3 : (nI (aA A (r p))).toNatClampNeg = aA A (r p) := cl _ (by omega)
      have c4 : (nI (aB A (r p))).toNatClampNeg = aB A (r p) := cl _ (by omega)
      have c5 : (nI (19 * q + p)).toNatClampNeg = 19 * q + p := cl _ (by omega)
      have p1 : nI p + (1 : Int32) = nI (p + 1) := nI_1 p
      have r1 := a27 (aA A (r p)) (by omega)
      have r2 := a27 (aB A (r p)) (by omega)
      have st : fX8_keeps_182 N (m + 1) (nI q) (nI kd) x3 (nI p) τ = fX8_keeps_182 N m (nI q) (nI kd) x3 (nI (p + 1)) (kst τ (19 * q + p) (min (ren n rk (aA A (r p))) (ren n rk (aB A (r p)))) (max (ren n rk (aA A (r p))) (ren n rk (aB A (r p)))) (aC A (n + r p)) (lZ (aT A (r p))) (lN (aO A (r p)))) := by
        conv => lhs; rw [fX8_keeps_182]
        rw [M1.1.2.1, if_neg (nI_ge hpk (by omega))]
        unfold fX8_keeps_258 fX8_keeps_279
        simp only [g1, gd_tt, c1, a26, g2, c2, mk.2.1, mk.2.2.1, g3, g4, c3, c4, r1, r2, nx_r, i19, g5, c5]
        rcases Nat.le_total (ren n rk (aB A (r p))) (ren n rk (aA A (r p))) with z | z
        · have ne := nI_le z (by omega)
          rw [Nat.min_eq_right z, Nat.max_eq_left z]
          simp (disch := omega) only [if_pos ne, sI_of, sJ_of, sI_p, sJ_p, a26, g2, gd_tt, c2, mk.1, mk.2.2.2.1, mk.2.2.2.2, p1]
          rfl
        · by_cases ez : ren n rk (aB A (r p)) ≤ ren n rk (aA A (r p))
          · have ne := nI_le ez (by omega)
            have eq : ren n rk (aB A (r p)) = ren n rk (aA A (r p)) := by omega
            rw [eq, Nat.min_self, Nat.max_self]
            rw [eq] at ne
            simp (disch := omega) only [if_pos ne, sI_of, sJ_of, sI_p, sJ_p, a26, g2, gd_tt, c2, mk.1, mk.2.2.2.1, mk.2.2.2.2, p1]
            rfl
          · have ne := nI_ge (a := ren n rk (aA A (r p))) (b := ren n rk (aB A (r p))) (by omega) (by omega)
            rw [Nat.min_eq_left z, Nat.max_eq_right z]
            simp (disch := omega) only [if_neg ne, sI_of, sJ_of, sI_p, sJ_p, a26, g2, gd_tt, c2, mk.1, mk.2.2.2.1, mk.2.2.2.2, p1]
            rfl
      rw [st]
      refine ih _ ⟨fun j hj => ?_, ?_⟩
      · unfold kst
        by_cases ej : j = p
        · subst ej
          refine ⟨?_, ?_, ?_, ?_, sJ_at⟩
          · rw [sJ_p, sJ_p, sI_of (by omega), sI_of (by omega)]; exact sI_at
          · rw [sJ_p, sJ_p, sI_of (by omega)]; exact sI_at
          · rw [sJ_p, sJ_p]; exact sI_at
          · rw [sJ_of (by omega)]; exact sJ_at
        · have o := h.1 j (by omega)
          refine ⟨?_, ?_, ?_, ?_, ?_⟩
          · rw [sJ_p, sJ_p, sI_of (by omega), sI_of (by omega), sI_of (by omega)]; exact o.1
          · rw [sJ_p, sJ_p, sI_of (by omega), sI_of (by omega), sI_of (by omega)]; exact o.2.1
          · rw [sJ_p, sJ_p, sI_of (by omega), sI_of (by omega), sI_of (by omega)]; exact o.2.2.1
          · rw [sJ_of (by omega), sJ_of (by omega)]; exact o.2.2.2.1
          · rw [sJ_of (by omega), sJ_of (by omega)]; exact o.2.2.2.2
      · unfold kst
        refine fr_J (fr_J (fr_I (fr_I (fr_I h.2 ?_) ?_) ?_) ?_) ?_ <;> (unfold sK5; omega)
  exact key N 0 τ0 (by omega) (by omega) ⟨fun j hj => absurd hj (Nat.not_lt_zero j), fr_rf⟩
theorem M_k113 {τ0 : St} {q : Nat} {x3 : Int32} (hq : q < 4) (hM : MKM τ0 n A) (h2 : I2 n A) (hn : n ≤ 20) (hK : aK A = n - 1) (hp : PR (aK A) rk r) (h26 : ∀ p, p < aK A → τ0.1 26 p = nI (r p)) (hx : x3 = 0 ∨ x3 = 1) (hN : 3000 ≤ N) : wp (fX8_keeps_113 N N (nI q) (nI kd) x3 0 τ0) (fun _ τ' => SM τ' q (aTree n kd A rk r x3) ∧ fr (fun c k => sSM q c k ∨ c = 27) τ0 τ') := by
  have s140 : ∀ τ1, (∀ z, z < n → τ1.1 27 z = nI z) → fr (fun c _ => c = 27) τ0 τ1 → wp (fX8_keeps_140 N N (nI q) (nI kd) x3 0 τ1) (fun _ τ' => SM τ' q (aTree n kd A rk r x3) ∧ fr (fun c k => sSM q c k ∨ c = 27) τ0 τ') := by
    intro τ1 h1 f1
    have key : ∀ m p τ, p ≤ aK A → aK A - p < m → ((∀ z, z < n → τ.1 27 z = nI z) ∧ (∀ j, j < p → τ.1 27 (n + r j) = nI (n + j)) ∧ fr (fun c _ => c = 27) τ0 τ) → wp (fX8_keeps_140 N m (nI q) (nI kd) x3 (nI p) τ) (fun _ τ' => SM τ' q (aTree n kd A rk r x3) ∧ fr (fun c k => sSM q c k ∨ c = 27) τ0 τ') := by
      refine loop_i (fun m p τ => wp (fX8_keeps_140 N m (nI q) (nI kd) x3 (nI p) τ) _) (fun p τ => (∀ z, z < n → τ.1 27 z = nI z) ∧ (∀ j, j < p → τ.1 27 (n + r j) = nI (n + j)) ∧ fr (fun c _ => c = 27) τ0 τ) (aK A) ?_ ?_
      · intro m τ h
        have M1 := MKMfr hM h.2.2 (fun c k hc => by omega)
        rw [fX8_keeps_140, M1.1.2.1]
        refine wp_t (nI_le (Nat.le_refl _) (by omega)) (wp_mono (M_k182 hq M1 h2 hn hK hp (fun p hp' => by rw [(h.2.2 26 p (by omega)).1]; exact h26 p hp') (fun c hc => ?_) hx hN) (fun _ τ' hh => ⟨hh.1, fr_tr (fr_mo h.2.2 (fun c k hc => Or.inr hc)) (fr_mo hh.2 (fun c k hc => Or.inl hc))⟩))
        unfold ren
        by_cases e : c < n
        · rw [if_pos e]; exact h.1 c e
        · have pk := hp.1 (c - n) (by omega)
          have := h.2.1 _ pk.1
          rw [pk.2, show n + (c - n) = c by omega] at this
          rw [if_neg e]; exact this
      · intro m p τ hpk h ih
        have M1 := MKMfr hM h.2.2 (fun c k hc => by omega)
        have rp := hp.2 p hpk
        have a26 : τ.1 26 p = nI (r p) := by rw [(h.2.2 26 p (by omega)).1]; exact h26 p hpk
        rw [fX8_keeps_140, M1.1.2.1]
        refine wp_f (nI_ge hpk (by omega)) (wp_gd (ibn (by omega) (by decide)) ?_)
        rw [cl p (by omega), a26, M1.1.1, nI_add, nI_add]
        refine wp_gd (ibn (by omega) (by decide)) (wp_nx (wp_nx ?_))
        show wp (fX8_keeps_140 N m (nI q) (nI kd) x3 (nI p + 1) _) _
        rw [nI_1, cl _ (by omega)]
        refine ih _ ⟨fun z hz => ?_, fun j hj => ?_, fr_I h.2.2 rfl⟩
        · rw [sI_of (by omega)]; exact h.1 z hz
        · by_cases ej : j = p
          · subst ej; exact sI_at
          · have hne : r j ≠ r p := fun z => ej (by rw [← (hp.2 j (by omega)).2, ← rp.2, z])
            rw [sI_of (by omega)]; exact h.2.1 j (by omega)
    exact key N 0 τ1 (by omega) (by omega) ⟨h1, fun j hj => absurd hj (Nat.not_lt_zero j), f1⟩
  have key : ∀ m k τ, k ≤ n → n - k < m → ((∀ z, z < k → τ.1 27 z = nI z) ∧ fr (fun c _ => c = 27) τ0 τ) → wp (fX8_keeps_113 N m (nI q) (nI kd) x3 (nI k) τ) (fun _ τ' => SM τ' q (aTree n kd A rk r x3) ∧ fr (fun c k => sSM q c k ∨ c = 27) τ0 τ') := by
    refine loop_i (fun m k τ => wp (fX8_keeps_113 N m (nI q) (nI kd) x3 (nI k) τ) _) (fun k τ => (∀ z, z < k → τ.1 27 z = nI z) ∧ fr (fun c _ => c = 27) τ0 τ) n ?_ ?_
    · intro m τ h
      have M1 := MKMfr hM h.2 (fun c k hc => by omega)
      rw [fX8_keeps_113, M1.1.1]
      exact wp_t (nI_le (Nat.le_refl _) (by omega)) (s140 τ h.1 h.2)
    · intro m k τ hk h ih
      have M1 := MKMfr hM h.2 (fun c k hc => by omega)
      rw [fX8_keeps_113, M1.1.1]
      refine wp_f (nI_ge hk (by omega)) (wp_gd (ibn (by omega) (by decide)) (wp_nx (wp_nx ?_)))
      show wp (fX8_keeps_113 N m (nI q) (nI kd) x3 (nI k + 1) _) _
      rw [nI_1, cl k (by omega)]
      refine ih _ ⟨fun z hz => ?_, fr_I h.2 rfl⟩
      by_cases e : z = k
      · subst e; exact sI_at
      · rw [sI_of (by omega)]; exact h.1 z (by omega)
  exact key N 0 τ0 (by omega) (by omega) ⟨fun z hz => absurd hz (Nat.not_lt_zero z), fr_rf⟩
end
