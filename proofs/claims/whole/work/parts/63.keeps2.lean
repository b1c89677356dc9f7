/-! steps by heights; greedy and chain alike -/
theorem sg_le {z : Int} : sg z ≤ 0 ↔ z ≤ 0 := by
  unfold sg
  by_cases c : 0 ≤ z
  · rw [if_pos c]
    by_cases c2 : z ≤ 0
    · rw [if_pos c2]; exact ⟨fun _ => c2, fun _ => by decide⟩
    · rw [if_neg c2]; exact ⟨fun h => absurd h (by decide), fun h => absurd h c2⟩
  · rw [if_neg c]; exact ⟨fun _ => by omega, fun _ => by decide⟩
section
variable {N n kd : Nat} {d : Nat → Nat → Nat} {px py : Nat → Int32} {A : Aj} {rk r : Nat → Nat}
theorem M_k16 {K : Int32 → Int32 → Int32 → Int32 → St → Option (Unit × St)} {Q : Unit → St → Prop} {τ0 : St} {q k : Nat} {ρ : Nat → Nat} (hM : MKM τ0 n A) (h3 : I3 n kd d A) (hK : aK A ≤ 19) (hk : k < aK A) (hp : PR k (rkc A k) ρ)
    (hQ : ∀ s τ', s ≤ k → (∀ p, p < s → ahd A (ρ p) k) → (∀ p, s ≤ p → p < k → ahd A k (ρ p)) → (∀ p, p ≤ k → τ'.1 26 p = nI (ins ρ s k p)) → fr (fun c _ => c = 26) τ0 τ' → wp (K (nI q) (nI kd) 1 (nI (k + 1)) τ') Q) :
    ∀ at' m τ, at' < m → at' ≤ k → (∀ p, p < at' → τ.1 26 p = nI (ρ p)) → (∀ p, at' < p → p ≤ k → τ.1 26 p = nI (ρ (p - 1))) → (∀ p, at' ≤ p → p < k → ahd A k (ρ p)) → fr (fun c _ => c = 26) τ0 τ → wp (fX8_keeps_16 N K m (nI q) (nI kd) 1 (nI k) (nI at') τ) Q := by
  have ho : ∀ k, k < aK A → 1 ≤ aO A k := fun k hk => (h3.2.2.1 k hk).2.2.1
  have stop : ∀ at' τ, at' ≤ k → (∀ p, p < at' → ahd A (ρ p) k) → (∀ p, p < at' → τ.1 26 p = nI (ρ p)) → (∀ p, at' < p → p ≤ k → τ.1 26 p = nI (ρ (p - 1))) → (∀ p, at' ≤ p → p < k → ahd A k (ρ p)) → fr (fun c _ => c = 26) τ0 τ → wp (fX8_keeps_95 N K (nI q) (nI kd) 1 (nI k) (nI at') τ) Q := by
    intro at' τ hat hlo i1 i2 i3 hf
    unfold fX8_keeps_95
    refine wp_gd (ibn (by omega) (by decide)) (wp_nx (wp_nx ?_))
    show wp (K (nI q) (nI kd) 1 (nI k + 1) _) Q
    rw [nI_1, cl _ (by omega)]
    refine hQ at' _ hat hlo i3 (fun p hp' => ?_) (fr_I hf rfl)
    unfold ins
    by_cases c1 : p < at'
    · rw [if_pos c1, sI_of (by omega)]; exact i1 p c1
    · by_cases c2 : p = at'
      · subst c2; rw [if_neg c1, if_pos rfl]; exact sI_at
      · rw [if_neg c1, if_neg c2, sI_of (by omega)]; exact i2 p (by omega) hp'
  intro at'
  induction at' with
  | zero =>
    intro m τ hm hat i1 i2 i3 hf
    obtain ⟨m, rfl⟩ : ∃ m', m = m' + 1 := ⟨m - 1, by omega⟩
    rw [fX8_keeps_16]
    exact wp_f (by decide) (wp_t (by decide) (stop 0 τ hat (fun p hp' => absurd hp' (Nat.not_lt_zero p)) i1 i2 i3 hf))
  | succ at' ih =>
    intro m τ hm hat i1 i2 i3 hf
    obtain ⟨m, rfl⟩ : ∃ m', m = m' + 1 := ⟨m - 1, by omega⟩
    have M1 := MKMfr hM hf (fun c k hc => by omega)
    have e := i1 at' (by omega)
    have pe := hp.2 at' (by omega)
    have te := h3.2.2.1 (ρ at') (by omega)
    have tk := h3.2.2.1 k hk
    have me := M1.2 (ρ at') (by omega)
    have mk := M1.2 k hk
    have s1 : nI (at' + 1) - (1 : Int32) = nI at' := by
      show nI (at' + 1) - nI 1 = _
      rw [pk_sub (by omega), Nat.add_sub_cancel]
    have g1 : ib (nI at') 19 = true := ibn (by omega) (by decide)
    have g2 : ib (nI (ρ at')) 19 = true := ibn (by omega) (by decide)
    have g3 : ib (nI k) 19 = true := ibn (by omega) (by decide)
    have g4 : ib (nI (at' + 1)) 19 = true := ibn (by omega) (by decide)
    have p1 := pr_b (t := aT A (ρ at')) (b := aO A k) te.1 te.2.1 tk.2.2.2.1
    have p2 := pr_b (t := aT A k) (b := aO A (ρ at')) tk.1 tk.2.1 te.2.2.2.1
    have t1 := lZ_T (z := aT A (ρ at')) (by omega) (by omega)
    have t2 := lZ_T (z := aT A k) (by omega) (by omega)
    have t3 := pk_lT (n := aO A (ρ at')) (by omega)
    have t4 := pk_lT (n := aO A k) (by omega)
    rw [fX8_keeps_16]
    refine wp_f (by decide) (wp_f (nI_ge (a := 0) (by omega) (by omega)) ?_)
    rw [s1, cl at' (by omega), e, gd_t g1, gd_t g2, gd_t g1, gd_t g2, gd_t g3, gd_t g3, cl (ρ at') (by omega), cl k (by omega), me.2.2.2.1, me.2.2.2.2, mk.2.2.2.1, mk.2.2.2.2, M_cmp (by rw [t1, t4]; omega) (by rw [t2, t3]; omega), bd_s, t1, t2, t3, t4]
    refine wp_i (fun c => ?_) (fun c => ?_)
    · have z := sg_le.mp c
      have hek : ahd A (ρ at') k := by unfold ahd; omega
      refine stop (at' + 1) τ hat (fun p hp' => ?_) i1 i2 i3 hf
      by_cases ep : p = at'
      · rw [ep]; exact hek
      · exact ahd_tr (ho _ (by have := (hp.2 p (by omega)).1; omega)) (ho _ (by omega)) (ho k hk) (PR_lt ho (by omega) hp (show p < at' by omega) (by omega)) hek
    · have z : ¬ (aT A (ρ at') * aO A k - aT A k * aO A (ρ at') ≤ 0) := fun y => c (sg_le.mpr y)
      have hke : ahd A k (ρ at') := Or.inl (by omega)
      refine wp_gd g1 (wp_gd g4 (wp_nx (wp_nx ?_)))
      rw [m1w, cl _ (by omega), e]
      refine ih m _ (by omega) (by omega) (fun p hp' => ?_) (fun p hp1 hp2 => ?_) (fun p hp1 hp2 => ?_) (fr_I hf rfl)
      · rw [sI_of (by omega)]; exact i1 p (by omega)
      · by_cases ep : p = at' + 1
        · subst ep; exact sI_at
        · rw [sI_of (by omega)]; exact i2 p (by omega) hp2
      · by_cases ep : p = at'
        · rw [ep]; exact hke
        · exact i3 p (by omega) hp2
theorem M_keeps1 {τ0 : St} {q : Nat} (hq : q < 4) (hM : MKM τ0 n A) (hA : AI n kd d A) (hK : aK A = n - 1) (hN : 3000 ≤ N) : wp (fX8_keeps N (nI q) (nI kd) 1 τ0) (fun _ τ' => ∃ r, PR (aK A) (rkc A (aK A)) r ∧ SM τ' q (aTree n kd A (rkc A (aK A)) r 1) ∧ fr (fun c k => sSM q c k ∨ c = 26 ∨ c = 27) τ0 τ') := by
  have hn := hA.1.2.1
  have ho : ∀ k, k < aK A → 1 ≤ aO A k := fun k hk => (hA.2.2.2.2.1 k hk).2.2.1
  unfold fX8_keeps
  have key : ∀ m k τ, k ≤ aK A → aK A - k < m → ((∃ ρ, PR k (rkc A k) ρ ∧ ∀ p, p < k → τ.1 26 p = nI (ρ p)) ∧ fr (fun c _ => c = 26) τ0 τ) → wp (fX8_keeps_3 N m (nI q) (nI kd) 1 (nI k) τ) (fun _ τ' => ∃ r, PR (aK A) (rkc A (aK A)) r ∧ SM τ' q (aTree n kd A (rkc A (aK A)) r 1) ∧ fr (fun c k => sSM q c k ∨ c = 26 ∨ c = 27) τ0 τ') := by
    refine loop_i (fun m k τ => wp (fX8_keeps_3 N m (nI q) (nI kd) 1 (nI k) τ) _) (fun k τ => (∃ ρ, PR k (rkc A k) ρ ∧ ∀ p, p < k → τ.1 26 p = nI (ρ p)) ∧ fr (fun c _ => c = 26) τ0 τ) (aK A) ?_ ?_
    · rintro m τ ⟨⟨ρ, hp, h26⟩, hf⟩
      have M1 := MKMfr hM hf (fun c k hc => by omega)
      rw [fX8_keeps_3, M1.1.2.1]
      refine wp_t (nI_le (Nat.le_refl _) (by omega)) (wp_mono (M_k113 hq M1 hA.2.1 hn hK hp h26 (Or.inr rfl) hN) (fun _ τ' hh => ⟨ρ, hp, hh.1, fr_tr (fr_mo hf (fun c k hc => ?_)) (fr_mo hh.2 (fun c k hc => ?_))⟩))
      · exact Or.inr (Or.inl hc)
      · rcases hc with z | z
        · exact Or.inl z
        · exact Or.inr (Or.inr z)
    · rintro m k τ hk ⟨⟨ρ, hp, h26⟩, hf⟩ ih
      have M1 := MKMfr hM hf (fun c k hc => by omega)
      rw [fX8_keeps_3, M1.1.2.1]
      refine wp_f (nI_ge hk (by omega)) ?_
      refine M_k16 (τ0 := τ) M1 hA.2.2 (by omega) hk hp (fun s τ' hs h1 h2 h3 hf' => ?_) k N τ (by omega) (Nat.le_refl k) h26 (fun p h1 h2 => by omega) (fun p h1 h2 => by omega) fr_rf
      exact ih τ' ⟨⟨ins ρ s k, PR_ins ho hk hp hs h1 h2, fun p hp' => h3 p (by omega)⟩, fr_tr hf hf'⟩
  exact key N 0 τ0 (by omega) (by omega) ⟨⟨id, ⟨fun k hk => absurd hk (Nat.not_lt_zero k), fun p hp => absurd hp (Nat.not_lt_zero p)⟩, fun p hp => absurd hp (Nat.not_lt_zero p)⟩, fr_rf⟩
theorem M_keeps0 {τ0 : St} {q : Nat} (hq : q < 4) (hM : MKM τ0 n A) (hA : AI n kd d A) (hK : aK A = n - 1) (hN : 3000 ≤ N) : wp (fX8_keeps N (nI q) (nI kd) 0 τ0) (fun _ τ' => SM τ' q (aTree n kd A id id 0) ∧ fr (fun c k => sSM q c k ∨ c = 26 ∨ c = 27) τ0 τ') := by
  have hn := hA.1.2.1
  unfold fX8_keeps
  have key : ∀ m k τ, k ≤ aK A → aK A - k < m → ((∀ p, p < k → τ.1 26 p = nI p) ∧ fr (fun c _ => c = 26) τ0 τ) → wp (fX8_keeps_3 N m (nI q) (nI kd) 0 (nI k) τ) (fun _ τ' => SM τ' q (aTree n kd A id id 0) ∧ fr (fun c k => sSM q c k ∨ c = 26 ∨ c = 27) τ0 τ') := by
    refine loop_i (fun m k τ => wp (fX8_keeps_3 N m (nI q) (nI kd) 0 (nI k) τ) _) (fun k τ => (∀ p, p < k → τ.1 26 p = nI p) ∧ fr (fun c _ => c = 26) τ0 τ) (aK A) ?_ ?_
    · rintro m τ ⟨h26, hf⟩
      have M1 := MKMfr hM hf (fun c k hc => by omega)
      rw [fX8_keeps_3, M1.1.2.1]
      refine wp_t (nI_le (Nat.le_refl _) (by omega)) (wp_mono (M_k113 (rk := id) (r := id) hq M1 hA.2.1 hn hK PR_id h26 (Or.inl rfl) hN) (fun _ τ' hh => ⟨hh.1, fr_tr (fr_mo hf (fun c k hc => ?_)) (fr_mo hh.2 (fun c k hc => ?_))⟩))
      · exact Or.inr (Or.inl hc)
      · rcases hc with z | z
        · exact Or.inl z
        · exact Or.inr (Or.inr z)
    · rintro m k τ hk ⟨h26, hf⟩ ih
      have M1 := MKMfr hM hf (fun c k hc => by omega)
      rw [fX8_keeps_3, M1.1.2.1]
      refine wp_f (nI_ge hk (by omega)) ?_
      obtain ⟨N', hN'⟩ : ∃ m', N = m' + 1 := ⟨N - 1, by omega⟩
      have st : fX8_keeps_16 N (fX8_keeps_3 N m) N (nI q) (nI kd) 0 (nI k) (nI k) τ = fX8_keeps_95 N (fX8_keeps_3 N m) (nI q) (nI kd) 0 (nI k) (nI k) τ := by
        conv => lhs; arg 3; rw [hN']
        rw [fX8_keeps_16, if_pos rfl]
      rw [st]
      unfold fX8_keeps_95
      refine wp_gd (ibn (by omega) (by decide)) (wp_nx (wp_nx ?_))
      show wp (fX8_keeps_3 N m (nI q) (nI kd) 0 (nI k + 1) _) _
      rw [nI_1, cl k (by omega)]
      refine ih _ ⟨fun p hp => ?_, fr_I hf rfl⟩
      by_cases e : p = k
      · subst e; exact sI_at
      · rw [sI_of (by omega)]; exact h26 p (by omega)
  exact key N 0 τ0 (by omega) (by omega) ⟨fun p hp => absurd hp (Nat.not_lt_zero p), fr_rf⟩
theorem fin_K (hA : AI n kd d A) (hL : (aF A).length ≤ 1) : aK A = n - 1 := by
  have ln := hA.1.1
  rcases Nat.eq_zero_or_pos n with z | z
  · omega
  · obtain ⟨c, hc, -⟩ := hA.1.2.2.2.2.2.2.1 0 z
    have := List.length_pos_of_mem hc
    omega
theorem CM.mk {τ : St} (h : CM τ n A) (h0 : τ.1 0 0 = nI n) : MKM τ n A := ⟨⟨h0, h.1.1, h.1.2⟩, h.2.2⟩
theorem J_makes {σ τ : St} {ch : Int32} {x y : Int32} (h : Rel σ τ) (hch : ch = 0 ∨ ch = 1) (hN : 3000 ≤ N) : jt (bd (fX7_makeTree N x y ch σ) (fun r s => some (r, s))) (if ch = 0 then fX8_greedy N x y τ else fX8_chain N x y τ) Rel := by
  obtain ⟨n, d, px, py, hd, hX, hM⟩ := h.1
  have hn := hd.1
  have hdd := hd.dd
  have no : (x < 0 ∨ nI 4 ≤ x) ∨ (y < 0 ∨ nI 5 ≤ y) → jt (bd (fX7_makeTree N x y ch σ) (fun r s => some (r, s))) (if ch = 0 then fX8_greedy N x y τ else fX8_chain N x y τ) Rel := by
    intro hno
    refine jt_no h (a := -1) ?_ ?_
    · unfold fX7_makeTree
      by_cases c1 : x < 0
      · rw [if_pos c1]; rfl
      · rw [if_neg c1]
        by_cases c2 : (4 : Int32) ≤ x
        · rw [if_pos c2]; rfl
        · rw [if_neg c2]
          by_cases c3 : y < 0
          · rw [if_pos c3]; rfl
          · rw [if_neg c3, if_neg]
            · rfl
            · intro h1
              rcases hno with (z | z) | (z | z)
              · exact c1 z
              · exact c2 z
              · exact c3 z
              · have a1 := Int32.le_iff_toInt_le.mp h1
                have a2 := Int32.le_iff_toInt_le.mp z
                rw [nI_toInt (by omega)] at a2
                have e : (4 : Int32).toInt = 4 := by decide
                omega
    · unfold fX8_greedy fX8_chain
      rw [show (4 : Int32) = nI 4 from rfl, show (5 : Int32) = nI 5 from rfl]
      have go : ∀ K : Int32 → St → Option (Int32 × St), (∀ r s, r = 0 → K r s = some (-1, s)) → (∀ r s, ¬ r = 0 → K r s = bd (fX8_isIn N y (nI 5) s) (fun r5 s6 => if r5 = 0 then some (-1, s6) else K 2 s6)) → bd (fX8_isIn N x (nI 4) τ) K = some (-1, τ) := by
        intro K h1 h2
        rcases ixc x (n := 4) (by omega) with hx | ⟨q, hq, rfl⟩
        · rw [M_in0 hx, bd_s, h1 _ _ rfl]
        · rw [M_in1 (by omega) hq, bd_s, h2 _ _ n10]
          have hy : y < 0 ∨ nI 5 ≤ y := by
            rcases hno with z | z
            · rcases z with z | z
              · exact absurd z (nI_pos (by omega))
              · exact absurd z (nI_ge hq (by omega))
            · exact z
          rw [M_in0 hy, bd_s, if_pos rfl]
      rcases ixc x (n := 4) (by omega) with hx | ⟨q, hq, rfl⟩
      · rw [M_in0 hx, bd_s, bd_s, if_pos rfl, if_pos rfl]
        split <;> rfl
      · have hy : y < 0 ∨ nI 5 ≤ y := by
          rcases hno with z | z
          · rcases z with z | z
            · exact absurd z (nI_pos (by omega))
            · exact absurd z (nI_ge hq (by omega))
          · exact z
        rw [M_in1 (by omega) hq, bd_s, bd_s, if_neg n10, if_neg n10, M_in0 hy, bd_s, bd_s, if_pos rfl, if_pos rfl]
        split <;> rfl
  rcases ixc x (n := 4) (by omega) with hx | ⟨q, hq, rfl⟩
  · exact no (Or.inl hx)
  rcases ixc y (n := 5) (by omega) with hy | ⟨kd, hk, rfl⟩
  · exact no (Or.inr hy)
  -- the class up to its tree
  have gq : ib (nI q) 4 = true := ibn hq (by decide)
  have beginX := X_begin (N := N) (kd := kd) hk hd hX hN
  have fJn : ∀ {a b : St}, fr sJn a b → fr (sSZ q) a b := fun hf => fr_mo hf (fun c k hc => Or.inr (by unfold sJn at hc; omega))
  have fJm : ∀ {a b : St}, fr sJm a b → fr (sSMZ q) a b := fun hf => fr_mo hf (fun c k hc => Or.inr (by unfold sJm at hc; omega))
  have fKp : ∀ {a b : St}, fr (fun c k => sSM q c k ∨ c = 26 ∨ c = 27) a b → fr (sSMZ q) a b := fun hf => fr_mo hf (fun c k hc => by unfold sSMZ; rcases hc with z | z; exact Or.inl z; exact Or.inr (by omega))
  have pmf : ∀ {a b : St}, PM a n d px py → fr sJm a b → PM b n d px py := fun hP hf => hP.fr hf (fun c k hc => by unfold sPM at hc; unfold sJm; omega)
  have Xfront : fX7_makeTree N (nI q) (nI kd) ch σ = bd (fX1_begin N (nI kd) σ) (fun _ s6 => if ch = 0 then bd (fX1_joinGreedily N s6) (fun _ s10 => fX7_makeTree_53 N (nI q) ch s10) else bd (fX1_joinAlongChains N s6) (fun _ s13 => fX7_makeTree_53 N (nI q) ch s13)) := by
    unfold fX7_makeTree
    rw [if_neg (nI_pos (by omega)), if_neg (show ¬ (4 : Int32) ≤ nI q from nI_ge (b := 4) hq (by omega)), if_neg (nI_pos (by omega)), if_pos (show nI kd ≤ (4 : Int32) from nI_le (b := 4) (by omega) (by omega))]
  have tail : ∀ {A : Aj} {rk r R : Nat → Nat} {s : St}, AI n kd d A → aK A = n - 1 → CX s n kd d A R → fr (sSZ q) σ s → PR (aK A) rk r → ((ch = 0 ∧ ∀ k, k < aK A → rk k = k) ∨ (ch = 1 ∧ ∀ k, k < aK A → rk k = rkc A (aK A) k)) → wp (fX7_makeTree_53 N (nI q) ch s) (fun a σ' => a = nI (n - 1) ∧ SX σ' q (aTree n kd A rk r ch) ∧ fr (sSZ q) σ σ') := by
    intro A rk r R s hA hKn hC hf hp hx
    unfold fX7_makeTree_53
    rw [gd_t gq, cl q (by omega)]
    refine wp_bd (X_deliver hq hA hC hKn hp hx hN) (fun _ s3 h3 => wp_gd gq (wp_some ⟨?_, h3.1, fr_tr hf h3.2⟩))
    exact h3.1.1.2.2.2.2.2
  have Mfront : ∀ {Q : Int32 → St → Prop}, (∀ τ1, CM τ1 n (aBeg n) → fr sJm τ τ1 → wp (if ch = 0 then fX8_greedy_22 N N (nI q) (nI kd) τ1 else fX8_chain_27 N N (nI q) (nI kd) (sI τ1 0 33 0)) Q) → wp (if ch = 0 then fX8_greedy N (nI q) (nI kd) τ else fX8_chain N (nI q) (nI kd) τ) Q := by
    intro Q hh
    unfold fX8_greedy fX8_chain
    rw [show (4 : Int32) = nI 4 from rfl, show (5 : Int32) = nI 5 from rfl, M_in1 (by omega) hq, bd_s, bd_s, if_neg n10, if_neg n10, M_in1 (by omega) hk, bd_s, bd_s, if_neg n10, if_neg n10]
    have b := M_begins (N := N) hd hM hN
    rcases hch with rfl | rfl
    · rw [if_pos rfl]
      refine wp_bd b (fun _ τ1 h1 => ?_)
      have := hh τ1 h1.1 h1.2
      rw [if_pos rfl] at this; exact this
    · rw [if_neg (by decide)]
      refine wp_bd b (fun _ τ1 h1 => wp_nx ?_)
      have := hh τ1 h1.1 h1.2
      rw [if_neg (by decide)] at this; exact this
  rcases hch with rfl | rfl
  · -- greedy
    obtain ⟨a1, a2, a3⟩ := gIt_ok hk hdd hn (n - 1) (Nat.le_refl _)
    have hL : (aF (gIt n kd d (n - 1))).length ≤ 1 := by have := a1.1.1; omega
    refine jt_wp (P := fun a σ' => a = nI (n - 1) ∧ SX σ' q (aTree n kd (gIt n kd d (n - 1)) id id 0) ∧ fr (sSZ q) σ σ') (Q := fun a τ' => a = nI (n - 1) ∧ SM τ' q (aTree n kd (gIt n kd d (n - 1)) id id 0) ∧ fr (sSMZ q) τ τ') ?_ ?_ ?_
    · rw [Xfront]
      refine wp_bd (wp_bd beginX (fun _ s1 h1 => ?_)) (fun a s h => wp_some h)
      rw [if_pos rfl]
      refine wp_bd (X_jg hk hdd hn h1.1 hN) (fun _ s2 h2 => ?_)
      obtain ⟨R', c1, c2⟩ := h2
      exact tail a1 a2 c1 (fr_tr (fJn h1.2.2) (fJn c2)) PR_id (Or.inl ⟨rfl, fun k _ => rfl⟩)
    · refine Mfront (fun τ1 m1 f1 => ?_)
      rw [if_pos rfl]
      refine M_jg hk hd (pmf hM f1) m1 (fun τ2 m2 f2 => ?_) hN
      have P2 := pmf (pmf hM f1) f2
      refine wp_bd (M_keeps0 hq (m2.mk P2.1) a1 a2 hN) (fun _ s hs => wp_some ⟨?_, hs.1, fr_tr (fJm f1) (fr_tr (fJm f2) (fKp hs.2))⟩)
      rw [(hs.2 0 11 (by unfold sSM; omega)).1, m2.1.1, a2]
    · intro a b σ' τ' hp hq'
      exact ⟨hp.1.trans hq'.1.symm, h.S hq hp.2.2 hq'.2.2 (Or.inr ⟨_, aTree_ok hk a1 hL PR_id (PO_id a3) (Or.inl rfl), hp.2.1, hq'.2.1⟩)⟩
  · -- chain
    obtain ⟨K, hK, hK1, hK2⟩ := cK_ex hk hdd hn
    have g := (cIt_ok hk hdd hn K hK2).1.1
    have hKn := fin_K g hK1
    have mw : wp (if (1 : Int32) = 0 then fX8_greedy N (nI q) (nI kd) τ else fX8_chain N (nI q) (nI kd) τ) (fun a τ' => a = nI (n - 1) ∧ ∃ r, PR (aK (cIt n kd d K).1) (rkc (cIt n kd d K).1 (aK (cIt n kd d K).1)) r ∧ SM τ' q (aTree n kd (cIt n kd d K).1 (rkc (cIt n kd d K).1 (aK (cIt n kd d K).1)) r 1) ∧ fr (sSMZ q) τ τ') := by
      refine Mfront (fun τ1 m1 f1 => ?_)
      rw [if_neg (by decide)]
      have f33 : fr sJm τ1 (sI τ1 0 33 0) := fr_I fr_rf (Or.inl ⟨rfl, by omega⟩)
      have m1' : CM (sI τ1 0 33 0) n (aBeg n) := CMfr m1 (S := fun c k => c = 0 ∧ k = 33) (fr_I fr_rf ⟨rfl, rfl⟩) (fun c k hc => by omega)
      have f1' := fr_tr f1 f33
      refine M_jc hk hd (pmf hM f1') hK hK1 hK2 m1' sI_at (fun τ2 m2 f2 => ?_) hN
      have P2 := pmf (pmf hM f1') f2
      refine wp_bd (M_keeps1 hq (m2.mk P2.1) g hKn hN) (fun _ s hs => wp_some ?_)
      obtain ⟨r, hr, hs1, hs2⟩ := hs
      refine ⟨?_, r, hr, hs1, fr_tr (fJm f1') (fr_tr (fJm f2) (fKp hs2))⟩
      rw [(hs2 0 11 (by unfold sSM; omega)).1, m2.1.1, hKn]
    obtain ⟨a, τ', e1, ha, r, hr, hs1, hs2⟩ := mw
    have xw : wp (bd (fX7_makeTree N (nI q) (nI kd) 1 σ) (fun r s => some (r, s))) (fun a σ' => a = nI (n - 1) ∧ SX σ' q (aTree n kd (cIt n kd d K).1 (rkc (cIt n kd d K).1 (aK (cIt n kd d K).1)) r 1) ∧ fr (sSZ q) σ σ') := by
      rw [Xfront]
      refine wp_bd (wp_bd beginX (fun _ s1 h1 => ?_)) (fun a s h => wp_some h)
      rw [if_neg (by decide)]
      refine wp_bd (X_jc hk hdd hn hK hK1 hK2 h1.1 h1.2.1 hN) (fun _ s2 h2 => ?_)
      obtain ⟨R', c1, c2⟩ := h2
      exact tail g hKn c1 (fr_tr (fJn h1.2.2) (fJn c2)) hr (Or.inr ⟨rfl, fun k _ => rfl⟩)
    obtain ⟨b, σ', e2, hb, hx1, hx2⟩ := xw
    refine ⟨a, σ', τ', ?_, e1, h.S hq hx2 hs2 (Or.inr ⟨_, aTree_ok hk g hK1 hr (PO_rk g hr) (Or.inr rfl), hx1, hs1⟩)⟩
    rw [e2, hb, ha]
theorem J_greedy {σ τ : St} (h : Rel σ τ) (hN : 3000 ≤ N) (x y : Int32) : jt (fX7_greedy N x y σ) (fX8_greedy N x y τ) Rel := by
  have r := J_makes (N := N) (x := x) (y := y) h (ch := 0) (Or.inl rfl) hN
  rw [if_pos rfl] at r
  exact r
theorem J_chain {σ τ : St} (h : Rel σ τ) (hN : 3000 ≤ N) (x y : Int32) : jt (fX7_chain N x y σ) (fX8_chain N x y τ) Rel := by
  have r := J_makes (N := N) (x := x) (y := y) h (ch := 1) (Or.inr rfl) hN
  rw [if_neg (by decide)] at r
  exact r
end
