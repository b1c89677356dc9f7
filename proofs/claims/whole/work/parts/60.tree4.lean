/-! the tree that is kept -/
section
variable {N n kd : Nat} {d : Nat → Nat → Nat} {A : Aj} {rk r : Nat → Nat} {ch : Int32}
def ren (n : Nat) (rk : Nat → Nat) (c : Nat) : Nat := if c < n then c else n + rk (c - n)
def aTree (n kd : Nat) (A : Aj) (rk r : Nat → Nat) (ch : Int32) : Td := (n, (nI kd, ch, nI (aS A)), ((fun p => min (ren n rk (aA A (r p))) (ren n rk (aB A (r p)))), (fun p => max (ren n rk (aA A (r p))) (ren n rk (aB A (r p)))), fun p => aC A (n + r p)), ((fun p => lZ (aT A (r p))), fun p => lN (aO A (r p))), fun _ => 0)
/-- places of steps -/
def PR (M : Nat) (rk r : Nat → Nat) : Prop := (∀ k, k < M → rk k < M ∧ r (rk k) = k) ∧ ∀ p, p < M → r p < M ∧ rk (r p) = p
def PO (n : Nat) (A : Aj) (rk r : Nat → Nat) : Prop := (∀ p q, p ≤ q → q < aK A → aT A (r p) * aO A (r q) ≤ aT A (r q) * aO A (r p)) ∧ ∀ a b, a < b → b < aK A → sh A (n + a) (n + b) → rk a < rk b
theorem cbt_ren (hI : I1 n A) (hM : aK A = n - 1) (hp : PR (aK A) rk r) {c : Nat} (hc : c < n + aK A) (i : Nat) : cbt (aTree n kd A rk r ch) (ren n rk c) i = bc A c i := by
  unfold cbt ren
  show (if (if c < n then c else n + rk (c - n)) < n then decide (i = (if c < n then c else n + rk (c - n))) else bt (aC A (n + r ((if c < n then c else n + rk (c - n)) - n))) i) = _
  by_cases h : c < n
  · rw [if_pos h, if_pos h]; exact (hI.2.2.2.2.2.2.2 c h i).symm
  · rw [if_neg h, if_neg (by omega), Nat.add_sub_cancel_left, (hp.1 (c - n) (by omega)).2, show n + (c - n) = c by omega]
theorem aTree_ok (hk : kd < 5) (hA : AI n kd d A) (hL : (aF A).length ≤ 1) (hp : PR (aK A) rk r) (ho : PO n A rk r) (hch : ch = 0 ∨ ch = 1) : TP (aTree n kd A rk r ch) := by
  obtain ⟨hI, h2, h3⟩ := hA
  have hn := hI.2.1
  have ln := hI.1
  have hM : aK A = n - 1 := by
    rcases Nat.eq_zero_or_pos n with z | z
    · omega
    · obtain ⟨c, hc, -⟩ := hI.2.2.2.2.2.2.1 0 z
      have := List.length_pos_of_mem hc
      omega
  have rl : ∀ p, p + 1 < n → r p < aK A ∧ rk (r p) = p := fun p hp' => hp.2 p (by omega)
  -- children stand ahead
  have chl : ∀ k c, k < aK A → c < n + k → nem (bc A c) → (∀ i, bc A c i = true → bc A (n + k) i = true) → ren n rk c < n + rk k := by
    intro k c hk' hc hne hsub
    unfold ren
    by_cases h : c < n
    · rw [if_pos h]; omega
    · rw [if_neg h]
      obtain ⟨i, hi⟩ := hne
      have e : n + (c - n) = c := by omega
      have := ho.2 (c - n) k (by omega) hk' ⟨i, by rw [e]; exact hi, hsub i hi⟩
      omega
  refine ⟨⟨hn, hch, fun i => by show 0 < 20; omega⟩, ?_, ?_, ?_, ?_, ?_⟩
  · intro p hp'
    have hp' : p + 1 < n := hp'
    have hr := rl p hp'
    obtain ⟨a1, a2, a3, a4, a5, a6, a7⟩ := h2.1 (r p) hr.1
    have cA := cbt_ren (kd := kd) (ch := ch) hI hM hp (c := aA A (r p)) (by omega)
    have cB := cbt_ren (kd := kd) (ch := ch) hI hM hp (c := aB A (r p)) (by omega)
    have lA := chl (r p) (aA A (r p)) hr.1 (by omega) a5 (fun i hi => by rw [a3 i, hi]; rfl)
    have lB := chl (r p) (aB A (r p)) hr.1 (by omega) a6 (fun i hi => by rw [a3 i, hi]; simp)
    rw [hr.2] at lA lB
    show min (ren n rk (aA A (r p))) (ren n rk (aB A (r p))) < n + p ∧ max (ren n rk (aA A (r p))) (ren n rk (aB A (r p))) < n + p ∧ (∀ i, bt (aC A (n + r p)) i = (cbt (aTree n kd A rk r ch) (min (ren n rk (aA A (r p))) (ren n rk (aB A (r p)))) i || cbt (aTree n kd A rk r ch) (max (ren n rk (aA A (r p))) (ren n rk (aB A (r p)))) i)) ∧ (∀ i, ¬ (cbt (aTree n kd A rk r ch) (min (ren n rk (aA A (r p))) (ren n rk (aB A (r p)))) i = true ∧ cbt (aTree n kd A rk r ch) (max (ren n rk (aA A (r p))) (ren n rk (aB A (r p)))) i = true)) ∧ (∃ i, cbt (aTree n kd A rk r ch) (min (ren n rk (aA A (r p))) (ren n rk (aB A (r p)))) i = true) ∧ (∃ i, cbt (aTree n kd A rk r ch) (max (ren n rk (aA A (r p))) (ren n rk (aB A (r p)))) i = true) ∧ ∀ i, bt (aC A (n + r p)) i = true → i < n
    refine ⟨by omega, by omega, ?_⟩
    rcases Nat.le_total (ren n rk (aA A (r p))) (ren n rk (aB A (r p))) with z | z
    · rw [Nat.min_eq_left z, Nat.max_eq_right z]
      simp only [cA, cB]
      exact ⟨a3, a4, a5, a6, a7⟩
    · rw [Nat.min_eq_right z, Nat.max_eq_left z]
      simp only [cA, cB]
      exact ⟨fun i => (a3 i).trans (Bool.or_comm _ _), fun i w => a4 i ⟨w.2, w.1⟩, a6, a5, a7⟩
  · intro p hp'
    have hr := rl p hp'
    have t := h3.2.2.1 (r p) hr.1
    show 0 ≤ (lZ (aT A (r p))).toInt ∧ (lZ (aT A (r p))).toInt ≤ 1000000000000 ∧ 1 ≤ (lN (aO A (r p))).toInt ∧ (lN (aO A (r p))).toInt ≤ 262144
    rw [lZ_T (by omega) (by omega), pk_lT (by omega)]
    omega
  · intro a b hab hb
    have hb : b + 1 < n := hb
    have ra := rl a (by omega)
    have rb := rl b hb
    have t1 := h3.2.2.1 (r a) ra.1
    have t2 := h3.2.2.1 (r b) rb.1
    show (lZ (aT A (r a))).toInt * (lN (aO A (r b))).toInt ≤ (lZ (aT A (r b))).toInt * (lN (aO A (r a))).toInt
    rw [lZ_T (by omega) (by omega), pk_lT (by omega), lZ_T (by omega) (by omega), pk_lT (by omega)]
    exact ho.1 a b hab (by omega)
  · intro a b hab hb i hi1 hi2
    have hb : b + 1 < n := hb
    have ra := rl a (by omega)
    have rb := rl b hb
    have hs : sh A (n + r a) (n + r b) := ⟨i, hi1, hi2⟩
    have hs2 : sh A (n + r b) (n + r a) := ⟨i, hi2, hi1⟩
    rcases Nat.lt_trichotomy (r a) (r b) with z | z | z
    · exact h2.2.2.1 (r a) (r b) z rb.1 hs
    · have : a = b := by rw [← ra.2, ← rb.2, z]
      omega
    · have := ho.2 (r b) (r a) z ra.1 hs2
      omega
  · intro h2n i hi
    have h2n : 2 ≤ n := h2n
    have hi : i < n := hi
    obtain ⟨c, hc, h0⟩ := hI.2.2.2.2.2.2.1 0 (by omega)
    have one : ∀ e, e ∈ aF A → e = c := by
      intro e he
      have hl := List.length_pos_of_mem hc
      obtain ⟨p, hp1, rfl⟩ := gD_ex he
      obtain ⟨q, hq1, rfl⟩ := gD_ex hc
      have : p = q := by omega
      rw [this]
    have all : ∀ j, j < n → bc A c j = true := fun j hj => by
      obtain ⟨e, he, hb⟩ := hI.2.2.2.2.2.2.1 j hj
      rw [one e he] at hb; exact hb
    have cn : n ≤ c := by
      rcases Nat.lt_or_ge c n with z | z
      · have e1 := all 0 (by omega)
        have e2 := all 1 (by omega)
        rw [hI.2.2.2.2.2.2.2 c z] at e1 e2
        have := of_decide_eq_true e1
        have := of_decide_eq_true e2
        omega
      · exact z
    have clt := hI.2.2.2.1 c hc
    have rp := rl (n - 2) (by omega)
    show bt (aC A (n + r (n - 2))) i = true
    have ec : n + (c - n) = c := by omega
    obtain ⟨j, hj⟩ : nem (bc A (n + r (n - 2))) := by
      obtain ⟨a1, a2, a3, a4, a5, a6, a7⟩ := h2.1 _ rp.1
      obtain ⟨j, hj⟩ := a5
      exact ⟨j, by rw [a3 j, hj]; rfl⟩
    have hjn := (h2.1 _ rp.1).2.2.2.2.2.2 j hj
    rcases Nat.lt_trichotomy (r (n - 2)) (c - n) with z | z | z
    · have s1 : sh A (n + r (n - 2)) (n + (c - n)) := ⟨j, hj, by rw [ec]; exact all j hjn⟩
      have := ho.2 _ _ z (by omega) s1
      have := (hp.1 (c - n) (by omega)).1
      omega
    · rw [z, ec]; exact all i hi
    · have s1 : sh A (n + (c - n)) (n + r (n - 2)) := ⟨j, by rw [ec]; exact all j hjn, hj⟩
      exact h2.2.2.1 _ _ z rp.1 s1 i (by rw [ec]; exact all i hi)
/-- steps as they stand -/
theorem PR_id {M : Nat} : PR M id id := ⟨fun k hk => ⟨hk, rfl⟩, fun p hp => ⟨hp, rfl⟩⟩
theorem PO_id (hG : GS n kd d A) : PO n A id id := ⟨fun p q hpq hq => hG.2 p q hpq hq, fun a b hab _ _ => hab⟩
/-- steps by heights -/
def ahd (A : Aj) (j k : Nat) : Prop := aT A j * aO A k < aT A k * aO A j ∨ (aT A j * aO A k = aT A k * aO A j ∧ j < k)
noncomputable def ahd_dec (A : Aj) (j k : Nat) : Decidable (ahd A j k) := Classical.propDecidable _
noncomputable def rkc (A : Aj) (m k : Nat) : Nat := pcp (fun j => @decide (ahd A j k) (ahd_dec A j k)) m
theorem ahd_ir {k : Nat} : ¬ ahd A k k := by unfold ahd; omega
theorem ahd_tot {j k : Nat} (h : j ≠ k) : ahd A j k ∨ ahd A k j := by unfold ahd; omega
theorem ahd_as {j k : Nat} (h : ahd A j k) (h2 : ahd A k j) : False := by unfold ahd at *; omega
theorem ahd_tr {a b c : Nat} (h1 : 1 ≤ aO A a) (h2 : 1 ≤ aO A b) (h3 : 1 ≤ aO A c) (hab : ahd A a b) (hbc : ahd A b c) : ahd A a c := by
  have le1 : aT A a * aO A b ≤ aT A b * aO A a := by unfold ahd at hab; omega
  have le2 : aT A b * aO A c ≤ aT A c * aO A b := by unfold ahd at hbc; omega
  have le3 := fl_trans (T := aT A a) (U := aT A b) (V := aT A c) (B := aO A a) (C := aO A b) (E := aO A c) h2 le1 le2
  rcases (show aT A a * aO A c < aT A c * aO A a ∨ aT A a * aO A c = aT A c * aO A a by omega) with z | z
  · exact Or.inl z
  · have g1 := fl_trans (T := aT A c) (U := aT A a) (V := aT A b) (B := aO A c) (C := aO A a) (E := aO A b) h1 (by omega) le1
    have g2 := fl_trans (T := aT A b) (U := aT A c) (V := aT A a) (B := aO A b) (C := aO A c) (E := aO A a) h3 le2 (by omega)
    refine Or.inr ⟨z, ?_⟩
    unfold ahd at hab hbc
    omega
theorem pcp_mono {P Q : Nat → Bool} (h : ∀ i, P i = true → Q i = true) : ∀ k, pcp P k ≤ pcp Q k
  | 0 => Nat.le_refl _
  | k + 1 => by
    have ih := pcp_mono h k
    show pcp P k + (if P k = true then 1 else 0) ≤ pcp Q k + (if Q k = true then 1 else 0)
    by_cases e : P k = true
    · rw [if_pos e, if_pos (h k e)]; omega
    · rw [if_neg e]; omega
theorem pcp_lt {P Q : Nat → Bool} (h : ∀ i, P i = true → Q i = true) {j : Nat} (h1 : Q j = true) (h2 : ¬ P j = true) : ∀ k, j < k → pcp P k < pcp Q k
  | 0, hj => absurd hj (Nat.not_lt_zero _)
  | k + 1, hj => by
    show pcp P k + (if P k = true then 1 else 0) < pcp Q k + (if Q k = true then 1 else 0)
    by_cases e : j = k
    · subst e
      have := pcp_mono h j
      rw [if_neg h2, if_pos h1]; omega
    · have ih := pcp_lt h h1 h2 k (by omega)
      by_cases e : P k = true
      · rw [if_pos e, if_pos (h k e)]; omega
      · rw [if_neg e]; omega
theorem pcp_con {P Q : Nat → Bool} : ∀ k, (∀ i, i < k → P i = Q i) → pcp P k = pcp Q k
  | 0, _ => rfl
  | k + 1, h => by
    show pcp P k + (if P k = true then 1 else 0) = pcp Q k + (if Q k = true then 1 else 0)
    rw [pcp_con k (fun i hi => h i (by omega)), h k (by omega)]
theorem dec_iff {p : Prop} (i : Decidable p) : @decide p i = true ↔ p := ⟨fun h => of_decide_eq_true h, fun h => decide_eq_true h⟩
theorem rkc_mono (ho : ∀ k, k < aK A → 1 ≤ aO A k) {m a b : Nat} (hm : m ≤ aK A) (ha : a < m) (hb : b < m) (h : ahd A a b) : rkc A m a < rkc A m b := by
  unfold rkc
  have hle : ∀ i, i < m → @decide (ahd A i a) (ahd_dec A i a) = true → @decide (ahd A i b) (ahd_dec A i b) = true := fun i hi hia => (dec_iff _).mpr (ahd_tr (ho i (by omega)) (ho a (by omega)) (ho b (by omega)) ((dec_iff _).mp hia) h)
  have e1 : pcp (fun j => @decide (ahd A j a) (ahd_dec A j a)) m = pcp (fun j => decide (j < m) && @decide (ahd A j a) (ahd_dec A j a)) m := pcp_con m (fun i hi => by simp [hi])
  rw [e1]
  refine pcp_lt (fun i hi => ?_) (j := a) ((dec_iff _).mpr h) (fun z => ?_) m ha
  · have z := (Bool.and_eq_true _ _ ▸ hi : _ ∧ _)
    exact hle i (of_decide_eq_true z.1) z.2
  · have z := (Bool.and_eq_true _ _ ▸ z : _ ∧ _)
    exact ahd_ir ((dec_iff _).mp z.2)
theorem rkc_s {m k : Nat} : rkc A (m + 1) k = rkc A m k + (if @decide (ahd A m k) (ahd_dec A m k) = true then 1 else 0) := rfl
/-- heights by places; inner ones ahead of outer ones -/
theorem PO_rk (hA : AI n kd d A) {r : Nat → Nat} (hp : PR (aK A) (rkc A (aK A)) r) : PO n A (rkc A (aK A)) r := by
  have ho : ∀ k, k < aK A → 1 ≤ aO A k := fun k hk => (hA.2.2.2.2.1 k hk).2.2.1
  refine ⟨fun p q hpq hq => ?_, fun a b hab hb hs => ?_⟩
  · by_cases e : p = q
    · rw [e]; exact Int.le_refl _
    · have rp := hp.2 p (by omega)
      have rq := hp.2 q hq
      have hne : r p ≠ r q := fun z => e (by rw [← rp.2, ← rq.2, z])
      rcases ahd_tot (A := A) hne with z | z
      · unfold ahd at z; omega
      · have := rkc_mono ho (Nat.le_refl _) rq.1 rp.1 z
        rw [rp.2, rq.2] at this
        omega
  · refine rkc_mono ho (Nat.le_refl _) (by omega) hb ?_
    have := hA.2.2.2.2.2 a b hab hb hs
    unfold ahd; omega
end
