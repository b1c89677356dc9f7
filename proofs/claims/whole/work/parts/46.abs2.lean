/-! a join keeps what is known -/
section
variable {n kd : Nat} {d : Nat → Nat → Nat} {A : Aj} {C D s : Nat}
theorem I1.join (hI : I1 n A) (hC : C ∈ aF A) (hD : D ∈ aF A) (hne : C ≠ D) : I1 n (aJoin n kd d A C D s) := by
  obtain ⟨i1, i2, i3, i4, i5, i6, i7, i8⟩ := hI
  have hI : I1 n A := ⟨i1, i2, i3, i4, i5, i6, i7, i8⟩
  have l1 := rmv_len i3 hC
  have l2 := rmv_len (rmv_pw (c := C) i3) (rmv_mem.mpr ⟨hD, fun e => hne e.symm⟩)
  refine ⟨?_, i2, ?_, ?_, ?_, ?_, ?_, ?_⟩
  · show aK A + 1 + (rmv D (rmv C (aF A)) ++ [n + aK A]).length = n
    rw [List.length_append]; show aK A + 1 + (_ + 1) = n; omega
  · show List.Pairwise (· < ·) (rmv D (rmv C (aF A)) ++ [n + aK A])
    rw [List.pairwise_append]
    refine ⟨rmv_pw (rmv_pw i3), List.pairwise_singleton _ _, fun a ha b hb => ?_⟩
    rw [List.mem_singleton.mp hb]
    exact i4 a (rmv_mem.mp (rmv_mem.mp ha).1).1
  · intro c hc
    show c < n + (aK A + 1)
    rcases jF.mp hc with z | z
    · have := i4 c z.1; omega
    · omega
  · intro c hc
    rcases jF.mp hc with z | z
    · rw [jC_old (mem_lt hI z.1)]; exact i5 c z.1
    · subst z
      refine ⟨fun i hi => ?_, ?_⟩
      · rw [jC_new] at hi
        rcases (Bool.or_eq_true _ _ ▸ hi : _ ∨ _) with y | y
        · exact (i5 C hC).1 i y
        · exact (i5 D hD).1 i y
      · obtain ⟨i, hi⟩ := (i5 C hC).2
        exact ⟨i, by rw [jC_new, hi]; rfl⟩
  · have key : ∀ c, c ∈ aF A → c ≠ C → c ≠ D → dsj (bc A c) (bc (aJoin n kd d A C D s) (n + aK A)) := by
      intro c hc c1 c2 i z
      rw [jC_new] at z
      rcases (Bool.or_eq_true _ _ ▸ z.2 : _ ∨ _) with y | y
      · exact i6 c C hc hC c1 i ⟨z.1, y⟩
      · exact i6 c D hc hD c2 i ⟨z.1, y⟩
    intro c e hc he hce
    rcases jF.mp hc with z | z
    · rw [jC_old (mem_lt hI z.1)]
      rcases jF.mp he with y | y
      · rw [jC_old (mem_lt hI y.1)]; exact i6 c e z.1 y.1 hce
      · subst y; exact key c z.1 z.2.1 z.2.2
    · subst z
      rcases jF.mp he with y | y
      · rw [jC_old (c := e) (mem_lt hI y.1)]
        exact fun i w => key e y.1 y.2.1 y.2.2 i ⟨w.2, w.1⟩
      · exact absurd y.symm hce
  · intro i hi
    obtain ⟨c, hc, hb⟩ := i7 i hi
    by_cases c1 : c = C ∨ c = D
    · refine ⟨n + aK A, jF.mpr (Or.inr rfl), ?_⟩
      rw [jC_new]
      rcases c1 with rfl | rfl
      · rw [hb]; rfl
      · rw [hb]; simp
    · refine ⟨c, jF.mpr (Or.inl ⟨hc, fun z => c1 (Or.inl z), fun z => c1 (Or.inr z)⟩), ?_⟩
      rw [jC_old (mem_lt hI hc)]; exact hb
  · intro c hc i
    rw [jC_old (by omega)]; exact i8 c hc i
theorem sh_sp {c : Nat} (hc : c ≠ n + aK A) (h : sh (aJoin n kd d A C D s) c (n + aK A)) : sh A c C ∨ sh A c D := by
  obtain ⟨i, h1, h2⟩ := h
  rw [jC_old hc] at h1
  rw [jC_new] at h2
  rcases (Bool.or_eq_true _ _ ▸ h2 : _ ∨ _) with y | y
  · exact Or.inl ⟨i, h1, y⟩
  · exact Or.inr ⟨i, h1, y⟩
theorem sh_old {c e : Nat} (hc : c ≠ n + aK A) (he : e ≠ n + aK A) : sh (aJoin n kd d A C D s) c e ↔ sh A c e := by
  unfold sh
  rw [jC_old hc, jC_old he]
theorem jA_old {k : Nat} (hk : k ≠ aK A) : aA (aJoin n kd d A C D s) k = aA A k ∧ aB (aJoin n kd d A C D s) k = aB A k ∧ aT (aJoin n kd d A C D s) k = aT A k ∧ aO (aJoin n kd d A C D s) k = aO A k := ⟨if_neg hk, if_neg hk, if_neg hk, if_neg hk⟩
theorem jA_new : aA (aJoin n kd d A C D s) (aK A) = min C D ∧ aB (aJoin n kd d A C D s) (aK A) = max C D ∧ aT (aJoin n kd d A C D s) (aK A) = rT (uT n kd d A C D) (uB kd A C D) ∧ aO (aJoin n kd d A C D s) (aK A) = rB (uT n kd d A C D) (uB kd A C D) := ⟨if_pos rfl, if_pos rfl, if_pos rfl, if_pos rfl⟩
theorem sh_no (hI : I1 n A) (hC : C ∈ aF A) (hD : D ∈ aF A) {E : Nat} (hE : E ∈ aF A) (e1 : E ≠ C) (e2 : E ≠ D) : ¬ sh (aJoin n kd d A C D s) (n + aK A) E := by
  rintro ⟨i, h1, h2⟩
  rw [jC_old (c := E) (mem_lt hI hE)] at h2
  rw [jC_new] at h1
  rcases (Bool.or_eq_true _ _ ▸ h1 : _ ∨ _) with y | y
  · exact hI.2.2.2.2.2.1 E C hE hC e1 i ⟨h2, y⟩
  · exact hI.2.2.2.2.2.1 E D hE hD e2 i ⟨h2, y⟩
theorem I2.join (hI : I1 n A) (h2 : I2 n A) (hC : C ∈ aF A) (hD : D ∈ aF A) (hne : C ≠ D) : I2 n (aJoin n kd d A C D s) := by
  obtain ⟨j1, j2, j3, j4⟩ := h2
  have sub : ∀ k, k < aK A → sh (aJoin n kd d A C D s) (n + k) (n + aK A) → ∀ i, bc A (n + k) i = true → bc (aJoin n kd d A C D s) (n + aK A) i = true := by
    intro k hk hs i hi
    rw [jC_new]
    rcases sh_sp (by omega) hs with z | z
    · rw [j2 k C hk hC z i hi]; rfl
    · rw [j2 k D hk hD z i hi]; simp
  refine ⟨?_, ?_, ?_, ?_⟩
  · intro k hk
    have hk' : k < aK A + 1 := hk
    by_cases e : k = aK A
    · subst e
      rw [jA_new.1, jA_new.2.1]
      have lC := hI.2.2.2.1 C hC
      have lD := hI.2.2.2.1 D hD
      refine ⟨by omega, by omega, ?_⟩
      have e1 : bc (aJoin n kd d A C D s) (min C D) = bc A (min C D) := jC_old (by omega)
      have e2 : bc (aJoin n kd d A C D s) (max C D) = bc A (max C D) := jC_old (by omega)
      rw [e1, e2]
      have lt : ∀ i, bc (aJoin n kd d A C D s) (n + aK A) i = true → i < n := by
        intro i hi
        rw [jC_new] at hi
        rcases (Bool.or_eq_true _ _ ▸ hi : _ ∨ _) with y | y
        · exact (hI.2.2.2.2.1 C hC).1 i y
        · exact (hI.2.2.2.2.1 D hD).1 i y
      rcases Nat.lt_or_ge C D with z | z
      · rw [Nat.min_eq_left (by omega), Nat.max_eq_right (by omega)]
        exact ⟨fun i => jC_new i, hI.2.2.2.2.2.1 C D hC hD hne, hI.nem hC, hI.nem hD, lt⟩
      · rw [Nat.min_eq_right (by omega), Nat.max_eq_left (by omega)]
        exact ⟨fun i => by rw [jC_new, Bool.or_comm], hI.2.2.2.2.2.1 D C hD hC (fun z => hne z.symm), hI.nem hD, hI.nem hC, lt⟩
    · have hk2 : k < aK A := by omega
      obtain ⟨a1, a2, a3, a4, a5, a6, a7⟩ := j1 k hk2
      rw [(jA_old e).1, (jA_old e).2.1, jC_old (c := n + k) (by omega), jC_old (c := aA A k) (by omega), jC_old (c := aB A k) (by omega)]
      exact ⟨a1, a2, a3, a4, a5, a6, a7⟩
  · intro k c hk hc hs
    have hk' : k < aK A + 1 := hk
    by_cases e : k = aK A
    · subst e
      rcases jF.mp hc with z | z
      · exact absurd hs (sh_no hI hC hD z.1 z.2.1 z.2.2)
      · subst z; exact fun i hi => hi
    · have hk2 : k < aK A := by omega
      rw [jC_old (c := n + k) (by omega)]
      rcases jF.mp hc with z | z
      · rw [jC_old (c := c) (mem_lt hI z.1)]
        exact j2 k c hk2 z.1 ((sh_old (by omega) (mem_lt hI z.1)).mp hs)
      · subst z; exact sub k hk2 hs
  · intro a b hab hb hs
    have hb' : b < aK A + 1 := hb
    by_cases e : b = aK A
    · subst e
      rw [jC_old (c := n + a) (by omega)]
      exact sub a hab hs
    · rw [jC_old (c := n + a) (by omega), jC_old (c := n + b) (by omega)]
      exact j3 a b hab (by omega) ((sh_old (by omega) (by omega)).mp hs)
  · intro c i hc hi
    rcases jF.mp hc with z | z
    · rw [jC_old (mem_lt hI z.1)] at hi ⊢
      rw [jdp_old hI hC hD z.1 z.2.1 z.2.2 hi]
      exact j4 c i z.1 hi
    · subst z
      have ez := nz_or (P := bc (aJoin n kd d A C D s) (n + aK A)) (fun i => jC_new i) (hI.2.2.2.2.2.1 C D hC hD hne)
      rw [ez]
      rw [jC_new] at hi
      rw [jdp, if_pos hi]
      have z1 := nz_1 (hI.s20 hC) (hI.nem hC)
      have z2 := nz_1 (hI.s20 hD) (hI.nem hD)
      rcases (Bool.or_eq_true _ _ ▸ hi : _ ∨ _) with y | y
      · have := j4 C i hC y; omega
      · have := j4 D i hD y; omega
theorem I3.join (hk : kd < 5) (hd : DD d) (hI : I1 n A) (h2 : I2 n A) (h3 : I3 n kd d A) (hp : PC n kd d A C D) : I3 n kd d (aJoin n kd d A C D s) := by
  have hp' := hp
  obtain ⟨hC, hD, hne, hpc⟩ := hp'
  obtain ⟨t1, t2, t3, t4⟩ := h3
  have I1' : I1 n (aJoin n kd d A C D s) := hI.join hC hD hne
  have memN : (n + aK A) ∈ aF (aJoin n kd d A C D s) := jF.mpr (Or.inr rfl)
  have ubz := hI.ub (kd := kd) hC hD
  have tz := (t1 C D hC hD hne).1
  have bz := VT_bd (kd := kd) (dep := dpt n A) (P := bc A C) (Q := bc A D) hd.1 hd.2.1 hd.2.2
  have z12 : uT n kd d A C D ≤ 1000000000000 := by
    by_cases k4 : kd = 4
    · have := (t1 C D hC hD hne).2 k4
      unfold uT
      rw [VT_n3 (by omega)]
      show ((uC n kd d A C D : Nat) : Int) ≤ _
      omega
    · exact bz.2.2 k4
  -- new with old
  have newold : ∀ E, E ∈ aF A → E ≠ C → E ≠ D → 0 ≤ uT n kd d (aJoin n kd d A C D s) (n + aK A) E ∧ (kd = 4 → uC n kd d (aJoin n kd d A C D s) (n + aK A) E ≤ 524288000000) := by
    intro E hE e1 e2
    refine ⟨?_, fun k4 => ?_⟩
    · have := jRed (s := s) hk hd hI h2 hp hE e1 e2 (M := 0) (O := 1) (by have := (t1 C E hC hE (fun z => e1 z.symm)).1; simpa using this) (by have := (t1 D E hD hE (fun z => e2 z.symm)).1; simpa using this)
      simpa using this
    · rw [jC_join hk hI h2 hC hD hne hE e1 e2]
      subst k4
      have a1 := (t1 C E hC hE (fun z => e1 z.symm)).2 rfl
      have a2 := (t1 D E hD hE (fun z => e2 z.symm)).2 rfl
      show (_ + _) / 2 ≤ _
      omega
  -- heights below the new one's linkages
  have hz : ∀ k, k < aK A → sh A (n + k) C ∨ sh A (n + k) D → aT A k * uB kd A C D ≤ uT n kd d A C D * aO A k := by
    rintro k hk' (z | z)
    · exact t2 k C D hk' hC hD hne z
    · have := t2 k D C hk' hD hC (fun y => hne y.symm) z
      rwa [uT_sym hk hd hI hD hC, uB_sym (c := D) (e := C)] at this
  have monN : ∀ k E, k < aK A + 1 → E ∈ aF A → E ≠ C → E ≠ D → sh (aJoin n kd d A C D s) (n + k) (n + aK A) → aT (aJoin n kd d A C D s) k * uB kd (aJoin n kd d A C D s) (n + aK A) E ≤ uT n kd d (aJoin n kd d A C D s) (n + aK A) E * aO (aJoin n kd d A C D s) k := by
    intro k E hk' hE e1 e2 hs
    have z := hpc E hE e1 e2
    by_cases e : k = aK A
    · subst e
      rw [jA_new.2.2.1, jA_new.2.2.2]
      exact jRed hk hd hI h2 hp hE e1 e2 ((fl_red ubz.1).1.mp z.1) ((fl_red ubz.1).1.mp z.2)
    · have hk2 : k < aK A := by omega
      have zz := hz k hk2 (sh_sp (by omega) hs)
      rw [(jA_old e).2.2.1, (jA_old e).2.2.2]
      have o1 := (t3 k hk2).2.2.1
      exact jRed hk hd hI h2 hp hE e1 e2 (fl_trans ubz.1 zz z.1) (fl_trans ubz.1 zz z.2)
  refine ⟨?_, ?_, ?_, ?_⟩
  · intro c e hc he hce
    rcases jF.mp hc with z | z
    · rcases jF.mp he with y | y
      · have := jT_old (s := s) (kd := kd) (d := d) hI hC hD z.1 z.2.1 z.2.2 y.1 y.2.1 y.2.2
        rw [this.1, this.2.1]
        exact t1 c e z.1 y.1 hce
      · subst y
        have := newold c z.1 z.2.1 z.2.2
        rw [uT_sym hk hd I1' hc he]
        refine ⟨this.1, fun k4 => ?_⟩
        have sy : uC n kd d (aJoin n kd d A C D s) c (n + aK A) = uC n kd d (aJoin n kd d A C D s) (n + aK A) c := VC_sym hk hd.2.1 (I1'.s20 hc) (I1'.s20 he) (I1'.nem hc) (I1'.nem he)
        rw [sy]; exact this.2 k4
    · subst z
      rcases jF.mp he with y | y
      · exact newold e y.1 y.2.1 y.2.2
      · exact absurd y.symm hce
  · intro k c e hk' hc he hce hs
    have hk'' : k < aK A + 1 := hk'
    rcases jF.mp hc with z | z
    · have kne : k ≠ aK A := fun e => by
        subst e; exact sh_no hI hC hD z.1 z.2.1 z.2.2 hs
      have hk2 : k < aK A := by omega
      have hs' : sh A (n + k) c := (sh_old (by omega) (mem_lt hI z.1)).mp hs
      rw [(jA_old kne).2.2.1, (jA_old kne).2.2.2]
      rcases jF.mp he with y | y
      · have := jT_old (s := s) (kd := kd) (d := d) hI hC hD z.1 z.2.1 z.2.2 y.1 y.2.1 y.2.2
        rw [this.2.1, this.2.2]
        exact t2 k c e hk2 z.1 y.1 hce hs'
      · subst y
        rw [uT_sym hk hd I1' hc he, uB_sym (c := c)]
        have m1 := t2 k c C hk2 z.1 hC z.2.1 hs'
        have m2 := t2 k c D hk2 z.1 hD z.2.2 hs'
        rw [uT_sym hk hd hI z.1 hC, uB_sym (c := c)] at m1
        rw [uT_sym hk hd hI z.1 hD, uB_sym (c := c)] at m2
        exact jRed hk hd hI h2 hp z.1 z.2.1 z.2.2 m1 m2
    · subst z
      rcases jF.mp he with y | y
      · exact monN k e hk'' y.1 y.2.1 y.2.2 hs
      · exact absurd y.symm hce
  · intro k hk'
    have hk'' : k < aK A + 1 := hk'
    by_cases e : k = aK A
    · subst e
      rw [jA_new.2.2.1, jA_new.2.2.2]
      have r1 := rT_nn (B := uB kd A C D) ubz.1 tz
      have r2 := rT_ab (T := uT n kd d A C D) ubz.1
      have r3 := rB_pos (T := uT n kd d A C D) ubz.1
      have r4 := rB_le (T := uT n kd d A C D) (B := uB kd A C D)
      exact ⟨r1, by omega, r3, by omega, r_id ubz.1⟩
    · rw [(jA_old e).2.2.1, (jA_old e).2.2.2]; exact t3 k (by omega)
  · intro a b hab hb hs
    have hb' : b < aK A + 1 := hb
    rw [(jA_old (k := a) (by omega)).2.2.1, (jA_old (k := a) (by omega)).2.2.2]
    by_cases e : b = aK A
    · subst e
      rw [jA_new.2.2.1, jA_new.2.2.2]
      have zz := hz a hab (sh_sp (by omega) hs)
      exact (fl_red (T := uT n kd d A C D) (B := uB kd A C D) (U := aT A a) (X := aO A a) ubz.1).2.mp zz
    · rw [(jA_old (k := b) e).2.2.1, (jA_old (k := b) e).2.2.2]
      exact t4 a b hab (by omega) ((sh_old (by omega) (by omega)).mp hs)
theorem AI.join (hk : kd < 5) (hd : DD d) (h : AI n kd d A) (hp : PC n kd d A C D) : AI n kd d (aJoin n kd d A C D s) := ⟨h.1.join hp.1 hp.2.1 hp.2.2.1, h.2.1.join h.1 hp.1 hp.2.1 hp.2.2.1, h.2.2.join hk hd h.1 h.2.1 hp⟩
/-- the beginning -/
def aBeg (n : Nat) : Aj := (0, (fun c => (1 : Int32) <<< (nI c &&& 31)), List.range n, ((fun _ => 0), fun _ => 0), ((fun _ => 0), fun _ => 1), 0)
theorem beg_b {n c : Nat} (hc : c < 20) (i : Nat) : bc (aBeg n) c i = decide (i = c) := by
  show bt ((1 : Int32) <<< (nI c &&& 31)) i = _
  by_cases hi : i < 32
  · exact bt_one (by omega) hi
  · rw [b_big (by omega)]; exact (decide_eq_false (by omega)).symm
theorem nz_one {P : Nat → Bool} {c : Nat} (hc : c < 20) (h : ∀ i, P i = decide (i = c)) : nz P = 1 := by
  unfold nz
  have : P = fun i => decide (i = c) := funext h
  rw [this, pcp_one, if_pos hc]
theorem SI_one {P : Nat → Bool} {c : Nat} (hc : c < 20) (hd : DD d) (h : ∀ i, P i = decide (i = c)) : SI d P = 0 := by
  have e := SI_2 (P := P) hd.2.1 hd.2.2
  rw [SS_one hc hc h h, hd.2.2] at e
  omega
theorem beg_V {a b : Nat} {P Q : Nat → Bool} (hk : kd < 5) (hd : DD d) (ha : a < 20) (hb : b < 20) (hP : ∀ i, P i = decide (i = a)) (hQ : ∀ i, Q i = decide (i = b)) : VC kd d (fun _ => 0) P Q = (if kd = 4 then d a b * 262144 else d a b) ∧ VT kd d (fun _ => 0) P Q = (if kd = 3 then 2 * (d a b : Int) else if kd = 4 then (d a b : Int) * 262144 else (d a b : Int)) := by
  have sP : s20 P := fun i hi => by rw [hP] at hi; have := of_decide_eq_true hi; omega
  have sQ : s20 Q := fun i hi => by rw [hQ] at hi; have := of_decide_eq_true hi; omega
  have nP : nem P := ⟨a, by rw [hP]; exact decide_eq_true rfl⟩
  have nQ : nem Q := ⟨b, by rw [hQ]; exact decide_eq_true rfl⟩
  have e1 : VC kd d (fun _ => 0) P Q = (if kd = 4 then d a b * 262144 else d a b) := by
    rcases (show (kd = 0 ∨ kd = 1) ∨ (kd = 2 ∨ kd = 3) ∨ kd = 4 by omega) with h | h | rfl
    · rw [if_neg (by omega)]
      exact isE_u (VC_E h sP sQ nP nQ) (isE_one hP hQ)
    · rw [if_neg (by omega), VC_s h, SS_one ha hb hP hQ]
    · rw [if_pos rfl, VC_4, SS_one ha hb hP hQ]; rfl
  refine ⟨e1, ?_⟩
  unfold VT
  rw [e1]
  by_cases h3 : kd = 3
  · rw [if_pos h3, if_pos h3, nz_one ha hP, nz_one hb hQ, SI_one ha hd hP, SI_one hb hd hQ, SS_one ha hb hP hQ]
    omega
  · rw [if_neg h3, if_neg h3]
    split <;> simp
theorem AI_beg (hk : kd < 5) (hd : DD d) (hn : n ≤ 20) : AI n kd d (aBeg n) := by
  have mem : ∀ c, c ∈ aF (aBeg n) ↔ c < n := fun c => List.mem_range
  have no : ∀ k, ¬ k < aK (aBeg n) := fun k => Nat.not_lt_zero k
  refine ⟨⟨?_, hn, List.pairwise_lt_range, fun c hc => by have := (mem c).mp hc; omega, fun c hc => ?_, fun c e hc he hne i z => ?_, fun i hi => ⟨i, (mem i).mpr hi, ?_⟩, fun c hc i => beg_b (by omega) i⟩, ⟨fun k hk => absurd hk (no k), fun k c hk => absurd hk (no k), fun a b _ hb => absurd hb (no b), fun c i hc hi => ?_⟩, ⟨fun c e hc he hne => ?_, fun k c e hk => absurd hk (no k), fun k hk => absurd hk (no k), fun a b _ hb => absurd hb (no b)⟩⟩
  · show 0 + (List.range n).length = n; rw [List.length_range]; omega
  · have := (mem c).mp hc
    refine ⟨fun i hi => ?_, ⟨c, by rw [beg_b (by omega)]; exact decide_eq_true rfl⟩⟩
    rw [beg_b (by omega)] at hi
    have := of_decide_eq_true hi; omega
  · have h1 := (mem c).mp hc
    have h2 := (mem e).mp he
    rw [beg_b (by omega), beg_b (by omega)] at z
    have := of_decide_eq_true z.1
    have := of_decide_eq_true z.2
    omega
  · rw [beg_b (by omega)]; exact decide_eq_true rfl
  · have h1 := (mem c).mp hc
    rw [nz_one (c := c) (by omega) (fun i => beg_b (by omega) i)]
    exact Nat.le_refl 1
  · have h1 := (mem c).mp hc
    have h2 := (mem e).mp he
    have v := beg_V (kd := kd) hk hd (show c < 20 by omega) (show e < 20 by omega) (fun i => beg_b (n := n) (by omega) i) (fun i => beg_b (n := n) (by omega) i)
    have ed : dpt n (aBeg n) = fun _ => 0 := rfl
    unfold uT uC
    rw [ed, v.1, v.2]
    have := hd.1 c e
    refine ⟨?_, fun k4 => ?_⟩
    · split
      · omega
      · split <;> omega
    · rw [if_pos k4]; omega
end
