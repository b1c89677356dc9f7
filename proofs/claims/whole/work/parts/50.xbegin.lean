/-! the class begins; the reference begins -/
theorem vb0 : vp_nar .boolean (0 : Int32) = 0 := by decide +kernel
theorem vb1 : vp_nar .boolean (1 : Int32) = 1 := by decide +kernel
section
variable {N n kd : Nat} {d : Nat → Nat → Nat} {px py : Nat → Int32}
theorem DOK.dd (h : DOK n d px py) : DD d := ⟨fun i j => (h.2.1 i j).1, fun i j => (h.2.1 i j).2, h.2.2.1⟩
theorem X_cop {σ : St} {v : Nat} (hk : kd < 5) (hv : v ≤ 2000000) : fX2_coreOfPoints N (nI kd) (nI v) σ = some (lN (if kd = 4 then v * 262144 else v), σ) := by
  unfold fX2_coreOfPoints
  by_cases k4 : kd = 4
  · rw [if_pos (by rw [k4]; rfl), if_pos k4, nI_l (by omega)]
    show some (lN v * lN 262144, σ) = _
    rw [lN_mul]
  · rw [if_neg (show ¬ nI kd = (4 : Int32) from fun z => k4 ((nI_eq (b := 4) (by omega) (by omega)).mp z)), if_neg k4, nI_l (by omega)]
theorem beg_dp : dpt n (aBeg n) = fun _ => 0 := rfl
theorem X_begin87 {σ0 : St} (hk : kd < 5) (hd : DOK n d px py) (hP : PX σ0 n d px py) (h0 : σ0.1 11 0 = nI n) (h1 : σ0.1 11 1 = nI kd) (h15 : ∀ z, z < n → σ0.1 15 z = (1 : Int32) <<< (nI z &&& 31)) (h16 : ∀ z, z < n → σ0.2 16 z = lN 0) (hN : 3000 ≤ N) : wp (fX1_begin_87 N N 1 σ0) (fun _ σ' => fr sCo σ0 σ' ∧ ∀ a b, b < a → a < n → lks σ' n kd d (aBeg n) a b a b ∧ lks σ' n kd d (aBeg n) b a a b) := by
  have hn := hd.1
  have hdd := hd.dd
  have mask : ∀ z, z < 20 → aC (aBeg n) z = (1 : Int32) <<< (nI z &&& 31) := fun z _ => rfl
  have key : ∀ m i τ, i ≤ (if n = 0 then 1 else n) → (if n = 0 then 1 else n) - i < m → (1 ≤ i ∧ fr sCo σ0 τ ∧ ∀ a b, b < a → a < i → a < n → lks τ n kd d (aBeg n) a b a b ∧ lks τ n kd d (aBeg n) b a a b) → wp (fX1_begin_87 N m (nI i) τ) (fun _ σ' => fr sCo σ0 σ' ∧ ∀ a b, b < a → a < n → lks σ' n kd d (aBeg n) a b a b ∧ lks σ' n kd d (aBeg n) b a a b) := by
    refine loop_i (fun m i τ => wp (fX1_begin_87 N m (nI i) τ) _) (fun i τ => 1 ≤ i ∧ fr sCo σ0 τ ∧ ∀ a b, b < a → a < i → a < n → lks τ n kd d (aBeg n) a b a b ∧ lks τ n kd d (aBeg n) b a a b) (if n = 0 then 1 else n) ?_ ?_
    · intro m τ h
      rw [fX1_begin_87, (h.2.1 11 0 (by unfold sCo; omega)).1, h0]
      refine wp_t (nI_le (by split <;> omega) (by split <;> omega)) (wp_some ⟨h.2.1, fun a b hb ha => h.2.2 a b hb (by split <;> omega) ha⟩)
    · intro m i τ hi h ih
      have hin : i < n := by
        by_cases e : n = 0
        · rw [if_pos e] at hi; omega
        · rw [if_neg e] at hi; exact hi
      rw [fX1_begin_87, (h.2.1 11 0 (by unfold sCo; omega)).1, h0]
      refine wp_f (nI_ge hin (by omega)) ?_
      have inner : ∀ m2 j ρ, j ≤ i → i - j < m2 → (fr sCo σ0 ρ ∧ ∀ a b, b < a → (a < i ∨ (a = i ∧ b < j)) → a < n → lks ρ n kd d (aBeg n) a b a b ∧ lks ρ n kd d (aBeg n) b a a b) → wp (fX1_begin_98 N (fX1_begin_87 N m) m2 (nI i) (nI j) ρ) (fun _ σ' => fr sCo σ0 σ' ∧ ∀ a b, b < a → a < n → lks σ' n kd d (aBeg n) a b a b ∧ lks σ' n kd d (aBeg n) b a a b) := by
        refine loop_i (fun m2 j ρ => wp (fX1_begin_98 N (fX1_begin_87 N m) m2 (nI i) (nI j) ρ) _) (fun j ρ => fr sCo σ0 ρ ∧ ∀ a b, b < a → (a < i ∨ (a = i ∧ b < j)) → a < n → lks ρ n kd d (aBeg n) a b a b ∧ lks ρ n kd d (aBeg n) b a a b) i ?_ ?_
        · intro m2 ρ hp
          rw [fX1_begin_98]
          refine wp_t (nI_le (Nat.le_refl i) (by omega)) (wp_nx ?_)
          show wp (fX1_begin_87 N m (nI i + 1) ρ) _
          rw [nI_1]
          exact ih ρ ⟨by omega, hp.1, fun a b hb ha hn => hp.2 a b hb (by omega) hn⟩
        · intro m2 j ρ hj hp ih2
          rw [fX1_begin_98]
          refine wp_f (nI_ge hj (by omega)) (wp_gd (ibn (by omega) (by decide)) (wp_gd (ibn (by omega) (by decide)) ?_))
          have rI : ∀ c k, c < 80 → ρ.1 c k = σ0.1 c k := fun c k hc => (hp.1 c k (by unfold sCo; omega)).1
          have rJ : ∀ c k, c < 80 → ρ.2 c k = σ0.2 c k := fun c k hc => (hp.1 c k (by unfold sCo; omega)).2
          rw [cl i (by omega), cl j (by omega), Nat.one_mul, rI 11 1 (by omega), h1, rI (60 + i) j (by omega), hP.2.1 i j (by omega) (by omega), X_cop hk (hdd.1 i j), bd_s]
          have bV := beg_V (kd := kd) hk hdd (show i < 20 by omega) (show j < 20 by omega) (fun z => beg_b (n := n) (c := i) (by omega) z) (fun z => beg_b (n := n) (c := j) (by omega) z)
          have sm : ∀ c, c < 20 → ∀ z, bt (aC (aBeg n) c) z = true → z < 20 := fun c hc z hz => by
            have e := beg_b (n := n) (c := c) hc z
            rw [show bt (aC (aBeg n) c) z = bc (aBeg n) c z from rfl, e] at hz
            have := of_decide_eq_true hz
            omega
          have si : ∀ c, c < 20 → SI d (bt (aC (aBeg n) c)) = 0 := fun c hc => SI_one hc hdd (fun z => beg_b (n := n) hc z)
          have sc := X_sc (N := N) (σ := ρ) (p := i) (r := j) (kd := kd) (v := if kd = 4 then d i j * 262144 else d i j) (x := aC (aBeg n) i) (y := aC (aBeg n) j) (d := d) (dep := dpt n (aBeg n)) (by omega) (by omega) (by rw [rI 15 i (by omega)]; exact h15 i (by omega)) (by rw [rI 15 j (by omega)]; exact h15 j (by omega)) (sm i (by omega)) (sm j (by omega)) (by rw [rI 11 1 (by omega)]; exact h1) hk (by rw [beg_dp]; exact bV.1.symm) (fun _ => ⟨by rw [rJ 16 i (by omega), h16 i (by omega), si i (by omega)], by rw [rJ 16 j (by omega), h16 j (by omega), si j (by omega)]⟩)
          rw [sc, bd_s]
          refine wp_nx ?_
          show wp (fX1_begin_98 N (fX1_begin_87 N m) m2 (nI i) (nI j + 1) _) _
          rw [nI_1]
          have ev : (if kd = 4 then d i j * 262144 else d i j) = uC n kd d (aBeg n) i j := by unfold uC; rw [beg_dp]; exact bV.1.symm
          rw [ev]
          refine ih2 _ ⟨fr_tr hp.1 wc_fr, fun a b hb hc hn' => ?_⟩
          by_cases e : a = i ∧ b = j
          · obtain ⟨rfl, rfl⟩ := e
            have w1 := wc_rd (σ := ρ) (p := a) (r := b) (x := a) (y := b) (v := lN (uC n kd d (aBeg n) a b)) (t := lZ (uT n kd d (aBeg n) a b)) (b := lN (uB kd (aBeg n) a b)) (by omega) (by omega) (by omega)
            have w2 := wc_rd (σ := ρ) (p := a) (r := b) (x := b) (y := a) (v := lN (uC n kd d (aBeg n) a b)) (t := lZ (uT n kd d (aBeg n) a b)) (b := lN (uB kd (aBeg n) a b)) (by omega) (by omega) (by omega)
            rw [if_pos (Or.inl ⟨rfl, rfl⟩), if_pos (Or.inl ⟨rfl, rfl⟩), if_pos (Or.inl ⟨rfl, rfl⟩)] at w1
            rw [if_pos (Or.inr ⟨rfl, rfl⟩), if_pos (Or.inr ⟨rfl, rfl⟩), if_pos (Or.inr ⟨rfl, rfl⟩)] at w2
            exact ⟨w1, w2⟩
          · have old := hp.2 a b hb (by omega) hn'
            have w1 := fun v t b' => wc_no (σ := ρ) (p := i) (r := j) (x := a) (y := b) (v := v) (t := t) (b := b') (by omega) (by omega) (by omega) (by omega)
            have w2 := fun v t b' => wc_no (σ := ρ) (p := i) (r := j) (x := b) (y := a) (v := v) (t := t) (b := b') (by omega) (by omega) (by omega) (by omega)
            exact ⟨⟨(w1 _ _ _).1.trans old.1.1, (w1 _ _ _).2.1.trans old.1.2.1, (w1 _ _ _).2.2.trans old.1.2.2⟩, ⟨(w2 _ _ _).1.trans old.2.1, (w2 _ _ _).2.1.trans old.2.2.1, (w2 _ _ _).2.2.trans old.2.2.2⟩⟩
      exact inner N 0 τ (by omega) (by omega) ⟨h.2.1, fun a b hb hc hn => h.2.2 a b hb (by omega) hn⟩
  exact key N 1 σ0 (by split <;> omega) (by split <;> omega) ⟨Nat.le_refl 1, fr_rf, fun a b hb ha => by omega⟩
theorem X_begin {σ : St} (hk : kd < 5) (hd : DOK n d px py) (hP : PX σ n d px py) (hN : 3000 ≤ N) : wp (fX1_begin N (nI kd) σ) (fun _ σ' => CX σ' n kd d (aBeg n) id ∧ σ'.1 11 14 = 0 ∧ fr sJn σ σ') := by
  have hn := hd.1
  have hdd := hd.dd
  unfold fX1_begin
  refine wp_nx (wp_nx (wp_nx (wp_nx (wp_nx (wp_nx ?_)))))
  rw [hP.1]
  have e110 : (sI (sI (sI (sI σ 11 0 (nI n)) 11 1 (nI kd)) 11 2 0) 22 0 0).1 11 0 = nI n := by
    rw [sI_of (by omega), sI_of (by omega), sI_of (by omega)]; exact sI_at
  rw [e110]
  generalize hs6 : sI (sI (sI (sI (sI (sI σ 11 0 (nI n)) 11 1 (nI kd)) 11 2 0) 22 0 0) 11 6 (nI n)) 11 14 0 = s6
  have r0 : s6.1 11 0 = nI n := by rw [← hs6, sI_of (by omega), sI_of (by omega), sI_of (by omega), sI_of (by omega), sI_of (by omega)]; exact sI_at
  have r1 : s6.1 11 1 = nI kd := by rw [← hs6, sI_of (by omega), sI_of (by omega), sI_of (by omega), sI_of (by omega)]; exact sI_at
  have r2 : s6.1 11 2 = 0 := by rw [← hs6, sI_of (by omega), sI_of (by omega), sI_of (by omega)]; exact sI_at
  have r22 : s6.1 22 0 = 0 := by rw [← hs6, sI_of (by omega), sI_of (by omega)]; exact sI_at
  have r6 : s6.1 11 6 = nI n := by rw [← hs6, sI_of (by omega)]; exact sI_at
  have r14 : s6.1 11 14 = 0 := by rw [← hs6]; exact sI_at
  have f6 : fr sJn σ s6 := by
    rw [← hs6]
    refine fr_I (fr_I (fr_I (fr_I (fr_I (fr_I fr_rf ?_) ?_) ?_) ?_) ?_) ?_ <;> (unfold sJn; omega)
  have key : ∀ m i τ, i ≤ n → n - i < m → (fr (fun c _ => 13 ≤ c ∧ c ≤ 16) s6 τ ∧ ∀ z, z < i → τ.1 13 z = nI z ∧ τ.1 14 z = nI z ∧ τ.1 15 z = (1 : Int32) <<< (nI z &&& 31) ∧ τ.2 16 z = lN 0) → wp (fX1_begin_41 N m (nI i) τ) (fun _ σ' => CX σ' n kd d (aBeg n) id ∧ σ'.1 11 14 = 0 ∧ fr sJn σ σ') := by
    refine loop_i (fun m i τ => wp (fX1_begin_41 N m (nI i) τ) _) (fun i τ => fr (fun c _ => 13 ≤ c ∧ c ≤ 16) s6 τ ∧ ∀ z, z < i → τ.1 13 z = nI z ∧ τ.1 14 z = nI z ∧ τ.1 15 z = (1 : Int32) <<< (nI z &&& 31) ∧ τ.2 16 z = lN 0) n ?_ ?_
    · intro m τ h
      have q : ∀ c k, ¬ (13 ≤ c ∧ c ≤ 16) → τ.1 c k = s6.1 c k := fun c k hc => (h.1 c k hc).1
      rw [fX1_begin_41, q 11 0 (by omega), r0]
      refine wp_t (nI_le (Nat.le_refl n) (by omega)) ?_
      have fτ : fr sJn σ τ := fr_tr f6 (fr_mo h.1 (fun c k hc => by unfold sJn; omega))
      have Pτ : PX τ n d px py := hP.fr fτ (fun c k hc => by unfold sP at hc; unfold sJn; omega)
      refine wp_mono (X_begin87 hk hd Pτ (by rw [q 11 0 (by omega)]; exact r0) (by rw [q 11 1 (by omega)]; exact r1) (fun z hz => (h.2 z hz).2.2.1) (fun z hz => (h.2 z hz).2.2.2) hN) (fun _ σ' g => ?_)
      have w : ∀ c k, c < 80 → σ'.1 c k = τ.1 c k := fun c k hc => (g.1 c k (by unfold sCo; omega)).1
      have w2 : ∀ c k, c < 80 → σ'.2 c k = τ.2 c k := fun c k hc => (g.1 c k (by unfold sCo; omega)).2
      have mem : ∀ c, c ∈ aF (aBeg n) ↔ c < n := fun c => List.mem_range
      have mp : (aF (aBeg n)).map id = List.range n := List.map_id _
      refine ⟨⟨⟨?_, ?_, ?_, ?_⟩, ?_, ⟨fun c hc => ?_, fun c e _ _ h => h⟩, fun c hc => ?_, fun c e hc he hce => ?_, fun k hk => absurd hk (Nat.not_lt_zero k)⟩, ?_, ?_⟩
      · rw [w _ _ (by omega), q _ _ (by omega)]; exact r0
      · rw [w _ _ (by omega), q _ _ (by omega)]; exact r1
      · rw [w _ _ (by omega), q _ _ (by omega)]; exact r2
      · rw [w _ _ (by omega), q _ _ (by omega)]; exact r22
      · rw [mp]
        refine ⟨?_, fun a ha => ?_⟩
        · rw [w _ _ (by omega), q _ _ (by omega), List.length_range]; exact r6
        · rw [List.length_range] at ha
          rw [w _ _ (by omega), (h.2 a ha).1, List.getD_eq_getElem?_getD, List.getElem?_range ha]
          rfl
      · have := (mem c).mp hc
        show c < 20; omega
      · have hc' := (mem c).mp hc
        have z := h.2 c hc'
        show σ'.1 14 c = _ ∧ σ'.1 15 c = _ ∧ (kd = 3 → σ'.2 16 c = _)
        rw [w _ _ (by omega), w _ _ (by omega), w2 _ _ (by omega)]
        refine ⟨z.2.1, z.2.2.1, fun _ => ?_⟩
        rw [z.2.2.2, SI_one (c := c) (by omega) hdd (fun i => beg_b (by omega) i)]
      · have hc' := (mem c).mp hc
        have he' := (mem e).mp he
        have I1b := (AI_beg (kd := kd) hk hdd hn).1
        rcases Nat.lt_or_ge e c with y | y
        · exact (g.2 c e y hc').1
        · have z := (g.2 e c (by omega) he').2
          have sy : uC n kd d (aBeg n) c e = uC n kd d (aBeg n) e c := VC_sym hk hdd.2.1 (I1b.s20 hc) (I1b.s20 he) (I1b.nem hc) (I1b.nem he)
          rw [sy, uT_sym hk hdd I1b hc he, uB_sym (c := c)]
          exact z
      · rw [w _ _ (by omega), q _ _ (by omega)]; exact r14
      · exact fr_tr fτ (fr_mo g.1 (fun c k hc => Or.inr hc))
    · intro m i τ hi h ih
      have q : ∀ c k, ¬ (13 ≤ c ∧ c ≤ 16) → τ.1 c k = s6.1 c k := fun c k hc => (h.1 c k hc).1
      have g : ib (nI i) 20 = true := ibn (by omega) (by decide)
      rw [fX1_begin_41, q 11 0 (by omega), r0]
      refine wp_f (nI_ge hi (by omega)) (wp_gd g (wp_nx (wp_gd g (wp_nx (wp_gd g (wp_nx (wp_gd g (wp_nx (wp_nx ?_)))))))))
      show wp (fX1_begin_41 N m (nI i + 1) _) _
      rw [nI_1, cl i (by omega)]
      refine ih _ ⟨fr_J (fr_I (fr_I (fr_I h.1 (by omega)) (by omega)) (by omega)) (by omega), fun z hz => ?_⟩
      by_cases e : z = i
      · subst e
        refine ⟨?_, ?_, ?_, sJ_at⟩
        · rw [sJ_p, sI_of (by omega), sI_of (by omega)]; exact sI_at
        · rw [sJ_p, sI_of (by omega)]; exact sI_at
        · rw [sJ_p]; exact sI_at
      · have o := h.2 z (by omega)
        refine ⟨?_, ?_, ?_, ?_⟩
        · rw [sJ_p, sI_of (by omega), sI_of (by omega), sI_of (by omega)]; exact o.1
        · rw [sJ_p, sI_of (by omega), sI_of (by omega), sI_of (by omega)]; exact o.2.1
        · rw [sJ_p, sI_of (by omega), sI_of (by omega), sI_of (by omega)]; exact o.2.2.1
        · rw [sJ_of (by omega)]; exact o.2.2.2
  exact key N 0 s6 (by omega) (by omega) ⟨fr_rf, fun z hz => absurd hz (Nat.not_lt_zero z)⟩
/-- the reference's state tells the joining -/
def CM (τ : St) (n : Nat) (A : Aj) : Prop := (τ.1 0 11 = nI (aK A) ∧ τ.1 0 31 = nI (aS A)) ∧ (∀ c, c < n + aK A → τ.1 19 c = aC A c ∧ τ.1 20 c = if c ∈ aF A then 1 else 0) ∧ ∀ k, k < aK A → τ.1 7 k = aC A (n + k) ∧ τ.1 21 k = nI (aA A k) ∧ τ.1 22 k = nI (aB A k) ∧ τ.2 23 k = lZ (aT A k) ∧ τ.2 24 k = lN (aO A k)
def sJm (c k : Nat) : Prop := (c = 0 ∧ 9 ≤ k) ∨ c = 7 ∨ (19 ≤ c ∧ c ≤ 25)
theorem M_begins {τ : St} (hd : DOK n d px py) (hM : PM τ n d px py) (hN : 3000 ≤ N) : wp (fX8_begins N τ) (fun _ τ' => CM τ' n (aBeg n) ∧ fr sJm τ τ') := by
  have hn := hd.1
  unfold fX8_begins
  refine wp_nx (wp_nx ?_)
  have mem : ∀ c, c ∈ aF (aBeg n) ↔ c < n := fun c => List.mem_range
  have key : ∀ m i ρ, i ≤ 40 → 40 - i < m → (fr (fun c _ => c = 19 ∨ c = 20) (sI (sI τ 0 11 0) 0 31 0) ρ ∧ ∀ c, c < i → c < n → ρ.1 19 c = (1 : Int32) <<< (nI c &&& 31) ∧ ρ.1 20 c = 1) → wp (fX8_begins_12 N m (nI i) ρ) (fun _ τ' => CM τ' n (aBeg n) ∧ fr sJm τ τ') := by
    refine loop_i (fun m i ρ => wp (fX8_begins_12 N m (nI i) ρ) _) (fun i ρ => fr (fun c _ => c = 19 ∨ c = 20) (sI (sI τ 0 11 0) 0 31 0) ρ ∧ ∀ c, c < i → c < n → ρ.1 19 c = (1 : Int32) <<< (nI c &&& 31) ∧ ρ.1 20 c = 1) 40 ?_ ?_
    · intro m ρ h
      rw [fX8_begins_12]
      refine wp_t (nI_le (a := 40) (b := 40) (by omega) (by omega)) (wp_some ⟨⟨⟨?_, ?_⟩, fun c hc => ?_, fun k hk => absurd hk (Nat.not_lt_zero k)⟩, ?_⟩)
      · rw [(h.1 0 11 (by omega)).1, sI_of (by omega)]; exact sI_at
      · rw [(h.1 0 31 (by omega)).1]; exact sI_at
      · have hc' : c < n := hc
        have z := h.2 c (by omega) hc'
        rw [if_pos ((mem c).mpr hc')]
        exact z
      · refine fr_tr (fr_I (fr_I fr_rf ?_) ?_) (fr_mo h.1 (fun c k hc => ?_)) <;> (unfold sJm; omega)
    · intro m i ρ hi h ih
      have r0 : ρ.1 0 0 = nI n := by rw [(h.1 0 0 (by omega)).1, sI_of (by omega), sI_of (by omega)]; exact hM.1
      have g : ib (nI i) 40 = true := ibn hi (by decide)
      have i1 : nI i + (1 : Int32) = nI (i + 1) := nI_1 i
      rw [fX8_begins_12, r0]
      unfold fX8_begins_38 fX8_begins_57
      have q : ∀ v, (sI ρ 19 i v).1 0 0 = nI n := fun v => by rw [sI_of (by omega)]; exact r0
      refine wp_f (nI_ge (b := 40) hi (by omega)) (wp_i (fun c => ?_) (fun c => ?_))
      · have hni := (nI_leI (by omega) (by omega)).mp c
        refine wp_gd g (wp_nx ?_)
        rw [cl i (by omega), q]
        refine wp_t c (wp_gd g (wp_nx (wp_nx ?_)))
        rw [i1]
        refine ih _ ⟨fr_I (fr_I h.1 (Or.inl rfl)) (Or.inr rfl), fun c hc hcn => ?_⟩
        rw [sI_of (by omega), sI_of (by omega), sI_of (by omega), sI_of (by omega)]
        exact h.2 c (by omega) hcn
      · refine wp_gd g (wp_nx ?_)
        rw [cl i (by omega), q]
        refine wp_f c (wp_gd g (wp_nx (wp_nx ?_)))
        rw [i1, vb1]
        refine ih _ ⟨fr_I (fr_I h.1 (Or.inl rfl)) (Or.inr rfl), fun c hc hcn => ?_⟩
        by_cases e : c = i
        · subst e
          refine ⟨?_, sI_at⟩
          rw [sI_of (by omega)]; exact sI_at
        · rw [sI_of (by omega), sI_of (by omega), sI_of (by omega), sI_of (by omega)]
          exact h.2 c (by omega) hcn
  exact key N 0 _ (by omega) (by omega) ⟨fr_rf, fun c hc => absurd hc (Nat.not_lt_zero c)⟩
end
