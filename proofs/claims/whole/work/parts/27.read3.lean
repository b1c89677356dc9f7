/-! read, the reference's side, and both -/
theorem m1_lt : (-1 : Int32) < 0 := by decide
theorem m1_le : ¬ (0 : Int32) ≤ -1 := by decide
theorem ps_blank {L : List Int32} {f many wants k : Nat} {acc : Nat → Nat} (hk : k < L.length) (hb : isB L k) : ps L (f + 1) many wants k acc = ps L (f + 1) many wants (k + 1) acc := by
  rw [ps, ps, scan_step hk hb]
def sRM (c k : Nat) : Prop := (c = 0 ∧ (k = 6 ∨ k = 8)) ∨ c = 6
def sRP (c k : Nat) : Prop := sRM c k ∨ sPM c k
def rfin (τ0 : St) (res : Nat ⊕ (Nat → Nat)) (r : Int32) (τ : St) : Prop := (∃ p, res = .inl p ∧ r = -1 ∧ τ.1 0 8 = nI p ∧ τ.1 0 6 = 0 ∧ fr sRM τ0 τ) ∨ (∃ a, res = .inr a ∧ r = nI (a 0) ∧ τ.1 0 8 = -1 ∧ τ.1 0 6 = 0 ∧ DOK (a 0) (rd a (a 0) 0) (fun _ => 0) (fun _ => 0) ∧ PM τ (a 0) (rd a (a 0) 0) (fun _ => 0) (fun _ => 0) ∧ fr sRP τ0 τ)
section
variable {N : Nat}
theorem M_241f {τ0 σ : St} {p : Nat} {res : Nat ⊕ (Nat → Nat)} (hp : p < 2 ^ 31) (hr : res = .inl p) (h8 : σ.1 0 8 = nI p) (h6 : σ.1 0 6 = 0) (hf : fr sRM τ0 σ) : wp (fX8_read_241 N σ) (rfin τ0 res) := by
  unfold fX8_read_241
  rw [h8]
  exact wp_f (nI_pos hp) (wp_some (Or.inl ⟨p, hr, rfl, h8, h6, hf⟩))
theorem M_stop {τ0 σ : St} {p n : Nat} {x1 x2 x3 x4 : Int32} {res : Nat ⊕ (Nat → Nat)} (hn : 1 ≤ n) (hp : p < 2 ^ 31) (hr : res = .inl p) (h8 : σ.1 0 8 = nI p) (h6 : σ.1 0 6 = 0) (hf : fr sRM τ0 σ) : wp (fX8_read_22 N n x1 x2 x3 x4 σ) (rfin τ0 res) := by
  obtain ⟨m, rfl⟩ : ∃ m, n = m + 1 := ⟨n - 1, by omega⟩
  rw [fX8_read_22]
  have e : wp (fX8_read_224 N x1 x2 x3 σ) (rfin τ0 res) := by
    unfold fX8_read_224
    exact wp_t (by rw [h8]; exact nI_pos' hp) (M_241f hp hr h8 h6 hf)
  exact wp_i (fun _ => e) (fun _ => wp_t (by rw [h8]; exact nI_pos' hp) e)
theorem M_241s {τ0 σ : St} {a : Nat → Nat} {res : Nat ⊕ (Nat → Nat)} (hN : 3000 ≤ N) (hr : res = .inr a) (hn : a 0 ≤ 20) (hb : ∀ i, 1 ≤ i → i < 1 + tri (a 0) → a i ≤ 2000000) (hnum : ∀ i, i < 1 + tri (a 0) → σ.1 6 i = nI (a i)) (h8 : σ.1 0 8 = -1) (h6 : σ.1 0 6 = 0) (hf : fr sRM τ0 σ) : wp (fX8_read_241 N σ) (rfin τ0 res) := by
  unfold fX8_read_241
  have e0 : σ.1 6 (0 : Int32).toNatClampNeg = nI (a 0) := hnum 0 (by omega)
  rw [e0]
  refine wp_t (by rw [h8]; exact m1_lt) (wp_gd (by decide) (wp_bd (M_points hn hN) (fun r s1 t1 => wp_nx ?_)))
  have es : sI s1 0 0 r = s1 := by
    refine Prod.ext ?_ rfl
    funext c k
    show (if c = 0 ∧ k = 0 then r else s1.1 c k) = s1.1 c k
    by_cases h : c = 0 ∧ k = 0
    · rw [if_pos h, h.1, h.2, t1.1]; exact t1.2.1.1.symm
    · rw [if_neg h]
  rw [es]
  refine wp_mono (M_rd270 hn hN (fun i hi => ?_) t1.2.1) (fun r2 s2 t2 => Or.inr ⟨a, hr, t2.1, ?_, ?_, rd_ok hn (Nat.le_refl _) hb, t2.2.1, ?_⟩)
  · rw [(t1.2.2 6 i (by unfold sPM; omega)).1]; exact hnum i hi
  · rw [(t2.2.2 0 8 (by unfold sPM; omega)).1, (t1.2.2 0 8 (by unfold sPM; omega)).1]; exact h8
  · rw [(t2.2.2 0 6 (by unfold sPM; omega)).1, (t1.2.2 0 6 (by unfold sPM; omega)).1]; exact h6
  · exact fr_tr (fr_mo hf (fun c k h => Or.inl h)) (fr_tr (fr_mo t1.2.2 (fun c k h => Or.inr h)) (fr_mo t2.2.2 (fun c k h => Or.inr h)))
theorem M_dig {L : List Int32} (hL : LOK L) {K : Int32 → Int32 → Int32 → Int32 → St → Option (Int32 × St)} {Q : Int32 → St → Prop} {x2 x3 : Int32} {s : Nat} {σ : St} (hT : BL (σ.1 4) L) (hs : s ≤ L.length) (hN : 3000 ≤ N)
    (h : wp (fX8_read_135 N K (nI L.length) x2 x3 (nI (scan (isD L) L.length s)) (nI s) (nI (vv L s (min (scan (isD L) L.length s - s) 7))) σ) Q) : wp (fX8_read_71 N K N (nI L.length) x2 x3 (nI s) (nI s) 0 σ) Q := by
  have hl := hL.1
  have he := scan_le (P := isD L) hs
  have hg := scan_ge (isD L) L.length s
  obtain ⟨e, ee⟩ : ∃ e, e = scan (isD L) L.length s := ⟨_, rfl⟩
  rw [← ee] at he hg h
  obtain ⟨len, el⟩ : ∃ len, len = e - s := ⟨_, rfl⟩
  rw [← el] at h
  have dig : ∀ i, i < len → isD L (s + i) ∧ s + i < L.length := fun i hi => by
    have := scan_in (P := isD L) (l := L.length) (k := s) (i := s + i) (by omega) (by omega)
    exact ⟨this.2, this.1⟩
  have key : ∀ m i τ, i ≤ len → len - i < m → τ = σ → wp (fX8_read_71 N K m (nI L.length) x2 x3 (nI (s + i)) (nI s) (nI (vv L s (min i 7))) τ) Q := by
    refine loop_i (fun m i τ => wp (fX8_read_71 N K m (nI L.length) x2 x3 (nI (s + i)) (nI s) (nI (vv L s (min i 7))) τ) Q) (fun _ τ => τ = σ) len ?_ ?_
    · intro m τ et
      subst et
      rw [fX8_read_71]
      have es : s + len = e := by omega
      rw [es]
      refine wp_i (fun _ => h) (fun hx => ?_)
      have hlt : e < L.length := by
        rcases Nat.lt_or_ge e L.length with z | z
        · exact z
        · exact absurd (nI_le z (by omega)) hx
      have hnd : ¬ isD L e := by rw [ee]; exact scan_no (by omega)
      refine wp_gd (ibn (by omega) (by decide)) ?_
      rw [cl e (by omega), hT e hlt]
      refine wp_i (fun _ => h) (fun h1 => wp_gd (ibn (by omega) (by decide)) (wp_i (fun _ => h) (fun h2 => absurd ⟨h1, h2⟩ hnd)))
    · intro m i τ hi et ih
      subst et
      have hd := dig i hi
      rw [fX8_read_71]
      refine wp_f (nI_ge hd.2 (by omega)) (wp_gd (ibn (by omega) (by decide)) ?_)
      rw [cl _ (by omega), hT _ hd.2]
      refine wp_f hd.1.1 (wp_gd (ibn (by omega) (by decide)) (wp_f hd.1.2 ?_))
      have ed : nI (s + i) - nI s = nI i := by rw [pk_sub (by omega)]; congr 1; omega
      rw [ed]
      unfold fX8_read_129
      refine wp_i (fun h7 => wp_nx ?_) (fun h7 => wp_gd (ibn (by omega) (by decide)) (wp_nx (wp_nx ?_)))
      · have hi7 : 7 ≤ i := (nI_leI (a := 7) (by omega) (by omega)).mp h7
        show wp (fX8_read_71 N K m (nI L.length) x2 x3 (nI (s + i) + 1) (nI s) (nI (vv L s (min i 7))) τ) Q
        rw [nI_1, show min i 7 = min (i + 1) 7 by omega]
        exact ih τ rfl
      · have hi7 : ¬ 7 ≤ i := fun z => h7 (nI_le (a := 7) z (by omega))
        rcases b_digit hL hd.2 with z | z
        · exact absurd hd.1 z.1
        obtain ⟨-, -, -, z3, z4, -⟩ := z
        show wp (fX8_read_71 N K m (nI L.length) x2 x3 (nI (s + i) + 1) (nI s) (10 * nI (vv L s (min i 7)) + L.getD (s + i) 0 - 48) τ) Q
        have ev : (10 : Int32) * nI (vv L s (min i 7)) + L.getD (s + i) 0 - (48 : Int32) = nI (vv L s (min (i + 1) 7)) := by
          rw [z4]
          show nI 10 * nI (vv L s (min i 7)) + nI (48 + dv L (s + i)) - nI 48 = _
          rw [pk_mul, nI_add, pk_sub (by omega), show min i 7 = i by omega, show min (i + 1) 7 = i + 1 by omega]
          congr 1
          show _ = 10 * vv L s i + dv L (s + i)
          omega
        rw [nI_1, ev]
        exact ih τ rfl
  exact key N 0 σ (by omega) (by omega) rfl
theorem M_table {L : List Int32} (hL : LOK L) (hN : 3000 ≤ N) {τ0 : St} (hT : BL (τ0.1 4) L) : ∀ (n f many wants k : Nat) (acc : Nat → Nat) (σ : St), L.length + 2 ≤ k + n → 193 ≤ many + f → k ≤ L.length → psI many wants acc → σ.1 0 8 = -1 → σ.1 0 6 = 0 → (∀ i, i < many → σ.1 6 i = nI (acc i)) → fr sRM τ0 σ → wp (fX8_read_22 N n (nI L.length) (nI many) (nI wants) (nI k) σ) (rfin τ0 (ps L f many wants k acc)) := by
  have hl := hL.1
  intro n
  induction n with
  | zero => intro f many wants k acc σ h1 h2 h3; omega
  | succ n ih =>
    intro f many wants k acc σ h1 h2 h3 hI h8 h6 hnum hf
    have hw : many ≤ wants := hI.1
    have hw2 : wants ≤ 191 := hI.2.1
    obtain ⟨g, rfl⟩ : ∃ g, f = g + 1 := ⟨f - 1, by omega⟩
    have hT2 : BL (σ.1 4) L := fun i hi => by rw [(hf 4 i (by unfold sRM; omega)).1]; exact hT i hi
    rw [fX8_read_22]
    by_cases hk : k = L.length
    · subst hk
      refine wp_t (nI_le (Nat.le_refl _) (by omega)) ?_
      unfold fX8_read_224
      refine wp_f (by rw [h8]; exact m1_le) ?_
      by_cases hmw : wants ≤ many
      · refine wp_t (nI_le hmw (by omega)) ?_
        have hm1 : 1 ≤ many := by
          rcases Nat.eq_zero_or_pos many with z | z
          · have := hI.2.2.1 z; omega
          · exact z
        have h42 := hI.2.2.2.1 hm1
        refine M_241s hN (a := acc) ?_ h42.2 (fun i hi hj => hI.2.2.2.2 i hi (by omega)) (fun i hi => hnum i (by omega)) h8 h6 hf
        rw [ps, if_pos (scan_full (Nat.le_refl _)), if_neg (show ¬ many < wants by omega)]
      · refine wp_f (nI_ge (by omega) (by omega)) (wp_nx (M_241f (p := L.length) (by omega) ?_ sI_at (by rw [sI_of (by omega)]; exact h6) (fr_I hf (Or.inl ⟨rfl, Or.inr rfl⟩))))
        rw [ps, if_pos (scan_full (Nat.le_refl _)), if_pos (show many < wants by omega)]
    · have hk2 : k < L.length := by omega
      refine wp_f (nI_ge hk2 (by omega)) (wp_f (by rw [h8]; exact m1_le) (wp_gd (ibn (by omega) (by decide)) (wp_nx ?_)))
      rw [cl k (by omega), hT2 k hk2]
      have blank : isB L k → wp (fX8_read_58 N (fX8_read_22 N n) (nI L.length) (nI many) (nI wants) (nI k) σ) (rfin τ0 (ps L (g + 1) many wants k acc)) := by
        intro hb
        unfold fX8_read_58
        refine wp_nx ?_
        show wp (fX8_read_22 N n (nI L.length) (nI many) (nI wants) (nI k + 1) σ) _
        rw [nI_1, ps_blank hk2 hb]
        exact ih (g + 1) many wants (k + 1) acc σ (by omega) h2 hk2 hI h8 h6 hnum hf
      refine wp_i (fun e => blank (Or.inl e)) (fun e1 => wp_i (fun e => blank (Or.inr e)) (fun e2 => ?_))
      have hnb : ¬ isB L k := fun z => z.elim e1 e2
      have es : scan (isB L) L.length k = k := scan_stop hnb
      refine M_dig hL hT2 h3 hN ?_
      have he := scan_le (P := isD L) h3
      have hg := scan_ge (isD L) L.length k
      obtain ⟨e, ee⟩ : ∃ e, e = scan (isD L) L.length k := ⟨_, rfl⟩
      rw [← ee] at he hg ⊢
      -- what the spec says here
      have sp : ps L (g + 1) many wants k acc = if wants ≤ many then .inl k else @ite _ (bad L many k (e - k)) (Classical.propDecidable _) (.inl k) (ps L g (many + 1) (if many = 0 then 1 + tri (vv L k (e - k)) else wants) e (fun i => if i = many then vv L k (e - k) else acc i)) := by
        rw [ps, es, if_neg hk, ← ee]
      have flt : (wants ≤ many ∨ bad L many k (e - k)) → ∀ x7, wp (fX8_read_177 N (fX8_read_22 N n) (nI L.length) (nI many) (nI wants) (nI e) (nI k) x7 σ) (rfin τ0 (ps L (g + 1) many wants k acc)) := by
        intro hb x7
        unfold fX8_read_177 fX8_read_178
        refine wp_t rfl (wp_nx (M_stop (p := k) (by omega) (by omega) ?_ sI_at (by rw [sI_of (by omega)]; exact h6) (fr_I hf (Or.inl ⟨rfl, Or.inr rfl⟩))))
        rw [sp]
        by_cases hmw : wants ≤ many
        · rw [if_pos hmw]
        · rw [if_neg hmw, if_pos (hb.resolve_left hmw)]
      unfold fX8_read_135
      have ed : nI e - nI k = nI (e - k) := pk_sub hg
      rw [ed]
      refine wp_i (fun c1 => ?_) (fun c1 => wp_i (fun c2 => ?_) (fun c2 => wp_i (fun c3 => ?_) (fun c3 => ?_)))
      · have : e ≤ k := (nI_leI (by omega) (by omega)).mp c1
        exact flt (Or.inr (Or.inl (by omega))) _
      · have : 8 ≤ e - k := (nI_leI (a := 8) (by omega) (by omega)).mp c2
        exact flt (Or.inr (Or.inr (Or.inl (by omega)))) _
      · exact flt (Or.inl ((nI_leI (by omega) (by omega)).mp c3)) _
      · have n1 : ¬ e ≤ k := fun z => c1 (nI_le z (by omega))
        have n2 : ¬ 8 ≤ e - k := fun z => c2 (nI_le (a := 8) z (by omega))
        have n3 : ¬ wants ≤ many := fun z => c3 (nI_le z (by omega))
        rw [show min (e - k) 7 = e - k by omega]
        have vlt : vv L k (e - k) < 10000000 := by
          have h1 := vv_lt (L := L) (s := k) (m := e - k) (fun i hi => by
            have hin := scan_in (P := isD L) (l := L.length) (k := k) (i := k + i) (by omega) (by omega)
            rcases b_digit hL hin.1 with z | z
            · exact absurd hin.2 z.1
            · exact z.2.2.2.1)
          have h2 : 10 ^ (e - k) ≤ 10 ^ 7 := Nat.pow_le_pow_right (by omega) (by omega)
          omega
        have hlm : lim many ≤ 2000000 := by unfold lim; split <;> omega
        have fin : wp (fX8_read_170 N (fX8_read_22 N n) (nI L.length) (nI many) (nI wants) (nI e) (nI k) (nI (vv L k (e - k))) (nI (lim many)) (nI (vv L k (e - k))) σ) (rfin τ0 (ps L (g + 1) many wants k acc)) := by
          unfold fX8_read_170
          refine wp_i (fun c4 => ?_) (fun c4 => ?_)
          · exact flt (Or.inr (Or.inr (Or.inr ((nI_ltI (by omega) (by omega)).mp c4)))) _
          · have hv : vv L k (e - k) ≤ lim many := by
              rcases Nat.lt_or_ge (lim many) (vv L k (e - k)) with z | z
              · exact absurd (nI_lt z (by omega)) c4
              · exact z
            have nb : ¬ bad L many k (e - k) := by
              rintro (z | z | z)
              · omega
              · omega
              · omega
            have hI2 := psI_step hI (by omega) hv
            unfold fX8_read_178
            refine wp_f (by decide) (wp_gd (ibn (by omega) (by decide)) (wp_nx ?_))
            rw [cl many (by omega)]
            rw [sp, if_neg n3, if_neg nb]
            have go : wp (fX8_read_22 N n (nI L.length) (nI (many + 1)) (nI (if many = 0 then 1 + tri (vv L k (e - k)) else wants)) (nI e) (sI σ 6 many (nI (vv L k (e - k))))) (rfin τ0 (ps L g (many + 1) (if many = 0 then 1 + tri (vv L k (e - k)) else wants) e (fun i => if i = many then vv L k (e - k) else acc i))) := by
              refine ih g (many + 1) _ e _ _ (by omega) (by omega) he hI2 (by rw [sI_of (by omega)]; exact h8) (by rw [sI_of (by omega)]; exact h6) (fun i hi => ?_) (fr_I hf (Or.inr rfl))
              show _ = nI (if i = many then vv L k (e - k) else acc i)
              by_cases ei : i = many
              · rw [if_pos ei, ei]; exact sI_at
              · rw [if_neg ei, sI_of (by omega)]; exact hnum i (by omega)
            unfold fX8_read_218
            refine wp_i (fun h0 => wp_nx (wp_nx ?_)) (fun h0 => wp_nx ?_)
            · have hm0 : many = 0 := (nI_eq (b := 0) (by omega) (by omega)).mp h0
              rw [tri_I _ (by unfold lim at hv; rw [if_pos hm0] at hv; exact hv)]
              rw [if_pos hm0] at go ⊢
              show wp (fX8_read_22 N n _ (nI many + 1) _ _ _) _
              rw [nI_1]; exact go
            · have hm0 : ¬ many = 0 := fun z => h0 (by rw [z]; rfl)
              rw [if_neg hm0] at go ⊢
              show wp (fX8_read_22 N n _ (nI many + 1) _ _ _) _
              rw [nI_1]; exact go
        refine wp_i (fun h0 => ?_) (fun h0 => ?_)
        · have hm0 : many = 0 := (nI_eq (b := 0) (by omega) (by omega)).mp h0
          have e2 : lim many = 20 := by unfold lim; rw [if_pos hm0]
          rw [e2] at fin; exact fin
        · have hm0 : ¬ many = 0 := fun z => h0 (by rw [z]; rfl)
          have e2 : lim many = 2000000 := by unfold lim; rw [if_neg hm0]
          rw [e2] at fin; exact fin
theorem psI0 : psI 0 1 (fun _ => 0) := ⟨by omega, by omega, fun _ => rfl, fun h => by omega, fun i h1 h2 => by omega⟩
def sRX (c _ : Nat) : Prop := c = 9 ∨ c = 10 ∨ c = 5
def sRXP (c k : Nat) : Prop := sRX c k ∨ sP c k
theorem X_read {L : List Int32} (hL : LOK L) (hN : 3000 ≤ N) {σ : St} (hB : BX σ 5 L) : wp (fX7_read N σ) (fun r σ' => (∃ p, ps L 193 0 1 0 (fun _ => 0) = .inl p ∧ r = -1 ∧ σ'.1 9 2 = nI p ∧ σ'.1 5 1 = 0 ∧ fr sRX σ σ') ∨ (∃ a, ps L 193 0 1 0 (fun _ => 0) = .inr a ∧ r = nI (a 0) ∧ σ'.1 9 2 = -1 ∧ σ'.1 5 1 = 0 ∧ PX σ' (a 0) (rd a (a 0) 0) (fun _ => 0) (fun _ => 0) ∧ fr sRXP σ σ')) := by
  unfold fX7_read fX5_readTable
  have f0 : fr (fun c _ => c = 9 ∨ c = 10) σ (sI (sI σ 9 1 0) 9 2 (-1)) := fr_I (fr_I fr_rf (Or.inl rfl)) (Or.inl rfl)
  refine wp_bd (Q := fun r σ' => psE (ps L 193 0 1 0 (fun _ => 0)) (σ'.1 9 2) (σ'.1 10) ∧ (r = 0 ∨ r = 1) ∧ (r = 0 ↔ ¬ σ'.1 9 2 = -1) ∧ fr (fun c _ => c = 9 ∨ c = 10) σ σ') (wp_nx (wp_nx (X_table hL hN hB 193 0 1 0 (fun _ => 0) N _ (by omega) (by omega) (Nat.zero_le _) psI0 (by rw [sI_of (by omega)]; exact sI_at) sI_at (fun i hi => absurd hi (by omega)) f0))) (fun r s1 t1 => wp_nx ?_)
  obtain ⟨t1, t2, t3, t4⟩ := t1
  have f1 : fr sRX σ (sI s1 5 1 0) := fr_I (fr_mo t4 (fun c k h => by unfold sRX; omega)) (Or.inr (Or.inr rfl))
  match hres : ps L 193 0 1 0 (fun _ => 0), t1 with
  | .inl p, t1 =>
    obtain ⟨q1, q2⟩ := t1
    have ne : ¬ s1.1 9 2 = -1 := by
      intro z
      rw [q2] at z
      have := congrArg Int32.toInt z
      rw [nI_toInt q1] at this
      have e : (-1 : Int32).toInt = -1 := by decide
      omega
    refine wp_t (t3.mpr ne) (wp_some (Or.inl ⟨p, rfl, rfl, ?_, sI_at, f1⟩))
    rw [sI_of (by omega)]; exact q2
  | .inr a, t1 =>
    obtain ⟨q1, q2, q3, q4⟩ := t1
    have nr : ¬ r = 0 := fun z => t3.mp z q1
    have e0 : (sI s1 5 1 0).1 10 (0 : Int32).toNatClampNeg = nI (a 0) := by rw [sI_of (by omega)]; exact q4 0 (by omega)
    refine wp_f nr (wp_gd (by decide) ?_)
    rw [e0]
    refine wp_bd (X_start q2 hN) (fun _ s2 u2 => wp_mono (X_rd46 q2 hN (fun i hi => ?_) u2.1) (fun r2 s3 u3 => Or.inr ⟨a, rfl, u3.1, ?_, ?_, u3.2.1, ?_⟩))
    · rw [(u2.2 10 i (by unfold sP; omega)).1, sI_of (by omega)]; exact q4 i hi
    · rw [(u3.2.2 9 2 (by unfold sP; omega)).1, (u2.2 9 2 (by unfold sP; omega)).1, sI_of (by omega)]; exact q1
    · rw [(u3.2.2 5 1 (by unfold sP; omega)).1, (u2.2 5 1 (by unfold sP; omega)).1]; exact sI_at
    · exact fr_tr (fr_mo f1 (fun c k h => Or.inl h)) (fr_tr (fr_mo u2.2 (fun c k h => Or.inr h)) (fr_mo u3.2.2 (fun c k h => Or.inr h)))
theorem J_read {σ τ : St} (h : Rel σ τ) (hN : 3000 ≤ N) : jt (fX7_read N σ) (fX8_read N τ) Rel := by
  obtain ⟨L, hL, hX, hM⟩ := h.2.1
  have hl := hL.1
  have f0 : fr sRM τ (sI (sI τ 0 6 0) 0 8 (-1)) := fr_I (fr_I fr_rf (Or.inl ⟨rfl, Or.inl rfl⟩)) (Or.inl ⟨rfl, Or.inr rfl⟩)
  refine jt_wp (X_read hL hN hX) (Q := rfin τ (ps L 193 0 1 0 (fun _ => 0))) ?_ ?_
  · unfold fX8_read
    refine wp_nx (wp_nx (wp_nx ?_))
    rw [hM.1]
    exact M_table hL hN hM.2 N 193 0 1 0 (fun _ => 0) _ (by omega) (by omega) (Nat.zero_le _) psI0 sI_at (by rw [sI_of (by omega)]; exact sI_at) (fun i hi => absurd hi (by omega)) f0
  · intro r r2 σ' τ' hp hq
    have e0 : RT σ' τ' → RT σ' τ' := id
    have empty : σ'.1 5 1 = 0 → τ'.1 0 6 = 0 → RT σ' τ' := fun a b => ⟨[], ⟨Nat.zero_le _, fun b hb => absurd hb List.not_mem_nil⟩, ⟨a, fun i hi => absurd hi (Nat.not_lt_zero _)⟩, ⟨b, fun i hi => absurd hi (Nat.not_lt_zero _)⟩⟩
    rcases hp with ⟨p, e1, e2, e3, e4, e5⟩ | ⟨a, e1, e2, e3, e4, e5, e6⟩
    · rcases hq with ⟨p2, g1, g2, g3, g4, g5⟩ | ⟨a2, g1, -⟩
      · rw [e1] at g1; cases g1
        refine ⟨e2.trans g2.symm, h.upd e5 g5 (Or.inr ⟨?_, ?_⟩) (Or.inl (empty e4 g4)) (Or.inr ⟨?_, ?_⟩) (Or.inl (by unfold RF; rw [e3, g3])) (fun q hq => Or.inr ⟨?_, ?_⟩)⟩
        all_goals (intro c k h; (try unfold sP at h); (try unfold sPM at h); (try unfold sO at h); (try unfold sOM at h); (try unfold sS at h); (try unfold sSM at h); (try unfold sRX); (try unfold sRM); omega)
      · rw [e1] at g1; cases g1
    · rcases hq with ⟨p2, g1, -⟩ | ⟨a2, g1, g2, g3, g4, g5, g6, g7⟩
      · rw [e1] at g1; cases g1
      · rw [e1] at g1; cases g1
        refine ⟨e2.trans g2.symm, h.upd e6 g7 (Or.inl ⟨_, _, _, _, g5, e5, g6⟩) (Or.inl (empty e4 g4)) (Or.inr ⟨?_, ?_⟩) (Or.inl (by unfold RF; rw [e3, g3])) (fun q hq => Or.inr ⟨?_, ?_⟩)⟩
        all_goals (intro c k h; (try unfold sO at h); (try unfold sOM at h); (try unfold sS at h); (try unfold sSM at h); (try unfold sRXP sRX sP); (try unfold sRP sRM sPM); omega)
end
