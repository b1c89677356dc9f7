/-! bits and their number -/
theorem bt_nI {v : Nat} (i : Nat) (hi : i < 32) : bt (nI v) i = v.testBit i := by
  unfold bt
  show (BitVec.ofNat 32 v).getLsbD i = _
  rw [BitVec.getLsbD_ofNat]; simp [hi]
theorem sm_of {x : Int32} (h : ∀ i, bt x i = true → i < 20) : ∃ v : Nat, v < 2 ^ 20 ∧ x = nI v := by
  refine ⟨x.toBitVec.toNat, ?_, ?_⟩
  · apply Nat.lt_pow_two_of_testBit
    intro i hi
    have : bt x i = false := by
      cases e : bt x i with
      | false => rfl
      | true => have := h i e; omega
    exact this
  · apply Int32.toBitVec_inj.mp
    show x.toBitVec = BitVec.ofNat 32 x.toBitVec.toNat
    rw [BitVec.ofNat_toNat, BitVec.setWidth_eq]
theorem nI_and (a b : Nat) : nI a &&& nI b = nI (a &&& b) := by
  apply Int32.toBitVec_inj.1
  show BitVec.ofNat 32 a &&& BitVec.ofNat 32 b = BitVec.ofNat 32 (a &&& b)
  apply BitVec.eq_of_getLsbD_eq
  intro i hi
  simp [hi]
def pcn (v : Nat) : Nat → Nat
  | 0 => 0
  | k + 1 => pcn v k + v / 2 ^ k % 2
theorem pcn_le (v : Nat) : ∀ k, pcn v k ≤ k
  | 0 => Nat.le_refl 0
  | k + 1 => by
    have := pcn_le v k
    have : v / 2 ^ k % 2 < 2 := Nat.mod_lt _ (by omega)
    show pcn v k + v / 2 ^ k % 2 ≤ k + 1
    omega
theorem bit1 {v i : Nat} (hv : v < 2 ^ 31) (hi : i < 32) : (nI v >>> (nI i &&& 31)) &&& 1 = nI (v / 2 ^ i % 2) := by
  rw [pk_shrN hv _ i (s_l i hi)]
  have h2 : v / 2 ^ i < 2 ^ 32 := Nat.lt_of_le_of_lt (Nat.div_le_self _ _) (by omega)
  exact pk_andN h2 1 (by decide)
theorem tb1 {v i : Nat} : v.testBit i = decide (v / 2 ^ i % 2 = 1) := by
  rw [Nat.testBit_eq_decide_div_mod_eq]
/-- of a mask: bit i -/
theorem bitT {x : Int32} {i : Nat} (hx : ∀ i, bt x i = true → i < 20) (hi : i < 32) : (((x >>> (nI i &&& 31)) &&& 1) = 1 ↔ bt x i = true) ∧ (((x >>> (nI i &&& 31)) &&& 1) = 0 ↔ bt x i = false) := by
  obtain ⟨v, hv, rfl⟩ := sm_of hx
  rw [bit1 (by omega) hi, bt_nI i hi, tb1]
  have h2 : v / 2 ^ i % 2 < 2 := Nat.mod_lt _ (by omega)
  rcases (show v / 2 ^ i % 2 = 0 ∨ v / 2 ^ i % 2 = 1 by omega) with e | e
  · rw [e]; decide
  · rw [e]; decide
theorem and_sp {A B m M : Nat} (hA : A < 256) (hm : m < 256) : (A + 256 * B) &&& (m + 256 * M) = (A &&& m) + 256 * (B &&& M) := by
  have h1 : ((A + 256 * B) &&& (m + 256 * M)) % 2 ^ 8 = (A + 256 * B) % 2 ^ 8 &&& (m + 256 * M) % 2 ^ 8 := Nat.and_mod_two_pow
  have h2 : ((A + 256 * B) &&& (m + 256 * M)) / 2 ^ 8 = (A + 256 * B) / 2 ^ 8 &&& (m + 256 * M) / 2 ^ 8 := Nat.and_div_two_pow
  rw [show (A + 256 * B) % 2 ^ 8 = A by omega, show (m + 256 * M) % 2 ^ 8 = m by omega] at h1
  rw [show (A + 256 * B) / 2 ^ 8 = B by omega, show (m + 256 * M) / 2 ^ 8 = M by omega] at h2
  omega
theorem c5 : ∀ A, A < 256 → ∀ r, r < 2 → (A / 2 + 128 * r) &&& 85 = A / 2 &&& 85 := by decide +kernel
theorem c3 : ∀ A, A < 256 → ∀ r, r < 4 → (A / 4 + 64 * r) &&& 51 = A / 4 &&& 51 := by decide +kernel
def t1 (a : Nat) : Nat := a - (a / 2 &&& 85)
def t2 (a : Nat) : Nat := (t1 a &&& 51) + (t1 a / 4 &&& 51)
def t3 (a : Nat) : Nat := a / 1 % 2 + a / 2 % 2 + a / 4 % 2 + a / 8 % 2 + a / 16 % 2 + a / 32 % 2 + a / 64 % 2 + a / 128 % 2
theorem t1_ok : ∀ a, a < 256 → (a / 2 &&& 85) ≤ a ∧ t1 a < 256 := by decide +kernel
theorem t2_ok : ∀ a, a < 256 → t2 a < 72 ∧ t2 a % 16 ≤ 4 := by decide +kernel
theorem t3_ok : ∀ a, a < 256 → ∀ r, r < 5 → (t2 a + t2 a / 16 + 16 * r) &&& 15 = t3 a ∧ t2 a + t2 a / 16 + 16 * r < 256 := by decide +kernel
theorem t3_le : ∀ a, a < 256 → t3 a ≤ 8 := by decide +kernel
/-- one byte more, in each step -/
theorem st1 {A B M : Nat} (hA : A < 256) : (A + 256 * B) / 2 &&& (85 + 256 * M) = (A / 2 &&& 85) + 256 * (B / 2 &&& M) := by
  rw [show (A + 256 * B) / 2 = (A / 2 + 128 * (B % 2)) + 256 * (B / 2) by omega, and_sp (by omega) (by omega), c5 A hA _ (Nat.mod_lt _ (by omega))]
theorem st2 {A B M : Nat} (hA : A < 256) : (A + 256 * B) / 4 &&& (51 + 256 * M) = (A / 4 &&& 51) + 256 * (B / 4 &&& M) := by
  rw [show (A + 256 * B) / 4 = (A / 4 + 64 * (B % 4)) + 256 * (B / 4) by omega, and_sp (by omega) (by omega), c3 A hA _ (Nat.mod_lt _ (by omega))]
theorem cz : ∀ c, c < 16 → (c / 2 &&& (85 + 256 * 85) = (c / 2 &&& 85)) ∧ (t1 c &&& (51 + 256 * 51) = (t1 c &&& 51)) ∧ (t1 c / 4 &&& (51 + 256 * 51) = (t1 c / 4 &&& 51)) ∧ ((t2 c + t2 c / 16) &&& (15 + 256 * 15) = t3 c) := by decide +kernel
theorem wb0 {a b c : Nat} (ha : a < 256) (hb : b < 256) : (a + 256 * (b + 256 * c)) / 1 % 2 = a / 1 % 2 := by omega
theorem wb1 {a b c : Nat} (ha : a < 256) (hb : b < 256) : (a + 256 * (b + 256 * c)) / 2 % 2 = a / 2 % 2 := by omega
theorem wb2 {a b c : Nat} (ha : a < 256) (hb : b < 256) : (a + 256 * (b + 256 * c)) / 4 % 2 = a / 4 % 2 := by omega
theorem wb3 {a b c : Nat} (ha : a < 256) (hb : b < 256) : (a + 256 * (b + 256 * c)) / 8 % 2 = a / 8 % 2 := by omega
theorem wb4 {a b c : Nat} (ha : a < 256) (hb : b < 256) : (a + 256 * (b + 256 * c)) / 16 % 2 = a / 16 % 2 := by omega
theorem wb5 {a b c : Nat} (ha : a < 256) (hb : b < 256) : (a + 256 * (b + 256 * c)) / 32 % 2 = a / 32 % 2 := by omega
theorem wb6 {a b c : Nat} (ha : a < 256) (hb : b < 256) : (a + 256 * (b + 256 * c)) / 64 % 2 = a / 64 % 2 := by omega
theorem wb7 {a b c : Nat} (ha : a < 256) (hb : b < 256) : (a + 256 * (b + 256 * c)) / 128 % 2 = a / 128 % 2 := by omega
theorem wb8 {a b c : Nat} (ha : a < 256) (hb : b < 256) : (a + 256 * (b + 256 * c)) / 256 % 2 = b / 1 % 2 := by omega
theorem wb9 {a b c : Nat} (ha : a < 256) (hb : b < 256) : (a + 256 * (b + 256 * c)) / 512 % 2 = b / 2 % 2 := by omega
theorem wb10 {a b c : Nat} (ha : a < 256) (hb : b < 256) : (a + 256 * (b + 256 * c)) / 1024 % 2 = b / 4 % 2 := by omega
theorem wb11 {a b c : Nat} (ha : a < 256) (hb : b < 256) : (a + 256 * (b + 256 * c)) / 2048 % 2 = b / 8 % 2 := by omega
theorem wb12 {a b c : Nat} (ha : a < 256) (hb : b < 256) : (a + 256 * (b + 256 * c)) / 4096 % 2 = b / 16 % 2 := by omega
theorem wb13 {a b c : Nat} (ha : a < 256) (hb : b < 256) : (a + 256 * (b + 256 * c)) / 8192 % 2 = b / 32 % 2 := by omega
theorem wb14 {a b c : Nat} (ha : a < 256) (hb : b < 256) : (a + 256 * (b + 256 * c)) / 16384 % 2 = b / 64 % 2 := by omega
theorem wb15 {a b c : Nat} (ha : a < 256) (hb : b < 256) : (a + 256 * (b + 256 * c)) / 32768 % 2 = b / 128 % 2 := by omega
theorem wb16 {a b c : Nat} (ha : a < 256) (hb : b < 256) : (a + 256 * (b + 256 * c)) / 65536 % 2 = c / 1 % 2 := by omega
theorem wb17 {a b c : Nat} (ha : a < 256) (hb : b < 256) : (a + 256 * (b + 256 * c)) / 131072 % 2 = c / 2 % 2 := by omega
theorem wb18 {a b c : Nat} (ha : a < 256) (hb : b < 256) : (a + 256 * (b + 256 * c)) / 262144 % 2 = c / 4 % 2 := by omega
theorem wb19 {a b c : Nat} (ha : a < 256) (hb : b < 256) : (a + 256 * (b + 256 * c)) / 524288 % 2 = c / 8 % 2 := by omega
theorem fin64 {x y z : Nat} (hx : x ≤ 8) (hy : y ≤ 8) (hz : z ≤ 8) : (x + 256 * (y + 256 * z) + (x + 256 * (y + 256 * z)) / 256 + (x + 256 * (y + 256 * z) + (x + 256 * (y + 256 * z)) / 256) / 65536) % 64 = x + y + z := by
  have h1 : (x + 256 * (y + 256 * z)) / 256 = y + 256 * z := by omega
  rw [h1]
  have h2 : (x + 256 * (y + 256 * z) + (y + 256 * z)) / 65536 = z := by omega
  rw [h2]
  omega
theorem nx_eq {α β : Type} {x y : α} {k : α → β} {r : β} (e : x = y) (h : k y = r) : nx x k = r := by subst e; exact h
theorem pop {v : Nat} (hv : v < 2 ^ 20) : ∃ s1 s2 s3 : Nat, s1 = v - (v / 2 &&& 1431655765) ∧ (v / 2 &&& 1431655765) ≤ v ∧ s1 < 2 ^ 31 ∧ s2 = (s1 &&& 858993459) + (s1 / 4 &&& 858993459) ∧ s2 < 2 ^ 30 ∧ s3 = (s2 + s2 / 16) &&& 252645135 ∧ s3 < 2 ^ 30 ∧ (s3 + s3 / 256 + (s3 + s3 / 256) / 65536) % 64 = pcn v 20 := by
  obtain ⟨a, b, c, ha, hb, hc, rfl⟩ : ∃ a b c, a < 256 ∧ b < 256 ∧ c < 16 ∧ v = a + 256 * (b + 256 * c) := ⟨v % 256, v / 256 % 256, v / 65536, by omega, by omega, by omega, by omega⟩
  have m5 : (1431655765 : Nat) = 85 + 256 * (85 + 256 * (85 + 256 * 85)) := by decide
  have m3 : (858993459 : Nat) = 51 + 256 * (51 + 256 * (51 + 256 * 51)) := by decide
  have mf : (252645135 : Nat) = 15 + 256 * (15 + 256 * (15 + 256 * 15)) := by decide
  have a1 := t1_ok a ha
  have b1 := t1_ok b hb
  have c1 := t1_ok c (by omega)
  have a2 := t2_ok a ha
  have b2 := t2_ok b hb
  have c2 := t2_ok c (by omega)
  have hz := cz c hc
  have e1 : (a + 256 * (b + 256 * c)) / 2 &&& 1431655765 = (a / 2 &&& 85) + 256 * ((b / 2 &&& 85) + 256 * (c / 2 &&& 85)) := by
    rw [m5, st1 ha, st1 hb, hz.1]
  have s1e : (a + 256 * (b + 256 * c)) - ((a + 256 * (b + 256 * c)) / 2 &&& 1431655765) = t1 a + 256 * (t1 b + 256 * t1 c) := by
    rw [e1]; unfold t1; omega
  have s2e : ((t1 a + 256 * (t1 b + 256 * t1 c)) &&& 858993459) + ((t1 a + 256 * (t1 b + 256 * t1 c)) / 4 &&& 858993459) = t2 a + 256 * (t2 b + 256 * t2 c) := by
    rw [m3, and_sp a1.2 (by omega), and_sp b1.2 (by omega), st2 a1.2, st2 b1.2, hz.2.1, hz.2.2.1]
    unfold t2; omega
  have s3e : ((t2 a + 256 * (t2 b + 256 * t2 c)) + (t2 a + 256 * (t2 b + 256 * t2 c)) / 16) &&& 252645135 = t3 a + 256 * (t3 b + 256 * t3 c) := by
    have d : (t2 a + 256 * (t2 b + 256 * t2 c)) + (t2 a + 256 * (t2 b + 256 * t2 c)) / 16 = (t2 a + t2 a / 16 + 16 * (t2 b % 16)) + 256 * ((t2 b + t2 b / 16 + 16 * (t2 c % 16)) + 256 * (t2 c + t2 c / 16)) := by omega
    have ta := t3_ok a ha (t2 b % 16) (by omega)
    have tb := t3_ok b hb (t2 c % 16) (by omega)
    rw [d, mf, and_sp ta.2 (by omega), ta.1, and_sp tb.2 (by omega), tb.1, hz.2.2.2]
  have l1 := t3_le a ha
  have l2 := t3_le b hb
  have l3 := t3_le c (by omega)
  refine ⟨t1 a + 256 * (t1 b + 256 * t1 c), t2 a + 256 * (t2 b + 256 * t2 c), t3 a + 256 * (t3 b + 256 * t3 c), s1e.symm, ?_, ?_, s2e.symm, ?_, s3e.symm, ?_, ?_⟩
  · rw [e1]; omega
  · have : c / 2 ≤ c := Nat.div_le_self _ _
    have : t1 c ≤ c := Nat.sub_le _ _
    omega
  · omega
  · omega
  · have e2 : t3 c = c / 1 % 2 + c / 2 % 2 + c / 4 % 2 + c / 8 % 2 := by unfold t3; omega
    have h0 : (a + 256 * (b + 256 * c)) / 1 % 2 = a / 1 % 2 := wb0 ha hb
    have h1 : (a + 256 * (b + 256 * c)) / 2 % 2 = a / 2 % 2 := wb1 ha hb
    have h2 : (a + 256 * (b + 256 * c)) / 4 % 2 = a / 4 % 2 := wb2 ha hb
    have h3 : (a + 256 * (b + 256 * c)) / 8 % 2 = a / 8 % 2 := wb3 ha hb
    have h4 : (a + 256 * (b + 256 * c)) / 16 % 2 = a / 16 % 2 := wb4 ha hb
    have h5 : (a + 256 * (b + 256 * c)) / 32 % 2 = a / 32 % 2 := wb5 ha hb
    have h6 : (a + 256 * (b + 256 * c)) / 64 % 2 = a / 64 % 2 := wb6 ha hb
    have h7 : (a + 256 * (b + 256 * c)) / 128 % 2 = a / 128 % 2 := wb7 ha hb
    have h8 : (a + 256 * (b + 256 * c)) / 256 % 2 = b / 1 % 2 := wb8 ha hb
    have h9 : (a + 256 * (b + 256 * c)) / 512 % 2 = b / 2 % 2 := wb9 ha hb
    have h10 : (a + 256 * (b + 256 * c)) / 1024 % 2 = b / 4 % 2 := wb10 ha hb
    have h11 : (a + 256 * (b + 256 * c)) / 2048 % 2 = b / 8 % 2 := wb11 ha hb
    have h12 : (a + 256 * (b + 256 * c)) / 4096 % 2 = b / 16 % 2 := wb12 ha hb
    have h13 : (a + 256 * (b + 256 * c)) / 8192 % 2 = b / 32 % 2 := wb13 ha hb
    have h14 : (a + 256 * (b + 256 * c)) / 16384 % 2 = b / 64 % 2 := wb14 ha hb
    have h15 : (a + 256 * (b + 256 * c)) / 32768 % 2 = b / 128 % 2 := wb15 ha hb
    have h16 : (a + 256 * (b + 256 * c)) / 65536 % 2 = c / 1 % 2 := wb16 ha hb
    have h17 : (a + 256 * (b + 256 * c)) / 131072 % 2 = c / 2 % 2 := wb17 ha hb
    have h18 : (a + 256 * (b + 256 * c)) / 262144 % 2 = c / 4 % 2 := wb18 ha hb
    have h19 : (a + 256 * (b + 256 * c)) / 524288 % 2 = c / 8 % 2 := wb19 ha hb
    have e0 : pcn (a + 256 * (b + 256 * c)) 20 = 0 + (a + 256 * (b + 256 * c)) / 1 % 2 + (a + 256 * (b + 256 * c)) / 2 % 2 + (a + 256 * (b + 256 * c)) / 4 % 2 + (a + 256 * (b + 256 * c)) / 8 % 2 + (a + 256 * (b + 256 * c)) / 16 % 2 + (a + 256 * (b + 256 * c)) / 32 % 2 + (a + 256 * (b + 256 * c)) / 64 % 2 + (a + 256 * (b + 256 * c)) / 128 % 2 + (a + 256 * (b + 256 * c)) / 256 % 2 + (a + 256 * (b + 256 * c)) / 512 % 2 + (a + 256 * (b + 256 * c)) / 1024 % 2 + (a + 256 * (b + 256 * c)) / 2048 % 2 + (a + 256 * (b + 256 * c)) / 4096 % 2 + (a + 256 * (b + 256 * c)) / 8192 % 2 + (a + 256 * (b + 256 * c)) / 16384 % 2 + (a + 256 * (b + 256 * c)) / 32768 % 2 + (a + 256 * (b + 256 * c)) / 65536 % 2 + (a + 256 * (b + 256 * c)) / 131072 % 2 + (a + 256 * (b + 256 * c)) / 262144 % 2 + (a + 256 * (b + 256 * c)) / 524288 % 2 := rfl
    rw [h0, h1, h2, h3, h4, h5, h6, h7, h8, h9, h10, h11, h12, h13, h14, h15, h16, h17, h18, h19] at e0
    have e3 : t3 a = a / 1 % 2 + a / 2 % 2 + a / 4 % 2 + a / 8 % 2 + a / 16 % 2 + a / 32 % 2 + a / 64 % 2 + a / 128 % 2 := rfl
    have e4 : t3 b = b / 1 % 2 + b / 2 % 2 + b / 4 % 2 + b / 8 % 2 + b / 16 % 2 + b / 32 % 2 + b / 64 % 2 + b / 128 % 2 := rfl
    have e5 : pcn (a + 256 * (b + 256 * c)) 20 = t3 a + t3 b + t3 c := by
      rw [e0, e2, e3, e4]
      simp only [Nat.zero_add, Nat.add_assoc]
    rw [e5]
    exact fin64 l1 l2 l3
section
variable {N : Nat}
theorem X_bitc {σ : St} {v : Nat} (hv : v < 2 ^ 20) : fJ6_bitCount_0f7a4 N (nI v) σ = some (nI (pcn v 20), σ) := by
  obtain ⟨s1, s2, s3, h1, h1b, h1c, h2, h2b, h3, h3b, h4⟩ := pop hv
  unfold fJ6_bitCount_0f7a4
  have u : ∀ (x s : Nat), x < 2 ^ 32 → ∀ k, (((nI s).toUInt32 &&& Int32.toUInt32 31).toBitVec % 32).toNat = k → ((nI x).toUInt32 >>> ((nI s).toUInt32 &&& Int32.toUInt32 31)).toInt32 = nI (x / 2 ^ k) := fun x s hx k hk => pk_ushrN hx (nI s) k hk
  have e1 : nI v - (((nI v).toUInt32 >>> ((1 : Int32).toUInt32 &&& Int32.toUInt32 31)).toInt32 &&& (1431655765 : Int32)) = nI s1 := by
    have := u v 1 (by omega) 1 (by decide)
    show nI v - (((nI v).toUInt32 >>> ((nI 1).toUInt32 &&& Int32.toUInt32 31)).toInt32 &&& nI 1431655765) = nI s1
    rw [this, nI_and, pk_sub (by exact h1b), h1]
  have e2 : (nI s1 &&& (858993459 : Int32)) + (((nI s1).toUInt32 >>> ((2 : Int32).toUInt32 &&& Int32.toUInt32 31)).toInt32 &&& (858993459 : Int32)) = nI s2 := by
    have := u s1 2 (by omega) 2 (by decide)
    show (nI s1 &&& nI 858993459) + (((nI s1).toUInt32 >>> ((nI 2).toUInt32 &&& Int32.toUInt32 31)).toInt32 &&& nI 858993459) = nI s2
    rw [this, nI_and, nI_and, nI_add, h2]
  have e3 : (nI s2 + ((nI s2).toUInt32 >>> ((4 : Int32).toUInt32 &&& Int32.toUInt32 31)).toInt32) &&& (252645135 : Int32) = nI s3 := by
    have := u s2 4 (by omega) 4 (by decide)
    show (nI s2 + ((nI s2).toUInt32 >>> ((nI 4).toUInt32 &&& Int32.toUInt32 31)).toInt32) &&& nI 252645135 = nI s3
    rw [this, nI_add, nI_and, h3]
  have e4 : nI s3 + ((nI s3).toUInt32 >>> ((8 : Int32).toUInt32 &&& Int32.toUInt32 31)).toInt32 = nI (s3 + s3 / 256) := by
    have := u s3 8 (by omega) 8 (by decide)
    show nI s3 + ((nI s3).toUInt32 >>> ((nI 8).toUInt32 &&& Int32.toUInt32 31)).toInt32 = _
    rw [this, nI_add]
  have e5 : nI (s3 + s3 / 256) + ((nI (s3 + s3 / 256)).toUInt32 >>> ((16 : Int32).toUInt32 &&& Int32.toUInt32 31)).toInt32 = nI (s3 + s3 / 256 + (s3 + s3 / 256) / 65536) := by
    have := u (s3 + s3 / 256) 16 (by omega) 16 (by decide)
    show nI (s3 + s3 / 256) + ((nI (s3 + s3 / 256)).toUInt32 >>> ((nI 16).toUInt32 &&& Int32.toUInt32 31)).toInt32 = _
    rw [this, nI_add]
  have e6 : nI (s3 + s3 / 256 + (s3 + s3 / 256) / 65536) &&& (63 : Int32) = nI (pcn v 20) := by
    rw [pk_andN (m := 63) (by omega) 6 (by decide)]
    show nI (_ % 64) = _
    rw [h4]
  exact nx_eq e1 (nx_eq e2 (nx_eq e3 (nx_eq e4 (nx_eq e5 (by rw [e6])))))
theorem M_many {σ : St} {v : Nat} (hv : v < 2 ^ 20) (hN : 3000 ≤ N) : fX8_many N (nI v) σ = some (nI (pcn v 20), σ) := by
  unfold fX8_many
  have key : ∀ m i τ, i ≤ 20 → 20 - i < m → τ = σ → fX8_many_4 N m (nI v) (nI (pcn v i)) (nI i) τ = some (nI (pcn v 20), σ) := by
    refine loop_i (fun m i τ => fX8_many_4 N m (nI v) (nI (pcn v i)) (nI i) τ = some (nI (pcn v 20), σ)) (fun _ τ => τ = σ) 20 ?_ ?_
    · intro m τ e
      rw [fX8_many_4, if_pos (show (20 : Int32) ≤ nI 20 from nI_le (a := 20) (by omega) (by omega)), e]
    · intro m i τ hi e ih
      rw [fX8_many_4, if_neg (show ¬ (20 : Int32) ≤ nI i from nI_ge (b := 20) hi (by omega))]
      unfold nx
      rw [bit1 (by omega) (by omega), nI_add]
      show fX8_many_4 N m (nI v) (nI (pcn v (i + 1))) (nI i + 1) τ = _
      rw [nI_1]
      exact ih τ e
  exact key N 0 σ (by omega) (by omega) rfl
end
