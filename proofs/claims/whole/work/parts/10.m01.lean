section
variable {D : va_G} {cA : Nat → ClassId} {ad : Nat → Nat} {p : Program} {l : Launch} {e : Env} {s : State} {m : MethodId} {args : Array Value} {below : List Frame} {meth : Method} {c : Code}
abbrev rmX7_write : Room := { frames := 2, cells := 0, slots := 0, locals := 46 }
def fX7_write_38 (N : Nat) (K25 : Int32 → St → Option (Int32 × St)) : Nat → Int32 → Int32 → St → Option (Int32 × St)
  | 0, _, _, _ => none
  | n + 1, x1, x2, σ => if x1 ≤ x2 then nx (x1 + (1 : Int32)) (fun v2 => (K25 v2 σ)) else bd (fX0_add N 7 (32 : Int32) σ) (fun r3 s4 => gd (ib x1 20) (gd (ib x2 20) (bd (fX0_addNumber N 7 ((s4.1 (60 + 1 * x1.toNatClampNeg) x2.toNatClampNeg).toInt64) s4) (fun r8 s9 => nx (x2 + (1 : Int32)) (fun v11 => ((fX7_write_38 N K25 n) x1 v11 s9))))))
set_option maxHeartbeats 4000000 in
set_option maxRecDepth 100000 in
theorem wX7_write_38 (hC : Cx RX7 cX7_write 3 (some .int) D cA p s m args meth c) {N : Nat} {K25 : Int32 → St → Option (Int32 × St)} {r : Int32} {σ' : St} (hK25 : ∀ (x1 : Int32) (σ : St) (H : Heap) (locs : List Loc) (ls : Array Slot), K25 x1 σ = some (r, σ') → Wd kdX 140 D cA ad s σ H locs → lv_has ls 3 [(0, .ref (ad 0)), (1, .int x1)] → W p l e rmX7_write s m args below meth c H locs 0 0 (EndW kdX 140 D cA ad below args s (some (.int r)) σ') (F0 m 25 ls [])) : ∀ (n : Nat) (x1 : Int32) (x2 : Int32) (σ : St) (H : Heap) (locs : List Loc) (ls : Array Slot), fX7_write_38 N K25 n x1 x2 σ = some (r, σ') → Wd kdX 140 D cA ad s σ H locs → lv_has ls 3 [(0, .ref (ad 0)), (1, .int x1), (2, .int x2)] → W p l e rmX7_write s m args below meth c H locs 0 0 (EndW kdX 140 D cA ad below args s (some (.int r)) σ') (F0 m 38 ls []) := by
  have hx := hC.1
  have hb := hC.2.1
  have hown := hC.2.2.2.1
  have hts := hC.2.2.2.2.1
  intro n
  induction n with
  | zero =>
    intro x1 x2 σ H locs ls hf
    rw [fX7_write_38] at hf
    cases hf
  | succ n ih =>
    intro x1 x2 σ H locs ls hf hW hl
    rw [fX7_write_38] at hf
    refine lv_iload_n hx hb dX7_write_38 rfl (lv_at hl 2 rfl) ?_
    refine lv_iload_n hx hb dX7_write_39 rfl (lv_at hl 1 rfl) ?_
    refine lv_icmp_ge (tgt := 77) hx hb dX7_write_40 (by decide) (fun h1 => ?_) (fun h1 => ?_)
    · have hf := it_t h1 hf
      obtain ⟨v2, ev2⟩ : ∃ y : Int32, y = x1 + (1 : Int32) := ⟨_, rfl⟩
      have hf := nx_at ev2 hf
      refine lv_iinc (v := v2) (lv' := [(1, .int v2), (0, .ref (ad 0)), (2, .int x2)]) hx hb dX7_write_77 hl (k := 1) rfl (by rw [ev2]; rfl) (by decide) rfl (fun ls hl => ?_)
      refine lv_goto (tgt := 25) hx hb dX7_write_80 (by decide) ?_
      exact hK25 _ _ _ _ _ hf hW (lv_sub hl [1, 0] rfl)
    · have hf := it_f h1 hf
      refine lv_aload_n hx hb dX7_write_43 rfl (lv_at hl 0 rfl) ?_
      refine gfX7_23 hC hW 0 (by decide) rfl (q := 7) rfl dX7_write_44 ?_
      refine lv_bipush (v := 32) hx hb dX7_write_47 (by decide) ?_
      obtain ⟨r3, s4, c5, hf⟩ := bd_some hf
      refine Wd.callVN (n := 1) (As := [.int (32 : Int32)]) (rest := []) (rv := none) hC hW 7 (kX0_add (Or.inr rfl) c5) (by decide) rfl rfl q357 q300 qs5 q3 q301 ⟨rfl, rfl⟩ ⟨by decide +kernel, by decide +kernel, by decide +kernel⟩ ⟨Nat.le_of_ble_eq_true rfl, Nat.le_of_ble_eq_true rfl⟩ ⟨Nat.zero_le _, Nat.zero_le _⟩ rfl hl.1 rfl (st2 := []) rfl (Nat.le_of_ble_eq_true rfl) dX7_write_49 (fun H locs hW => ?_)
      refine lv_aload_n hx hb dX7_write_52 rfl (lv_at hl 0 rfl) ?_
      refine gfX7_23 hC hW 0 (by decide) rfl (q := 7) rfl dX7_write_53 ?_
      refine lv_aload_n hx hb dX7_write_56 rfl (lv_at hl 0 rfl) ?_
      refine gfX7_12 hC hW 0 (by decide) rfl (q := 1) rfl dX7_write_57 ?_
      refine gfX7_60 hC hW 1 (by decide) rfl (q := 4) rfl dX7_write_60 ?_
      refine lv_iload_n hx hb dX7_write_63 rfl (lv_at hl 1 rfl) ?_
      obtain ⟨h6, hf⟩ := gd_some hf
      refine Wd.aald hC hW 4 ⟨by decide, by decide⟩ (by decide) rfl h6 dX7_write_64 ?_
      refine lv_iload_n hx hb dX7_write_65 rfl (lv_at hl 2 rfl) ?_
      obtain ⟨h7, hf⟩ := gd_some hf
      refine Wd.iald hC hW (60 + 1 * x1.toNatClampNeg) (Rw.b60 h6) (Rw.k60 h6) h7 dX7_write_66 ?_
      refine lv_i2l (v := (s4.1 (60 + 1 * x1.toNatClampNeg) x2.toNatClampNeg).toInt64) hx hb dX7_write_67 rfl ?_
      obtain ⟨r8, s9, c10, hf⟩ := bd_some hf
      refine Wd.callVN (n := 1) (As := [.long ((s4.1 (60 + 1 * x1.toNatClampNeg) x2.toNatClampNeg).toInt64)]) (rest := []) (rv := none) hC hW 7 (kX0_addNumber (Or.inr rfl) c10) (by decide) rfl rfl q352 q354 qs11 q3 q355 ⟨rfl, rfl⟩ ⟨by decide +kernel, by decide +kernel, by decide +kernel⟩ ⟨Nat.le_of_ble_eq_true rfl, Nat.le_of_ble_eq_true rfl⟩ ⟨Nat.zero_le _, Nat.zero_le _⟩ rfl hl.1 rfl (st2 := []) rfl (Nat.le_of_ble_eq_true rfl) dX7_write_68 (fun H locs hW => ?_)
      obtain ⟨v11, ev11⟩ : ∃ y : Int32, y = x2 + (1 : Int32) := ⟨_, rfl⟩
      have hf := nx_at ev11 hf
      refine lv_iinc (v := v11) (lv' := [(2, .int v11), (0, .ref (ad 0)), (1, .int x1)]) hx hb dX7_write_71 hl (k := 2) rfl (by rw [ev11]; rfl) (by decide) rfl (fun ls hl => ?_)
      refine lv_goto (tgt := 38) hx hb dX7_write_74 (by decide) ?_
      exact ih _ _ _ _ _ _ hf hW (lv_sub hl [1, 2, 0] rfl)
def fX7_write_25 (N : Nat) : Nat → Int32 → St → Option (Int32 × St)
  | 0, _, _ => none
  | n + 1, x1, σ => if (σ.1 1 0) ≤ x1 then some ((σ.1 7 1), σ) else (fX7_write_38 N (fX7_write_25 N n) N x1 (0 : Int32) σ)
set_option maxHeartbeats 4000000 in
set_option maxRecDepth 100000 in
theorem wX7_write_25 (hC : Cx RX7 cX7_write 3 (some .int) D cA p s m args meth c) {N : Nat} {r : Int32} {σ' : St} : ∀ (n : Nat) (x1 : Int32) (σ : St) (H : Heap) (locs : List Loc) (ls : Array Slot), fX7_write_25 N n x1 σ = some (r, σ') → Wd kdX 140 D cA ad s σ H locs → lv_has ls 3 [(0, .ref (ad 0)), (1, .int x1)] → W p l e rmX7_write s m args below meth c H locs 0 0 (EndW kdX 140 D cA ad below args s (some (.int r)) σ') (F0 m 25 ls []) := by
  have hx := hC.1
  have hb := hC.2.1
  have hown := hC.2.2.2.1
  have hts := hC.2.2.2.2.1
  intro n
  induction n with
  | zero =>
    intro x1 σ H locs ls hf
    rw [fX7_write_25] at hf
    cases hf
  | succ n ih =>
    intro x1 σ H locs ls hf hW hl
    rw [fX7_write_25] at hf
    refine lv_iload_n hx hb dX7_write_25 rfl (lv_at hl 1 rfl) ?_
    refine lv_aload_n hx hb dX7_write_26 rfl (lv_at hl 0 rfl) ?_
    refine gfX7_12 hC hW 0 (by decide) rfl (q := 1) rfl dX7_write_27 ?_
    refine gfX7_95 hC hW 1 (by decide) rfl rfl dX7_write_30 ?_
    refine lv_icmp_ge (tgt := 83) hx hb dX7_write_33 (by decide) (fun h1 => ?_) (fun h1 => ?_)
    · have hf := it_t h1 hf
      refine lv_aload_n hx hb dX7_write_83 rfl (lv_at hl 0 rfl) ?_
      refine gfX7_23 hC hW 0 (by decide) rfl (q := 7) rfl dX7_write_84 ?_
      refine gfX7_77 hC hW 7 (by decide) rfl rfl dX7_write_87 ?_
      obtain ⟨rfl, rfl⟩ := sp hf
      exact Wd.iret hC hW dX7_write_90
    · have hf := it_f h1 hf
      refine lv_iconst (v := 0) hx hb dX7_write_36 (by decide) ?_
      refine lv_istore_n (lv' := [(2, .int (0 : Int32)), (0, .ref (ad 0)), (1, .int x1)]) hx hb dX7_write_37 rfl hl (by decide) rfl (fun ls hl => ?_)
      exact wX7_write_38 hC ih N _ _ _ _ _ _ hf hW (lv_sub hl [1, 2, 0] rfl)
def fX7_write (N : Nat) (σ : St) : Option (Int32 × St) := nx (sI σ 7 1 (0 : Int32)) (fun s1 => bd (fX0_addNumber N 7 ((s1.1 1 0).toInt64) s1) (fun r2 s3 => (fX7_write_25 N N (1 : Int32) s3)))
set_option maxHeartbeats 4000000 in
set_option maxRecDepth 100000 in
theorem kX7_write {l : Launch} {D : va_G} {cA : Nat → ClassId} {ad : Nat → Nat} {N : Nat} {σ : St} {r : Int32} {σ' : St} (hf : fX7_write N σ = some (r, σ')) : MW kdX 140 l D cA ad ⟨RX7, "write", "()I"⟩ cX7_write 3 (some .int) rmX7_write [.ref (ad 0)] σ (some (.int r)) σ' := by
  refine MW.of (by decide) (Nat.le_of_ble_eq_true rfl) ?_
  intro p e s m args below meth c ls hC hW hl
  have hx := hC.1
  have hb := hC.2.1
  have hown := hC.2.2.2.1
  have hts := hC.2.2.2.2.1
  have hl : lv_has ls 3 [(0, .ref (ad 0))] := hl
  unfold fX7_write at hf
  refine lv_aload_n hx hb dX7_write_0 rfl (lv_at hl 0 rfl) ?_
  refine gfX7_23 hC hW 0 (by decide) rfl (q := 7) rfl dX7_write_1 ?_
  refine lv_iconst (v := 0) hx hb dX7_write_4 (by decide) ?_
  refine pgfX7_77 hC hW 7 (by decide) rfl rfl dX7_write_5 (fun H locs hW => ?_)
  obtain ⟨s1, es1, hf⟩ := nx_ex hf
  rw [← es1] at hW
  refine lv_aload_n hx hb dX7_write_8 rfl (lv_at hl 0 rfl) ?_
  refine gfX7_23 hC hW 0 (by decide) rfl (q := 7) rfl dX7_write_9 ?_
  refine lv_aload_n hx hb dX7_write_12 rfl (lv_at hl 0 rfl) ?_
  refine gfX7_12 hC hW 0 (by decide) rfl (q := 1) rfl dX7_write_13 ?_
  refine gfX7_95 hC hW 1 (by decide) rfl rfl dX7_write_16 ?_
  refine lv_i2l (v := (s1.1 1 0).toInt64) hx hb dX7_write_19 rfl ?_
  obtain ⟨r2, s3, c4, hf⟩ := bd_some hf
  refine Wd.callVN (n := 1) (As := [.long ((s1.1 1 0).toInt64)]) (rest := []) (rv := none) hC hW 7 (kX0_addNumber (Or.inr rfl) c4) (by decide) rfl rfl q352 q354 qs11 q3 q355 ⟨rfl, rfl⟩ ⟨by decide +kernel, by decide +kernel, by decide +kernel⟩ ⟨Nat.le_of_ble_eq_true rfl, Nat.le_of_ble_eq_true rfl⟩ ⟨Nat.zero_le _, Nat.zero_le _⟩ rfl hl.1 rfl (st2 := []) rfl (Nat.le_of_ble_eq_true rfl) dX7_write_20 (fun H locs hW => ?_)
  refine lv_iconst (v := 1) hx hb dX7_write_23 (by decide) ?_
  refine lv_istore_n (lv' := [(1, .int (1 : Int32)), (0, .ref (ad 0))]) hx hb dX7_write_24 rfl hl (by decide) rfl (fun ls hl => ?_)
  exact wX7_write_25 hC N _ _ _ _ _ hf hW (lv_sub hl [1, 0] rfl)
abbrev rmX7_out : Room := { frames := 1, cells := 0, slots := 0, locals := 21 }
def fX7_out (N : Nat) (x1 : Int32) (σ : St) : Option (Int32 × St) := bd (fX0_at N 7 x1 σ) (fun r1 s2 => some (r1, s2))
set_option maxHeartbeats 4000000 in
set_option maxRecDepth 100000 in
theorem kX7_out {l : Launch} {D : va_G} {cA : Nat → ClassId} {ad : Nat → Nat} {N : Nat} {x1 : Int32} {σ : St} {r : Int32} {σ' : St} (hf : fX7_out N x1 σ = some (r, σ')) : MW kdX 140 l D cA ad ⟨RX7, "out", "(I)I"⟩ cX7_out 2 (some .int) rmX7_out [.ref (ad 0), .int x1] σ (some (.int r)) σ' := by
  refine MW.of (by decide) (Nat.le_of_ble_eq_true rfl) ?_
  intro p e s m args below meth c ls hC hW hl
  have hx := hC.1
  have hb := hC.2.1
  have hown := hC.2.2.2.1
  have hts := hC.2.2.2.2.1
  have hl : lv_has ls 2 [(0, .ref (ad 0)), (1, .int x1)] := hl
  unfold fX7_out at hf
  refine lv_aload_n hx hb dX7_out_0 rfl (lv_at hl 0 rfl) ?_
  refine gfX7_23 hC hW 0 (by decide) rfl (q := 7) rfl dX7_out_1 ?_
  refine lv_iload_n hx hb dX7_out_4 rfl (lv_at hl 1 rfl) ?_
  obtain ⟨r1, s2, c3, hf⟩ := bd_some hf
  refine Wd.callVN (n := 1) (As := [.int x1]) (rest := []) (rv := some (.int r1)) hC hW 7 (kX0_at (Or.inr rfl) c3) (by decide) rfl rfl q362 q336 qs10 q3 q337 ⟨rfl, rfl⟩ ⟨by decide +kernel, by decide +kernel, by decide +kernel⟩ ⟨Nat.le_of_ble_eq_true rfl, Nat.le_of_ble_eq_true rfl⟩ ⟨Nat.zero_le _, Nat.zero_le _⟩ rfl hl.1 rfl (st2 := [.int r1]) rfl (Nat.le_of_ble_eq_true rfl) dX7_out_5 (fun H locs hW => ?_)
  obtain ⟨rfl, rfl⟩ := sp hf
  exact Wd.iret hC hW dX7_out_8
abbrev rmX3_allBits : Room := { frames := 0, cells := 0, slots := 0, locals := 0 }
def fX3_allBits (N : Nat) (σ : St) : Option (Int32 × St) := some ((((1 : Int32) <<< ((σ.1 1 0) &&& 31)) - (1 : Int32)), σ)
set_option maxHeartbeats 4000000 in
set_option maxRecDepth 100000 in
theorem kX3_allBits {l : Launch} {D : va_G} {cA : Nat → ClassId} {ad : Nat → Nat} {N : Nat} {σ : St} {r : Int32} {σ' : St} (hf : fX3_allBits N σ = some (r, σ')) : MW kdX 140 l D cA ad ⟨RX3, "allBits", "()I"⟩ cX3_allBits 1 (some .int) rmX3_allBits [.ref (ad 1)] σ (some (.int r)) σ' := by
  refine MW.of (by decide) (Nat.le_of_ble_eq_true rfl) ?_
  intro p e s m args below meth c ls hC hW hl
  have hx := hC.1
  have hb := hC.2.1
  have hown := hC.2.2.2.1
  have hts := hC.2.2.2.2.1
  have hl : lv_has ls 1 [(0, .ref (ad 1))] := hl
  unfold fX3_allBits at hf
  refine lv_iconst (v := 1) hx hb dX3_allBits_0 (by decide) ?_
  refine lv_aload_n hx hb dX3_allBits_1 rfl (lv_at hl 0 rfl) ?_
  refine gfX3_23 hC hW 1 (by decide) rfl rfl dX3_allBits_2 ?_
  refine lv_ishl hx hb dX3_allBits_5 ?_
  refine lv_iconst (v := 1) hx hb dX3_allBits_6 (by decide) ?_
  refine lv_isub hx hb dX3_allBits_7 ?_
  obtain ⟨rfl, rfl⟩ := sp hf
  exact Wd.iret hC hW dX3_allBits_8
abbrev rmJ6_bitCount_0f7a4 : Room := { frames := 0, cells := 0, slots := 0, locals := 0 }
def fJ6_bitCount_0f7a4 (N : Nat) (x0 : Int32) (σ : St) : Option (Int32 × St) := nx (x0 - ((x0.toUInt32 >>> ((1 : Int32).toUInt32 &&& Int32.toUInt32 31)).toInt32 &&& (1431655765 : Int32))) (fun v1 => nx ((v1 &&& (858993459 : Int32)) + ((v1.toUInt32 >>> ((2 : Int32).toUInt32 &&& Int32.toUInt32 31)).toInt32 &&& (858993459 : Int32))) (fun v2 => nx ((v2 + (v2.toUInt32 >>> ((4 : Int32).toUInt32 &&& Int32.toUInt32 31)).toInt32) &&& (252645135 : Int32)) (fun v3 => nx (v3 + (v3.toUInt32 >>> ((8 : Int32).toUInt32 &&& Int32.toUInt32 31)).toInt32) (fun v4 => nx (v4 + (v4.toUInt32 >>> ((16 : Int32).toUInt32 &&& Int32.toUInt32 31)).toInt32) (fun v5 => some ((v5 &&& (63 : Int32)), σ))))))
set_option maxHeartbeats 4000000 in
set_option maxRecDepth 100000 in
theorem kJ6_bitCount_0f7a4 {l : Launch} {D : va_G} {cA : Nat → ClassId} {ad : Nat → Nat} {N : Nat} {x0 : Int32} {σ : St} {r : Int32} {σ' : St} (hf : fJ6_bitCount_0f7a4 N x0 σ = some (r, σ')) : MW kdX 140 l D cA ad ⟨RJ6, "bitCount", "(I)I"⟩ cJ6_bitCount_0f7a4 1 (some .int) rmJ6_bitCount_0f7a4 [.int x0] σ (some (.int r)) σ' := by
  refine MW.ofF (by decide +kernel) (Nat.le_of_ble_eq_true rfl) ?_
  intro p e s m args below meth c ls hC hW hl
  have hx := hC.1
  have hb := hC.2.1
  have hown := hC.2.2.2.1
  have hts := hC.2.2.2.2.1
  have hl : lv_has ls 1 [(0, .int x0)] := hl
  unfold fJ6_bitCount_0f7a4 at hf
  refine lv_iload_n hx hb dJ6_bitCount_0f7a4_0 rfl (lv_at hl 0 rfl) ?_
  refine lv_iload_n hx hb dJ6_bitCount_0f7a4_1 rfl (lv_at hl 0 rfl) ?_
  refine lv_iconst (v := 1) hx hb dJ6_bitCount_0f7a4_2 (by decide) ?_
  refine lv_iushr (v := (x0.toUInt32 >>> ((1 : Int32).toUInt32 &&& Int32.toUInt32 31)).toInt32) hx hb dJ6_bitCount_0f7a4_3 rfl ?_
  refine lv_ldcw hx hb hown (hts _ q375) dJ6_bitCount_0f7a4_4 ?_
  refine lv_iand hx hb dJ6_bitCount_0f7a4_7 ?_
  refine lv_isub hx hb dJ6_bitCount_0f7a4_8 ?_
  refine lv_topi (fun v1 ev1 => ?_)
  have hf := nx_at ev1 hf
  refine lv_istore_n (lv' := [(0, .int v1)]) hx hb dJ6_bitCount_0f7a4_9 rfl hl (by decide) rfl (fun ls hl => ?_)
  refine lv_iload_n hx hb dJ6_bitCount_0f7a4_10 rfl (lv_at hl 0 rfl) ?_
  refine lv_ldcw hx hb hown (hts _ q376) dJ6_bitCount_0f7a4_11 ?_
  refine lv_iand hx hb dJ6_bitCount_0f7a4_14 ?_
  refine lv_iload_n hx hb dJ6_bitCount_0f7a4_15 rfl (lv_at hl 0 rfl) ?_
  refine lv_iconst (v := 2) hx hb dJ6_bitCount_0f7a4_16 (by decide) ?_
  refine lv_iushr (v := (v1.toUInt32 >>> ((2 : Int32).toUInt32 &&& Int32.toUInt32 31)).toInt32) hx hb dJ6_bitCount_0f7a4_17 rfl ?_
  refine lv_ldcw hx hb hown (hts _ q376) dJ6_bitCount_0f7a4_18 ?_
  refine lv_iand hx hb dJ6_bitCount_0f7a4_21 ?_
  refine lv_iadd hx hb dJ6_bitCount_0f7a4_22 ?_
  refine lv_topi (fun v2 ev2 => ?_)
  have hf := nx_at ev2 hf
  refine lv_istore_n (lv' := [(0, .int v2)]) hx hb dJ6_bitCount_0f7a4_23 rfl hl (by decide) rfl (fun ls hl => ?_)
  refine lv_iload_n hx hb dJ6_bitCount_0f7a4_24 rfl (lv_at hl 0 rfl) ?_
  refine lv_iload_n hx hb dJ6_bitCount_0f7a4_25 rfl (lv_at hl 0 rfl) ?_
  refine lv_iconst (v := 4) hx hb dJ6_bitCount_0f7a4_26 (by decide) ?_
  refine lv_iushr (v := (v2.toUInt32 >>> ((4 : Int32).toUInt32 &&& Int32.toUInt32 31)).toInt32) hx hb dJ6_bitCount_0f7a4_27 rfl ?_
  refine lv_iadd hx hb dJ6_bitCount_0f7a4_28 ?_
  refine lv_ldcw hx hb hown (hts _ q377) dJ6_bitCount_0f7a4_29 ?_
  refine lv_iand hx hb dJ6_bitCount_0f7a4_32 ?_
  refine lv_topi (fun v3 ev3 => ?_)
  have hf := nx_at ev3 hf
  refine lv_istore_n (lv' := [(0, .int v3)]) hx hb dJ6_bitCount_0f7a4_33 rfl hl (by decide) rfl (fun ls hl => ?_)
  refine lv_iload_n hx hb dJ6_bitCount_0f7a4_34 rfl (lv_at hl 0 rfl) ?_
  refine lv_iload_n hx hb dJ6_bitCount_0f7a4_35 rfl (lv_at hl 0 rfl) ?_
  refine lv_bipush (v := 8) hx hb dJ6_bitCount_0f7a4_36 (by decide) ?_
  refine lv_iushr (v := (v3.toUInt32 >>> ((8 : Int32).toUInt32 &&& Int32.toUInt32 31)).toInt32) hx hb dJ6_bitCount_0f7a4_38 rfl ?_
  refine lv_iadd hx hb dJ6_bitCount_0f7a4_39 ?_
  refine lv_topi (fun v4 ev4 => ?_)
  have hf := nx_at ev4 hf
  refine lv_istore_n (lv' := [(0, .int v4)]) hx hb dJ6_bitCount_0f7a4_40 rfl hl (by decide) rfl (fun ls hl => ?_)
  refine lv_iload_n hx hb dJ6_bitCount_0f7a4_41 rfl (lv_at hl 0 rfl) ?_
  refine lv_iload_n hx hb dJ6_bitCount_0f7a4_42 rfl (lv_at hl 0 rfl) ?_
  refine lv_bipush (v := 16) hx hb dJ6_bitCount_0f7a4_43 (by decide) ?_
  refine lv_iushr (v := (v4.toUInt32 >>> ((16 : Int32).toUInt32 &&& Int32.toUInt32 31)).toInt32) hx hb dJ6_bitCount_0f7a4_45 rfl ?_
  refine lv_iadd hx hb dJ6_bitCount_0f7a4_46 ?_
  refine lv_topi (fun v5 ev5 => ?_)
  have hf := nx_at ev5 hf
  refine lv_istore_n (lv' := [(0, .int v5)]) hx hb dJ6_bitCount_0f7a4_47 rfl hl (by decide) rfl (fun ls hl => ?_)
  refine lv_iload_n hx hb dJ6_bitCount_0f7a4_48 rfl (lv_at hl 0 rfl) ?_
  refine lv_bipush (v := 63) hx hb dJ6_bitCount_0f7a4_49 (by decide) ?_
  refine lv_iand hx hb dJ6_bitCount_0f7a4_51 ?_
  obtain ⟨rfl, rfl⟩ := sp hf
  exact Wd.iret hC hW dJ6_bitCount_0f7a4_52
abbrev rmJ9_min_f86c9 : Room := { frames := 0, cells := 0, slots := 0, locals := 0 }
def fJ9_min_f86c9 (N : Nat) (x0 : Int64) (x2 : Int64) (σ : St) : Option (Int64 × St) := if 0 < (lg_cmp x0 x2) then some (x2, σ) else some (x0, σ)
set_option maxHeartbeats 4000000 in
set_option maxRecDepth 100000 in
theorem kJ9_min_f86c9 {l : Launch} {D : va_G} {cA : Nat → ClassId} {ad : Nat → Nat} {N : Nat} {x0 : Int64} {x2 : Int64} {σ : St} {r : Int64} {σ' : St} (hf : fJ9_min_f86c9 N x0 x2 σ = some (r, σ')) : MW kdX 140 l D cA ad ⟨RJ9, "min", "(JJ)J"⟩ cJ9_min_f86c9 4 (some .long) rmJ9_min_f86c9 [.long x0, .long x2] σ (some (.long r)) σ' := by
  refine MW.ofF (by decide +kernel) (Nat.le_of_ble_eq_true rfl) ?_
  intro p e s m args below meth c ls hC hW hl
  have hx := hC.1
  have hb := hC.2.1
  have hown := hC.2.2.2.1
  have hts := hC.2.2.2.2.1
  have hl : lv_has ls 4 [(0, .long x0), (2, .long x2)] := hl
  unfold fJ9_min_f86c9 at hf
  refine lv_lload_n hx hb dJ9_min_f86c9_0 rfl (lv_at hl 0 rfl) ?_
  refine lv_lload_n hx hb dJ9_min_f86c9_1 rfl (lv_at hl 1 rfl) ?_
  refine W.lcmp hx hb dJ9_min_f86c9_2 ?_
  refine lv_if_gt (tgt := 10) hx hb dJ9_min_f86c9_3 (by decide) (fun h1 => ?_) (fun h1 => ?_)
  · have hf := it_t h1 hf
    refine lv_lload_n hx hb dJ9_min_f86c9_10 rfl (lv_at hl 1 rfl) ?_
    obtain ⟨rfl, rfl⟩ := sp hf
    exact Wd.lret hC hW dJ9_min_f86c9_11
  · have hf := it_f h1 hf
    refine lv_lload_n hx hb dJ9_min_f86c9_6 rfl (lv_at hl 0 rfl) ?_
    refine lv_goto (tgt := 11) hx hb dJ9_min_f86c9_7 (by decide) ?_
    obtain ⟨rfl, rfl⟩ := sp hf
    exact Wd.lret hC hW dJ9_min_f86c9_11
abbrev rmJ9_max_f86c9 : Room := { frames := 0, cells := 0, slots := 0, locals := 0 }
def fJ9_max_f86c9 (N : Nat) (x0 : Int64) (x2 : Int64) (σ : St) : Option (Int64 × St) := if (lg_cmp x0 x2) < 0 then some (x2, σ) else some (x0, σ)
set_option maxHeartbeats 4000000 in
set_option maxRecDepth 100000 in
theorem kJ9_max_f86c9 {l : Launch} {D : va_G} {cA : Nat → ClassId} {ad : Nat → Nat} {N : Nat} {x0 : Int64} {x2 : Int64} {σ : St} {r : Int64} {σ' : St} (hf : fJ9_max_f86c9 N x0 x2 σ = some (r, σ')) : MW kdX 140 l D cA ad ⟨RJ9, "max", "(JJ)J"⟩ cJ9_max_f86c9 4 (some .long) rmJ9_max_f86c9 [.long x0, .long x2] σ (some (.long r)) σ' := by
  refine MW.ofF (by decide +kernel) (Nat.le_of_ble_eq_true rfl) ?_
  intro p e s m args below meth c ls hC hW hl
  have hx := hC.1
  have hb := hC.2.1
  have hown := hC.2.2.2.1
  have hts := hC.2.2.2.2.1
  have hl : lv_has ls 4 [(0, .long x0), (2, .long x2)] := hl
  unfold fJ9_max_f86c9 at hf
  refine lv_lload_n hx hb dJ9_max_f86c9_0 rfl (lv_at hl 0 rfl) ?_
  refine lv_lload_n hx hb dJ9_max_f86c9_1 rfl (lv_at hl 1 rfl) ?_
  refine W.lcmp hx hb dJ9_max_f86c9_2 ?_
  refine lv_if_lt (tgt := 10) hx hb dJ9_max_f86c9_3 (by decide) (fun h1 => ?_) (fun h1 => ?_)
  · have hf := it_t h1 hf
    refine lv_lload_n hx hb dJ9_max_f86c9_10 rfl (lv_at hl 1 rfl) ?_
    obtain ⟨rfl, rfl⟩ := sp hf
    exact Wd.lret hC hW dJ9_max_f86c9_11
  · have hf := it_f h1 hf
    refine lv_lload_n hx hb dJ9_max_f86c9_6 rfl (lv_at hl 0 rfl) ?_
    refine lv_goto (tgt := 11) hx hb dJ9_max_f86c9_7 (by decide) ?_
    obtain ⟨rfl, rfl⟩ := sp hf
    exact Wd.lret hC hW dJ9_max_f86c9_11
abbrev rmX2_carriedOn : Room := { frames := 1, cells := 0, slots := 0, locals := 23 }
def fX2_carriedOn (N : Nat) (x0 : Int32) (x1 : Int64) (x3 : Int64) (σ : St) : Option (Int64 × St) := nx x0 (fun sw => if sw = (0 : Int32) then bd (fJ9_min_f86c9 N x1 x3 σ) (fun r1 s2 => some (r1, s2)) else if sw = (1 : Int32) then bd (fJ9_max_f86c9 N x1 x3 σ) (fun r4 s5 => some (r4, s5)) else if sw = (2 : Int32) then some ((x1 + x3), σ) else if sw = (3 : Int32) then some ((x1 + x3), σ) else if sw = (4 : Int32) then some (((x1 + x3) / (2 : Int64)), σ) else some ((x1 + x3), σ))
set_option maxHeartbeats 4000000 in
set_option maxRecDepth 100000 in
theorem kX2_carriedOn {l : Launch} {D : va_G} {cA : Nat → ClassId} {ad : Nat → Nat} {N : Nat} {x0 : Int32} {x1 : Int64} {x3 : Int64} {σ : St} {r : Int64} {σ' : St} (hf : fX2_carriedOn N x0 x1 x3 σ = some (r, σ')) : MW kdX 140 l D cA ad ⟨RX2, "carriedOn", "(IJJ)J"⟩ cX2_carriedOn 5 (some .long) rmX2_carriedOn [.int x0, .long x1, .long x3] σ (some (.long r)) σ' := by
  refine MW.of (by decide) (Nat.le_of_ble_eq_true rfl) ?_
  intro p e s m args below meth c ls hC hW hl
  have hx := hC.1
  have hb := hC.2.1
  have hown := hC.2.2.2.1
  have hts := hC.2.2.2.2.1
  have hl : lv_has ls 5 [(0, .int x0), (1, .long x1), (3, .long x3)] := hl
  unfold fX2_carriedOn at hf
  refine lv_iload_n hx hb dX2_carriedOn_0 rfl (lv_at hl 0 rfl) ?_
  refine lv_topi (fun sw esw => ?_)
  have hf := nx_at esw hf
  by_cases hs0 : sw = (0 : Int32)
  · have hf := it_t hs0 hf
    refine lv_tableIn (tgt := 36) hx hb dX2_carriedOn_1 (by rw [hs0]; decide) (by rw [hs0]; decide) (by rw [hs0]; rfl) (by decide) ?_
    refine lv_lload_n hx hb dX2_carriedOn_36 rfl (lv_at hl 1 rfl) ?_
    refine lv_lload_n hx hb dX2_carriedOn_37 rfl (lv_at hl 2 rfl) ?_
    obtain ⟨r1, s2, c3, hf⟩ := bd_some hf
    refine Wd.callS (n := 2) (As := [.long x1, .long x3]) (rest := []) (rv := some (.long r1)) hC hW (kJ9_min_f86c9 c3) q385 q386 q9 q387 ⟨rfl, rfl⟩ ⟨by decide +kernel, by decide +kernel, by decide +kernel⟩ ⟨Nat.le_of_ble_eq_true rfl, Nat.le_of_ble_eq_true rfl⟩ ⟨Nat.zero_le _, Nat.zero_le _⟩ rfl hl.1 rfl (st2 := [.long r1]) rfl (Nat.le_of_ble_eq_true rfl) dX2_carriedOn_38 (fun H locs hW => ?_)
    obtain ⟨rfl, rfl⟩ := sp hf
    exact Wd.lret hC hW dX2_carriedOn_41
  have hf := it_f hs0 hf
  by_cases hs1 : sw = (1 : Int32)
  · have hf := it_t hs1 hf
    refine lv_tableIn (tgt := 42) hx hb dX2_carriedOn_1 (by rw [hs1]; decide) (by rw [hs1]; decide) (by rw [hs1]; rfl) (by decide) ?_
    refine lv_lload_n hx hb dX2_carriedOn_42 rfl (lv_at hl 1 rfl) ?_
    refine lv_lload_n hx hb dX2_carriedOn_43 rfl (lv_at hl 2 rfl) ?_
    obtain ⟨r4, s5, c6, hf⟩ := bd_some hf
    refine Wd.callS (n := 2) (As := [.long x1, .long x3]) (rest := []) (rv := some (.long r4)) hC hW (kJ9_max_f86c9 c6) q388 q389 q9 q390 ⟨rfl, rfl⟩ ⟨by decide +kernel, by decide +kernel, by decide +kernel⟩ ⟨Nat.le_of_ble_eq_true rfl, Nat.le_of_ble_eq_true rfl⟩ ⟨Nat.zero_le _, Nat.zero_le _⟩ rfl hl.1 rfl (st2 := [.long r4]) rfl (Nat.le_of_ble_eq_true rfl) dX2_carriedOn_44 (fun H locs hW => ?_)
    obtain ⟨rfl, rfl⟩ := sp hf
    exact Wd.lret hC hW dX2_carriedOn_47
  have hf := it_f hs1 hf
  by_cases hs2 : sw = (2 : Int32)
  · have hf := it_t hs2 hf
    refine lv_tableIn (tgt := 56) hx hb dX2_carriedOn_1 (by rw [hs2]; decide) (by rw [hs2]; decide) (by rw [hs2]; rfl) (by decide) ?_
    refine lv_lload_n hx hb dX2_carriedOn_56 rfl (lv_at hl 1 rfl) ?_
    refine lv_lload_n hx hb dX2_carriedOn_57 rfl (lv_at hl 2 rfl) ?_
    refine lv_ladd hx hb dX2_carriedOn_58 ?_
    obtain ⟨rfl, rfl⟩ := sp hf
    exact Wd.lret hC hW dX2_carriedOn_59
  have hf := it_f hs2 hf
  by_cases hs3 : sw = (3 : Int32)
  · have hf := it_t hs3 hf
    refine lv_tableIn (tgt := 56) hx hb dX2_carriedOn_1 (by rw [hs3]; decide) (by rw [hs3]; decide) (by rw [hs3]; rfl) (by decide) ?_
    refine lv_lload_n hx hb dX2_carriedOn_56 rfl (lv_at hl 1 rfl) ?_
    refine lv_lload_n hx hb dX2_carriedOn_57 rfl (lv_at hl 2 rfl) ?_
    refine lv_ladd hx hb dX2_carriedOn_58 ?_
    obtain ⟨rfl, rfl⟩ := sp hf
    exact Wd.lret hC hW dX2_carriedOn_59
  have hf := it_f hs3 hf
  by_cases hs4 : sw = (4 : Int32)
  · have hf := it_t hs4 hf
    refine lv_tableIn (tgt := 48) hx hb dX2_carriedOn_1 (by rw [hs4]; decide) (by rw [hs4]; decide) (by rw [hs4]; rfl) (by decide) ?_
    refine lv_lload_n hx hb dX2_carriedOn_48 rfl (lv_at hl 1 rfl) ?_
    refine lv_lload_n hx hb dX2_carriedOn_49 rfl (lv_at hl 2 rfl) ?_
    refine lv_ladd hx hb dX2_carriedOn_50 ?_
    refine lv_ldc2 hx hb hown (hts _ q391) dX2_carriedOn_51 ?_
    refine lv_ldiv hx hb dX2_carriedOn_54 (by decide) ?_
    obtain ⟨rfl, rfl⟩ := sp hf
    exact Wd.lret hC hW dX2_carriedOn_55
  have hf := it_f hs4 hf
  refine lv_tableOut (tgt := 56) hx hb dX2_carriedOn_1 (by have t0 := lv_neT hs0 (a := 0) (by decide); have t1 := lv_neT hs1 (a := 1) (by decide); have t2 := lv_neT hs2 (a := 2) (by decide); have t3 := lv_neT hs3 (a := 3) (by decide); have t4 := lv_neT hs4 (a := 4) (by decide); omega) (by decide) ?_
  refine lv_lload_n hx hb dX2_carriedOn_56 rfl (lv_at hl 1 rfl) ?_
  refine lv_lload_n hx hb dX2_carriedOn_57 rfl (lv_at hl 2 rfl) ?_
  refine lv_ladd hx hb dX2_carriedOn_58 ?_
  obtain ⟨rfl, rfl⟩ := sp hf
  exact Wd.lret hC hW dX2_carriedOn_59
abbrev rmX3_coreBetween : Room := { frames := 2, cells := 0, slots := 0, locals := 47 }
def fX3_coreBetween_91 (N : Nat) (K9 : Int32 → Int32 → Int32 → Int64 → Int32 → Int32 → St → Option (Int64 × St)) (K21 : Int32 → Int32 → Int32 → Int64 → Int32 → Int32 → Int32 → St → Option (Int64 × St)) (x1 : Int32) (x2 : Int32) (x3 : Int32) (x4 : Int64) (x6 : Int32) (x7 : Int32) (x8 : Int32) (σ : St) : Option (Int64 × St) := nx (x8 + (1 : Int32)) (fun v1 => (K21 x1 x2 x3 x4 x6 x7 v1 σ))
set_option maxHeartbeats 4000000 in
set_option maxRecDepth 100000 in
theorem wX3_coreBetween_91 (hC : Cx RX3 cX3_coreBetween 9 (some .long) D cA p s m args meth c) {N : Nat} {K9 : Int32 → Int32 → Int32 → Int64 → Int32 → Int32 → St → Option (Int64 × St)} {K21 : Int32 → Int32 → Int32 → Int64 → Int32 → Int32 → Int32 → St → Option (Int64 × St)} {x1 : Int32} {x2 : Int32} {x3 : Int32} {x4 : Int64} {x6 : Int32} {x7 : Int32} {x8 : Int32} {σ : St} {r : Int64} {σ' : St} (hK9 : ∀ (x1 : Int32) (x2 : Int32) (x3 : Int32) (x4 : Int64) (x6 : Int32) (x7 : Int32) (σ : St) (H : Heap) (locs : List Loc) (ls : Array Slot), K9 x1 x2 x3 x4 x6 x7 σ = some (r, σ') → Wd kdX 140 D cA ad s σ H locs → lv_has ls 9 [(0, .ref (ad 1)), (1, .int x1), (2, .int x2), (3, .int x3), (4, .long x4), (6, .int x6), (7, .int x7)] → W p l e rmX3_coreBetween s m args below meth c H locs 0 0 (EndW kdX 140 D cA ad below args s (some (.long r)) σ') (F0 m 9 ls [])) (hK21 : ∀ (x1 : Int32) (x2 : Int32) (x3 : Int32) (x4 : Int64) (x6 : Int32) (x7 : Int32) (x8 : Int32) (σ : St) (H : Heap) (locs : List Loc) (ls : Array Slot), K21 x1 x2 x3 x4 x6 x7 x8 σ = some (r, σ') → Wd kdX 140 D cA ad s σ H locs → lv_has ls 9 [(0, .ref (ad 1)), (1, .int x1), (2, .int x2), (3, .int x3), (4, .long x4), (6, .int x6), (7, .int x7), (8, .int x8)] → W p l e rmX3_coreBetween s m args below meth c H locs 0 0 (EndW kdX 140 D cA ad below args s (some (.long r)) σ') (F0 m 21 ls [])) {H : Heap} {locs : List Loc} {ls : Array Slot} (hf : fX3_coreBetween_91 N K9 K21 x1 x2 x3 x4 x6 x7 x8 σ = some (r, σ')) (hW : Wd kdX 140 D cA ad s σ H locs) (hl : lv_has ls 9 [(0, .ref (ad 1)), (1, .int x1), (2, .int x2), (3, .int x3), (4, .long x4), (6, .int x6), (7, .int x7), (8, .int x8)]) : W p l e rmX3_coreBetween s m args below meth c H locs 0 0 (EndW kdX 140 D cA ad below args s (some (.long r)) σ') (F0 m 91 ls []) := by
  have hx := hC.1
  have hb := hC.2.1
  have hown := hC.2.2.2.1
  have hts := hC.2.2.2.2.1
  unfold fX3_coreBetween_91 at hf
  obtain ⟨v1, ev1⟩ : ∃ y : Int32, y = x8 + (1 : Int32) := ⟨_, rfl⟩
  have hf := nx_at ev1 hf
  refine lv_iinc (v := v1) (lv' := [(8, .int v1), (0, .ref (ad 1)), (1, .int x1), (2, .int x2), (3, .int x3), (4, .long x4), (6, .int x6), (7, .int x7)]) hx hb dX3_coreBetween_91 hl (k := 7) rfl (by rw [ev1]; rfl) (by decide) rfl (fun ls hl => ?_)
  refine lv_goto (tgt := 21) hx hb dX3_coreBetween_94 (by decide) ?_
  exact hK21 _ _ _ _ _ _ _ _ _ _ _ hf hW (lv_sub hl [1, 2, 3, 4, 5, 6, 7, 0] rfl)
def fX3_coreBetween_86 (N : Nat) (K9 : Int32 → Int32 → Int32 → Int64 → Int32 → Int32 → St → Option (Int64 × St)) (K21 : Int32 → Int32 → Int32 → Int64 → Int32 → Int32 → Int32 → St → Option (Int64 × St)) (x1 : Int32) (x2 : Int32) (x3 : Int32) (x7 : Int32) (x8 : Int32) (y0 : Int64) (σ : St) : Option (Int64 × St) := (fX3_coreBetween_91 N K9 K21 x1 x2 x3 y0 (1 : Int32) x7 x8 σ)
set_option maxHeartbeats 4000000 in
set_option maxRecDepth 100000 in
theorem wX3_coreBetween_86 (hC : Cx RX3 cX3_coreBetween 9 (some .long) D cA p s m args meth c) {N : Nat} {K9 : Int32 → Int32 → Int32 → Int64 → Int32 → Int32 → St → Option (Int64 × St)} {K21 : Int32 → Int32 → Int32 → Int64 → Int32 → Int32 → Int32 → St → Option (Int64 × St)} {x1 : Int32} {x2 : Int32} {x3 : Int32} {x7 : Int32} {x8 : Int32} {y0 : Int64} {σ : St} {r : Int64} {σ' : St} (hK9 : ∀ (x1 : Int32) (x2 : Int32) (x3 : Int32) (x4 : Int64) (x6 : Int32) (x7 : Int32) (σ : St) (H : Heap) (locs : List Loc) (ls : Array Slot), K9 x1 x2 x3 x4 x6 x7 σ = some (r, σ') → Wd kdX 140 D cA ad s σ H locs → lv_has ls 9 [(0, .ref (ad 1)), (1, .int x1), (2, .int x2), (3, .int x3), (4, .long x4), (6, .int x6), (7, .int x7)] → W p l e rmX3_coreBetween s m args below meth c H locs 0 0 (EndW kdX 140 D cA ad below args s (some (.long r)) σ') (F0 m 9 ls [])) (hK21 : ∀ (x1 : Int32) (x2 : Int32) (x3 : Int32) (x4 : Int64) (x6 : Int32) (x7 : Int32) (x8 : Int32) (σ : St) (H : Heap) (locs : List Loc) (ls : Array Slot), K21 x1 x2 x3 x4 x6 x7 x8 σ = some (r, σ') → Wd kdX 140 D cA ad s σ H locs → lv_has ls 9 [(0, .ref (ad 1)), (1, .int x1), (2, .int x2), (3, .int x3), (4, .long x4), (6, .int x6), (7, .int x7), (8, .int x8)] → W p l e rmX3_coreBetween s m args below meth c H locs 0 0 (EndW kdX 140 D cA ad below args s (some (.long r)) σ') (F0 m 21 ls [])) {H : Heap} {locs : List Loc} {ls : Array Slot} (hf : fX3_coreBetween_86 N K9 K21 x1 x2 x3 x7 x8 y0 σ = some (r, σ')) (hW : Wd kdX 140 D cA ad s σ H locs) (hl : lv_has ls 9 [(0, .ref (ad 1)), (1, .int x1), (2, .int x2), (3, .int x3), (7, .int x7), (8, .int x8)]) : W p l e rmX3_coreBetween s m args below meth c H locs 0 0 (EndW kdX 140 D cA ad below args s (some (.long r)) σ') (F0 m 86 ls [.long y0]) := by
  have hx := hC.1
  have hb := hC.2.1
  have hown := hC.2.2.2.1
  have hts := hC.2.2.2.2.1
  unfold fX3_coreBetween_86 at hf
  refine lv_lstore (lv' := [(4, .long y0), (0, .ref (ad 1)), (1, .int x1), (2, .int x2), (3, .int x3), (7, .int x7), (8, .int x8)]) hx hb dX3_coreBetween_86 hl (by decide) rfl (fun ls hl => ?_)
  refine lv_iconst (v := 1) hx hb dX3_coreBetween_88 (by decide) ?_
  refine lv_istore (lv' := [(6, .int (1 : Int32)), (4, .long y0), (0, .ref (ad 1)), (1, .int x1), (2, .int x2), (3, .int x3), (7, .int x7), (8, .int x8)]) hx hb dX3_coreBetween_89 hl (by decide) rfl (fun ls hl => ?_)
  exact wX3_coreBetween_91 hC hK9 hK21 hf hW (lv_sub hl [2, 3, 4, 5, 1, 0, 6, 7] rfl)
def fX3_coreBetween_21 (N : Nat) (K9 : Int32 → Int32 → Int32 → Int64 → Int32 → Int32 → St → Option (Int64 × St)) : Nat → Int32 → Int32 → Int32 → Int64 → Int32 → Int32 → Int32 → St → Option (Int64 × St)
  | 0, _, _, _, _, _, _, _, _ => none
  | n + 1, x1, x2, x3, x4, x6, x7, x8, σ => if (σ.1 1 0) ≤ x8 then nx (x7 + (1 : Int32)) (fun v2 => (K9 x1 x2 x3 x4 x6 v2 σ)) else if ((x2 >>> (x7 &&& 31)) &&& (1 : Int32)) = (1 : Int32) then if ((x3 >>> (x8 &&& 31)) &&& (1 : Int32)) = (1 : Int32) then if x6 = 0 then gd (ib x7 20) (gd (ib x8 20) ((fX3_coreBetween_86 N K9 (fX3_coreBetween_21 N K9 n) x1 x2 x3 x7 x8 ((σ.1 (60 + 1 * x7.toNatClampNeg) x8.toNatClampNeg).toInt64) σ))) else gd (ib x7 20) (gd (ib x8 20) (bd (fX2_carriedOn N x1 x4 ((σ.1 (60 + 1 * x7.toNatClampNeg) x8.toNatClampNeg).toInt64) σ) (fun r10 s11 => (fX3_coreBetween_86 N K9 (fX3_coreBetween_21 N K9 n) x1 x2 x3 x7 x8 r10 s11)))) else (fX3_coreBetween_91 N K9 (fX3_coreBetween_21 N K9 n) x1 x2 x3 x4 x6 x7 x8 σ) else (fX3_coreBetween_91 N K9 (fX3_coreBetween_21 N K9 n) x1 x2 x3 x4 x6 x7 x8 σ)
set_option maxHeartbeats 4000000 in
set_option maxRecDepth 100000 in
theorem wX3_coreBetween_21 (hC : Cx RX3 cX3_coreBetween 9 (some .long) D cA p s m args meth c) {N : Nat} {K9 : Int32 → Int32 → Int32 → Int64 → Int32 → Int32 → St → Option (Int64 × St)} {r : Int64} {σ' : St} (hK9 : ∀ (x1 : Int32) (x2 : Int32) (x3 : Int32) (x4 : Int64) (x6 : Int32) (x7 : Int32) (σ : St) (H : Heap) (locs : List Loc) (ls : Array Slot), K9 x1 x2 x3 x4 x6 x7 σ = some (r, σ') → Wd kdX 140 D cA ad s σ H locs → lv_has ls 9 [(0, .ref (ad 1)), (1, .int x1), (2, .int x2), (3, .int x3), (4, .long x4), (6, .int x6), (7, .int x7)] → W p l e rmX3_coreBetween s m args below meth c H locs 0 0 (EndW kdX 140 D cA ad below args s (some (.long r)) σ') (F0 m 9 ls [])) : ∀ (n : Nat) (x1 : Int32) (x2 : Int32) (x3 : Int32) (x4 : Int64) (x6 : Int32) (x7 : Int32) (x8 : Int32) (σ : St) (H : Heap) (locs : List Loc) (ls : Array Slot), fX3_coreBetween_21 N K9 n x1 x2 x3 x4 x6 x7 x8 σ = some (r, σ') → Wd kdX 140 D cA ad s σ H locs → lv_has ls 9 [(0, .ref (ad 1)), (1, .int x1), (2, .int x2), (3, .int x3), (4, .long x4), (6, .int x6), (7, .int x7), (8, .int x8)] → W p l e rmX3_coreBetween s m args below meth c H locs 0 0 (EndW kdX 140 D cA ad below args s (some (.long r)) σ') (F0 m 21 ls []) := by
  have hx := hC.1
  have hb := hC.2.1
  have hown := hC.2.2.2.1
  have hts := hC.2.2.2.2.1
  intro n
  induction n with
  | zero =>
    intro x1 x2 x3 x4 x6 x7 x8 σ H locs ls hf
    rw [fX3_coreBetween_21] at hf
    cases hf
  | succ n ih =>
    intro x1 x2 x3 x4 x6 x7 x8 σ H locs ls hf hW hl
    rw [fX3_coreBetween_21] at hf
    refine lv_iload hx hb dX3_coreBetween_21 (lv_at hl 7 rfl) ?_
    refine lv_aload_n hx hb dX3_coreBetween_23 rfl (lv_at hl 0 rfl) ?_
    refine gfX3_23 hC hW 1 (by decide) rfl rfl dX3_coreBetween_24 ?_
    refine lv_icmp_ge (tgt := 97) hx hb dX3_coreBetween_27 (by decide) (fun h1 => ?_) (fun h1 => ?_)
    · have hf := it_t h1 hf
      obtain ⟨v2, ev2⟩ : ∃ y : Int32, y = x7 + (1 : Int32) := ⟨_, rfl⟩
      have hf := nx_at ev2 hf
      refine lv_iinc (v := v2) (lv' := [(7, .int v2), (0, .ref (ad 1)), (1, .int x1), (2, .int x2), (3, .int x3), (4, .long x4), (6, .int x6), (8, .int x8)]) hx hb dX3_coreBetween_97 hl (k := 6) rfl (by rw [ev2]; rfl) (by decide) rfl (fun ls hl => ?_)
      refine lv_goto (tgt := 9) hx hb dX3_coreBetween_100 (by decide) ?_
      exact hK9 _ _ _ _ _ _ _ _ _ _ hf hW (lv_sub hl [1, 2, 3, 4, 5, 6, 0] rfl)
    · have hf := it_f h1 hf
      refine lv_iload_n hx hb dX3_coreBetween_30 rfl (lv_at hl 2 rfl) ?_
      refine lv_iload hx hb dX3_coreBetween_31 (lv_at hl 6 rfl) ?_
      refine lv_ishr hx hb dX3_coreBetween_33 ?_
      refine lv_iconst (v := 1) hx hb dX3_coreBetween_34 (by decide) ?_
      refine lv_iand hx hb dX3_coreBetween_35 ?_
      refine lv_iconst (v := 1) hx hb dX3_coreBetween_36 (by decide) ?_
      refine lv_icmp_ne (tgt := 91) hx hb dX3_coreBetween_37 (by decide) (fun h3 => ?_) (fun h3 => ?_)
      · have hf := it_f h3 hf
        exact wX3_coreBetween_91 hC hK9 ih hf hW (lv_sub hl [0, 1, 2, 3, 4, 5, 6, 7] rfl)
      · have hf := it_t h3 hf
        refine lv_iload_n hx hb dX3_coreBetween_40 rfl (lv_at hl 3 rfl) ?_
        refine lv_iload hx hb dX3_coreBetween_41 (lv_at hl 7 rfl) ?_
        refine lv_ishr hx hb dX3_coreBetween_43 ?_
        refine lv_iconst (v := 1) hx hb dX3_coreBetween_44 (by decide) ?_
        refine lv_iand hx hb dX3_coreBetween_45 ?_
        refine lv_iconst (v := 1) hx hb dX3_coreBetween_46 (by decide) ?_
        refine lv_icmp_ne (tgt := 91) hx hb dX3_coreBetween_47 (by decide) (fun h4 => ?_) (fun h4 => ?_)
        · have hf := it_f h4 hf
          exact wX3_coreBetween_91 hC hK9 ih hf hW (lv_sub hl [0, 1, 2, 3, 4, 5, 6, 7] rfl)
        · have hf := it_t h4 hf
          refine lv_iload hx hb dX3_coreBetween_50 (lv_at hl 5 rfl) ?_
          refine lv_if_eq (tgt := 75) hx hb dX3_coreBetween_52 (by decide) (fun h5 => ?_) (fun h5 => ?_)
          · have hf := it_t h5 hf
            refine lv_aload_n hx hb dX3_coreBetween_75 rfl (lv_at hl 0 rfl) ?_
            refine gfX3_11 hC hW 1 (by decide) rfl (q := 4) rfl dX3_coreBetween_76 ?_
            refine lv_iload hx hb dX3_coreBetween_79 (lv_at hl 6 rfl) ?_
            obtain ⟨h6, hf⟩ := gd_some hf
            refine Wd.aald hC hW 4 ⟨by decide, by decide⟩ (by decide) rfl h6 dX3_coreBetween_81 ?_
            refine lv_iload hx hb dX3_coreBetween_82 (lv_at hl 7 rfl) ?_
            obtain ⟨h7, hf⟩ := gd_some hf
            refine Wd.iald hC hW (60 + 1 * x7.toNatClampNeg) (Rw.b60 h6) (Rw.k60 h6) h7 dX3_coreBetween_84 ?_
            refine lv_i2l (v := (σ.1 (60 + 1 * x7.toNatClampNeg) x8.toNatClampNeg).toInt64) hx hb dX3_coreBetween_85 rfl ?_
            exact wX3_coreBetween_86 hC hK9 ih hf hW (lv_sub hl [0, 1, 2, 3, 6, 7] rfl)
          · have hf := it_f h5 hf
            refine lv_iload_n hx hb dX3_coreBetween_55 rfl (lv_at hl 1 rfl) ?_
            refine lv_lload hx hb dX3_coreBetween_56 (lv_at hl 4 rfl) ?_
            refine lv_aload_n hx hb dX3_coreBetween_58 rfl (lv_at hl 0 rfl) ?_
            refine gfX3_11 hC hW 1 (by decide) rfl (q := 4) rfl dX3_coreBetween_59 ?_
            refine lv_iload hx hb dX3_coreBetween_62 (lv_at hl 6 rfl) ?_
            obtain ⟨h8, hf⟩ := gd_some hf
            refine Wd.aald hC hW 4 ⟨by decide, by decide⟩ (by decide) rfl h8 dX3_coreBetween_64 ?_
            refine lv_iload hx hb dX3_coreBetween_65 (lv_at hl 7 rfl) ?_
            obtain ⟨h9, hf⟩ := gd_some hf
            refine Wd.iald hC hW (60 + 1 * x7.toNatClampNeg) (Rw.b60 h8) (Rw.k60 h8) h9 dX3_coreBetween_67 ?_
            refine lv_i2l (v := (σ.1 (60 + 1 * x7.toNatClampNeg) x8.toNatClampNeg).toInt64) hx hb dX3_coreBetween_68 rfl ?_
            obtain ⟨r10, s11, c12, hf⟩ := bd_some hf
            refine Wd.callSN (n := 3) (As := [.int x1, .long x4, .long ((σ.1 (60 + 1 * x7.toNatClampNeg) x8.toNatClampNeg).toInt64)]) (rest := []) (rv := some (.long r10)) hC hW (kX2_carriedOn c12) q382 q383 q12 q384 ⟨rfl, rfl⟩ ⟨by decide +kernel, by decide +kernel, by decide +kernel⟩ ⟨Nat.le_of_ble_eq_true rfl, Nat.le_of_ble_eq_true rfl⟩ ⟨Nat.zero_le _, Nat.zero_le _⟩ rfl hl.1 rfl (st2 := [.long r10]) rfl (Nat.le_of_ble_eq_true rfl) dX3_coreBetween_69 (fun H locs hW => ?_)
            refine lv_goto (tgt := 86) hx hb dX3_coreBetween_72 (by decide) ?_
            exact wX3_coreBetween_86 hC hK9 ih hf hW (lv_sub hl [0, 1, 2, 3, 6, 7] rfl)
def fX3_coreBetween_9 (N : Nat) : Nat → Int32 → Int32 → Int32 → Int64 → Int32 → Int32 → St → Option (Int64 × St)
  | 0, _, _, _, _, _, _, _ => none
  | n + 1, x1, x2, x3, x4, x6, x7, σ => if (σ.1 1 0) ≤ x7 then some (x4, σ) else (fX3_coreBetween_21 N (fX3_coreBetween_9 N n) N x1 x2 x3 x4 x6 x7 (0 : Int32) σ)
set_option maxHeartbeats 4000000 in
set_option maxRecDepth 100000 in
theorem wX3_coreBetween_9 (hC : Cx RX3 cX3_coreBetween 9 (some .long) D cA p s m args meth c) {N : Nat} {r : Int64} {σ' : St} : ∀ (n : Nat) (x1 : Int32) (x2 : Int32) (x3 : Int32) (x4 : Int64) (x6 : Int32) (x7 : Int32) (σ : St) (H : Heap) (locs : List Loc) (ls : Array Slot), fX3_coreBetween_9 N n x1 x2 x3 x4 x6 x7 σ = some (r, σ') → Wd kdX 140 D cA ad s σ H locs → lv_has ls 9 [(0, .ref (ad 1)), (1, .int x1), (2, .int x2), (3, .int x3), (4, .long x4), (6, .int x6), (7, .int x7)] → W p l e rmX3_coreBetween s m args below meth c H locs 0 0 (EndW kdX 140 D cA ad below args s (some (.long r)) σ') (F0 m 9 ls []) := by
  have hx := hC.1
  have hb := hC.2.1
  have hown := hC.2.2.2.1
  have hts := hC.2.2.2.2.1
  intro n
  induction n with
  | zero =>
    intro x1 x2 x3 x4 x6 x7 σ H locs ls hf
    rw [fX3_coreBetween_9] at hf
    cases hf
  | succ n ih =>
    intro x1 x2 x3 x4 x6 x7 σ H locs ls hf hW hl
    rw [fX3_coreBetween_9] at hf
    refine lv_iload hx hb dX3_coreBetween_9 (lv_at hl 6 rfl) ?_
    refine lv_aload_n hx hb dX3_coreBetween_11 rfl (lv_at hl 0 rfl) ?_
    refine gfX3_23 hC hW 1 (by decide) rfl rfl dX3_coreBetween_12 ?_
    refine lv_icmp_ge (tgt := 103) hx hb dX3_coreBetween_15 (by decide) (fun h1 => ?_) (fun h1 => ?_)
    · have hf := it_t h1 hf
      refine lv_lload hx hb dX3_coreBetween_103 (lv_at hl 4 rfl) ?_
      obtain ⟨rfl, rfl⟩ := sp hf
      exact Wd.lret hC hW dX3_coreBetween_105
    · have hf := it_f h1 hf
      refine lv_iconst (v := 0) hx hb dX3_coreBetween_18 (by decide) ?_
      refine lv_istore (lv' := [(8, .int (0 : Int32)), (0, .ref (ad 1)), (1, .int x1), (2, .int x2), (3, .int x3), (4, .long x4), (6, .int x6), (7, .int x7)]) hx hb dX3_coreBetween_19 hl (by decide) rfl (fun ls hl => ?_)
      exact wX3_coreBetween_21 hC ih N _ _ _ _ _ _ _ _ _ _ _ hf hW (lv_sub hl [1, 2, 3, 4, 5, 6, 7, 0] rfl)
def fX3_coreBetween (N : Nat) (x1 : Int32) (x2 : Int32) (x3 : Int32) (σ : St) : Option (Int64 × St) := (fX3_coreBetween_9 N N x1 x2 x3 (0 : Int64) (0 : Int32) (0 : Int32) σ)
set_option maxHeartbeats 4000000 in
set_option maxRecDepth 100000 in
theorem kX3_coreBetween {l : Launch} {D : va_G} {cA : Nat → ClassId} {ad : Nat → Nat} {N : Nat} {x1 : Int32} {x2 : Int32} {x3 : Int32} {σ : St} {r : Int64} {σ' : St} (hf : fX3_coreBetween N x1 x2 x3 σ = some (r, σ')) : MW kdX 140 l D cA ad ⟨RX3, "coreBetween", "(III)J"⟩ cX3_coreBetween 9 (some .long) rmX3_coreBetween [.ref (ad 1), .int x1, .int x2, .int x3] σ (some (.long r)) σ' := by
  refine MW.of (by decide) (Nat.le_of_ble_eq_true rfl) ?_
  intro p e s m args below meth c ls hC hW hl
  have hx := hC.1
  have hb := hC.2.1
  have hown := hC.2.2.2.1
  have hts := hC.2.2.2.2.1
  have hl : lv_has ls 9 [(0, .ref (ad 1)), (1, .int x1), (2, .int x2), (3, .int x3)] := hl
  unfold fX3_coreBetween at hf
  refine lv_lconst (v := 0) hx hb dX3_coreBetween_0 (by decide) ?_
  refine lv_lstore (lv' := [(4, .long (0 : Int64)), (0, .ref (ad 1)), (1, .int x1), (2, .int x2), (3, .int x3)]) hx hb dX3_coreBetween_1 hl (by decide) rfl (fun ls hl => ?_)
  refine lv_iconst (v := 0) hx hb dX3_coreBetween_3 (by decide) ?_
  refine lv_istore (lv' := [(6, .int (0 : Int32)), (4, .long (0 : Int64)), (0, .ref (ad 1)), (1, .int x1), (2, .int x2), (3, .int x3)]) hx hb dX3_coreBetween_4 hl (by decide) rfl (fun ls hl => ?_)
  refine lv_iconst (v := 0) hx hb dX3_coreBetween_6 (by decide) ?_
  refine lv_istore (lv' := [(7, .int (0 : Int32)), (6, .int (0 : Int32)), (4, .long (0 : Int64)), (0, .ref (ad 1)), (1, .int x1), (2, .int x2), (3, .int x3)]) hx hb dX3_coreBetween_7 hl (by decide) rfl (fun ls hl => ?_)
  exact wX3_coreBetween_9 hC N _ _ _ _ _ _ _ _ _ _ hf hW (lv_sub hl [3, 4, 5, 6, 2, 1, 0] rfl)
abbrev rmX2_bottomOf : Room := { frames := 0, cells := 0, slots := 0, locals := 0 }
def fX2_bottomOf (N : Nat) (x0 : Int32) (x1 : Int32) (x2 : Int32) (σ : St) : Option (Int64 × St) := nx x0 (fun sw => if sw = (2 : Int32) then some ((x1 * x2).toInt64, σ) else if sw = (3 : Int32) then some (((x1 * x2) * (x1 + x2)).toInt64, σ) else if sw = (4 : Int32) then some ((262144 : Int64), σ) else some ((1 : Int64), σ))
set_option maxHeartbeats 4000000 in
set_option maxRecDepth 100000 in
theorem kX2_bottomOf {l : Launch} {D : va_G} {cA : Nat → ClassId} {ad : Nat → Nat} {N : Nat} {x0 : Int32} {x1 : Int32} {x2 : Int32} {σ : St} {r : Int64} {σ' : St} (hf : fX2_bottomOf N x0 x1 x2 σ = some (r, σ')) : MW kdX 140 l D cA ad ⟨RX2, "bottomOf", "(III)J"⟩ cX2_bottomOf 3 (some .long) rmX2_bottomOf [.int x0, .int x1, .int x2] σ (some (.long r)) σ' := by
  refine MW.of (by decide) (Nat.le_of_ble_eq_true rfl) ?_
  intro p e s m args below meth c ls hC hW hl
  have hx := hC.1
  have hb := hC.2.1
  have hown := hC.2.2.2.1
  have hts := hC.2.2.2.2.1
  have hl : lv_has ls 3 [(0, .int x0), (1, .int x1), (2, .int x2)] := hl
  unfold fX2_bottomOf at hf
  refine lv_iload_n hx hb dX2_bottomOf_0 rfl (lv_at hl 0 rfl) ?_
  refine lv_topi (fun sw esw => ?_)
  have hf := nx_at esw hf
  by_cases hs2 : sw = (2 : Int32)
  · have hf := it_t hs2 hf
    refine lv_tableIn (tgt := 28) hx hb dX2_bottomOf_1 (by rw [hs2]; decide) (by rw [hs2]; decide) (by rw [hs2]; rfl) (by decide) ?_
    refine lv_iload_n hx hb dX2_bottomOf_28 rfl (lv_at hl 1 rfl) ?_
    refine lv_iload_n hx hb dX2_bottomOf_29 rfl (lv_at hl 2 rfl) ?_
    refine lv_imul hx hb dX2_bottomOf_30 ?_
    refine lv_i2l (v := (x1 * x2).toInt64) hx hb dX2_bottomOf_31 rfl ?_
    obtain ⟨rfl, rfl⟩ := sp hf
    exact Wd.lret hC hW dX2_bottomOf_32
  have hf := it_f hs2 hf
  by_cases hs3 : sw = (3 : Int32)
  · have hf := it_t hs3 hf
    refine lv_tableIn (tgt := 33) hx hb dX2_bottomOf_1 (by rw [hs3]; decide) (by rw [hs3]; decide) (by rw [hs3]; rfl) (by decide) ?_
    refine lv_iload_n hx hb dX2_bottomOf_33 rfl (lv_at hl 1 rfl) ?_
    refine lv_iload_n hx hb dX2_bottomOf_34 rfl (lv_at hl 2 rfl) ?_
    refine lv_imul hx hb dX2_bottomOf_35 ?_
    refine lv_iload_n hx hb dX2_bottomOf_36 rfl (lv_at hl 1 rfl) ?_
    refine lv_iload_n hx hb dX2_bottomOf_37 rfl (lv_at hl 2 rfl) ?_
    refine lv_iadd hx hb dX2_bottomOf_38 ?_
    refine lv_imul hx hb dX2_bottomOf_39 ?_
    refine lv_i2l (v := ((x1 * x2) * (x1 + x2)).toInt64) hx hb dX2_bottomOf_40 rfl ?_
    obtain ⟨rfl, rfl⟩ := sp hf
    exact Wd.lret hC hW dX2_bottomOf_41
  have hf := it_f hs3 hf
  by_cases hs4 : sw = (4 : Int32)
  · have hf := it_t hs4 hf
    refine lv_tableIn (tgt := 42) hx hb dX2_bottomOf_1 (by rw [hs4]; decide) (by rw [hs4]; decide) (by rw [hs4]; rfl) (by decide) ?_
    refine lv_ldc2 hx hb hown (hts _ q395) dX2_bottomOf_42 ?_
    obtain ⟨rfl, rfl⟩ := sp hf
    exact Wd.lret hC hW dX2_bottomOf_45
  have hf := it_f hs4 hf
  refine lv_tableOut (tgt := 46) hx hb dX2_bottomOf_1 (by have t2 := lv_neT hs2 (a := 2) (by decide); have t3 := lv_neT hs3 (a := 3) (by decide); have t4 := lv_neT hs4 (a := 4) (by decide); omega) (by decide) ?_
  refine lv_lconst (v := 1) hx hb dX2_bottomOf_46 (by decide) ?_
  obtain ⟨rfl, rfl⟩ := sp hf
  exact Wd.lret hC hW dX2_bottomOf_47
abbrev rmX3_sumInside : Room := { frames := 0, cells := 0, slots := 0, locals := 0 }
def fX3_sumInside_58 (N : Nat) (K5 : Int32 → Int64 → Int32 → St → Option (Int64 × St)) (K17 : Int32 → Int64 → Int32 → Int32 → St → Option (Int64 × St)) (x1 : Int32) (x2 : Int64) (x4 : Int32) (x5 : Int32) (σ : St) : Option (Int64 × St) := nx (x5 + (1 : Int32)) (fun v1 => (K17 x1 x2 x4 v1 σ))
set_option maxHeartbeats 4000000 in
set_option maxRecDepth 100000 in
theorem wX3_sumInside_58 (hC : Cx RX3 cX3_sumInside 6 (some .long) D cA p s m args meth c) {N : Nat} {K5 : Int32 → Int64 → Int32 → St → Option (Int64 × St)} {K17 : Int32 → Int64 → Int32 → Int32 → St → Option (Int64 × St)} {x1 : Int32} {x2 : Int64} {x4 : Int32} {x5 : Int32} {σ : St} {r : Int64} {σ' : St} (hK5 : ∀ (x1 : Int32) (x2 : Int64) (x4 : Int32) (σ : St) (H : Heap) (locs : List Loc) (ls : Array Slot), K5 x1 x2 x4 σ = some (r, σ') → Wd kdX 140 D cA ad s σ H locs → lv_has ls 6 [(0, .ref (ad 1)), (1, .int x1), (2, .long x2), (4, .int x4)] → W p l e rmX3_sumInside s m args below meth c H locs 0 0 (EndW kdX 140 D cA ad below args s (some (.long r)) σ') (F0 m 5 ls [])) (hK17 : ∀ (x1 : Int32) (x2 : Int64) (x4 : Int32) (x5 : Int32) (σ : St) (H : Heap) (locs : List Loc) (ls : Array Slot), K17 x1 x2 x4 x5 σ = some (r, σ') → Wd kdX 140 D cA ad s σ H locs → lv_has ls 6 [(0, .ref (ad 1)), (1, .int x1), (2, .long x2), (4, .int x4), (5, .int x5)] → W p l e rmX3_sumInside s m args below meth c H locs 0 0 (EndW kdX 140 D cA ad below args s (some (.long r)) σ') (F0 m 17 ls [])) {H : Heap} {locs : List Loc} {ls : Array Slot} (hf : fX3_sumInside_58 N K5 K17 x1 x2 x4 x5 σ = some (r, σ')) (hW : Wd kdX 140 D cA ad s σ H locs) (hl : lv_has ls 6 [(0, .ref (ad 1)), (1, .int x1), (2, .long x2), (4, .int x4), (5, .int x5)]) : W p l e rmX3_sumInside s m args below meth c H locs 0 0 (EndW kdX 140 D cA ad below args s (some (.long r)) σ') (F0 m 58 ls []) := by
  have hx := hC.1
  have hb := hC.2.1
  have hown := hC.2.2.2.1
  have hts := hC.2.2.2.2.1
  unfold fX3_sumInside_58 at hf
  obtain ⟨v1, ev1⟩ : ∃ y : Int32, y = x5 + (1 : Int32) := ⟨_, rfl⟩
  have hf := nx_at ev1 hf
  refine lv_iinc (v := v1) (lv' := [(5, .int v1), (0, .ref (ad 1)), (1, .int x1), (2, .long x2), (4, .int x4)]) hx hb dX3_sumInside_58 hl (k := 4) rfl (by rw [ev1]; rfl) (by decide) rfl (fun ls hl => ?_)
  refine lv_goto (tgt := 17) hx hb dX3_sumInside_61 (by decide) ?_
  exact hK17 _ _ _ _ _ _ _ _ hf hW (lv_sub hl [1, 2, 3, 4, 0] rfl)
def fX3_sumInside_17 (N : Nat) (K5 : Int32 → Int64 → Int32 → St → Option (Int64 × St)) : Nat → Int32 → Int64 → Int32 → Int32 → St → Option (Int64 × St)
  | 0, _, _, _, _, _ => none
  | n + 1, x1, x2, x4, x5, σ => if x4 ≤ x5 then nx (x4 + (1 : Int32)) (fun v2 => (K5 x1 x2 v2 σ)) else if ((x1 >>> (x4 &&& 31)) &&& (1 : Int32)) = (1 : Int32) then if ((x1 >>> (x5 &&& 31)) &&& (1 : Int32)) = (1 : Int32) then gd (ib x4 20) (gd (ib x5 20) (nx (x2 + (σ.1 (60 + 1 * x4.toNatClampNeg) x5.toNatClampNeg).toInt64) (fun v7 => (fX3_sumInside_58 N K5 (fX3_sumInside_17 N K5 n) x1 v7 x4 x5 σ)))) else (fX3_sumInside_58 N K5 (fX3_sumInside_17 N K5 n) x1 x2 x4 x5 σ) else (fX3_sumInside_58 N K5 (fX3_sumInside_17 N K5 n) x1 x2 x4 x5 σ)
set_option maxHeartbeats 4000000 in
set_option maxRecDepth 100000 in
theorem wX3_sumInside_17 (hC : Cx RX3 cX3_sumInside 6 (some .long) D cA p s m args meth c) {N : Nat} {K5 : Int32 → Int64 → Int32 → St → Option (Int64 × St)} {r : Int64} {σ' : St} (hK5 : ∀ (x1 : Int32) (x2 : Int64) (x4 : Int32) (σ : St) (H : Heap) (locs : List Loc) (ls : Array Slot), K5 x1 x2 x4 σ = some (r, σ') → Wd kdX 140 D cA ad s σ H locs → lv_has ls 6 [(0, .ref (ad 1)), (1, .int x1), (2, .long x2), (4, .int x4)] → W p l e rmX3_sumInside s m args below meth c H locs 0 0 (EndW kdX 140 D cA ad below args s (some (.long r)) σ') (F0 m 5 ls [])) : ∀ (n : Nat) (x1 : Int32) (x2 : Int64) (x4 : Int32) (x5 : Int32) (σ : St) (H : Heap) (locs : List Loc) (ls : Array Slot), fX3_sumInside_17 N K5 n x1 x2 x4 x5 σ = some (r, σ') → Wd kdX 140 D cA ad s σ H locs → lv_has ls 6 [(0, .ref (ad 1)), (1, .int x1), (2, .long x2), (4, .int x4), (5, .int x5)] → W p l e rmX3_sumInside s m args below meth c H locs 0 0 (EndW kdX 140 D cA ad below args s (some (.long r)) σ') (F0 m 17 ls []) := by
  have hx := hC.1
  have hb := hC.2.1
  have hown := hC.2.2.2.1
  have hts := hC.2.2.2.2.1
  intro n
  induction n with
  | zero =>
    intro x1 x2 x4 x5 σ H locs ls hf
    rw [fX3_sumInside_17] at hf
    cases hf
  | succ n ih =>
    intro x1 x2 x4 x5 σ H locs ls hf hW hl
    rw [fX3_sumInside_17] at hf
    refine lv_iload hx hb dX3_sumInside_17 (lv_at hl 4 rfl) ?_
    refine lv_iload hx hb dX3_sumInside_19 (lv_at hl 3 rfl) ?_
    refine lv_icmp_ge (tgt := 64) hx hb dX3_sumInside_21 (by decide) (fun h1 => ?_) (fun h1 => ?_)
    · have hf := it_t h1 hf
      obtain ⟨v2, ev2⟩ : ∃ y : Int32, y = x4 + (1 : Int32) := ⟨_, rfl⟩
      have hf := nx_at ev2 hf
      refine lv_iinc (v := v2) (lv' := [(4, .int v2), (0, .ref (ad 1)), (1, .int x1), (2, .long x2), (5, .int x5)]) hx hb dX3_sumInside_64 hl (k := 3) rfl (by rw [ev2]; rfl) (by decide) rfl (fun ls hl => ?_)
      refine lv_goto (tgt := 5) hx hb dX3_sumInside_67 (by decide) ?_
      exact hK5 _ _ _ _ _ _ _ hf hW (lv_sub hl [1, 2, 3, 0] rfl)
    · have hf := it_f h1 hf
      refine lv_iload_n hx hb dX3_sumInside_24 rfl (lv_at hl 1 rfl) ?_
      refine lv_iload hx hb dX3_sumInside_25 (lv_at hl 3 rfl) ?_
      refine lv_ishr hx hb dX3_sumInside_27 ?_
      refine lv_iconst (v := 1) hx hb dX3_sumInside_28 (by decide) ?_
      refine lv_iand hx hb dX3_sumInside_29 ?_
      refine lv_iconst (v := 1) hx hb dX3_sumInside_30 (by decide) ?_
      refine lv_icmp_ne (tgt := 58) hx hb dX3_sumInside_31 (by decide) (fun h3 => ?_) (fun h3 => ?_)
      · have hf := it_f h3 hf
        exact wX3_sumInside_58 hC hK5 ih hf hW (lv_sub hl [0, 1, 2, 3, 4] rfl)
      · have hf := it_t h3 hf
        refine lv_iload_n hx hb dX3_sumInside_34 rfl (lv_at hl 1 rfl) ?_
        refine lv_iload hx hb dX3_sumInside_35 (lv_at hl 4 rfl) ?_
        refine lv_ishr hx hb dX3_sumInside_37 ?_
        refine lv_iconst (v := 1) hx hb dX3_sumInside_38 (by decide) ?_
        refine lv_iand hx hb dX3_sumInside_39 ?_
        refine lv_iconst (v := 1) hx hb dX3_sumInside_40 (by decide) ?_
        refine lv_icmp_ne (tgt := 58) hx hb dX3_sumInside_41 (by decide) (fun h4 => ?_) (fun h4 => ?_)
        · have hf := it_f h4 hf
          exact wX3_sumInside_58 hC hK5 ih hf hW (lv_sub hl [0, 1, 2, 3, 4] rfl)
        · have hf := it_t h4 hf
          refine lv_lload_n hx hb dX3_sumInside_44 rfl (lv_at hl 2 rfl) ?_
          refine lv_aload_n hx hb dX3_sumInside_45 rfl (lv_at hl 0 rfl) ?_
          refine gfX3_11 hC hW 1 (by decide) rfl (q := 4) rfl dX3_sumInside_46 ?_
          refine lv_iload hx hb dX3_sumInside_49 (lv_at hl 3 rfl) ?_
          obtain ⟨h5, hf⟩ := gd_some hf
          refine Wd.aald hC hW 4 ⟨by decide, by decide⟩ (by decide) rfl h5 dX3_sumInside_51 ?_
          refine lv_iload hx hb dX3_sumInside_52 (lv_at hl 4 rfl) ?_
          obtain ⟨h6, hf⟩ := gd_some hf
          refine Wd.iald hC hW (60 + 1 * x4.toNatClampNeg) (Rw.b60 h5) (Rw.k60 h5) h6 dX3_sumInside_54 ?_
          refine lv_i2l (v := (σ.1 (60 + 1 * x4.toNatClampNeg) x5.toNatClampNeg).toInt64) hx hb dX3_sumInside_55 rfl ?_
          refine lv_ladd hx hb dX3_sumInside_56 ?_
          refine lv_topl (fun v7 ev7 => ?_)
          have hf := nx_at ev7 hf
          refine lv_lstore_n (lv' := [(2, .long v7), (0, .ref (ad 1)), (1, .int x1), (4, .int x4), (5, .int x5)]) hx hb dX3_sumInside_57 rfl hl (by decide) rfl (fun ls hl => ?_)
          exact wX3_sumInside_58 hC hK5 ih hf hW (lv_sub hl [1, 2, 0, 3, 4] rfl)
def fX3_sumInside_5 (N : Nat) : Nat → Int32 → Int64 → Int32 → St → Option (Int64 × St)
  | 0, _, _, _, _ => none
  | n + 1, x1, x2, x4, σ => if (σ.1 1 0) ≤ x4 then some (x2, σ) else (fX3_sumInside_17 N (fX3_sumInside_5 N n) N x1 x2 x4 (0 : Int32) σ)
set_option maxHeartbeats 4000000 in
set_option maxRecDepth 100000 in
theorem wX3_sumInside_5 (hC : Cx RX3 cX3_sumInside 6 (some .long) D cA p s m args meth c) {N : Nat} {r : Int64} {σ' : St} : ∀ (n : Nat) (x1 : Int32) (x2 : Int64) (x4 : Int32) (σ : St) (H : Heap) (locs : List Loc) (ls : Array Slot), fX3_sumInside_5 N n x1 x2 x4 σ = some (r, σ') → Wd kdX 140 D cA ad s σ H locs → lv_has ls 6 [(0, .ref (ad 1)), (1, .int x1), (2, .long x2), (4, .int x4)] → W p l e rmX3_sumInside s m args below meth c H locs 0 0 (EndW kdX 140 D cA ad below args s (some (.long r)) σ') (F0 m 5 ls []) := by
  have hx := hC.1
  have hb := hC.2.1
  have hown := hC.2.2.2.1
  have hts := hC.2.2.2.2.1
  intro n
  induction n with
  | zero =>
    intro x1 x2 x4 σ H locs ls hf
    rw [fX3_sumInside_5] at hf
    cases hf
  | succ n ih =>
    intro x1 x2 x4 σ H locs ls hf hW hl
    rw [fX3_sumInside_5] at hf
    refine lv_iload hx hb dX3_sumInside_5 (lv_at hl 3 rfl) ?_
    refine lv_aload_n hx hb dX3_sumInside_7 rfl (lv_at hl 0 rfl) ?_
    refine gfX3_23 hC hW 1 (by decide) rfl rfl dX3_sumInside_8 ?_
    refine lv_icmp_ge (tgt := 70) hx hb dX3_sumInside_11 (by decide) (fun h1 => ?_) (fun h1 => ?_)
    · have hf := it_t h1 hf
      refine lv_lload_n hx hb dX3_sumInside_70 rfl (lv_at hl 2 rfl) ?_
      obtain ⟨rfl, rfl⟩ := sp hf
      exact Wd.lret hC hW dX3_sumInside_71
    · have hf := it_f h1 hf
      refine lv_iconst (v := 0) hx hb dX3_sumInside_14 (by decide) ?_
      refine lv_istore (lv' := [(5, .int (0 : Int32)), (0, .ref (ad 1)), (1, .int x1), (2, .long x2), (4, .int x4)]) hx hb dX3_sumInside_15 hl (by decide) rfl (fun ls hl => ?_)
      exact wX3_sumInside_17 hC ih N _ _ _ _ _ _ _ _ hf hW (lv_sub hl [1, 2, 3, 4, 0] rfl)
def fX3_sumInside (N : Nat) (x1 : Int32) (σ : St) : Option (Int64 × St) := (fX3_sumInside_5 N N x1 (0 : Int64) (1 : Int32) σ)
set_option maxHeartbeats 4000000 in
set_option maxRecDepth 100000 in
theorem kX3_sumInside {l : Launch} {D : va_G} {cA : Nat → ClassId} {ad : Nat → Nat} {N : Nat} {x1 : Int32} {σ : St} {r : Int64} {σ' : St} (hf : fX3_sumInside N x1 σ = some (r, σ')) : MW kdX 140 l D cA ad ⟨RX3, "sumInside", "(I)J"⟩ cX3_sumInside 6 (some .long) rmX3_sumInside [.ref (ad 1), .int x1] σ (some (.long r)) σ' := by
  refine MW.of (by decide) (Nat.le_of_ble_eq_true rfl) ?_
  intro p e s m args below meth c ls hC hW hl
  have hx := hC.1
  have hb := hC.2.1
  have hown := hC.2.2.2.1
  have hts := hC.2.2.2.2.1
  have hl : lv_has ls 6 [(0, .ref (ad 1)), (1, .int x1)] := hl
  unfold fX3_sumInside at hf
  refine lv_lconst (v := 0) hx hb dX3_sumInside_0 (by decide) ?_
  refine lv_lstore_n (lv' := [(2, .long (0 : Int64)), (0, .ref (ad 1)), (1, .int x1)]) hx hb dX3_sumInside_1 rfl hl (by decide) rfl (fun ls hl => ?_)
  refine lv_iconst (v := 1) hx hb dX3_sumInside_2 (by decide) ?_
  refine lv_istore (lv' := [(4, .int (1 : Int32)), (2, .long (0 : Int64)), (0, .ref (ad 1)), (1, .int x1)]) hx hb dX3_sumInside_3 hl (by decide) rfl (fun ls hl => ?_)
  exact wX3_sumInside_5 hC N _ _ _ _ _ _ _ hf hW (lv_sub hl [2, 3, 1, 0] rfl)
abbrev rmX2_wardTop : Room := { frames := 0, cells := 0, slots := 0, locals := 0 }
def fX2_wardTop (N : Nat) (x0 : Int64) (x2 : Int32) (x3 : Int32) (x4 : Int64) (x6 : Int64) (σ : St) : Option (Int64 × St) := some (((2 : Int64) * ((((x2 * x3).toInt64 * x0) - ((x3 * x3).toInt64 * x4)) - ((x2 * x2).toInt64 * x6))), σ)
set_option maxHeartbeats 4000000 in
set_option maxRecDepth 100000 in
theorem kX2_wardTop {l : Launch} {D : va_G} {cA : Nat → ClassId} {ad : Nat → Nat} {N : Nat} {x0 : Int64} {x2 : Int32} {x3 : Int32} {x4 : Int64} {x6 : Int64} {σ : St} {r : Int64} {σ' : St} (hf : fX2_wardTop N x0 x2 x3 x4 x6 σ = some (r, σ')) : MW kdX 140 l D cA ad ⟨RX2, "wardTop", "(JIIJJ)J"⟩ cX2_wardTop 8 (some .long) rmX2_wardTop [.long x0, .int x2, .int x3, .long x4, .long x6] σ (some (.long r)) σ' := by
  refine MW.of (by decide) (Nat.le_of_ble_eq_true rfl) ?_
  intro p e s m args below meth c ls hC hW hl
  have hx := hC.1
  have hb := hC.2.1
  have hown := hC.2.2.2.1
  have hts := hC.2.2.2.2.1
  have hl : lv_has ls 8 [(0, .long x0), (2, .int x2), (3, .int x3), (4, .long x4), (6, .long x6)] := hl
  unfold fX2_wardTop at hf
  refine lv_ldc2 hx hb hown (hts _ q391) dX2_wardTop_0 ?_
  refine lv_iload_n hx hb dX2_wardTop_3 rfl (lv_at hl 1 rfl) ?_
  refine lv_iload_n hx hb dX2_wardTop_4 rfl (lv_at hl 2 rfl) ?_
  refine lv_imul hx hb dX2_wardTop_5 ?_
  refine lv_i2l (v := (x2 * x3).toInt64) hx hb dX2_wardTop_6 rfl ?_
  refine lv_lload_n hx hb dX2_wardTop_7 rfl (lv_at hl 0 rfl) ?_
  refine lv_lmul hx hb dX2_wardTop_8 ?_
  refine lv_iload_n hx hb dX2_wardTop_9 rfl (lv_at hl 2 rfl) ?_
  refine lv_iload_n hx hb dX2_wardTop_10 rfl (lv_at hl 2 rfl) ?_
  refine lv_imul hx hb dX2_wardTop_11 ?_
  refine lv_i2l (v := (x3 * x3).toInt64) hx hb dX2_wardTop_12 rfl ?_
  refine lv_lload hx hb dX2_wardTop_13 (lv_at hl 3 rfl) ?_
  refine lv_lmul hx hb dX2_wardTop_15 ?_
  refine lv_lsub hx hb dX2_wardTop_16 ?_
  refine lv_iload_n hx hb dX2_wardTop_17 rfl (lv_at hl 1 rfl) ?_
  refine lv_iload_n hx hb dX2_wardTop_18 rfl (lv_at hl 1 rfl) ?_
  refine lv_imul hx hb dX2_wardTop_19 ?_
  refine lv_i2l (v := (x2 * x2).toInt64) hx hb dX2_wardTop_20 rfl ?_
  refine lv_lload hx hb dX2_wardTop_21 (lv_at hl 4 rfl) ?_
  refine lv_lmul hx hb dX2_wardTop_23 ?_
  refine lv_lsub hx hb dX2_wardTop_24 ?_
  refine lv_lmul hx hb dX2_wardTop_25 ?_
  obtain ⟨rfl, rfl⟩ := sp hf
  exact Wd.lret hC hW dX2_wardTop_26
abbrev rmJ9_abs_067f4 : Room := { frames := 0, cells := 0, slots := 0, locals := 0 }
def fJ9_abs_067f4 (N : Nat) (x0 : Int64) (σ : St) : Option (Int64 × St) := if 0 ≤ (lg_cmp x0 (0 : Int64)) then some (x0, σ) else some ((-x0), σ)
set_option maxHeartbeats 4000000 in
set_option maxRecDepth 100000 in
theorem kJ9_abs_067f4 {l : Launch} {D : va_G} {cA : Nat → ClassId} {ad : Nat → Nat} {N : Nat} {x0 : Int64} {σ : St} {r : Int64} {σ' : St} (hf : fJ9_abs_067f4 N x0 σ = some (r, σ')) : MW kdX 140 l D cA ad ⟨RJ9, "abs", "(J)J"⟩ cJ9_abs_067f4 2 (some .long) rmJ9_abs_067f4 [.long x0] σ (some (.long r)) σ' := by
  refine MW.ofF (by decide +kernel) (Nat.le_of_ble_eq_true rfl) ?_
  intro p e s m args below meth c ls hC hW hl
  have hx := hC.1
  have hb := hC.2.1
  have hown := hC.2.2.2.1
  have hts := hC.2.2.2.2.1
  have hl : lv_has ls 2 [(0, .long x0)] := hl
  unfold fJ9_abs_067f4 at hf
  refine lv_lload_n hx hb dJ9_abs_067f4_0 rfl (lv_at hl 0 rfl) ?_
  refine lv_lconst (v := 0) hx hb dJ9_abs_067f4_1 (by decide) ?_
  refine W.lcmp hx hb dJ9_abs_067f4_2 ?_
  refine lv_if_ge (tgt := 11) hx hb dJ9_abs_067f4_3 (by decide) (fun h1 => ?_) (fun h1 => ?_)
  · have hf := it_t h1 hf
    refine lv_lload_n hx hb dJ9_abs_067f4_11 rfl (lv_at hl 0 rfl) ?_
    obtain ⟨rfl, rfl⟩ := sp hf
    exact Wd.lret hC hW dJ9_abs_067f4_12
  · have hf := it_f h1 hf
    refine lv_lload_n hx hb dJ9_abs_067f4_6 rfl (lv_at hl 0 rfl) ?_
    refine lv_lneg hx hb dJ9_abs_067f4_7 ?_
    refine lv_goto (tgt := 12) hx hb dJ9_abs_067f4_8 (by decide) ?_
    obtain ⟨rfl, rfl⟩ := sp hf
    exact Wd.lret hC hW dJ9_abs_067f4_12
abbrev rmX7_commonDivisor : Room := { frames := 1, cells := 0, slots := 0, locals := 23 }
def fX7_commonDivisor_15 (N : Nat) : Nat → Int64 → Int64 → Int32 → St → Option (Int64 × St)
  | 0, _, _, _, _ => none
  | n + 1, x4, x6, x8, σ => if (200 : Int32) ≤ x8 then bd (fJ9_max_f86c9 N (1 : Int64) x4 σ) (fun r2 s3 => some (r2, s3)) else if (lg_cmp x6 (0 : Int64)) = 0 then bd (fJ9_max_f86c9 N (1 : Int64) x4 σ) (fun r6 s7 => some (r6, s7)) else ndz (x6 = 0) inferInstance (nx (x4 - x4 / x6 * x6) (fun v10 => nx (x8 + (1 : Int32)) (fun v11 => ((fX7_commonDivisor_15 N n) x6 v10 v11 σ))))
set_option maxHeartbeats 4000000 in
set_option maxRecDepth 100000 in
theorem wX7_commonDivisor_15 (hC : Cx RX7 cX7_commonDivisor 11 (some .long) D cA p s m args meth c) {N : Nat} {r : Int64} {σ' : St} : ∀ (n : Nat) (x4 : Int64) (x6 : Int64) (x8 : Int32) (σ : St) (H : Heap) (locs : List Loc) (ls : Array Slot), fX7_commonDivisor_15 N n x4 x6 x8 σ = some (r, σ') → Wd kdX 140 D cA ad s σ H locs → lv_has ls 11 [(4, .long x4), (6, .long x6), (8, .int x8)] → W p l e rmX7_commonDivisor s m args below meth c H locs 0 0 (EndW kdX 140 D cA ad below args s (some (.long r)) σ') (F0 m 15 ls []) := by
  have hx := hC.1
  have hb := hC.2.1
  have hown := hC.2.2.2.1
  have hts := hC.2.2.2.2.1
  intro n
  induction n with
  | zero =>
    intro x4 x6 x8 σ H locs ls hf
    rw [fX7_commonDivisor_15] at hf
    cases hf
  | succ n ih =>
    intro x4 x6 x8 σ H locs ls hf hW hl
    rw [fX7_commonDivisor_15] at hf
    refine lv_iload hx hb dX7_commonDivisor_15 (lv_at hl 2 rfl) ?_
    refine lv_sipush (v := 200) hx hb dX7_commonDivisor_17 (by decide) ?_
    refine lv_icmp_ge (tgt := 51) hx hb dX7_commonDivisor_20 (by decide) (fun h1 => ?_) (fun h1 => ?_)
    · have hf := it_t h1 hf
      refine lv_lconst (v := 1) hx hb dX7_commonDivisor_51 (by decide) ?_
      refine lv_lload hx hb dX7_commonDivisor_52 (lv_at hl 0 rfl) ?_
      obtain ⟨r2, s3, c4, hf⟩ := bd_some hf
      refine Wd.callS (n := 2) (As := [.long (1 : Int64), .long x4]) (rest := []) (rv := some (.long r2)) hC hW (kJ9_max_f86c9 c4) q409 q389 q9 q390 ⟨rfl, rfl⟩ ⟨by decide +kernel, by decide +kernel, by decide +kernel⟩ ⟨Nat.le_of_ble_eq_true rfl, Nat.le_of_ble_eq_true rfl⟩ ⟨Nat.zero_le _, Nat.zero_le _⟩ rfl hl.1 rfl (st2 := [.long r2]) rfl (Nat.le_of_ble_eq_true rfl) dX7_commonDivisor_54 (fun H locs hW => ?_)
      obtain ⟨rfl, rfl⟩ := sp hf
      exact Wd.lret hC hW dX7_commonDivisor_57
    · have hf := it_f h1 hf
      refine lv_lload hx hb dX7_commonDivisor_23 (lv_at hl 1 rfl) ?_
      refine lv_lconst (v := 0) hx hb dX7_commonDivisor_25 (by decide) ?_
      refine W.lcmp hx hb dX7_commonDivisor_26 ?_
      refine lv_if_eq (tgt := 51) hx hb dX7_commonDivisor_27 (by decide) (fun h5 => ?_) (fun h5 => ?_)
      · have hf := it_t h5 hf
        refine lv_lconst (v := 1) hx hb dX7_commonDivisor_51 (by decide) ?_
        refine lv_lload hx hb dX7_commonDivisor_52 (lv_at hl 0 rfl) ?_
        obtain ⟨r6, s7, c8, hf⟩ := bd_some hf
        refine Wd.callS (n := 2) (As := [.long (1 : Int64), .long x4]) (rest := []) (rv := some (.long r6)) hC hW (kJ9_max_f86c9 c8) q409 q389 q9 q390 ⟨rfl, rfl⟩ ⟨by decide +kernel, by decide +kernel, by decide +kernel⟩ ⟨Nat.le_of_ble_eq_true rfl, Nat.le_of_ble_eq_true rfl⟩ ⟨Nat.zero_le _, Nat.zero_le _⟩ rfl hl.1 rfl (st2 := [.long r6]) rfl (Nat.le_of_ble_eq_true rfl) dX7_commonDivisor_54 (fun H locs hW => ?_)
        obtain ⟨rfl, rfl⟩ := sp hf
        exact Wd.lret hC hW dX7_commonDivisor_57
      · have hf := it_f h5 hf
        refine lv_lload hx hb dX7_commonDivisor_30 (lv_at hl 0 rfl) ?_
        refine lv_lload hx hb dX7_commonDivisor_32 (lv_at hl 1 rfl) ?_
        obtain ⟨h9, hf⟩ := ndz_some hf
        refine lv_lrem hx hb dX7_commonDivisor_34 h9 ?_
        refine lv_topl (fun v10 ev10 => ?_)
        have hf := nx_at ev10 hf
        refine lv_lstore (lv' := [(9, .long v10), (4, .long x4), (6, .long x6), (8, .int x8)]) hx hb dX7_commonDivisor_35 hl (by decide) rfl (fun ls hl => ?_)
        refine lv_lload hx hb dX7_commonDivisor_37 (lv_at hl 2 rfl) ?_
        refine lv_lstore (lv' := [(4, .long x6), (9, .long v10), (6, .long x6), (8, .int x8)]) hx hb dX7_commonDivisor_39 hl (by decide) rfl (fun ls hl => ?_)
        refine lv_lload hx hb dX7_commonDivisor_41 (lv_at hl 1 rfl) ?_
        refine lv_lstore (lv' := [(6, .long v10), (4, .long x6), (9, .long v10), (8, .int x8)]) hx hb dX7_commonDivisor_43 hl (by decide) rfl (fun ls hl => ?_)
        obtain ⟨v11, ev11⟩ : ∃ y : Int32, y = x8 + (1 : Int32) := ⟨_, rfl⟩
        have hf := nx_at ev11 hf
        refine lv_iinc (v := v11) (lv' := [(8, .int v11), (6, .long v10), (4, .long x6), (9, .long v10)]) hx hb dX7_commonDivisor_45 hl (k := 3) rfl (by rw [ev11]; rfl) (by decide) rfl (fun ls hl => ?_)
        refine lv_goto (tgt := 15) hx hb dX7_commonDivisor_48 (by decide) ?_
        exact ih _ _ _ _ _ _ _ hf hW (lv_sub hl [2, 1, 0] rfl)
def fX7_commonDivisor (N : Nat) (x0 : Int64) (x2 : Int64) (σ : St) : Option (Int64 × St) := bd (fJ9_abs_067f4 N x0 σ) (fun r1 s2 => bd (fJ9_abs_067f4 N x2 s2) (fun r4 s5 => (fX7_commonDivisor_15 N N r1 r4 (0 : Int32) s5)))
set_option maxHeartbeats 4000000 in
set_option maxRecDepth 100000 in
theorem kX7_commonDivisor {l : Launch} {D : va_G} {cA : Nat → ClassId} {ad : Nat → Nat} {N : Nat} {x0 : Int64} {x2 : Int64} {σ : St} {r : Int64} {σ' : St} (hf : fX7_commonDivisor N x0 x2 σ = some (r, σ')) : MW kdX 140 l D cA ad ⟨RX7, "commonDivisor", "(JJ)J"⟩ cX7_commonDivisor 11 (some .long) rmX7_commonDivisor [.long x0, .long x2] σ (some (.long r)) σ' := by
  refine MW.of (by decide) (Nat.le_of_ble_eq_true rfl) ?_
  intro p e s m args below meth c ls hC hW hl
  have hx := hC.1
  have hb := hC.2.1
  have hown := hC.2.2.2.1
  have hts := hC.2.2.2.2.1
  have hl : lv_has ls 11 [(0, .long x0), (2, .long x2)] := hl
  unfold fX7_commonDivisor at hf
  refine lv_lload_n hx hb dX7_commonDivisor_0 rfl (lv_at hl 0 rfl) ?_
  obtain ⟨r1, s2, c3, hf⟩ := bd_some hf
  refine Wd.callS (n := 1) (As := [.long x0]) (rest := []) (rv := some (.long r1)) hC hW (kJ9_abs_067f4 c3) q406 q407 q9 q408 ⟨rfl, rfl⟩ ⟨by decide +kernel, by decide +kernel, by decide +kernel⟩ ⟨Nat.le_of_ble_eq_true rfl, Nat.le_of_ble_eq_true rfl⟩ ⟨Nat.zero_le _, Nat.zero_le _⟩ rfl hl.1 rfl (st2 := [.long r1]) rfl (Nat.le_of_ble_eq_true rfl) dX7_commonDivisor_1 (fun H locs hW => ?_)
  refine lv_lstore (lv' := [(4, .long r1), (0, .long x0), (2, .long x2)]) hx hb dX7_commonDivisor_4 hl (by decide) rfl (fun ls hl => ?_)
  refine lv_lload_n hx hb dX7_commonDivisor_6 rfl (lv_at hl 2 rfl) ?_
  obtain ⟨r4, s5, c6, hf⟩ := bd_some hf
  refine Wd.callS (n := 1) (As := [.long x2]) (rest := []) (rv := some (.long r4)) hC hW (kJ9_abs_067f4 c6) q406 q407 q9 q408 ⟨rfl, rfl⟩ ⟨by decide +kernel, by decide +kernel, by decide +kernel⟩ ⟨Nat.le_of_ble_eq_true rfl, Nat.le_of_ble_eq_true rfl⟩ ⟨Nat.zero_le _, Nat.zero_le _⟩ rfl hl.1 rfl (st2 := [.long r4]) rfl (Nat.le_of_ble_eq_true rfl) dX7_commonDivisor_7 (fun H locs hW => ?_)
  refine lv_lstore (lv' := [(6, .long r4), (4, .long r1), (0, .long x0), (2, .long x2)]) hx hb dX7_commonDivisor_10 hl (by decide) rfl (fun ls hl => ?_)
  refine lv_iconst (v := 0) hx hb dX7_commonDivisor_12 (by decide) ?_
  refine lv_istore (lv' := [(8, .int (0 : Int32)), (6, .long r4), (4, .long r1), (0, .long x0), (2, .long x2)]) hx hb dX7_commonDivisor_13 hl (by decide) rfl (fun ls hl => ?_)
  exact wX7_commonDivisor_15 hC N _ _ _ _ _ _ _ hf hW (lv_sub hl [2, 1, 0] rfl)
abbrev rmX7_lowered : Room := { frames := 0, cells := 0, slots := 0, locals := 0 }
def fX7_lowered (N : Nat) (x0 : Int64) (x2 : Int64) (σ : St) : Option (Int64 × St) := if (lg_cmp x2 (0 : Int64)) = 0 then some (x0, σ) else ndz (x2 = 0) inferInstance (some ((x0 / x2), σ))
set_option maxHeartbeats 4000000 in
set_option maxRecDepth 100000 in
theorem kX7_lowered {l : Launch} {D : va_G} {cA : Nat → ClassId} {ad : Nat → Nat} {N : Nat} {x0 : Int64} {x2 : Int64} {σ : St} {r : Int64} {σ' : St} (hf : fX7_lowered N x0 x2 σ = some (r, σ')) : MW kdX 140 l D cA ad ⟨RX7, "lowered", "(JJ)J"⟩ cX7_lowered 4 (some .long) rmX7_lowered [.long x0, .long x2] σ (some (.long r)) σ' := by
  refine MW.of (by decide) (Nat.le_of_ble_eq_true rfl) ?_
  intro p e s m args below meth c ls hC hW hl
  have hx := hC.1
  have hb := hC.2.1
  have hown := hC.2.2.2.1
  have hts := hC.2.2.2.2.1
  have hl : lv_has ls 4 [(0, .long x0), (2, .long x2)] := hl
  unfold fX7_lowered at hf
  refine lv_lload_n hx hb dX7_lowered_0 rfl (lv_at hl 1 rfl) ?_
  refine lv_lconst (v := 0) hx hb dX7_lowered_1 (by decide) ?_
  refine W.lcmp hx hb dX7_lowered_2 ?_
  refine lv_if_ne (tgt := 10) hx hb dX7_lowered_3 (by decide) (fun h1 => ?_) (fun h1 => ?_)
  · have hf := it_f h1 hf
    refine lv_lload_n hx hb dX7_lowered_10 rfl (lv_at hl 0 rfl) ?_
    refine lv_lload_n hx hb dX7_lowered_11 rfl (lv_at hl 1 rfl) ?_
    obtain ⟨h2, hf⟩ := ndz_some hf
    refine lv_ldiv hx hb dX7_lowered_12 h2 ?_
    obtain ⟨rfl, rfl⟩ := sp hf
    exact Wd.lret hC hW dX7_lowered_13
  · have hf := it_t h1 hf
    refine lv_lload_n hx hb dX7_lowered_6 rfl (lv_at hl 0 rfl) ?_
    refine lv_goto (tgt := 13) hx hb dX7_lowered_7 (by decide) ?_
    obtain ⟨rfl, rfl⟩ := sp hf
    exact Wd.lret hC hW dX7_lowered_13
abbrev rmX7_linkage : Room := { frames := 3, cells := 0, slots := 0, locals := 75 }
def fX7_linkage_157 (N : Nat) (x11 : Int64) (x13 : Int64) (y0 : Int64) (σ : St) : Option (Int64 × St) := bd (fX7_commonDivisor N x13 x11 σ) (fun r1 s2 => bd (fX7_lowered N y0 r1 s2) (fun r4 s5 => some (r4, s5)))
set_option maxHeartbeats 4000000 in
set_option maxRecDepth 100000 in
theorem wX7_linkage_157 (hC : Cx RX7 cX7_linkage 15 (some .long) D cA p s m args meth c) {N : Nat} {x11 : Int64} {x13 : Int64} {y0 : Int64} {σ : St} {r : Int64} {σ' : St} {H : Heap} {locs : List Loc} {ls : Array Slot} (hf : fX7_linkage_157 N x11 x13 y0 σ = some (r, σ')) (hW : Wd kdX 140 D cA ad s σ H locs) (hl : lv_has ls 15 [(11, .long x11), (13, .long x13)]) : W p l e rmX7_linkage s m args below meth c H locs 0 0 (EndW kdX 140 D cA ad below args s (some (.long r)) σ') (F0 m 157 ls [.long y0]) := by
  have hx := hC.1
  have hb := hC.2.1
  have hown := hC.2.2.2.1
  have hts := hC.2.2.2.2.1
  unfold fX7_linkage_157 at hf
  refine lv_lload hx hb dX7_linkage_157 (lv_at hl 1 rfl) ?_
  refine lv_lload hx hb dX7_linkage_159 (lv_at hl 0 rfl) ?_
  obtain ⟨r1, s2, c3, hf⟩ := bd_some hf
  refine Wd.callS (n := 2) (As := [.long x13, .long x11]) (rest := [.long y0]) (rv := some (.long r1)) hC hW (kX7_commonDivisor c3) q403 q404 q1 q405 ⟨rfl, rfl⟩ ⟨by decide +kernel, by decide +kernel, by decide +kernel⟩ ⟨Nat.le_of_ble_eq_true rfl, Nat.le_of_ble_eq_true rfl⟩ ⟨Nat.zero_le _, Nat.zero_le _⟩ rfl hl.1 rfl (st2 := [.long r1, .long y0]) rfl (Nat.le_of_ble_eq_true rfl) dX7_linkage_161 (fun H locs hW => ?_)
  obtain ⟨r4, s5, c6, hf⟩ := bd_some hf
  refine Wd.callS (n := 2) (As := [.long y0, .long r1]) (rest := []) (rv := some (.long r4)) hC hW (kX7_lowered c6) q410 q411 q1 q412 ⟨rfl, rfl⟩ ⟨by decide +kernel, by decide +kernel, by decide +kernel⟩ ⟨Nat.le_of_ble_eq_true rfl, Nat.le_of_ble_eq_true rfl⟩ ⟨Nat.zero_le _, Nat.zero_le _⟩ rfl hl.1 rfl (st2 := [.long r4]) rfl (Nat.le_of_ble_eq_true rfl) dX7_linkage_164 (fun H locs hW => ?_)
  obtain ⟨rfl, rfl⟩ := sp hf
  exact Wd.lret hC hW dX7_linkage_167
def fX7_linkage_143 (N : Nat) (x4 : Int32) (x11 : Int64) (y0 : Int64) (σ : St) : Option (Int64 × St) := if x4 = 0 then (fX7_linkage_157 N x11 y0 y0 σ) else (fX7_linkage_157 N x11 y0 x11 σ)
set_option maxHeartbeats 4000000 in
set_option maxRecDepth 100000 in
theorem wX7_linkage_143 (hC : Cx RX7 cX7_linkage 15 (some .long) D cA p s m args meth c) {N : Nat} {x4 : Int32} {x11 : Int64} {y0 : Int64} {σ : St} {r : Int64} {σ' : St} {H : Heap} {locs : List Loc} {ls : Array Slot} (hf : fX7_linkage_143 N x4 x11 y0 σ = some (r, σ')) (hW : Wd kdX 140 D cA ad s σ H locs) (hl : lv_has ls 15 [(4, .int x4), (11, .long x11)]) : W p l e rmX7_linkage s m args below meth c H locs 0 0 (EndW kdX 140 D cA ad below args s (some (.long r)) σ') (F0 m 143 ls [.long y0]) := by
  have hx := hC.1
  have hb := hC.2.1
  have hown := hC.2.2.2.1
  have hts := hC.2.2.2.2.1
  unfold fX7_linkage_143 at hf
  refine lv_lstore (lv' := [(13, .long y0), (4, .int x4), (11, .long x11)]) hx hb dX7_linkage_143 hl (by decide) rfl (fun ls hl => ?_)
  refine lv_iload hx hb dX7_linkage_145 (lv_at hl 1 rfl) ?_
  refine lv_if_ne (tgt := 155) hx hb dX7_linkage_147 (by decide) (fun h1 => ?_) (fun h1 => ?_)
  · have hf := it_f h1 hf
    refine lv_lload hx hb dX7_linkage_155 (lv_at hl 2 rfl) ?_
    exact wX7_linkage_157 hC hf hW (lv_sub hl [2, 0] rfl)
  · have hf := it_t h1 hf
    refine lv_lload hx hb dX7_linkage_150 (lv_at hl 0 rfl) ?_
    refine lv_goto (tgt := 157) hx hb dX7_linkage_152 (by decide) ?_
    exact wX7_linkage_157 hC hf hW (lv_sub hl [2, 0] rfl)
def fX7_linkage (N : Nat) (x1 : Int32) (x2 : Int32) (x3 : Int32) (x4 : Int32) (σ : St) : Option (Int64 × St) := bd (fX3_allBits N σ) (fun r1 s2 => nx (x2 &&& r1) (fun v4 => bd (fX3_allBits N s2) (fun r5 s6 => nx (x3 &&& r5) (fun v8 => if x1 < 0 then some ((-1 : Int64), s6) else if (3 : Int32) < x1 then some ((-1 : Int64), s6) else if x4 < 0 then some ((-1 : Int64), s6) else if x4 ≤ (1 : Int32) then if v4 = 0 then some ((-1 : Int64), s6) else if v8 = 0 then some ((-1 : Int64), s6) else if (v4 &&& v8) = 0 then bd (fJ6_bitCount_0f7a4 N v4 s6) (fun r16 s17 => bd (fJ6_bitCount_0f7a4 N v8 s17) (fun r19 s20 => bd (fX3_coreBetween N x1 v4 v8 s20) (fun r22 s23 => bd (fX2_bottomOf N x1 r16 r19 s23) (fun r25 s26 => if x1 = (3 : Int32) then bd (fX3_sumInside N v4 s26) (fun r29 s30 => bd (fX3_sumInside N v8 s30) (fun r32 s33 => bd (fX2_wardTop N r22 r16 r19 r29 r32 s33) (fun r35 s36 => (fX7_linkage_143 N x4 r25 r35 s36)))) else (fX7_linkage_143 N x4 r25 r22 s26))))) else some ((-1 : Int64), s6) else some ((-1 : Int64), s6)))))
set_option maxHeartbeats 4000000 in
set_option maxRecDepth 100000 in
theorem kX7_linkage {l : Launch} {D : va_G} {cA : Nat → ClassId} {ad : Nat → Nat} {N : Nat} {x1 : Int32} {x2 : Int32} {x3 : Int32} {x4 : Int32} {σ : St} {r : Int64} {σ' : St} (hf : fX7_linkage N x1 x2 x3 x4 σ = some (r, σ')) : MW kdX 140 l D cA ad ⟨RX7, "linkage", "(IIII)J"⟩ cX7_linkage 15 (some .long) rmX7_linkage [.ref (ad 0), .int x1, .int x2, .int x3, .int x4] σ (some (.long r)) σ' := by
  refine MW.of (by decide) (Nat.le_of_ble_eq_true rfl) ?_
  intro p e s m args below meth c ls hC hW hl
  have hx := hC.1
  have hb := hC.2.1
  have hown := hC.2.2.2.1
  have hts := hC.2.2.2.2.1
  have hl : lv_has ls 15 [(0, .ref (ad 0)), (1, .int x1), (2, .int x2), (3, .int x3), (4, .int x4)] := hl
  unfold fX7_linkage at hf
  refine lv_iload_n hx hb dX7_linkage_0 rfl (lv_at hl 2 rfl) ?_
  refine lv_aload_n hx hb dX7_linkage_1 rfl (lv_at hl 0 rfl) ?_
  refine gfX7_12 hC hW 0 (by decide) rfl (q := 1) rfl dX7_linkage_2 ?_
  obtain ⟨r1, s2, c3, hf⟩ := bd_some hf
  refine Wd.callVN (n := 0) (As := []) (rest := [.int x2]) (rv := some (.int r1)) hC hW 1 (kX3_allBits c3) (by decide) rfl rfl q367 q369 qs12 q2 q370 ⟨rfl, rfl⟩ ⟨by decide +kernel, by decide +kernel, by decide +kernel⟩ ⟨Nat.le_of_ble_eq_true rfl, Nat.le_of_ble_eq_true rfl⟩ ⟨Nat.zero_le _, Nat.zero_le _⟩ rfl hl.1 rfl (st2 := [.int r1, .int x2]) rfl (Nat.le_of_ble_eq_true rfl) dX7_linkage_5 (fun H locs hW => ?_)
  refine lv_iand hx hb dX7_linkage_8 ?_
  refine lv_topi (fun v4 ev4 => ?_)
  have hf := nx_at ev4 hf
  refine lv_istore (lv' := [(5, .int v4), (0, .ref (ad 0)), (1, .int x1), (2, .int x2), (3, .int x3), (4, .int x4)]) hx hb dX7_linkage_9 hl (by decide) rfl (fun ls hl => ?_)
  refine lv_iload_n hx hb dX7_linkage_11 rfl (lv_at hl 4 rfl) ?_
  refine lv_aload_n hx hb dX7_linkage_12 rfl (lv_at hl 1 rfl) ?_
  refine gfX7_12 hC hW 0 (by decide) rfl (q := 1) rfl dX7_linkage_13 ?_
  obtain ⟨r5, s6, c7, hf⟩ := bd_some hf
  refine Wd.callVN (n := 0) (As := []) (rest := [.int x3]) (rv := some (.int r5)) hC hW 1 (kX3_allBits c7) (by decide) rfl rfl q367 q369 qs12 q2 q370 ⟨rfl, rfl⟩ ⟨by decide +kernel, by decide +kernel, by decide +kernel⟩ ⟨Nat.le_of_ble_eq_true rfl, Nat.le_of_ble_eq_true rfl⟩ ⟨Nat.zero_le _, Nat.zero_le _⟩ rfl hl.1 rfl (st2 := [.int r5, .int x3]) rfl (Nat.le_of_ble_eq_true rfl) dX7_linkage_16 (fun H locs hW => ?_)
  refine lv_iand hx hb dX7_linkage_19 ?_
  refine lv_topi (fun v8 ev8 => ?_)
  have hf := nx_at ev8 hf
  refine lv_istore (lv' := [(6, .int v8), (5, .int v4), (0, .ref (ad 0)), (1, .int x1), (2, .int x2), (3, .int x3), (4, .int x4)]) hx hb dX7_linkage_20 hl (by decide) rfl (fun ls hl => ?_)
  refine lv_iload_n hx hb dX7_linkage_22 rfl (lv_at hl 3 rfl) ?_
  refine lv_if_lt (tgt := 42) hx hb dX7_linkage_23 (by decide) (fun h9 => ?_) (fun h9 => ?_)
  · have hf := it_t h9 hf
    refine lv_ldc2 hx hb hown (hts _ q371) dX7_linkage_42 ?_
    obtain ⟨rfl, rfl⟩ := sp hf
    exact Wd.lret hC hW dX7_linkage_45
  · have hf := it_f h9 hf
    refine lv_iload_n hx hb dX7_linkage_26 rfl (lv_at hl 3 rfl) ?_
    refine lv_iconst (v := 3) hx hb dX7_linkage_27 (by decide) ?_
    refine lv_icmp_gt (tgt := 42) hx hb dX7_linkage_28 (by decide) (fun h10 => ?_) (fun h10 => ?_)
    · have hf := it_t h10 hf
      refine lv_ldc2 hx hb hown (hts _ q371) dX7_linkage_42 ?_
      obtain ⟨rfl, rfl⟩ := sp hf
      exact Wd.lret hC hW dX7_linkage_45
    · have hf := it_f h10 hf
      refine lv_iload hx hb dX7_linkage_31 (lv_at hl 6 rfl) ?_
      refine lv_if_lt (tgt := 42) hx hb dX7_linkage_33 (by decide) (fun h11 => ?_) (fun h11 => ?_)
      · have hf := it_t h11 hf
        refine lv_ldc2 hx hb hown (hts _ q371) dX7_linkage_42 ?_
        obtain ⟨rfl, rfl⟩ := sp hf
        exact Wd.lret hC hW dX7_linkage_45
      · have hf := it_f h11 hf
        refine lv_iload hx hb dX7_linkage_36 (lv_at hl 6 rfl) ?_
        refine lv_iconst (v := 1) hx hb dX7_linkage_38 (by decide) ?_
        refine lv_icmp_le (tgt := 46) hx hb dX7_linkage_39 (by decide) (fun h12 => ?_) (fun h12 => ?_)
        · have hf := it_t h12 hf
          refine lv_iload hx hb dX7_linkage_46 (lv_at hl 1 rfl) ?_
          refine lv_if_eq (tgt := 64) hx hb dX7_linkage_48 (by decide) (fun h13 => ?_) (fun h13 => ?_)
          · have hf := it_t h13 hf
            refine lv_ldc2 hx hb hown (hts _ q371) dX7_linkage_64 ?_
            obtain ⟨rfl, rfl⟩ := sp hf
            exact Wd.lret hC hW dX7_linkage_67
          · have hf := it_f h13 hf
            refine lv_iload hx hb dX7_linkage_51 (lv_at hl 0 rfl) ?_
            refine lv_if_eq (tgt := 64) hx hb dX7_linkage_53 (by decide) (fun h14 => ?_) (fun h14 => ?_)
            · have hf := it_t h14 hf
              refine lv_ldc2 hx hb hown (hts _ q371) dX7_linkage_64 ?_
              obtain ⟨rfl, rfl⟩ := sp hf
              exact Wd.lret hC hW dX7_linkage_67
            · have hf := it_f h14 hf
              refine lv_iload hx hb dX7_linkage_56 (lv_at hl 1 rfl) ?_
              refine lv_iload hx hb dX7_linkage_58 (lv_at hl 0 rfl) ?_
              refine lv_iand hx hb dX7_linkage_60 ?_
              refine lv_if_eq (tgt := 68) hx hb dX7_linkage_61 (by decide) (fun h15 => ?_) (fun h15 => ?_)
              · have hf := it_t h15 hf
                refine lv_iload hx hb dX7_linkage_68 (lv_at hl 1 rfl) ?_
                obtain ⟨r16, s17, c18, hf⟩ := bd_some hf
                refine Wd.callS (n := 1) (As := [.int v4]) (rest := []) (rv := some (.int r16)) hC hW (kJ6_bitCount_0f7a4 c18) q372 q373 q11 q374 ⟨rfl, rfl⟩ ⟨by decide +kernel, by decide +kernel, by decide +kernel⟩ ⟨Nat.le_of_ble_eq_true rfl, Nat.le_of_ble_eq_true rfl⟩ ⟨Nat.zero_le _, Nat.zero_le _⟩ rfl hl.1 rfl (st2 := [.int r16]) rfl (Nat.le_of_ble_eq_true rfl) dX7_linkage_70 (fun H locs hW => ?_)
                refine lv_istore (lv' := [(7, .int r16), (6, .int v8), (5, .int v4), (0, .ref (ad 0)), (1, .int x1), (2, .int x2), (3, .int x3), (4, .int x4)]) hx hb dX7_linkage_73 hl (by decide) rfl (fun ls hl => ?_)
                refine lv_iload hx hb dX7_linkage_75 (lv_at hl 1 rfl) ?_
                obtain ⟨r19, s20, c21, hf⟩ := bd_some hf
                refine Wd.callS (n := 1) (As := [.int v8]) (rest := []) (rv := some (.int r19)) hC hW (kJ6_bitCount_0f7a4 c21) q372 q373 q11 q374 ⟨rfl, rfl⟩ ⟨by decide +kernel, by decide +kernel, by decide +kernel⟩ ⟨Nat.le_of_ble_eq_true rfl, Nat.le_of_ble_eq_true rfl⟩ ⟨Nat.zero_le _, Nat.zero_le _⟩ rfl hl.1 rfl (st2 := [.int r19]) rfl (Nat.le_of_ble_eq_true rfl) dX7_linkage_77 (fun H locs hW => ?_)
                refine lv_istore (lv' := [(8, .int r19), (7, .int r16), (6, .int v8), (5, .int v4), (0, .ref (ad 0)), (1, .int x1), (2, .int x2), (3, .int x3), (4, .int x4)]) hx hb dX7_linkage_80 hl (by decide) rfl (fun ls hl => ?_)
                refine lv_aload_n hx hb dX7_linkage_82 rfl (lv_at hl 4 rfl) ?_
                refine gfX7_12 hC hW 0 (by decide) rfl (q := 1) rfl dX7_linkage_83 ?_
                refine lv_iload_n hx hb dX7_linkage_86 rfl (lv_at hl 5 rfl) ?_
                refine lv_iload hx hb dX7_linkage_87 (lv_at hl 3 rfl) ?_
                refine lv_iload hx hb dX7_linkage_89 (lv_at hl 2 rfl) ?_
                obtain ⟨r22, s23, c24, hf⟩ := bd_some hf
                refine Wd.callVN (n := 3) (As := [.int x1, .int v4, .int v8]) (rest := []) (rv := some (.long r22)) hC hW 1 (kX3_coreBetween c24) (by decide) rfl rfl q378 q380 qs13 q2 q381 ⟨rfl, rfl⟩ ⟨by decide +kernel, by decide +kernel, by decide +kernel⟩ ⟨Nat.le_of_ble_eq_true rfl, Nat.le_of_ble_eq_true rfl⟩ ⟨Nat.zero_le _, Nat.zero_le _⟩ rfl hl.1 rfl (st2 := [.long r22]) rfl (Nat.le_of_ble_eq_true rfl) dX7_linkage_91 (fun H locs hW => ?_)
                refine lv_lstore (lv' := [(9, .long r22), (8, .int r19), (7, .int r16), (6, .int v8), (5, .int v4), (0, .ref (ad 0)), (1, .int x1), (2, .int x2), (3, .int x3), (4, .int x4)]) hx hb dX7_linkage_94 hl (by decide) rfl (fun ls hl => ?_)
                refine lv_iload_n hx hb dX7_linkage_96 rfl (lv_at hl 6 rfl) ?_
                refine lv_iload hx hb dX7_linkage_97 (lv_at hl 2 rfl) ?_
                refine lv_iload hx hb dX7_linkage_99 (lv_at hl 1 rfl) ?_
                obtain ⟨r25, s26, c27, hf⟩ := bd_some hf
                refine Wd.callSN (n := 3) (As := [.int x1, .int r16, .int r19]) (rest := []) (rv := some (.long r25)) hC hW (kX2_bottomOf c27) q392 q393 q12 q394 ⟨rfl, rfl⟩ ⟨by decide +kernel, by decide +kernel, by decide +kernel⟩ ⟨Nat.le_of_ble_eq_true rfl, Nat.le_of_ble_eq_true rfl⟩ ⟨Nat.zero_le _, Nat.zero_le _⟩ rfl hl.1 rfl (st2 := [.long r25]) rfl (Nat.le_of_ble_eq_true rfl) dX7_linkage_101 (fun H locs hW => ?_)
                refine lv_lstore (lv' := [(11, .long r25), (9, .long r22), (8, .int r19), (7, .int r16), (6, .int v8), (5, .int v4), (0, .ref (ad 0)), (1, .int x1), (2, .int x2), (3, .int x3), (4, .int x4)]) hx hb dX7_linkage_104 hl (by decide) rfl (fun ls hl => ?_)
                refine lv_iload_n hx hb dX7_linkage_106 rfl (lv_at hl 7 rfl) ?_
                refine lv_iconst (v := 3) hx hb dX7_linkage_107 (by decide) ?_
                refine lv_icmp_ne (tgt := 141) hx hb dX7_linkage_108 (by decide) (fun h28 => ?_) (fun h28 => ?_)
                · have hf := it_f h28 hf
                  refine lv_lload hx hb dX7_linkage_141 (lv_at hl 1 rfl) ?_
                  exact wX7_linkage_143 hC hf hW (lv_sub hl [10, 0] rfl)
                · have hf := it_t h28 hf
                  refine lv_lload hx hb dX7_linkage_111 (lv_at hl 1 rfl) ?_
                  refine lv_iload hx hb dX7_linkage_113 (lv_at hl 3 rfl) ?_
                  refine lv_iload hx hb dX7_linkage_115 (lv_at hl 2 rfl) ?_
                  refine lv_aload_n hx hb dX7_linkage_117 rfl (lv_at hl 6 rfl) ?_
                  refine gfX7_12 hC hW 0 (by decide) rfl (q := 1) rfl dX7_linkage_118 ?_
                  refine lv_iload hx hb dX7_linkage_121 (lv_at hl 5 rfl) ?_
                  obtain ⟨r29, s30, c31, hf⟩ := bd_some hf
                  refine Wd.callVN (n := 1) (As := [.int v4]) (rest := [.int r19, .int r16, .long r22]) (rv := some (.long r29)) hC hW 1 (kX3_sumInside c31) (by decide) rfl rfl q396 q398 qs14 q2 q399 ⟨rfl, rfl⟩ ⟨by decide +kernel, by decide +kernel, by decide +kernel⟩ ⟨Nat.le_of_ble_eq_true rfl, Nat.le_of_ble_eq_true rfl⟩ ⟨Nat.zero_le _, Nat.zero_le _⟩ rfl hl.1 rfl (st2 := [.long r29, .int r19, .int r16, .long r22]) rfl (Nat.le_of_ble_eq_true rfl) dX7_linkage_123 (fun H locs hW => ?_)
                  refine lv_aload_n hx hb dX7_linkage_126 rfl (lv_at hl 6 rfl) ?_
                  refine gfX7_12 hC hW 0 (by decide) rfl (q := 1) rfl dX7_linkage_127 ?_
                  refine lv_iload hx hb dX7_linkage_130 (lv_at hl 4 rfl) ?_
                  obtain ⟨r32, s33, c34, hf⟩ := bd_some hf
                  refine Wd.callVN (n := 1) (As := [.int v8]) (rest := [.long r29, .int r19, .int r16, .long r22]) (rv := some (.long r32)) hC hW 1 (kX3_sumInside c34) (by decide) rfl rfl q396 q398 qs14 q2 q399 ⟨rfl, rfl⟩ ⟨by decide +kernel, by decide +kernel, by decide +kernel⟩ ⟨Nat.le_of_ble_eq_true rfl, Nat.le_of_ble_eq_true rfl⟩ ⟨Nat.zero_le _, Nat.zero_le _⟩ rfl hl.1 rfl (st2 := [.long r32, .long r29, .int r19, .int r16, .long r22]) rfl (Nat.le_of_ble_eq_true rfl) dX7_linkage_132 (fun H locs hW => ?_)
                  obtain ⟨r35, s36, c37, hf⟩ := bd_some hf
                  refine Wd.callSN (n := 5) (As := [.long r22, .int r16, .int r19, .long r29, .long r32]) (rest := []) (rv := some (.long r35)) hC hW (kX2_wardTop c37) q400 q401 q12 q402 ⟨rfl, rfl⟩ ⟨by decide +kernel, by decide +kernel, by decide +kernel⟩ ⟨Nat.le_of_ble_eq_true rfl, Nat.le_of_ble_eq_true rfl⟩ ⟨Nat.zero_le _, Nat.zero_le _⟩ rfl hl.1 rfl (st2 := [.long r35]) rfl (Nat.le_of_ble_eq_true rfl) dX7_linkage_135 (fun H locs hW => ?_)
                  refine lv_goto (tgt := 143) hx hb dX7_linkage_138 (by decide) ?_
                  exact wX7_linkage_143 hC hf hW (lv_sub hl [10, 0] rfl)
              · have hf := it_f h15 hf
                refine lv_ldc2 hx hb hown (hts _ q371) dX7_linkage_64 ?_
                obtain ⟨rfl, rfl⟩ := sp hf
                exact Wd.lret hC hW dX7_linkage_67
        · have hf := it_f h12 hf
          refine lv_ldc2 hx hb hown (hts _ q371) dX7_linkage_42 ?_
          obtain ⟨rfl, rfl⟩ := sp hf
          exact Wd.lret hC hW dX7_linkage_45
abbrev rmX2_coreOfPoints : Room := { frames := 0, cells := 0, slots := 0, locals := 0 }
def fX2_coreOfPoints (N : Nat) (x0 : Int32) (x1 : Int32) (σ : St) : Option (Int64 × St) := if x0 = (4 : Int32) then some ((x1.toInt64 * (262144 : Int64)), σ) else some (x1.toInt64, σ)
set_option maxHeartbeats 4000000 in
set_option maxRecDepth 100000 in
theorem kX2_coreOfPoints {l : Launch} {D : va_G} {cA : Nat → ClassId} {ad : Nat → Nat} {N : Nat} {x0 : Int32} {x1 : Int32} {σ : St} {r : Int64} {σ' : St} (hf : fX2_coreOfPoints N x0 x1 σ = some (r, σ')) : MW kdX 140 l D cA ad ⟨RX2, "coreOfPoints", "(II)J"⟩ cX2_coreOfPoints 2 (some .long) rmX2_coreOfPoints [.int x0, .int x1] σ (some (.long r)) σ' := by
  refine MW.of (by decide) (Nat.le_of_ble_eq_true rfl) ?_
  intro p e s m args below meth c ls hC hW hl
  have hx := hC.1
  have hb := hC.2.1
  have hown := hC.2.2.2.1
  have hts := hC.2.2.2.2.1
  have hl : lv_has ls 2 [(0, .int x0), (1, .int x1)] := hl
  unfold fX2_coreOfPoints at hf
  refine lv_iload_n hx hb dX2_coreOfPoints_0 rfl (lv_at hl 0 rfl) ?_
  refine lv_iconst (v := 4) hx hb dX2_coreOfPoints_1 (by decide) ?_
  refine lv_icmp_ne (tgt := 14) hx hb dX2_coreOfPoints_2 (by decide) (fun h1 => ?_) (fun h1 => ?_)
  · have hf := it_f h1 hf
    refine lv_iload_n hx hb dX2_coreOfPoints_14 rfl (lv_at hl 1 rfl) ?_
    refine lv_i2l (v := x1.toInt64) hx hb dX2_coreOfPoints_15 rfl ?_
    obtain ⟨rfl, rfl⟩ := sp hf
    exact Wd.lret hC hW dX2_coreOfPoints_16
  · have hf := it_t h1 hf
    refine lv_iload_n hx hb dX2_coreOfPoints_5 rfl (lv_at hl 1 rfl) ?_
    refine lv_i2l (v := x1.toInt64) hx hb dX2_coreOfPoints_6 rfl ?_
    refine lv_ldc2 hx hb hown (hts _ q395) dX2_coreOfPoints_7 ?_
    refine lv_lmul hx hb dX2_coreOfPoints_10 ?_
    refine lv_goto (tgt := 16) hx hb dX2_coreOfPoints_11 (by decide) ?_
    obtain ⟨rfl, rfl⟩ := sp hf
    exact Wd.lret hC hW dX2_coreOfPoints_16
abbrev rmX1_setCore : Room := { frames := 1, cells := 0, slots := 0, locals := 27 }
def fX1_setCore_54 (N : Nat) (x1 : Int32) (x2 : Int32) (x3 : Int64) (x5 : Int32) (x6 : Int32) (y0 : Int64) (σ : St) : Option (Unit × St) := bd (fX2_bottomOf N (σ.1 11 1) x5 x6 σ) (fun r1 s2 => gd (ib x1 20) (gd (ib x2 20) (nx (sJ s2 (80 + 1 * x1.toNatClampNeg) x2.toNatClampNeg x3) (fun s6 => gd (ib x2 20) (gd (ib x1 20) (nx (sJ s6 (80 + 1 * x2.toNatClampNeg) x1.toNatClampNeg x3) (fun s9 => gd (ib x1 20) (gd (ib x2 20) (nx (sJ s9 (100 + 1 * x1.toNatClampNeg) x2.toNatClampNeg y0) (fun s12 => gd (ib x2 20) (gd (ib x1 20) (nx (sJ s12 (100 + 1 * x2.toNatClampNeg) x1.toNatClampNeg y0) (fun s15 => gd (ib x1 20) (gd (ib x2 20) (nx (sJ s15 (120 + 1 * x1.toNatClampNeg) x2.toNatClampNeg r1) (fun s18 => gd (ib x2 20) (gd (ib x1 20) (nx (sJ s18 (120 + 1 * x2.toNatClampNeg) x1.toNatClampNeg r1) (fun s21 => some ((), s21))))))))))))))))))))
set_option maxHeartbeats 4000000 in
set_option maxRecDepth 100000 in
theorem wX1_setCore_54 (hC : Cx RX1 cX1_setCore 11 none D cA p s m args meth c) {N : Nat} {x1 : Int32} {x2 : Int32} {x3 : Int64} {x5 : Int32} {x6 : Int32} {y0 : Int64} {σ : St} {r : Unit} {σ' : St} {H : Heap} {locs : List Loc} {ls : Array Slot} (hf : fX1_setCore_54 N x1 x2 x3 x5 x6 y0 σ = some (r, σ')) (hW : Wd kdX 140 D cA ad s σ H locs) (hl : lv_has ls 11 [(0, .ref (ad 11)), (1, .int x1), (2, .int x2), (3, .long x3), (5, .int x5), (6, .int x6)]) : W p l e rmX1_setCore s m args below meth c H locs 0 0 (EndW kdX 140 D cA ad below args s none σ') (F0 m 54 ls [.long y0]) := by
  have hx := hC.1
  have hb := hC.2.1
  have hown := hC.2.2.2.1
  have hts := hC.2.2.2.2.1
  unfold fX1_setCore_54 at hf
  refine lv_lstore (lv' := [(7, .long y0), (0, .ref (ad 11)), (1, .int x1), (2, .int x2), (3, .long x3), (5, .int x5), (6, .int x6)]) hx hb dX1_setCore_54 hl (by decide) rfl (fun ls hl => ?_)
  refine lv_aload_n hx hb dX1_setCore_56 rfl (lv_at hl 1 rfl) ?_
  refine gfX1_58 hC hW 11 (by decide) rfl rfl dX1_setCore_57 ?_
  refine lv_iload hx hb dX1_setCore_60 (lv_at hl 5 rfl) ?_
  refine lv_iload hx hb dX1_setCore_62 (lv_at hl 6 rfl) ?_
  obtain ⟨r1, s2, c3, hf⟩ := bd_some hf
  refine Wd.callSN (n := 3) (As := [.int (σ.1 11 1), .int x5, .int x6]) (rest := []) (rv := some (.long r1)) hC hW (kX2_bottomOf c3) q434 q393 q12 q394 ⟨rfl, rfl⟩ ⟨by decide +kernel, by decide +kernel, by decide +kernel⟩ ⟨Nat.le_of_ble_eq_true rfl, Nat.le_of_ble_eq_true rfl⟩ ⟨Nat.zero_le _, Nat.zero_le _⟩ rfl hl.1 rfl (st2 := [.long r1]) rfl (Nat.le_of_ble_eq_true rfl) dX1_setCore_64 (fun H locs hW => ?_)
  refine lv_lstore (lv' := [(9, .long r1), (7, .long y0), (0, .ref (ad 11)), (1, .int x1), (2, .int x2), (3, .long x3), (5, .int x5), (6, .int x6)]) hx hb dX1_setCore_67 hl (by decide) rfl (fun ls hl => ?_)
  refine lv_aload_n hx hb dX1_setCore_69 rfl (lv_at hl 2 rfl) ?_
  refine gfX1_37 hC hW 11 (by decide) rfl (q := 17) rfl dX1_setCore_70 ?_
  refine lv_iload_n hx hb dX1_setCore_73 rfl (lv_at hl 3 rfl) ?_
  obtain ⟨h4, hf⟩ := gd_some hf
  refine Wd.aald hC hW 17 ⟨by decide, by decide⟩ (by decide) rfl h4 dX1_setCore_74 ?_
  refine lv_iload_n hx hb dX1_setCore_75 rfl (lv_at hl 4 rfl) ?_
  refine lv_lload_n hx hb dX1_setCore_76 rfl (lv_at hl 5 rfl) ?_
  obtain ⟨h5, hf⟩ := gd_some hf
  refine Wd.last hC hW (80 + 1 * x1.toNatClampNeg) (Rw.b80 h4) (Rw.k80 h4) h5 dX1_setCore_77 (fun H locs hW => ?_)
  obtain ⟨s6, es6, hf⟩ := nx_ex hf
  rw [← es6] at hW
  refine lv_aload_n hx hb dX1_setCore_78 rfl (lv_at hl 2 rfl) ?_
  refine gfX1_37 hC hW 11 (by decide) rfl (q := 17) rfl dX1_setCore_79 ?_
  refine lv_iload_n hx hb dX1_setCore_82 rfl (lv_at hl 4 rfl) ?_
  obtain ⟨h7, hf⟩ := gd_some hf
  refine Wd.aald hC hW 17 ⟨by decide, by decide⟩ (by decide) rfl h7 dX1_setCore_83 ?_
  refine lv_iload_n hx hb dX1_setCore_84 rfl (lv_at hl 3 rfl) ?_
  refine lv_lload_n hx hb dX1_setCore_85 rfl (lv_at hl 5 rfl) ?_
  obtain ⟨h8, hf⟩ := gd_some hf
  refine Wd.last hC hW (80 + 1 * x2.toNatClampNeg) (Rw.b80 h7) (Rw.k80 h7) h8 dX1_setCore_86 (fun H locs hW => ?_)
  obtain ⟨s9, es9, hf⟩ := nx_ex hf
  rw [← es9] at hW
  refine lv_aload_n hx hb dX1_setCore_87 rfl (lv_at hl 2 rfl) ?_
  refine gfX1_40 hC hW 11 (by decide) rfl (q := 18) rfl dX1_setCore_88 ?_
  refine lv_iload_n hx hb dX1_setCore_91 rfl (lv_at hl 3 rfl) ?_
  obtain ⟨h10, hf⟩ := gd_some hf
  refine Wd.aald hC hW 18 ⟨by decide, by decide⟩ (by decide) rfl h10 dX1_setCore_92 ?_
  refine lv_iload_n hx hb dX1_setCore_93 rfl (lv_at hl 4 rfl) ?_
  refine lv_lload hx hb dX1_setCore_94 (lv_at hl 1 rfl) ?_
  obtain ⟨h11, hf⟩ := gd_some hf
  refine Wd.last hC hW (100 + 1 * x1.toNatClampNeg) (Rw.b100 h10) (Rw.k100 h10) h11 dX1_setCore_96 (fun H locs hW => ?_)
  obtain ⟨s12, es12, hf⟩ := nx_ex hf
  rw [← es12] at hW
  refine lv_aload_n hx hb dX1_setCore_97 rfl (lv_at hl 2 rfl) ?_
  refine gfX1_40 hC hW 11 (by decide) rfl (q := 18) rfl dX1_setCore_98 ?_
  refine lv_iload_n hx hb dX1_setCore_101 rfl (lv_at hl 4 rfl) ?_
  obtain ⟨h13, hf⟩ := gd_some hf
  refine Wd.aald hC hW 18 ⟨by decide, by decide⟩ (by decide) rfl h13 dX1_setCore_102 ?_
  refine lv_iload_n hx hb dX1_setCore_103 rfl (lv_at hl 3 rfl) ?_
  refine lv_lload hx hb dX1_setCore_104 (lv_at hl 1 rfl) ?_
  obtain ⟨h14, hf⟩ := gd_some hf
  refine Wd.last hC hW (100 + 1 * x2.toNatClampNeg) (Rw.b100 h13) (Rw.k100 h13) h14 dX1_setCore_106 (fun H locs hW => ?_)
  obtain ⟨s15, es15, hf⟩ := nx_ex hf
  rw [← es15] at hW
  refine lv_aload_n hx hb dX1_setCore_107 rfl (lv_at hl 2 rfl) ?_
  refine gfX1_43 hC hW 11 (by decide) rfl (q := 19) rfl dX1_setCore_108 ?_
  refine lv_iload_n hx hb dX1_setCore_111 rfl (lv_at hl 3 rfl) ?_
  obtain ⟨h16, hf⟩ := gd_some hf
  refine Wd.aald hC hW 19 ⟨by decide, by decide⟩ (by decide) rfl h16 dX1_setCore_112 ?_
  refine lv_iload_n hx hb dX1_setCore_113 rfl (lv_at hl 4 rfl) ?_
  refine lv_lload hx hb dX1_setCore_114 (lv_at hl 0 rfl) ?_
  obtain ⟨h17, hf⟩ := gd_some hf
  refine Wd.last hC hW (120 + 1 * x1.toNatClampNeg) (Rw.b120 h16) (Rw.k120 h16) h17 dX1_setCore_116 (fun H locs hW => ?_)
  obtain ⟨s18, es18, hf⟩ := nx_ex hf
  rw [← es18] at hW
  refine lv_aload_n hx hb dX1_setCore_117 rfl (lv_at hl 2 rfl) ?_
  refine gfX1_43 hC hW 11 (by decide) rfl (q := 19) rfl dX1_setCore_118 ?_
  refine lv_iload_n hx hb dX1_setCore_121 rfl (lv_at hl 4 rfl) ?_
  obtain ⟨h19, hf⟩ := gd_some hf
  refine Wd.aald hC hW 19 ⟨by decide, by decide⟩ (by decide) rfl h19 dX1_setCore_122 ?_
  refine lv_iload_n hx hb dX1_setCore_123 rfl (lv_at hl 3 rfl) ?_
  refine lv_lload hx hb dX1_setCore_124 (lv_at hl 0 rfl) ?_
  obtain ⟨h20, hf⟩ := gd_some hf
  refine Wd.last hC hW (120 + 1 * x2.toNatClampNeg) (Rw.b120 h19) (Rw.k120 h19) h20 dX1_setCore_126 (fun H locs hW => ?_)
  obtain ⟨s21, es21, hf⟩ := nx_ex hf
  rw [← es21] at hW
  obtain ⟨-, rfl⟩ := sp hf
  exact Wd.vret hC hW dX1_setCore_127
def fX1_setCore (N : Nat) (x1 : Int32) (x2 : Int32) (x3 : Int64) (σ : St) : Option (Unit × St) := gd (ib x1 20) (bd (fJ6_bitCount_0f7a4 N (σ.1 15 x1.toNatClampNeg) σ) (fun r2 s3 => gd (ib x2 20) (bd (fJ6_bitCount_0f7a4 N (s3.1 15 x2.toNatClampNeg) s3) (fun r6 s7 => if (s7.1 11 1) = (3 : Int32) then gd (ib x1 20) (gd (ib x2 20) (bd (fX2_wardTop N x3 r2 r6 (s7.2 16 x1.toNatClampNeg) (s7.2 16 x2.toNatClampNeg) s7) (fun r12 s13 => (fX1_setCore_54 N x1 x2 x3 r2 r6 r12 s13)))) else (fX1_setCore_54 N x1 x2 x3 r2 r6 x3 s7)))))
set_option maxHeartbeats 4000000 in
set_option maxRecDepth 100000 in
theorem kX1_setCore {l : Launch} {D : va_G} {cA : Nat → ClassId} {ad : Nat → Nat} {N : Nat} {x1 : Int32} {x2 : Int32} {x3 : Int64} {σ : St} {r : Unit} {σ' : St} (hf : fX1_setCore N x1 x2 x3 σ = some (r, σ')) : MW kdX 140 l D cA ad ⟨RX1, "setCore", "(IIJ)V"⟩ cX1_setCore 11 none rmX1_setCore [.ref (ad 11), .int x1, .int x2, .long x3] σ none σ' := by
  refine MW.of (by decide) (Nat.le_of_ble_eq_true rfl) ?_
  intro p e s m args below meth c ls hC hW hl
  have hx := hC.1
  have hb := hC.2.1
  have hown := hC.2.2.2.1
  have hts := hC.2.2.2.2.1
  have hl : lv_has ls 11 [(0, .ref (ad 11)), (1, .int x1), (2, .int x2), (3, .long x3)] := hl
  unfold fX1_setCore at hf
  refine lv_aload_n hx hb dX1_setCore_0 rfl (lv_at hl 0 rfl) ?_
  refine gfX1_28 hC hW 11 (by decide) rfl (q := 15) rfl dX1_setCore_1 ?_
  refine lv_iload_n hx hb dX1_setCore_4 rfl (lv_at hl 1 rfl) ?_
  obtain ⟨h1, hf⟩ := gd_some hf
  refine Wd.iald hC hW 15 (by decide) rfl h1 dX1_setCore_5 ?_
  obtain ⟨r2, s3, c4, hf⟩ := bd_some hf
  refine Wd.callS (n := 1) (As := [.int (σ.1 15 x1.toNatClampNeg)]) (rest := []) (rv := some (.int r2)) hC hW (kJ6_bitCount_0f7a4 c4) q432 q373 q11 q374 ⟨rfl, rfl⟩ ⟨by decide +kernel, by decide +kernel, by decide +kernel⟩ ⟨Nat.le_of_ble_eq_true rfl, Nat.le_of_ble_eq_true rfl⟩ ⟨Nat.zero_le _, Nat.zero_le _⟩ rfl hl.1 rfl (st2 := [.int r2]) rfl (Nat.le_of_ble_eq_true rfl) dX1_setCore_6 (fun H locs hW => ?_)
  refine lv_istore (lv' := [(5, .int r2), (0, .ref (ad 11)), (1, .int x1), (2, .int x2), (3, .long x3)]) hx hb dX1_setCore_9 hl (by decide) rfl (fun ls hl => ?_)
  refine lv_aload_n hx hb dX1_setCore_11 rfl (lv_at hl 1 rfl) ?_
  refine gfX1_28 hC hW 11 (by decide) rfl (q := 15) rfl dX1_setCore_12 ?_
  refine lv_iload_n hx hb dX1_setCore_15 rfl (lv_at hl 3 rfl) ?_
  obtain ⟨h5, hf⟩ := gd_some hf
  refine Wd.iald hC hW 15 (by decide) rfl h5 dX1_setCore_16 ?_
  obtain ⟨r6, s7, c8, hf⟩ := bd_some hf
  refine Wd.callS (n := 1) (As := [.int (s3.1 15 x2.toNatClampNeg)]) (rest := []) (rv := some (.int r6)) hC hW (kJ6_bitCount_0f7a4 c8) q432 q373 q11 q374 ⟨rfl, rfl⟩ ⟨by decide +kernel, by decide +kernel, by decide +kernel⟩ ⟨Nat.le_of_ble_eq_true rfl, Nat.le_of_ble_eq_true rfl⟩ ⟨Nat.zero_le _, Nat.zero_le _⟩ rfl hl.1 rfl (st2 := [.int r6]) rfl (Nat.le_of_ble_eq_true rfl) dX1_setCore_17 (fun H locs hW => ?_)
  refine lv_istore (lv' := [(6, .int r6), (5, .int r2), (0, .ref (ad 11)), (1, .int x1), (2, .int x2), (3, .long x3)]) hx hb dX1_setCore_20 hl (by decide) rfl (fun ls hl => ?_)
  refine lv_aload_n hx hb dX1_setCore_22 rfl (lv_at hl 2 rfl) ?_
  refine gfX1_58 hC hW 11 (by decide) rfl rfl dX1_setCore_23 ?_
  refine lv_iconst (v := 3) hx hb dX1_setCore_26 (by decide) ?_
  refine lv_icmp_ne (tgt := 53) hx hb dX1_setCore_27 (by decide) (fun h9 => ?_) (fun h9 => ?_)
  · have hf := it_f h9 hf
    refine lv_lload_n hx hb dX1_setCore_53 rfl (lv_at hl 5 rfl) ?_
    exact wX1_setCore_54 hC hf hW (lv_sub hl [2, 3, 4, 5, 1, 0] rfl)
  · have hf := it_t h9 hf
    refine lv_lload_n hx hb dX1_setCore_30 rfl (lv_at hl 5 rfl) ?_
    refine lv_iload hx hb dX1_setCore_31 (lv_at hl 1 rfl) ?_
    refine lv_iload hx hb dX1_setCore_33 (lv_at hl 0 rfl) ?_
    refine lv_aload_n hx hb dX1_setCore_35 rfl (lv_at hl 2 rfl) ?_
    refine gfX1_31 hC hW 11 (by decide) rfl (q := 16) rfl dX1_setCore_36 ?_
    refine lv_iload_n hx hb dX1_setCore_39 rfl (lv_at hl 3 rfl) ?_
    obtain ⟨h10, hf⟩ := gd_some hf
    refine Wd.lald hC hW 16 (by decide) rfl h10 dX1_setCore_40 ?_
    refine lv_aload_n hx hb dX1_setCore_41 rfl (lv_at hl 2 rfl) ?_
    refine gfX1_31 hC hW 11 (by decide) rfl (q := 16) rfl dX1_setCore_42 ?_
    refine lv_iload_n hx hb dX1_setCore_45 rfl (lv_at hl 4 rfl) ?_
    obtain ⟨h11, hf⟩ := gd_some hf
    refine Wd.lald hC hW 16 (by decide) rfl h11 dX1_setCore_46 ?_
    obtain ⟨r12, s13, c14, hf⟩ := bd_some hf
    refine Wd.callSN (n := 5) (As := [.long x3, .int r2, .int r6, .long (s7.2 16 x1.toNatClampNeg), .long (s7.2 16 x2.toNatClampNeg)]) (rest := []) (rv := some (.long r12)) hC hW (kX2_wardTop c14) q433 q401 q12 q402 ⟨rfl, rfl⟩ ⟨by decide +kernel, by decide +kernel, by decide +kernel⟩ ⟨Nat.le_of_ble_eq_true rfl, Nat.le_of_ble_eq_true rfl⟩ ⟨Nat.zero_le _, Nat.zero_le _⟩ rfl hl.1 rfl (st2 := [.long r12]) rfl (Nat.le_of_ble_eq_true rfl) dX1_setCore_47 (fun H locs hW => ?_)
    refine lv_goto (tgt := 54) hx hb dX1_setCore_50 (by decide) ?_
    exact wX1_setCore_54 hC hf hW (lv_sub hl [2, 3, 4, 5, 1, 0] rfl)
abbrev rmX1_begin : Room := { frames := 2, cells := 0, slots := 0, locals := 57 }
def fX1_begin_98 (N : Nat) (K87 : Int32 → St → Option (Unit × St)) : Nat → Int32 → Int32 → St → Option (Unit × St)
  | 0, _, _, _ => none
  | n + 1, x3, x4, σ => if x3 ≤ x4 then nx (x3 + (1 : Int32)) (fun v2 => (K87 v2 σ)) else gd (ib x3 20) (gd (ib x4 20) (bd (fX2_coreOfPoints N (σ.1 11 1) (σ.1 (60 + 1 * x3.toNatClampNeg) x4.toNatClampNeg) σ) (fun r5 s6 => bd (fX1_setCore N x3 x4 r5 s6) (fun r8 s9 => nx (x4 + (1 : Int32)) (fun v11 => ((fX1_begin_98 N K87 n) x3 v11 s9))))))
set_option maxHeartbeats 4000000 in
set_option maxRecDepth 100000 in
theorem wX1_begin_98 (hC : Cx RX1 cX1_begin 5 none D cA p s m args meth c) {N : Nat} {K87 : Int32 → St → Option (Unit × St)} {r : Unit} {σ' : St} (hK87 : ∀ (x3 : Int32) (σ : St) (H : Heap) (locs : List Loc) (ls : Array Slot), K87 x3 σ = some (r, σ') → Wd kdX 140 D cA ad s σ H locs → lv_has ls 5 [(0, .ref (ad 11)), (1, .ref (ad 1)), (3, .int x3)] → W p l e rmX1_begin s m args below meth c H locs 0 0 (EndW kdX 140 D cA ad below args s none σ') (F0 m 87 ls [])) : ∀ (n : Nat) (x3 : Int32) (x4 : Int32) (σ : St) (H : Heap) (locs : List Loc) (ls : Array Slot), fX1_begin_98 N K87 n x3 x4 σ = some (r, σ') → Wd kdX 140 D cA ad s σ H locs → lv_has ls 5 [(0, .ref (ad 11)), (1, .ref (ad 1)), (3, .int x3), (4, .int x4)] → W p l e rmX1_begin s m args below meth c H locs 0 0 (EndW kdX 140 D cA ad below args s none σ') (F0 m 98 ls []) := by
  have hx := hC.1
  have hb := hC.2.1
  have hown := hC.2.2.2.1
  have hts := hC.2.2.2.2.1
  intro n
  induction n with
  | zero =>
    intro x3 x4 σ H locs ls hf
    rw [fX1_begin_98] at hf
    cases hf
  | succ n ih =>
    intro x3 x4 σ H locs ls hf hW hl
    rw [fX1_begin_98] at hf
    refine lv_iload hx hb dX1_begin_98 (lv_at hl 3 rfl) ?_
    refine lv_iload_n hx hb dX1_begin_100 rfl (lv_at hl 2 rfl) ?_
    refine lv_icmp_ge (tgt := 133) hx hb dX1_begin_101 (by decide) (fun h1 => ?_) (fun h1 => ?_)
    · have hf := it_t h1 hf
      obtain ⟨v2, ev2⟩ : ∃ y : Int32, y = x3 + (1 : Int32) := ⟨_, rfl⟩
      have hf := nx_at ev2 hf
      refine lv_iinc (v := v2) (lv' := [(3, .int v2), (0, .ref (ad 11)), (1, .ref (ad 1)), (4, .int x4)]) hx hb dX1_begin_133 hl (k := 2) rfl (by rw [ev2]; rfl) (by decide) rfl (fun ls hl => ?_)
      refine lv_goto (tgt := 87) hx hb dX1_begin_136 (by decide) ?_
      exact hK87 _ _ _ _ _ hf hW (lv_sub hl [1, 2, 0] rfl)
    · have hf := it_f h1 hf
      refine lv_aload_n hx hb dX1_begin_104 rfl (lv_at hl 0 rfl) ?_
      refine lv_iload_n hx hb dX1_begin_105 rfl (lv_at hl 2 rfl) ?_
      refine lv_iload hx hb dX1_begin_106 (lv_at hl 3 rfl) ?_
      refine lv_aload_n hx hb dX1_begin_108 rfl (lv_at hl 0 rfl) ?_
      refine gfX1_58 hC hW 11 (by decide) rfl rfl dX1_begin_109 ?_
      refine lv_aload_n hx hb dX1_begin_112 rfl (lv_at hl 1 rfl) ?_
      refine gfX1_69 hC hW 1 (by decide) rfl (q := 4) rfl dX1_begin_113 ?_
      refine lv_iload_n hx hb dX1_begin_116 rfl (lv_at hl 2 rfl) ?_
      obtain ⟨h3, hf⟩ := gd_some hf
      refine Wd.aald hC hW 4 ⟨by decide, by decide⟩ (by decide) rfl h3 dX1_begin_117 ?_
      refine lv_iload hx hb dX1_begin_118 (lv_at hl 3 rfl) ?_
      obtain ⟨h4, hf⟩ := gd_some hf
      refine Wd.iald hC hW (60 + 1 * x3.toNatClampNeg) (Rw.b60 h3) (Rw.k60 h3) h4 dX1_begin_120 ?_
      obtain ⟨r5, s6, c7, hf⟩ := bd_some hf
      refine Wd.callSN (n := 2) (As := [.int (σ.1 11 1), .int (σ.1 (60 + 1 * x3.toNatClampNeg) x4.toNatClampNeg)]) (rest := [.int x4, .int x3, .ref (ad 11)]) (rv := some (.long r5)) hC hW (kX2_coreOfPoints c7) q425 q426 q12 q427 ⟨rfl, rfl⟩ ⟨by decide +kernel, by decide +kernel, by decide +kernel⟩ ⟨Nat.le_of_ble_eq_true rfl, Nat.le_of_ble_eq_true rfl⟩ ⟨Nat.zero_le _, Nat.zero_le _⟩ rfl hl.1 rfl (st2 := [.long r5, .int x4, .int x3, .ref (ad 11)]) rfl (Nat.le_of_ble_eq_true rfl) dX1_begin_121 (fun H locs hW => ?_)
      obtain ⟨r8, s9, c10, hf⟩ := bd_some hf
      refine Wd.callV (n := 3) (As := [.int x3, .int x4, .long r5]) (rest := []) (rv := none) hC hW 11 (kX1_setCore c10) (by decide) rfl rfl q428 q430 qs17 q5 q431 ⟨rfl, rfl⟩ ⟨by decide +kernel, by decide +kernel, by decide +kernel⟩ ⟨Nat.le_of_ble_eq_true rfl, Nat.le_of_ble_eq_true rfl⟩ ⟨Nat.zero_le _, Nat.zero_le _⟩ rfl hl.1 rfl (st2 := []) rfl (Nat.le_of_ble_eq_true rfl) dX1_begin_124 (fun H locs hW => ?_)
      obtain ⟨v11, ev11⟩ : ∃ y : Int32, y = x4 + (1 : Int32) := ⟨_, rfl⟩
      have hf := nx_at ev11 hf
      refine lv_iinc (v := v11) (lv' := [(4, .int v11), (0, .ref (ad 11)), (1, .ref (ad 1)), (3, .int x3)]) hx hb dX1_begin_127 hl (k := 3) rfl (by rw [ev11]; rfl) (by decide) rfl (fun ls hl => ?_)
      refine lv_goto (tgt := 98) hx hb dX1_begin_130 (by decide) ?_
      exact ih _ _ _ _ _ _ hf hW (lv_sub hl [1, 2, 3, 0] rfl)
def fX1_begin_87 (N : Nat) : Nat → Int32 → St → Option (Unit × St)
  | 0, _, _ => none
  | n + 1, x3, σ => if (σ.1 11 0) ≤ x3 then some ((), σ) else (fX1_begin_98 N (fX1_begin_87 N n) N x3 (0 : Int32) σ)
set_option maxHeartbeats 4000000 in
set_option maxRecDepth 100000 in
theorem wX1_begin_87 (hC : Cx RX1 cX1_begin 5 none D cA p s m args meth c) {N : Nat} {r : Unit} {σ' : St} : ∀ (n : Nat) (x3 : Int32) (σ : St) (H : Heap) (locs : List Loc) (ls : Array Slot), fX1_begin_87 N n x3 σ = some (r, σ') → Wd kdX 140 D cA ad s σ H locs → lv_has ls 5 [(0, .ref (ad 11)), (1, .ref (ad 1)), (3, .int x3)] → W p l e rmX1_begin s m args below meth c H locs 0 0 (EndW kdX 140 D cA ad below args s none σ') (F0 m 87 ls []) := by
  have hx := hC.1
  have hb := hC.2.1
  have hown := hC.2.2.2.1
  have hts := hC.2.2.2.2.1
  intro n
  induction n with
  | zero =>
    intro x3 σ H locs ls hf
    rw [fX1_begin_87] at hf
    cases hf
  | succ n ih =>
    intro x3 σ H locs ls hf hW hl
    rw [fX1_begin_87] at hf
    refine lv_iload_n hx hb dX1_begin_87 rfl (lv_at hl 2 rfl) ?_
    refine lv_aload_n hx hb dX1_begin_88 rfl (lv_at hl 0 rfl) ?_
    refine gfX1_55 hC hW 11 (by decide) rfl rfl dX1_begin_89 ?_
    refine lv_icmp_ge (tgt := 139) hx hb dX1_begin_92 (by decide) (fun h1 => ?_) (fun h1 => ?_)
    · have hf := it_t h1 hf
      obtain ⟨-, rfl⟩ := sp hf
      exact Wd.vret hC hW dX1_begin_139
    · have hf := it_f h1 hf
      refine lv_iconst (v := 0) hx hb dX1_begin_95 (by decide) ?_
      refine lv_istore (lv' := [(4, .int (0 : Int32)), (0, .ref (ad 11)), (1, .ref (ad 1)), (3, .int x3)]) hx hb dX1_begin_96 hl (by decide) rfl (fun ls hl => ?_)
      exact wX1_begin_98 hC ih N _ _ _ _ _ _ hf hW (lv_sub hl [1, 2, 3, 0] rfl)
def fX1_begin_41 (N : Nat) : Nat → Int32 → St → Option (Unit × St)
  | 0, _, _ => none
  | n + 1, x3, σ => if (σ.1 11 0) ≤ x3 then (fX1_begin_87 N N (1 : Int32) σ) else gd (ib x3 20) (nx (sI σ 13 x3.toNatClampNeg x3) (fun s3 => gd (ib x3 20) (nx (sI s3 14 x3.toNatClampNeg x3) (fun s5 => gd (ib x3 20) (nx (sI s5 15 x3.toNatClampNeg ((1 : Int32) <<< (x3 &&& 31))) (fun s7 => gd (ib x3 20) (nx (sJ s7 16 x3.toNatClampNeg (0 : Int64)) (fun s9 => nx (x3 + (1 : Int32)) (fun v10 => ((fX1_begin_41 N n) v10 s9))))))))))
set_option maxHeartbeats 4000000 in
set_option maxRecDepth 100000 in
theorem wX1_begin_41 (hC : Cx RX1 cX1_begin 5 none D cA p s m args meth c) {N : Nat} {r : Unit} {σ' : St} : ∀ (n : Nat) (x3 : Int32) (σ : St) (H : Heap) (locs : List Loc) (ls : Array Slot), fX1_begin_41 N n x3 σ = some (r, σ') → Wd kdX 140 D cA ad s σ H locs → lv_has ls 5 [(0, .ref (ad 11)), (1, .ref (ad 1)), (3, .int x3)] → W p l e rmX1_begin s m args below meth c H locs 0 0 (EndW kdX 140 D cA ad below args s none σ') (F0 m 41 ls []) := by
  have hx := hC.1
  have hb := hC.2.1
  have hown := hC.2.2.2.1
  have hts := hC.2.2.2.2.1
  intro n
  induction n with
  | zero =>
    intro x3 σ H locs ls hf
    rw [fX1_begin_41] at hf
    cases hf
  | succ n ih =>
    intro x3 σ H locs ls hf hW hl
    rw [fX1_begin_41] at hf
    refine lv_iload_n hx hb dX1_begin_41 rfl (lv_at hl 2 rfl) ?_
    refine lv_aload_n hx hb dX1_begin_42 rfl (lv_at hl 0 rfl) ?_
    refine gfX1_55 hC hW 11 (by decide) rfl rfl dX1_begin_43 ?_
    refine lv_icmp_ge (tgt := 85) hx hb dX1_begin_46 (by decide) (fun h1 => ?_) (fun h1 => ?_)
    · have hf := it_t h1 hf
      refine lv_iconst (v := 1) hx hb dX1_begin_85 (by decide) ?_
      refine lv_istore_n (lv' := [(3, .int (1 : Int32)), (0, .ref (ad 11)), (1, .ref (ad 1))]) hx hb dX1_begin_86 rfl hl (by decide) rfl (fun ls hl => ?_)
      exact wX1_begin_87 hC N _ _ _ _ _ hf hW (lv_sub hl [1, 2, 0] rfl)
    · have hf := it_f h1 hf
      refine lv_aload_n hx hb dX1_begin_49 rfl (lv_at hl 0 rfl) ?_
      refine gfX1_22 hC hW 11 (by decide) rfl (q := 13) rfl dX1_begin_50 ?_
      refine lv_iload_n hx hb dX1_begin_53 rfl (lv_at hl 2 rfl) ?_
      refine lv_iload_n hx hb dX1_begin_54 rfl (lv_at hl 2 rfl) ?_
      obtain ⟨h2, hf⟩ := gd_some hf
      refine Wd.iast hC hW 13 (by decide) rfl h2 dX1_begin_55 (fun H locs hW => ?_)
      obtain ⟨s3, es3, hf⟩ := nx_ex hf
      rw [← es3] at hW
      refine lv_aload_n hx hb dX1_begin_56 rfl (lv_at hl 0 rfl) ?_
      refine gfX1_25 hC hW 11 (by decide) rfl (q := 14) rfl dX1_begin_57 ?_
      refine lv_iload_n hx hb dX1_begin_60 rfl (lv_at hl 2 rfl) ?_
      refine lv_iload_n hx hb dX1_begin_61 rfl (lv_at hl 2 rfl) ?_
      obtain ⟨h4, hf⟩ := gd_some hf
      refine Wd.iast hC hW 14 (by decide) rfl h4 dX1_begin_62 (fun H locs hW => ?_)
      obtain ⟨s5, es5, hf⟩ := nx_ex hf
      rw [← es5] at hW
      refine lv_aload_n hx hb dX1_begin_63 rfl (lv_at hl 0 rfl) ?_
      refine gfX1_28 hC hW 11 (by decide) rfl (q := 15) rfl dX1_begin_64 ?_
      refine lv_iload_n hx hb dX1_begin_67 rfl (lv_at hl 2 rfl) ?_
      refine lv_iconst (v := 1) hx hb dX1_begin_68 (by decide) ?_
      refine lv_iload_n hx hb dX1_begin_69 rfl (lv_at hl 2 rfl) ?_
      refine lv_ishl hx hb dX1_begin_70 ?_
      obtain ⟨h6, hf⟩ := gd_some hf
      refine Wd.iast hC hW 15 (by decide) rfl h6 dX1_begin_71 (fun H locs hW => ?_)
      obtain ⟨s7, es7, hf⟩ := nx_ex hf
      rw [← es7] at hW
      refine lv_aload_n hx hb dX1_begin_72 rfl (lv_at hl 0 rfl) ?_
      refine gfX1_31 hC hW 11 (by decide) rfl (q := 16) rfl dX1_begin_73 ?_
      refine lv_iload_n hx hb dX1_begin_76 rfl (lv_at hl 2 rfl) ?_
      refine lv_lconst (v := 0) hx hb dX1_begin_77 (by decide) ?_
      obtain ⟨h8, hf⟩ := gd_some hf
      refine Wd.last hC hW 16 (by decide) rfl h8 dX1_begin_78 (fun H locs hW => ?_)
      obtain ⟨s9, es9, hf⟩ := nx_ex hf
      rw [← es9] at hW
      obtain ⟨v10, ev10⟩ : ∃ y : Int32, y = x3 + (1 : Int32) := ⟨_, rfl⟩
      have hf := nx_at ev10 hf
      refine lv_iinc (v := v10) (lv' := [(3, .int v10), (0, .ref (ad 11)), (1, .ref (ad 1))]) hx hb dX1_begin_79 hl (k := 2) rfl (by rw [ev10]; rfl) (by decide) rfl (fun ls hl => ?_)
      refine lv_goto (tgt := 41) hx hb dX1_begin_82 (by decide) ?_
      exact ih _ _ _ _ _ hf hW (lv_sub hl [1, 2, 0] rfl)
def fX1_begin (N : Nat) (x2 : Int32) (σ : St) : Option (Unit × St) := nx (sI σ 11 0 (σ.1 1 0)) (fun s1 => nx (sI s1 11 1 x2) (fun s2 => nx (sI s2 11 2 (0 : Int32)) (fun s3 => nx (sI s3 22 0 (0 : Int32)) (fun s4 => nx (sI s4 11 6 (s4.1 11 0)) (fun s5 => nx (sI s5 11 14 (0 : Int32)) (fun s6 => (fX1_begin_41 N N (0 : Int32) s6)))))))
set_option maxHeartbeats 4000000 in
set_option maxRecDepth 100000 in
theorem kX1_begin {l : Launch} {D : va_G} {cA : Nat → ClassId} {ad : Nat → Nat} {N : Nat} {x2 : Int32} {σ : St} {r : Unit} {σ' : St} (hf : fX1_begin N x2 σ = some (r, σ')) : MW kdX 140 l D cA ad ⟨RX1, "begin", "(LDendroDesk$Points;I)V"⟩ cX1_begin 5 none rmX1_begin [.ref (ad 11), .ref (ad 1), .int x2] σ none σ' := by
  refine MW.of (by decide) (Nat.le_of_ble_eq_true rfl) ?_
  intro p e s m args below meth c ls hC hW hl
  have hx := hC.1
  have hb := hC.2.1
  have hown := hC.2.2.2.1
  have hts := hC.2.2.2.2.1
  have hl : lv_has ls 5 [(0, .ref (ad 11)), (1, .ref (ad 1)), (2, .int x2)] := hl
  unfold fX1_begin at hf
  refine lv_aload_n hx hb dX1_begin_0 rfl (lv_at hl 0 rfl) ?_
  refine lv_aload_n hx hb dX1_begin_1 rfl (lv_at hl 1 rfl) ?_
  refine gfX1_49 hC hW 1 (by decide) rfl rfl dX1_begin_2 ?_
  refine pgfX1_55 hC hW 11 (by decide) rfl rfl dX1_begin_5 (fun H locs hW => ?_)
  obtain ⟨s1, es1, hf⟩ := nx_ex hf
  rw [← es1] at hW
  refine lv_aload_n hx hb dX1_begin_8 rfl (lv_at hl 0 rfl) ?_
  refine lv_iload_n hx hb dX1_begin_9 rfl (lv_at hl 2 rfl) ?_
  refine pgfX1_58 hC hW 11 (by decide) rfl rfl dX1_begin_10 (fun H locs hW => ?_)
  obtain ⟨s2, es2, hf⟩ := nx_ex hf
  rw [← es2] at hW
  refine lv_aload_n hx hb dX1_begin_13 rfl (lv_at hl 0 rfl) ?_
  refine lv_iconst (v := 0) hx hb dX1_begin_14 (by decide) ?_
  refine pgfX1_61 hC hW 11 (by decide) rfl rfl dX1_begin_15 (fun H locs hW => ?_)
  obtain ⟨s3, es3, hf⟩ := nx_ex hf
  rw [← es3] at hW
  refine lv_aload_n hx hb dX1_begin_18 rfl (lv_at hl 0 rfl) ?_
  refine gfX1_12 hC hW 11 (by decide) rfl (q := 22) rfl dX1_begin_19 ?_
  refine lv_iconst (v := 0) hx hb dX1_begin_22 (by decide) ?_
  refine pgfX1_64 hC hW 22 (St.b0 St.m) (St.o St.m) rfl dX1_begin_23 (fun H locs hW => ?_)
  obtain ⟨s4, es4, hf⟩ := nx_ex hf
  rw [← es4] at hW
  refine lv_aload_n hx hb dX1_begin_26 rfl (lv_at hl 0 rfl) ?_
  refine lv_aload_n hx hb dX1_begin_27 rfl (lv_at hl 0 rfl) ?_
  refine gfX1_55 hC hW 11 (by decide) rfl rfl dX1_begin_28 ?_
  refine pgfX1_65 hC hW 11 (by decide) rfl rfl dX1_begin_31 (fun H locs hW => ?_)
  obtain ⟨s5, es5, hf⟩ := nx_ex hf
  rw [← es5] at hW
  refine lv_aload_n hx hb dX1_begin_34 rfl (lv_at hl 0 rfl) ?_
  refine lv_iconst (v := 0) hx hb dX1_begin_35 (by decide) ?_
  refine pgfX1_66 hC hW 11 (by decide) rfl rfl dX1_begin_36 (fun H locs hW => ?_)
  obtain ⟨s6, es6, hf⟩ := nx_ex hf
  rw [← es6] at hW
  refine lv_iconst (v := 0) hx hb dX1_begin_39 (by decide) ?_
  refine lv_istore_n (lv' := [(3, .int (0 : Int32)), (0, .ref (ad 11)), (1, .ref (ad 1)), (2, .int x2)]) hx hb dX1_begin_40 rfl hl (by decide) rfl (fun ls hl => ?_)
  exact wX1_begin_41 hC N _ _ _ _ _ hf hW (lv_sub hl [1, 2, 0] rfl)
abbrev rmJ13_compare_74951 : Room := { frames := 0, cells := 0, slots := 0, locals := 0 }
def fJ13_compare_74951 (N : Nat) (x0 : Int64) (x2 : Int64) (σ : St) : Option (Int32 × St) := if 0 ≤ (lg_cmp x0 x2) then if (lg_cmp x0 x2) = 0 then some ((0 : Int32), σ) else some ((1 : Int32), σ) else some ((-1 : Int32), σ)
set_option maxHeartbeats 4000000 in
set_option maxRecDepth 100000 in
theorem kJ13_compare_74951 {l : Launch} {D : va_G} {cA : Nat → ClassId} {ad : Nat → Nat} {N : Nat} {x0 : Int64} {x2 : Int64} {σ : St} {r : Int32} {σ' : St} (hf : fJ13_compare_74951 N x0 x2 σ = some (r, σ')) : MW kdX 140 l D cA ad ⟨RJ13, "compare", "(JJ)I"⟩ cJ13_compare_74951 4 (some .int) rmJ13_compare_74951 [.long x0, .long x2] σ (some (.int r)) σ' := by
  refine MW.ofF (by decide +kernel) (Nat.le_of_ble_eq_true rfl) ?_
  intro p e s m args below meth c ls hC hW hl
  have hx := hC.1
  have hb := hC.2.1
  have hown := hC.2.2.2.1
  have hts := hC.2.2.2.2.1
  have hl : lv_has ls 4 [(0, .long x0), (2, .long x2)] := hl
  unfold fJ13_compare_74951 at hf
  refine lv_lload_n hx hb dJ13_compare_74951_0 rfl (lv_at hl 0 rfl) ?_
  refine lv_lload_n hx hb dJ13_compare_74951_1 rfl (lv_at hl 1 rfl) ?_
  refine W.lcmp hx hb dJ13_compare_74951_2 ?_
  refine lv_if_ge (tgt := 10) hx hb dJ13_compare_74951_3 (by decide) (fun h1 => ?_) (fun h1 => ?_)
  · have hf := it_t h1 hf
    refine lv_lload_n hx hb dJ13_compare_74951_10 rfl (lv_at hl 0 rfl) ?_
    refine lv_lload_n hx hb dJ13_compare_74951_11 rfl (lv_at hl 1 rfl) ?_
    refine W.lcmp hx hb dJ13_compare_74951_12 ?_
    refine lv_if_ne (tgt := 20) hx hb dJ13_compare_74951_13 (by decide) (fun h2 => ?_) (fun h2 => ?_)
    · have hf := it_f h2 hf
      refine lv_iconst (v := 1) hx hb dJ13_compare_74951_20 (by decide) ?_
      obtain ⟨rfl, rfl⟩ := sp hf
      exact Wd.iret hC hW dJ13_compare_74951_21
    · have hf := it_t h2 hf
      refine lv_iconst (v := 0) hx hb dJ13_compare_74951_16 (by decide) ?_
      refine lv_goto (tgt := 21) hx hb dJ13_compare_74951_17 (by decide) ?_
      obtain ⟨rfl, rfl⟩ := sp hf
      exact Wd.iret hC hW dJ13_compare_74951_21
  · have hf := it_f h1 hf
    refine lv_iconst (v := (-1)) hx hb dJ13_compare_74951_6 (by decide) ?_
    refine lv_goto (tgt := 21) hx hb dJ13_compare_74951_7 (by decide) ?_
    obtain ⟨rfl, rfl⟩ := sp hf
    exact Wd.iret hC hW dJ13_compare_74951_21
abbrev rmX1_compareLinkages : Room := { frames := 1, cells := 0, slots := 0, locals := 23 }
def fX1_compareLinkages (N : Nat) (x1 : Int32) (x2 : Int32) (x3 : Int32) (x4 : Int32) (σ : St) : Option (Int32 × St) := gd (ib x1 20) (gd (ib x2 20) (gd (ib x3 20) (gd (ib x4 20) (gd (ib x3 20) (gd (ib x4 20) (gd (ib x1 20) (gd (ib x2 20) (bd (fJ13_compare_74951 N ((σ.2 (100 + 1 * x1.toNatClampNeg) x2.toNatClampNeg) * (σ.2 (120 + 1 * x3.toNatClampNeg) x4.toNatClampNeg)) ((σ.2 (100 + 1 * x3.toNatClampNeg) x4.toNatClampNeg) * (σ.2 (120 + 1 * x1.toNatClampNeg) x2.toNatClampNeg)) σ) (fun r9 s10 => some (r9, s10))))))))))
set_option maxHeartbeats 4000000 in
set_option maxRecDepth 100000 in
theorem kX1_compareLinkages {l : Launch} {D : va_G} {cA : Nat → ClassId} {ad : Nat → Nat} {N : Nat} {x1 : Int32} {x2 : Int32} {x3 : Int32} {x4 : Int32} {σ : St} {r : Int32} {σ' : St} (hf : fX1_compareLinkages N x1 x2 x3 x4 σ = some (r, σ')) : MW kdX 140 l D cA ad ⟨RX1, "compareLinkages", "(IIII)I"⟩ cX1_compareLinkages 5 (some .int) rmX1_compareLinkages [.ref (ad 11), .int x1, .int x2, .int x3, .int x4] σ (some (.int r)) σ' := by
  refine MW.of (by decide) (Nat.le_of_ble_eq_true rfl) ?_
  intro p e s m args below meth c ls hC hW hl
  have hx := hC.1
  have hb := hC.2.1
  have hown := hC.2.2.2.1
  have hts := hC.2.2.2.2.1
  have hl : lv_has ls 5 [(0, .ref (ad 11)), (1, .int x1), (2, .int x2), (3, .int x3), (4, .int x4)] := hl
  unfold fX1_compareLinkages at hf
  refine lv_aload_n hx hb dX1_compareLinkages_0 rfl (lv_at hl 0 rfl) ?_
  refine gfX1_40 hC hW 11 (by decide) rfl (q := 18) rfl dX1_compareLinkages_1 ?_
  refine lv_iload_n hx hb dX1_compareLinkages_4 rfl (lv_at hl 1 rfl) ?_
  obtain ⟨h1, hf⟩ := gd_some hf
  refine Wd.aald hC hW 18 ⟨by decide, by decide⟩ (by decide) rfl h1 dX1_compareLinkages_5 ?_
  refine lv_iload_n hx hb dX1_compareLinkages_6 rfl (lv_at hl 2 rfl) ?_
  obtain ⟨h2, hf⟩ := gd_some hf
  refine Wd.lald hC hW (100 + 1 * x1.toNatClampNeg) (Rw.b100 h1) (Rw.k100 h1) h2 dX1_compareLinkages_7 ?_
  refine lv_aload_n hx hb dX1_compareLinkages_8 rfl (lv_at hl 0 rfl) ?_
  refine gfX1_43 hC hW 11 (by decide) rfl (q := 19) rfl dX1_compareLinkages_9 ?_
  refine lv_iload_n hx hb dX1_compareLinkages_12 rfl (lv_at hl 3 rfl) ?_
  obtain ⟨h3, hf⟩ := gd_some hf
  refine Wd.aald hC hW 19 ⟨by decide, by decide⟩ (by decide) rfl h3 dX1_compareLinkages_13 ?_
  refine lv_iload hx hb dX1_compareLinkages_14 (lv_at hl 4 rfl) ?_
  obtain ⟨h4, hf⟩ := gd_some hf
  refine Wd.lald hC hW (120 + 1 * x3.toNatClampNeg) (Rw.b120 h3) (Rw.k120 h3) h4 dX1_compareLinkages_16 ?_
  refine lv_lmul hx hb dX1_compareLinkages_17 ?_
  refine lv_aload_n hx hb dX1_compareLinkages_18 rfl (lv_at hl 0 rfl) ?_
  refine gfX1_40 hC hW 11 (by decide) rfl (q := 18) rfl dX1_compareLinkages_19 ?_
  refine lv_iload_n hx hb dX1_compareLinkages_22 rfl (lv_at hl 3 rfl) ?_
  obtain ⟨h5, hf⟩ := gd_some hf
  refine Wd.aald hC hW 18 ⟨by decide, by decide⟩ (by decide) rfl h5 dX1_compareLinkages_23 ?_
  refine lv_iload hx hb dX1_compareLinkages_24 (lv_at hl 4 rfl) ?_
  obtain ⟨h6, hf⟩ := gd_some hf
  refine Wd.lald hC hW (100 + 1 * x3.toNatClampNeg) (Rw.b100 h5) (Rw.k100 h5) h6 dX1_compareLinkages_26 ?_
  refine lv_aload_n hx hb dX1_compareLinkages_27 rfl (lv_at hl 0 rfl) ?_
  refine gfX1_43 hC hW 11 (by decide) rfl (q := 19) rfl dX1_compareLinkages_28 ?_
  refine lv_iload_n hx hb dX1_compareLinkages_31 rfl (lv_at hl 1 rfl) ?_
  obtain ⟨h7, hf⟩ := gd_some hf
  refine Wd.aald hC hW 19 ⟨by decide, by decide⟩ (by decide) rfl h7 dX1_compareLinkages_32 ?_
  refine lv_iload_n hx hb dX1_compareLinkages_33 rfl (lv_at hl 2 rfl) ?_
  obtain ⟨h8, hf⟩ := gd_some hf
  refine Wd.lald hC hW (120 + 1 * x1.toNatClampNeg) (Rw.b120 h7) (Rw.k120 h7) h8 dX1_compareLinkages_34 ?_
  refine lv_lmul hx hb dX1_compareLinkages_35 ?_
  obtain ⟨r9, s10, c11, hf⟩ := bd_some hf
  refine Wd.callS (n := 2) (As := [.long ((σ.2 (100 + 1 * x1.toNatClampNeg) x2.toNatClampNeg) * (σ.2 (120 + 1 * x3.toNatClampNeg) x4.toNatClampNeg)), .long ((σ.2 (100 + 1 * x3.toNatClampNeg) x4.toNatClampNeg) * (σ.2 (120 + 1 * x1.toNatClampNeg) x2.toNatClampNeg))]) (rest := []) (rv := some (.int r9)) hC hW (kJ13_compare_74951 c11) q451 q452 q13 q453 ⟨rfl, rfl⟩ ⟨by decide +kernel, by decide +kernel, by decide +kernel⟩ ⟨Nat.le_of_ble_eq_true rfl, Nat.le_of_ble_eq_true rfl⟩ ⟨Nat.zero_le _, Nat.zero_le _⟩ rfl hl.1 rfl (st2 := [.int r9]) rfl (Nat.le_of_ble_eq_true rfl) dX1_compareLinkages_36 (fun H locs hW => ?_)
  obtain ⟨rfl, rfl⟩ := sp hf
  exact Wd.iret hC hW dX1_compareLinkages_39
end
