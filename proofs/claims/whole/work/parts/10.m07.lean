section
variable {D : va_G} {cA : Nat → ClassId} {ad : Nat → Nat} {p : Program} {l : Launch} {e : Env} {s : State} {m : MethodId} {args : Array Value} {below : List Frame} {meth : Method} {c : Code}
abbrev rmX8_greedy : Room := { frames := 4, cells := 0, slots := 0, locals := 109 }
def fX8_greedy_22 (N : Nat) : Nat → Int32 → Int32 → St → Option (Int32 × St)
  | 0, _, _, _ => none
  | n + 1, x1, x2, σ => if ((σ.1 0 0) - (1 : Int32)) ≤ (σ.1 0 11) then bd (fX8_keeps N x1 x2 (0 : Int32) σ) (fun r2 s3 => some ((s3.1 0 11), s3)) else bd (fX8_greedyStep N x2 σ) (fun r5 s6 => ((fX8_greedy_22 N n) x1 x2 s6))
set_option maxHeartbeats 4000000 in
set_option maxRecDepth 100000 in
theorem wX8_greedy_22 (hC : Cx RX8 cX8_greedy 3 (some .int) D cA p s m args meth c) {N : Nat} {r : Int32} {σ' : St} : ∀ (n : Nat) (x1 : Int32) (x2 : Int32) (σ : St) (H : Heap) (locs : List Loc) (ls : Array Slot), fX8_greedy_22 N n x1 x2 σ = some (r, σ') → Wd kdM 31 D cA ad s σ H locs → lv_has ls 3 [(0, .ref (ad 0)), (1, .int x1), (2, .int x2)] → W p l e rmX8_greedy s m args below meth c H locs 0 0 (EndW kdM 31 D cA ad below args s (some (.int r)) σ') (F0 m 22 ls []) := by
  have hx := hC.1
  have hb := hC.2.1
  have hown := hC.2.2.2.1
  have hts := hC.2.2.2.2.1
  intro n
  induction n with
  | zero =>
    intro x1 x2 σ H locs ls hf
    rw [fX8_greedy_22] at hf
    cases hf
  | succ n ih =>
    intro x1 x2 σ H locs ls hf hW hl
    rw [fX8_greedy_22] at hf
    refine lv_aload_n hx hb dX8_greedy_22 rfl (lv_at hl 0 rfl) ?_
    refine gfX8_147 hC hW 0 (by decide) rfl rfl dX8_greedy_23 ?_
    refine lv_aload_n hx hb dX8_greedy_26 rfl (lv_at hl 0 rfl) ?_
    refine gfX8_107 hC hW 0 (by decide) rfl rfl dX8_greedy_27 ?_
    refine lv_iconst (v := 1) hx hb dX8_greedy_30 (by decide) ?_
    refine lv_isub hx hb dX8_greedy_31 ?_
    refine lv_icmp_ge (tgt := 43) hx hb dX8_greedy_32 (by decide) (fun h1 => ?_) (fun h1 => ?_)
    · have hf := it_t h1 hf
      refine lv_aload_n hx hb dX8_greedy_43 rfl (lv_at hl 0 rfl) ?_
      refine lv_iload_n hx hb dX8_greedy_44 rfl (lv_at hl 1 rfl) ?_
      refine lv_iload_n hx hb dX8_greedy_45 rfl (lv_at hl 2 rfl) ?_
      refine lv_iconst (v := 0) hx hb dX8_greedy_46 (by decide) ?_
      obtain ⟨r2, s3, c4, hf⟩ := bd_some hf
      refine Wd.callV (n := 3) (As := [.int x1, .int x2, .int (0 : Int32)]) (rest := []) (rv := none) hC hW 0 (kX8_keeps c4) (by decide) rfl rfl q879 q881 qs60 q8 q882 ⟨rfl, rfl⟩ ⟨by decide +kernel, by decide +kernel, by decide +kernel⟩ ⟨Nat.le_of_ble_eq_true rfl, Nat.le_of_ble_eq_true rfl⟩ ⟨Nat.zero_le _, Nat.zero_le _⟩ rfl hl.1 rfl (st2 := []) rfl (Nat.le_of_ble_eq_true rfl) dX8_greedy_47 (fun H locs hW => ?_)
      refine lv_aload_n hx hb dX8_greedy_50 rfl (lv_at hl 0 rfl) ?_
      refine gfX8_147 hC hW 0 (by decide) rfl rfl dX8_greedy_51 ?_
      obtain ⟨rfl, rfl⟩ := sp hf
      exact Wd.iret hC hW dX8_greedy_54
    · have hf := it_f h1 hf
      refine lv_aload_n hx hb dX8_greedy_35 rfl (lv_at hl 0 rfl) ?_
      refine lv_iload_n hx hb dX8_greedy_36 rfl (lv_at hl 2 rfl) ?_
      obtain ⟨r5, s6, c7, hf⟩ := bd_some hf
      refine Wd.callV (n := 1) (As := [.int x2]) (rest := []) (rv := none) hC hW 0 (kX8_greedyStep c7) (by decide) rfl rfl q868 q870 qs58 q8 q871 ⟨rfl, rfl⟩ ⟨by decide +kernel, by decide +kernel, by decide +kernel⟩ ⟨Nat.le_of_ble_eq_true rfl, Nat.le_of_ble_eq_true rfl⟩ ⟨Nat.zero_le _, Nat.zero_le _⟩ rfl hl.1 rfl (st2 := []) rfl (Nat.le_of_ble_eq_true rfl) dX8_greedy_37 (fun H locs hW => ?_)
      refine lv_goto (tgt := 22) hx hb dX8_greedy_40 (by decide) ?_
      exact ih _ _ _ _ _ _ hf hW (lv_sub hl [0, 1, 2] rfl)
def fX8_greedy (N : Nat) (x1 : Int32) (x2 : Int32) (σ : St) : Option (Int32 × St) := bd (fX8_isIn N x1 (4 : Int32) σ) (fun r1 s2 => if r1 = 0 then some ((-1 : Int32), s2) else bd (fX8_isIn N x2 (5 : Int32) s2) (fun r5 s6 => if r5 = 0 then some ((-1 : Int32), s6) else bd (fX8_begins N s6) (fun r9 s10 => (fX8_greedy_22 N N x1 x2 s10))))
set_option maxHeartbeats 4000000 in
set_option maxRecDepth 100000 in
theorem kX8_greedy {l : Launch} {D : va_G} {cA : Nat → ClassId} {ad : Nat → Nat} {N : Nat} {x1 : Int32} {x2 : Int32} {σ : St} {r : Int32} {σ' : St} (hf : fX8_greedy N x1 x2 σ = some (r, σ')) : MW kdM 31 l D cA ad ⟨RX8, "greedy", "(II)I"⟩ cX8_greedy 3 (some .int) rmX8_greedy [.ref (ad 0), .int x1, .int x2] σ (some (.int r)) σ' := by
  refine MW.of (by decide) (Nat.le_of_ble_eq_true rfl) ?_
  intro p e s m args below meth c ls hC hW hl
  have hx := hC.1
  have hb := hC.2.1
  have hown := hC.2.2.2.1
  have hts := hC.2.2.2.2.1
  have hl : lv_has ls 3 [(0, .ref (ad 0)), (1, .int x1), (2, .int x2)] := hl
  unfold fX8_greedy at hf
  refine lv_iload_n hx hb dX8_greedy_0 rfl (lv_at hl 1 rfl) ?_
  refine lv_iconst (v := 4) hx hb dX8_greedy_1 (by decide) ?_
  obtain ⟨r1, s2, c3, hf⟩ := bd_some hf
  refine Wd.callS (n := 2) (As := [.int x1, .int (4 : Int32)]) (rest := []) (rv := some (.int r1)) hC hW (kX8_isIn c3) q762 q763 q8 q764 ⟨rfl, rfl⟩ ⟨by decide +kernel, by decide +kernel, by decide +kernel⟩ ⟨Nat.le_of_ble_eq_true rfl, Nat.le_of_ble_eq_true rfl⟩ ⟨Nat.zero_le _, Nat.zero_le _⟩ rfl hl.1 rfl (st2 := [.int r1]) rfl (Nat.le_of_ble_eq_true rfl) dX8_greedy_2 (fun H locs hW => ?_)
  refine lv_if_eq (tgt := 16) hx hb dX8_greedy_5 (by decide) (fun h4 => ?_) (fun h4 => ?_)
  · have hf := it_t h4 hf
    refine lv_iconst (v := (-1)) hx hb dX8_greedy_16 (by decide) ?_
    obtain ⟨rfl, rfl⟩ := sp hf
    exact Wd.iret hC hW dX8_greedy_17
  · have hf := it_f h4 hf
    refine lv_iload_n hx hb dX8_greedy_8 rfl (lv_at hl 2 rfl) ?_
    refine lv_iconst (v := 5) hx hb dX8_greedy_9 (by decide) ?_
    obtain ⟨r5, s6, c7, hf⟩ := bd_some hf
    refine Wd.callS (n := 2) (As := [.int x2, .int (5 : Int32)]) (rest := []) (rv := some (.int r5)) hC hW (kX8_isIn c7) q762 q763 q8 q764 ⟨rfl, rfl⟩ ⟨by decide +kernel, by decide +kernel, by decide +kernel⟩ ⟨Nat.le_of_ble_eq_true rfl, Nat.le_of_ble_eq_true rfl⟩ ⟨Nat.zero_le _, Nat.zero_le _⟩ rfl hl.1 rfl (st2 := [.int r5]) rfl (Nat.le_of_ble_eq_true rfl) dX8_greedy_10 (fun H locs hW => ?_)
    refine lv_if_ne (tgt := 18) hx hb dX8_greedy_13 (by decide) (fun h8 => ?_) (fun h8 => ?_)
    · have hf := it_f h8 hf
      refine lv_aload_n hx hb dX8_greedy_18 rfl (lv_at hl 0 rfl) ?_
      obtain ⟨r9, s10, c11, hf⟩ := bd_some hf
      refine Wd.callV (n := 0) (As := []) (rest := []) (rv := none) hC hW 0 (kX8_begins c11) (by decide) rfl rfl q864 q866 qs57 q8 q867 ⟨rfl, rfl⟩ ⟨by decide +kernel, by decide +kernel, by decide +kernel⟩ ⟨Nat.le_of_ble_eq_true rfl, Nat.le_of_ble_eq_true rfl⟩ ⟨Nat.zero_le _, Nat.zero_le _⟩ rfl hl.1 rfl (st2 := []) rfl (Nat.le_of_ble_eq_true rfl) dX8_greedy_19 (fun H locs hW => ?_)
      exact wX8_greedy_22 hC N _ _ _ _ _ _ hf hW (lv_sub hl [0, 1, 2] rfl)
    · have hf := it_t h8 hf
      refine lv_iconst (v := (-1)) hx hb dX8_greedy_16 (by decide) ?_
      obtain ⟨rfl, rfl⟩ := sp hf
      exact Wd.iret hC hW dX8_greedy_17
abbrev rmX8_chainStep : Room := { frames := 3, cells := 0, slots := 0, locals := 78 }
def fX8_chainStep_230 (N : Nat) (x2 : Int32) (x3 : Int32) (x4 : Int32) (x5 : Int64) (x7 : Int64) (y0 : Int32) (y1 : Int32) (σ : St) : Option (Unit × St) := nx (sI σ 0 31 (y1 + y0)) (fun s1 => if x4 = x3 then nx (sI s1 0 33 ((s1.1 0 33) - (2 : Int32))) (fun s6 => nx (sJ s6 0 12 x5) (fun s7 => nx (sJ s7 0 13 x7) (fun s8 => bd (fX8_joined N x2 x4 s8) (fun r9 s10 => some ((), s10))))) else gd (ib (s1.1 0 33) 40) (nx (sI s1 25 (s1.1 0 33).toNatClampNeg x4) (fun s4 => nx (sI s4 0 33 ((s4.1 0 33) + (1 : Int32))) (fun s5 => some ((), s5)))))
set_option maxHeartbeats 4000000 in
set_option maxRecDepth 100000 in
theorem wX8_chainStep_230 (hC : Cx RX8 cX8_chainStep 12 none D cA p s m args meth c) {N : Nat} {x2 : Int32} {x3 : Int32} {x4 : Int32} {x5 : Int64} {x7 : Int64} {y0 : Int32} {y1 : Int32} {σ : St} {r : Unit} {σ' : St} {H : Heap} {locs : List Loc} {ls : Array Slot} (hf : fX8_chainStep_230 N x2 x3 x4 x5 x7 y0 y1 σ = some (r, σ')) (hW : Wd kdM 31 D cA ad s σ H locs) (hl : lv_has ls 12 [(0, .ref (ad 0)), (2, .int x2), (3, .int x3), (4, .int x4), (5, .long x5), (7, .long x7)]) : W p l e rmX8_chainStep s m args below meth c H locs 0 0 (EndW kdM 31 D cA ad below args s none σ') (F0 m 230 ls [.int y0, .int y1, .ref (ad 0)]) := by
  have hx := hC.1
  have hb := hC.2.1
  have hown := hC.2.2.2.1
  have hts := hC.2.2.2.2.1
  unfold fX8_chainStep_230 at hf
  refine lv_iadd hx hb dX8_chainStep_230 ?_
  refine pgfX8_188 hC hW 0 (by decide) rfl rfl dX8_chainStep_231 (fun H locs hW => ?_)
  obtain ⟨s1, es1, hf⟩ := nx_ex hf
  rw [← es1] at hW
  refine lv_iload hx hb dX8_chainStep_234 (lv_at hl 3 rfl) ?_
  refine lv_iload_n hx hb dX8_chainStep_236 rfl (lv_at hl 2 rfl) ?_
  refine lv_icmp_ne (tgt := 272) hx hb dX8_chainStep_237 (by decide) (fun h2 => ?_) (fun h2 => ?_)
  · have hf := it_f h2 hf
    refine lv_aload_n hx hb dX8_chainStep_272 rfl (lv_at hl 0 rfl) ?_
    refine gfX8_89 hC hW 0 (by decide) rfl (q := 25) rfl dX8_chainStep_273 ?_
    refine lv_aload_n hx hb dX8_chainStep_276 rfl (lv_at hl 0 rfl) ?_
    refine gfX8_199 hC hW 0 (by decide) rfl rfl dX8_chainStep_277 ?_
    refine lv_iload hx hb dX8_chainStep_280 (lv_at hl 3 rfl) ?_
    obtain ⟨h3, hf⟩ := gd_some hf
    refine Wd.iast hC hW 25 (by decide) rfl h3 dX8_chainStep_282 (fun H locs hW => ?_)
    obtain ⟨s4, es4, hf⟩ := nx_ex hf
    rw [← es4] at hW
    refine lv_aload_n hx hb dX8_chainStep_283 rfl (lv_at hl 0 rfl) ?_
    refine lv_dup hx hb dX8_chainStep_284 rfl ?_
    refine gfX8_199 hC hW 0 (by decide) rfl rfl dX8_chainStep_285 ?_
    refine lv_iconst (v := 1) hx hb dX8_chainStep_288 (by decide) ?_
    refine lv_iadd hx hb dX8_chainStep_289 ?_
    refine pgfX8_199 hC hW 0 (by decide) rfl rfl dX8_chainStep_290 (fun H locs hW => ?_)
    obtain ⟨s5, es5, hf⟩ := nx_ex hf
    rw [← es5] at hW
    obtain ⟨-, rfl⟩ := sp hf
    exact Wd.vret hC hW dX8_chainStep_293
  · have hf := it_t h2 hf
    refine lv_aload_n hx hb dX8_chainStep_240 rfl (lv_at hl 0 rfl) ?_
    refine lv_dup hx hb dX8_chainStep_241 rfl ?_
    refine gfX8_199 hC hW 0 (by decide) rfl rfl dX8_chainStep_242 ?_
    refine lv_iconst (v := 2) hx hb dX8_chainStep_245 (by decide) ?_
    refine lv_isub hx hb dX8_chainStep_246 ?_
    refine pgfX8_199 hC hW 0 (by decide) rfl rfl dX8_chainStep_247 (fun H locs hW => ?_)
    obtain ⟨s6, es6, hf⟩ := nx_ex hf
    rw [← es6] at hW
    refine lv_aload_n hx hb dX8_chainStep_250 rfl (lv_at hl 0 rfl) ?_
    refine lv_lload hx hb dX8_chainStep_251 (lv_at hl 4 rfl) ?_
    refine pgfX8_154 hC hW 0 (by decide) rfl rfl dX8_chainStep_253 (fun H locs hW => ?_)
    obtain ⟨s7, es7, hf⟩ := nx_ex hf
    rw [← es7] at hW
    refine lv_aload_n hx hb dX8_chainStep_256 rfl (lv_at hl 0 rfl) ?_
    refine lv_lload hx hb dX8_chainStep_257 (lv_at hl 5 rfl) ?_
    refine pgfX8_158 hC hW 0 (by decide) rfl rfl dX8_chainStep_259 (fun H locs hW => ?_)
    obtain ⟨s8, es8, hf⟩ := nx_ex hf
    rw [← es8] at hW
    refine lv_aload_n hx hb dX8_chainStep_262 rfl (lv_at hl 0 rfl) ?_
    refine lv_iload_n hx hb dX8_chainStep_263 rfl (lv_at hl 1 rfl) ?_
    refine lv_iload hx hb dX8_chainStep_264 (lv_at hl 3 rfl) ?_
    obtain ⟨r9, s10, c11, hf⟩ := bd_some hf
    refine Wd.callV (n := 2) (As := [.int x2, .int x4]) (rest := []) (rv := none) hC hW 0 (kX8_joined c11) (by decide) rfl rfl q875 q877 qs59 q8 q878 ⟨rfl, rfl⟩ ⟨by decide +kernel, by decide +kernel, by decide +kernel⟩ ⟨Nat.le_of_ble_eq_true rfl, Nat.le_of_ble_eq_true rfl⟩ ⟨Nat.zero_le _, Nat.zero_le _⟩ rfl hl.1 rfl (st2 := []) rfl (Nat.le_of_ble_eq_true rfl) dX8_chainStep_266 (fun H locs hW => ?_)
    refine lv_goto (tgt := 293) hx hb dX8_chainStep_269 (by decide) ?_
    obtain ⟨-, rfl⟩ := sp hf
    exact Wd.vret hC hW dX8_chainStep_293
def fX8_chainStep_209 (N : Nat) (K87 : Int32 → Int32 → Int32 → Int32 → Int64 → Int64 → Int32 → Int32 → St → Option (Unit × St)) (x1 : Int32) (x2 : Int32) (x3 : Int32) (x4 : Int32) (x5 : Int64) (x7 : Int64) (x9 : Int32) (x10 : Int32) (σ : St) : Option (Unit × St) := nx (x10 + (1 : Int32)) (fun v1 => (K87 x1 x2 x3 x4 x5 x7 x9 v1 σ))
set_option maxHeartbeats 4000000 in
set_option maxRecDepth 100000 in
theorem wX8_chainStep_209 (hC : Cx RX8 cX8_chainStep 12 none D cA p s m args meth c) {N : Nat} {K87 : Int32 → Int32 → Int32 → Int32 → Int64 → Int64 → Int32 → Int32 → St → Option (Unit × St)} {x1 : Int32} {x2 : Int32} {x3 : Int32} {x4 : Int32} {x5 : Int64} {x7 : Int64} {x9 : Int32} {x10 : Int32} {σ : St} {r : Unit} {σ' : St} (hK87 : ∀ (x1 : Int32) (x2 : Int32) (x3 : Int32) (x4 : Int32) (x5 : Int64) (x7 : Int64) (x9 : Int32) (x10 : Int32) (σ : St) (H : Heap) (locs : List Loc) (ls : Array Slot), K87 x1 x2 x3 x4 x5 x7 x9 x10 σ = some (r, σ') → Wd kdM 31 D cA ad s σ H locs → lv_has ls 12 [(0, .ref (ad 0)), (1, .int x1), (2, .int x2), (3, .int x3), (4, .int x4), (5, .long x5), (7, .long x7), (9, .int x9), (10, .int x10)] → W p l e rmX8_chainStep s m args below meth c H locs 0 0 (EndW kdM 31 D cA ad below args s none σ') (F0 m 87 ls [])) {H : Heap} {locs : List Loc} {ls : Array Slot} (hf : fX8_chainStep_209 N K87 x1 x2 x3 x4 x5 x7 x9 x10 σ = some (r, σ')) (hW : Wd kdM 31 D cA ad s σ H locs) (hl : lv_has ls 12 [(0, .ref (ad 0)), (1, .int x1), (2, .int x2), (3, .int x3), (4, .int x4), (5, .long x5), (7, .long x7), (9, .int x9), (10, .int x10)]) : W p l e rmX8_chainStep s m args below meth c H locs 0 0 (EndW kdM 31 D cA ad below args s none σ') (F0 m 209 ls []) := by
  have hx := hC.1
  have hb := hC.2.1
  have hown := hC.2.2.2.1
  have hts := hC.2.2.2.2.1
  unfold fX8_chainStep_209 at hf
  obtain ⟨v1, ev1⟩ : ∃ y : Int32, y = x10 + (1 : Int32) := ⟨_, rfl⟩
  have hf := nx_at ev1 hf
  refine lv_iinc (v := v1) (lv' := [(10, .int v1), (0, .ref (ad 0)), (1, .int x1), (2, .int x2), (3, .int x3), (4, .int x4), (5, .long x5), (7, .long x7), (9, .int x9)]) hx hb dX8_chainStep_209 hl (k := 8) rfl (by rw [ev1]; rfl) (by decide) rfl (fun ls hl => ?_)
  refine lv_goto (tgt := 87) hx hb dX8_chainStep_212 (by decide) ?_
  exact hK87 _ _ _ _ _ _ _ _ _ _ _ _ hf hW (lv_sub hl [1, 2, 3, 4, 5, 6, 7, 8, 0] rfl)
def fX8_chainStep_182 (N : Nat) (K87 : Int32 → Int32 → Int32 → Int32 → Int64 → Int64 → Int32 → Int32 → St → Option (Unit × St)) (x1 : Int32) (x2 : Int32) (x3 : Int32) (x4 : Int32) (x5 : Int64) (x7 : Int64) (x9 : Int32) (x10 : Int32) (x11 : Int32) (σ : St) : Option (Unit × St) := if x11 < 0 then nx (σ.2 0 12) (fun v2 => nx (σ.2 0 13) (fun v3 => (fX8_chainStep_209 N K87 x1 x2 x3 x10 v2 v3 (0 : Int32) x10 σ))) else (fX8_chainStep_209 N K87 x1 x2 x3 x4 x5 x7 x9 x10 σ)
set_option maxHeartbeats 4000000 in
set_option maxRecDepth 100000 in
theorem wX8_chainStep_182 (hC : Cx RX8 cX8_chainStep 12 none D cA p s m args meth c) {N : Nat} {K87 : Int32 → Int32 → Int32 → Int32 → Int64 → Int64 → Int32 → Int32 → St → Option (Unit × St)} {x1 : Int32} {x2 : Int32} {x3 : Int32} {x4 : Int32} {x5 : Int64} {x7 : Int64} {x9 : Int32} {x10 : Int32} {x11 : Int32} {σ : St} {r : Unit} {σ' : St} (hK87 : ∀ (x1 : Int32) (x2 : Int32) (x3 : Int32) (x4 : Int32) (x5 : Int64) (x7 : Int64) (x9 : Int32) (x10 : Int32) (σ : St) (H : Heap) (locs : List Loc) (ls : Array Slot), K87 x1 x2 x3 x4 x5 x7 x9 x10 σ = some (r, σ') → Wd kdM 31 D cA ad s σ H locs → lv_has ls 12 [(0, .ref (ad 0)), (1, .int x1), (2, .int x2), (3, .int x3), (4, .int x4), (5, .long x5), (7, .long x7), (9, .int x9), (10, .int x10)] → W p l e rmX8_chainStep s m args below meth c H locs 0 0 (EndW kdM 31 D cA ad below args s none σ') (F0 m 87 ls [])) {H : Heap} {locs : List Loc} {ls : Array Slot} (hf : fX8_chainStep_182 N K87 x1 x2 x3 x4 x5 x7 x9 x10 x11 σ = some (r, σ')) (hW : Wd kdM 31 D cA ad s σ H locs) (hl : lv_has ls 12 [(0, .ref (ad 0)), (1, .int x1), (2, .int x2), (3, .int x3), (4, .int x4), (5, .long x5), (7, .long x7), (9, .int x9), (10, .int x10), (11, .int x11)]) : W p l e rmX8_chainStep s m args below meth c H locs 0 0 (EndW kdM 31 D cA ad below args s none σ') (F0 m 182 ls []) := by
  have hx := hC.1
  have hb := hC.2.1
  have hown := hC.2.2.2.1
  have hts := hC.2.2.2.2.1
  unfold fX8_chainStep_182 at hf
  refine lv_iload hx hb dX8_chainStep_182 (lv_at hl 9 rfl) ?_
  refine lv_if_lt (tgt := 190) hx hb dX8_chainStep_184 (by decide) (fun h1 => ?_) (fun h1 => ?_)
  · have hf := it_t h1 hf
    refine lv_iconst (v := 0) hx hb dX8_chainStep_190 (by decide) ?_
    refine lv_istore (lv' := [(9, .int (0 : Int32)), (0, .ref (ad 0)), (1, .int x1), (2, .int x2), (3, .int x3), (4, .int x4), (5, .long x5), (7, .long x7), (10, .int x10), (11, .int x11)]) hx hb dX8_chainStep_191 hl (by decide) rfl (fun ls hl => ?_)
    refine lv_iload hx hb dX8_chainStep_193 (lv_at hl 8 rfl) ?_
    refine lv_istore (lv' := [(4, .int x10), (9, .int (0 : Int32)), (0, .ref (ad 0)), (1, .int x1), (2, .int x2), (3, .int x3), (5, .long x5), (7, .long x7), (10, .int x10), (11, .int x11)]) hx hb dX8_chainStep_195 hl (by decide) rfl (fun ls hl => ?_)
    refine lv_aload_n hx hb dX8_chainStep_197 rfl (lv_at hl 2 rfl) ?_
    refine gfX8_154 hC hW 0 (by decide) rfl rfl dX8_chainStep_198 ?_
    refine lv_topl (fun v2 ev2 => ?_)
    have hf := nx_at ev2 hf
    refine lv_lstore (lv' := [(5, .long v2), (4, .int x10), (9, .int (0 : Int32)), (0, .ref (ad 0)), (1, .int x1), (2, .int x2), (3, .int x3), (7, .long x7), (10, .int x10), (11, .int x11)]) hx hb dX8_chainStep_201 hl (by decide) rfl (fun ls hl => ?_)
    refine lv_aload_n hx hb dX8_chainStep_203 rfl (lv_at hl 3 rfl) ?_
    refine gfX8_158 hC hW 0 (by decide) rfl rfl dX8_chainStep_204 ?_
    refine lv_topl (fun v3 ev3 => ?_)
    have hf := nx_at ev3 hf
    refine lv_lstore (lv' := [(7, .long v3), (5, .long v2), (4, .int x10), (9, .int (0 : Int32)), (0, .ref (ad 0)), (1, .int x1), (2, .int x2), (3, .int x3), (10, .int x10), (11, .int x11)]) hx hb dX8_chainStep_207 hl (by decide) rfl (fun ls hl => ?_)
    exact wX8_chainStep_209 hC hK87 hf hW (lv_sub hl [4, 5, 6, 7, 2, 1, 0, 3, 8] rfl)
  · have hf := it_f h1 hf
    refine lv_goto (tgt := 209) hx hb dX8_chainStep_187 (by decide) ?_
    exact wX8_chainStep_209 hC hK87 hf hW (lv_sub hl [0, 1, 2, 3, 4, 5, 6, 7, 8] rfl)
def fX8_chainStep_162 (N : Nat) (K87 : Int32 → Int32 → Int32 → Int32 → Int64 → Int64 → Int32 → Int32 → St → Option (Unit × St)) (x1 : Int32) (x2 : Int32) (x3 : Int32) (x4 : Int32) (x5 : Int64) (x7 : Int64) (x9 : Int32) (x10 : Int32) (y0 : Int32) (σ : St) : Option (Unit × St) := if y0 = 0 then if x10 = x3 then (fX8_chainStep_182 N K87 x1 x2 x3 x10 x5 x7 (1 : Int32) x10 y0 σ) else (fX8_chainStep_182 N K87 x1 x2 x3 x4 x5 x7 (1 : Int32) x10 y0 σ) else (fX8_chainStep_182 N K87 x1 x2 x3 x4 x5 x7 x9 x10 y0 σ)
set_option maxHeartbeats 4000000 in
set_option maxRecDepth 100000 in
theorem wX8_chainStep_162 (hC : Cx RX8 cX8_chainStep 12 none D cA p s m args meth c) {N : Nat} {K87 : Int32 → Int32 → Int32 → Int32 → Int64 → Int64 → Int32 → Int32 → St → Option (Unit × St)} {x1 : Int32} {x2 : Int32} {x3 : Int32} {x4 : Int32} {x5 : Int64} {x7 : Int64} {x9 : Int32} {x10 : Int32} {y0 : Int32} {σ : St} {r : Unit} {σ' : St} (hK87 : ∀ (x1 : Int32) (x2 : Int32) (x3 : Int32) (x4 : Int32) (x5 : Int64) (x7 : Int64) (x9 : Int32) (x10 : Int32) (σ : St) (H : Heap) (locs : List Loc) (ls : Array Slot), K87 x1 x2 x3 x4 x5 x7 x9 x10 σ = some (r, σ') → Wd kdM 31 D cA ad s σ H locs → lv_has ls 12 [(0, .ref (ad 0)), (1, .int x1), (2, .int x2), (3, .int x3), (4, .int x4), (5, .long x5), (7, .long x7), (9, .int x9), (10, .int x10)] → W p l e rmX8_chainStep s m args below meth c H locs 0 0 (EndW kdM 31 D cA ad below args s none σ') (F0 m 87 ls [])) {H : Heap} {locs : List Loc} {ls : Array Slot} (hf : fX8_chainStep_162 N K87 x1 x2 x3 x4 x5 x7 x9 x10 y0 σ = some (r, σ')) (hW : Wd kdM 31 D cA ad s σ H locs) (hl : lv_has ls 12 [(0, .ref (ad 0)), (1, .int x1), (2, .int x2), (3, .int x3), (4, .int x4), (5, .long x5), (7, .long x7), (9, .int x9), (10, .int x10)]) : W p l e rmX8_chainStep s m args below meth c H locs 0 0 (EndW kdM 31 D cA ad below args s none σ') (F0 m 162 ls [.int y0]) := by
  have hx := hC.1
  have hb := hC.2.1
  have hown := hC.2.2.2.1
  have hts := hC.2.2.2.2.1
  unfold fX8_chainStep_162 at hf
  refine lv_istore (lv' := [(11, .int y0), (0, .ref (ad 0)), (1, .int x1), (2, .int x2), (3, .int x3), (4, .int x4), (5, .long x5), (7, .long x7), (9, .int x9), (10, .int x10)]) hx hb dX8_chainStep_162 hl (by decide) rfl (fun ls hl => ?_)
  refine lv_iload hx hb dX8_chainStep_164 (lv_at hl 0 rfl) ?_
  refine lv_if_ne (tgt := 182) hx hb dX8_chainStep_166 (by decide) (fun h1 => ?_) (fun h1 => ?_)
  · have hf := it_f h1 hf
    exact wX8_chainStep_182 hC hK87 hf hW (lv_sub hl [1, 2, 3, 4, 5, 6, 7, 8, 9, 0] rfl)
  · have hf := it_t h1 hf
    refine lv_iconst (v := 1) hx hb dX8_chainStep_169 (by decide) ?_
    refine lv_istore (lv' := [(9, .int (1 : Int32)), (11, .int y0), (0, .ref (ad 0)), (1, .int x1), (2, .int x2), (3, .int x3), (4, .int x4), (5, .long x5), (7, .long x7), (10, .int x10)]) hx hb dX8_chainStep_170 hl (by decide) rfl (fun ls hl => ?_)
    refine lv_iload hx hb dX8_chainStep_172 (lv_at hl 9 rfl) ?_
    refine lv_iload_n hx hb dX8_chainStep_174 rfl (lv_at hl 5 rfl) ?_
    refine lv_icmp_ne (tgt := 182) hx hb dX8_chainStep_175 (by decide) (fun h2 => ?_) (fun h2 => ?_)
    · have hf := it_f h2 hf
      exact wX8_chainStep_182 hC hK87 hf hW (lv_sub hl [2, 3, 4, 5, 6, 7, 8, 0, 9, 1] rfl)
    · have hf := it_t h2 hf
      refine lv_iload hx hb dX8_chainStep_178 (lv_at hl 9 rfl) ?_
      refine lv_istore (lv' := [(4, .int x10), (9, .int (1 : Int32)), (11, .int y0), (0, .ref (ad 0)), (1, .int x1), (2, .int x2), (3, .int x3), (5, .long x5), (7, .long x7), (10, .int x10)]) hx hb dX8_chainStep_180 hl (by decide) rfl (fun ls hl => ?_)
      exact wX8_chainStep_182 hC hK87 hf hW (lv_sub hl [3, 4, 5, 6, 0, 7, 8, 1, 9, 2] rfl)
def fX8_chainStep_87 (N : Nat) : Nat → Int32 → Int32 → Int32 → Int32 → Int64 → Int64 → Int32 → Int32 → St → Option (Unit × St)
  | 0, _, _, _, _, _, _, _, _, _ => none
  | n + 1, x1, x2, x3, x4, x5, x7, x9, x10, σ => if ((σ.1 0 0) + (σ.1 0 11)) ≤ x10 then if x9 = 0 then (fX8_chainStep_230 N x2 x3 x4 x5 x7 (0 : Int32) (σ.1 0 31) σ) else (fX8_chainStep_230 N x2 x3 x4 x5 x7 (1 : Int32) (σ.1 0 31) σ) else gd (ib x10 40) (if (σ.1 20 x10.toNatClampNeg) = 0 then (fX8_chainStep_209 N (fX8_chainStep_87 N n) x1 x2 x3 x4 x5 x7 x9 x10 σ) else if x10 = x2 then (fX8_chainStep_209 N (fX8_chainStep_87 N n) x1 x2 x3 x4 x5 x7 x9 x10 σ) else gd (ib x2 40) (gd (ib x10 40) (bd (fX8_link N x1 (σ.1 19 x2.toNatClampNeg) (σ.1 19 x10.toNatClampNeg) σ) (fun r8 s9 => if 0 ≤ x4 then bd (fX8_compare N (s9.2 0 12) (s9.2 0 13) x5 x7 s9) (fun r12 s13 => (fX8_chainStep_162 N (fX8_chainStep_87 N n) x1 x2 x3 x4 x5 x7 x9 x10 r12 s13)) else (fX8_chainStep_162 N (fX8_chainStep_87 N n) x1 x2 x3 x4 x5 x7 x9 x10 (-1 : Int32) s9)))))
set_option maxHeartbeats 4000000 in
set_option maxRecDepth 100000 in
theorem wX8_chainStep_87 (hC : Cx RX8 cX8_chainStep 12 none D cA p s m args meth c) {N : Nat} {r : Unit} {σ' : St} : ∀ (n : Nat) (x1 : Int32) (x2 : Int32) (x3 : Int32) (x4 : Int32) (x5 : Int64) (x7 : Int64) (x9 : Int32) (x10 : Int32) (σ : St) (H : Heap) (locs : List Loc) (ls : Array Slot), fX8_chainStep_87 N n x1 x2 x3 x4 x5 x7 x9 x10 σ = some (r, σ') → Wd kdM 31 D cA ad s σ H locs → lv_has ls 12 [(0, .ref (ad 0)), (1, .int x1), (2, .int x2), (3, .int x3), (4, .int x4), (5, .long x5), (7, .long x7), (9, .int x9), (10, .int x10)] → W p l e rmX8_chainStep s m args below meth c H locs 0 0 (EndW kdM 31 D cA ad below args s none σ') (F0 m 87 ls []) := by
  have hx := hC.1
  have hb := hC.2.1
  have hown := hC.2.2.2.1
  have hts := hC.2.2.2.2.1
  intro n
  induction n with
  | zero =>
    intro x1 x2 x3 x4 x5 x7 x9 x10 σ H locs ls hf
    rw [fX8_chainStep_87] at hf
    cases hf
  | succ n ih =>
    intro x1 x2 x3 x4 x5 x7 x9 x10 σ H locs ls hf hW hl
    rw [fX8_chainStep_87] at hf
    refine lv_iload hx hb dX8_chainStep_87 (lv_at hl 8 rfl) ?_
    refine lv_aload_n hx hb dX8_chainStep_89 rfl (lv_at hl 0 rfl) ?_
    refine gfX8_107 hC hW 0 (by decide) rfl rfl dX8_chainStep_90 ?_
    refine lv_aload_n hx hb dX8_chainStep_93 rfl (lv_at hl 0 rfl) ?_
    refine gfX8_147 hC hW 0 (by decide) rfl rfl dX8_chainStep_94 ?_
    refine lv_iadd hx hb dX8_chainStep_97 ?_
    refine lv_icmp_ge (tgt := 215) hx hb dX8_chainStep_98 (by decide) (fun h1 => ?_) (fun h1 => ?_)
    · have hf := it_t h1 hf
      refine lv_aload_n hx hb dX8_chainStep_215 rfl (lv_at hl 0 rfl) ?_
      refine lv_dup hx hb dX8_chainStep_216 rfl ?_
      refine gfX8_188 hC hW 0 (by decide) rfl rfl dX8_chainStep_217 ?_
      refine lv_iload hx hb dX8_chainStep_220 (lv_at hl 7 rfl) ?_
      refine lv_if_eq (tgt := 229) hx hb dX8_chainStep_222 (by decide) (fun h2 => ?_) (fun h2 => ?_)
      · have hf := it_t h2 hf
        refine lv_iconst (v := 0) hx hb dX8_chainStep_229 (by decide) ?_
        exact wX8_chainStep_230 hC hf hW (lv_sub hl [0, 2, 3, 4, 5, 6] rfl)
      · have hf := it_f h2 hf
        refine lv_iconst (v := 1) hx hb dX8_chainStep_225 (by decide) ?_
        refine lv_goto (tgt := 230) hx hb dX8_chainStep_226 (by decide) ?_
        exact wX8_chainStep_230 hC hf hW (lv_sub hl [0, 2, 3, 4, 5, 6] rfl)
    · have hf := it_f h1 hf
      refine lv_aload_n hx hb dX8_chainStep_101 rfl (lv_at hl 0 rfl) ?_
      refine gfX8_74 hC hW 0 (by decide) rfl (q := 20) rfl dX8_chainStep_102 ?_
      refine lv_iload hx hb dX8_chainStep_105 (lv_at hl 8 rfl) ?_
      obtain ⟨h3, hf⟩ := gd_some hf
      refine Wd.zald hC hW 20 (by decide) rfl h3 dX8_chainStep_107 ?_
      refine lv_if_eq (tgt := 209) hx hb dX8_chainStep_108 (by decide) (fun h4 => ?_) (fun h4 => ?_)
      · have hf := it_t h4 hf
        exact wX8_chainStep_209 hC ih hf hW (lv_sub hl [0, 1, 2, 3, 4, 5, 6, 7, 8] rfl)
      · have hf := it_f h4 hf
        refine lv_iload hx hb dX8_chainStep_111 (lv_at hl 8 rfl) ?_
        refine lv_iload_n hx hb dX8_chainStep_113 rfl (lv_at hl 2 rfl) ?_
        refine lv_icmp_ne (tgt := 120) hx hb dX8_chainStep_114 (by decide) (fun h5 => ?_) (fun h5 => ?_)
        · have hf := it_f h5 hf
          refine lv_aload_n hx hb dX8_chainStep_120 rfl (lv_at hl 0 rfl) ?_
          refine lv_iload_n hx hb dX8_chainStep_121 rfl (lv_at hl 1 rfl) ?_
          refine lv_aload_n hx hb dX8_chainStep_122 rfl (lv_at hl 0 rfl) ?_
          refine gfX8_71 hC hW 0 (by decide) rfl (q := 19) rfl dX8_chainStep_123 ?_
          refine lv_iload_n hx hb dX8_chainStep_126 rfl (lv_at hl 2 rfl) ?_
          obtain ⟨h6, hf⟩ := gd_some hf
          refine Wd.iald hC hW 19 (by decide) rfl h6 dX8_chainStep_127 ?_
          refine lv_aload_n hx hb dX8_chainStep_128 rfl (lv_at hl 0 rfl) ?_
          refine gfX8_71 hC hW 0 (by decide) rfl (q := 19) rfl dX8_chainStep_129 ?_
          refine lv_iload hx hb dX8_chainStep_132 (lv_at hl 8 rfl) ?_
          obtain ⟨h7, hf⟩ := gd_some hf
          refine Wd.iald hC hW 19 (by decide) rfl h7 dX8_chainStep_134 ?_
          obtain ⟨r8, s9, c10, hf⟩ := bd_some hf
          refine Wd.callV (n := 3) (As := [.int x1, .int (σ.1 19 x2.toNatClampNeg), .int (σ.1 19 x10.toNatClampNeg)]) (rest := []) (rv := none) hC hW 0 (kX8_link c10) (by decide) rfl rfl q831 q833 qs51 q8 q834 ⟨rfl, rfl⟩ ⟨by decide +kernel, by decide +kernel, by decide +kernel⟩ ⟨Nat.le_of_ble_eq_true rfl, Nat.le_of_ble_eq_true rfl⟩ ⟨Nat.zero_le _, Nat.zero_le _⟩ rfl hl.1 rfl (st2 := []) rfl (Nat.le_of_ble_eq_true rfl) dX8_chainStep_135 (fun H locs hW => ?_)
          refine lv_iload hx hb dX8_chainStep_138 (lv_at hl 4 rfl) ?_
          refine lv_if_ge (tgt := 147) hx hb dX8_chainStep_140 (by decide) (fun h11 => ?_) (fun h11 => ?_)
          · have hf := it_t h11 hf
            refine lv_aload_n hx hb dX8_chainStep_147 rfl (lv_at hl 0 rfl) ?_
            refine gfX8_154 hC hW 0 (by decide) rfl rfl dX8_chainStep_148 ?_
            refine lv_aload_n hx hb dX8_chainStep_151 rfl (lv_at hl 0 rfl) ?_
            refine gfX8_158 hC hW 0 (by decide) rfl rfl dX8_chainStep_152 ?_
            refine lv_lload hx hb dX8_chainStep_155 (lv_at hl 5 rfl) ?_
            refine lv_lload hx hb dX8_chainStep_157 (lv_at hl 6 rfl) ?_
            obtain ⟨r12, s13, c14, hf⟩ := bd_some hf
            refine Wd.callS (n := 4) (As := [.long (s9.2 0 12), .long (s9.2 0 13), .long x5, .long x7]) (rest := []) (rv := some (.int r12)) hC hW (kX8_compare c14) q872 q873 q8 q874 ⟨rfl, rfl⟩ ⟨by decide +kernel, by decide +kernel, by decide +kernel⟩ ⟨Nat.le_of_ble_eq_true rfl, Nat.le_of_ble_eq_true rfl⟩ ⟨Nat.zero_le _, Nat.zero_le _⟩ rfl hl.1 rfl (st2 := [.int r12]) rfl (Nat.le_of_ble_eq_true rfl) dX8_chainStep_159 (fun H locs hW => ?_)
            exact wX8_chainStep_162 hC ih hf hW (lv_sub hl [0, 1, 2, 3, 4, 5, 6, 7, 8] rfl)
          · have hf := it_f h11 hf
            refine lv_iconst (v := (-1)) hx hb dX8_chainStep_143 (by decide) ?_
            refine lv_goto (tgt := 162) hx hb dX8_chainStep_144 (by decide) ?_
            exact wX8_chainStep_162 hC ih hf hW (lv_sub hl [0, 1, 2, 3, 4, 5, 6, 7, 8] rfl)
        · have hf := it_t h5 hf
          refine lv_goto (tgt := 209) hx hb dX8_chainStep_117 (by decide) ?_
          exact wX8_chainStep_209 hC ih hf hW (lv_sub hl [0, 1, 2, 3, 4, 5, 6, 7, 8] rfl)
def fX8_chainStep_71 (N : Nat) (x1 : Int32) (x2 : Int32) (y0 : Int32) (σ : St) : Option (Unit × St) := (fX8_chainStep_87 N N x1 x2 y0 (-1 : Int32) (0 : Int64) (1 : Int64) (0 : Int32) (0 : Int32) σ)
set_option maxHeartbeats 4000000 in
set_option maxRecDepth 100000 in
theorem wX8_chainStep_71 (hC : Cx RX8 cX8_chainStep 12 none D cA p s m args meth c) {N : Nat} {x1 : Int32} {x2 : Int32} {y0 : Int32} {σ : St} {r : Unit} {σ' : St} {H : Heap} {locs : List Loc} {ls : Array Slot} (hf : fX8_chainStep_71 N x1 x2 y0 σ = some (r, σ')) (hW : Wd kdM 31 D cA ad s σ H locs) (hl : lv_has ls 12 [(0, .ref (ad 0)), (1, .int x1), (2, .int x2)]) : W p l e rmX8_chainStep s m args below meth c H locs 0 0 (EndW kdM 31 D cA ad below args s none σ') (F0 m 71 ls [.int y0]) := by
  have hx := hC.1
  have hb := hC.2.1
  have hown := hC.2.2.2.1
  have hts := hC.2.2.2.2.1
  unfold fX8_chainStep_71 at hf
  refine lv_istore_n (lv' := [(3, .int y0), (0, .ref (ad 0)), (1, .int x1), (2, .int x2)]) hx hb dX8_chainStep_71 rfl hl (by decide) rfl (fun ls hl => ?_)
  refine lv_iconst (v := (-1)) hx hb dX8_chainStep_72 (by decide) ?_
  refine lv_istore (lv' := [(4, .int (-1 : Int32)), (3, .int y0), (0, .ref (ad 0)), (1, .int x1), (2, .int x2)]) hx hb dX8_chainStep_73 hl (by decide) rfl (fun ls hl => ?_)
  refine lv_lconst (v := 0) hx hb dX8_chainStep_75 (by decide) ?_
  refine lv_lstore (lv' := [(5, .long (0 : Int64)), (4, .int (-1 : Int32)), (3, .int y0), (0, .ref (ad 0)), (1, .int x1), (2, .int x2)]) hx hb dX8_chainStep_76 hl (by decide) rfl (fun ls hl => ?_)
  refine lv_lconst (v := 1) hx hb dX8_chainStep_78 (by decide) ?_
  refine lv_lstore (lv' := [(7, .long (1 : Int64)), (5, .long (0 : Int64)), (4, .int (-1 : Int32)), (3, .int y0), (0, .ref (ad 0)), (1, .int x1), (2, .int x2)]) hx hb dX8_chainStep_79 hl (by decide) rfl (fun ls hl => ?_)
  refine lv_iconst (v := 0) hx hb dX8_chainStep_81 (by decide) ?_
  refine lv_istore (lv' := [(9, .int (0 : Int32)), (7, .long (1 : Int64)), (5, .long (0 : Int64)), (4, .int (-1 : Int32)), (3, .int y0), (0, .ref (ad 0)), (1, .int x1), (2, .int x2)]) hx hb dX8_chainStep_82 hl (by decide) rfl (fun ls hl => ?_)
  refine lv_iconst (v := 0) hx hb dX8_chainStep_84 (by decide) ?_
  refine lv_istore (lv' := [(10, .int (0 : Int32)), (9, .int (0 : Int32)), (7, .long (1 : Int64)), (5, .long (0 : Int64)), (4, .int (-1 : Int32)), (3, .int y0), (0, .ref (ad 0)), (1, .int x1), (2, .int x2)]) hx hb dX8_chainStep_85 hl (by decide) rfl (fun ls hl => ?_)
  exact wX8_chainStep_87 hC N _ _ _ _ _ _ _ _ _ _ _ _ hf hW (lv_sub hl [6, 7, 8, 5, 4, 3, 2, 1, 0] rfl)
def fX8_chainStep_36 (N : Nat) (x1 : Int32) (σ : St) : Option (Unit × St) := gd (ib ((σ.1 0 33) - (1 : Int32)) 40) (nx (σ.1 25 ((σ.1 0 33) - (1 : Int32)).toNatClampNeg) (fun v2 => if (σ.1 0 33) ≤ (1 : Int32) then (fX8_chainStep_71 N x1 v2 (-1 : Int32) σ) else gd (ib ((σ.1 0 33) - (2 : Int32)) 40) ((fX8_chainStep_71 N x1 v2 (σ.1 25 ((σ.1 0 33) - (2 : Int32)).toNatClampNeg) σ))))
set_option maxHeartbeats 4000000 in
set_option maxRecDepth 100000 in
theorem wX8_chainStep_36 (hC : Cx RX8 cX8_chainStep 12 none D cA p s m args meth c) {N : Nat} {x1 : Int32} {σ : St} {r : Unit} {σ' : St} {H : Heap} {locs : List Loc} {ls : Array Slot} (hf : fX8_chainStep_36 N x1 σ = some (r, σ')) (hW : Wd kdM 31 D cA ad s σ H locs) (hl : lv_has ls 12 [(0, .ref (ad 0)), (1, .int x1)]) : W p l e rmX8_chainStep s m args below meth c H locs 0 0 (EndW kdM 31 D cA ad below args s none σ') (F0 m 36 ls []) := by
  have hx := hC.1
  have hb := hC.2.1
  have hown := hC.2.2.2.1
  have hts := hC.2.2.2.2.1
  unfold fX8_chainStep_36 at hf
  refine lv_aload_n hx hb dX8_chainStep_36 rfl (lv_at hl 0 rfl) ?_
  refine gfX8_89 hC hW 0 (by decide) rfl (q := 25) rfl dX8_chainStep_37 ?_
  refine lv_aload_n hx hb dX8_chainStep_40 rfl (lv_at hl 0 rfl) ?_
  refine gfX8_199 hC hW 0 (by decide) rfl rfl dX8_chainStep_41 ?_
  refine lv_iconst (v := 1) hx hb dX8_chainStep_44 (by decide) ?_
  refine lv_isub hx hb dX8_chainStep_45 ?_
  obtain ⟨h1, hf⟩ := gd_some hf
  refine Wd.iald hC hW 25 (by decide) rfl h1 dX8_chainStep_46 ?_
  refine lv_topi (fun v2 ev2 => ?_)
  have hf := nx_at ev2 hf
  refine lv_istore_n (lv' := [(2, .int v2), (0, .ref (ad 0)), (1, .int x1)]) hx hb dX8_chainStep_47 rfl hl (by decide) rfl (fun ls hl => ?_)
  refine lv_aload_n hx hb dX8_chainStep_48 rfl (lv_at hl 1 rfl) ?_
  refine gfX8_199 hC hW 0 (by decide) rfl rfl dX8_chainStep_49 ?_
  refine lv_iconst (v := 1) hx hb dX8_chainStep_52 (by decide) ?_
  refine lv_icmp_le (tgt := 70) hx hb dX8_chainStep_53 (by decide) (fun h3 => ?_) (fun h3 => ?_)
  · have hf := it_t h3 hf
    refine lv_iconst (v := (-1)) hx hb dX8_chainStep_70 (by decide) ?_
    exact wX8_chainStep_71 hC hf hW (lv_sub hl [1, 2, 0] rfl)
  · have hf := it_f h3 hf
    refine lv_aload_n hx hb dX8_chainStep_56 rfl (lv_at hl 1 rfl) ?_
    refine gfX8_89 hC hW 0 (by decide) rfl (q := 25) rfl dX8_chainStep_57 ?_
    refine lv_aload_n hx hb dX8_chainStep_60 rfl (lv_at hl 1 rfl) ?_
    refine gfX8_199 hC hW 0 (by decide) rfl rfl dX8_chainStep_61 ?_
    refine lv_iconst (v := 2) hx hb dX8_chainStep_64 (by decide) ?_
    refine lv_isub hx hb dX8_chainStep_65 ?_
    obtain ⟨h4, hf⟩ := gd_some hf
    refine Wd.iald hC hW 25 (by decide) rfl h4 dX8_chainStep_66 ?_
    refine lv_goto (tgt := 71) hx hb dX8_chainStep_67 (by decide) ?_
    exact wX8_chainStep_71 hC hf hW (lv_sub hl [1, 2, 0] rfl)
def fX8_chainStep_9 (N : Nat) : Nat → Int32 → Int32 → St → Option (Unit × St)
  | 0, _, _, _ => none
  | n + 1, x1, x2, σ => gd (ib x2 40) (if (σ.1 20 x2.toNatClampNeg) = 0 then nx (x2 + (1 : Int32)) (fun v6 => ((fX8_chainStep_9 N n) x1 v6 σ)) else gd (ib (0 : Int32) 40) (nx (sI σ 25 (0 : Int32).toNatClampNeg x2) (fun s4 => nx (sI s4 0 33 (1 : Int32)) (fun s5 => (fX8_chainStep_36 N x1 s5)))))
set_option maxHeartbeats 4000000 in
set_option maxRecDepth 100000 in
theorem wX8_chainStep_9 (hC : Cx RX8 cX8_chainStep 12 none D cA p s m args meth c) {N : Nat} {r : Unit} {σ' : St} : ∀ (n : Nat) (x1 : Int32) (x2 : Int32) (σ : St) (H : Heap) (locs : List Loc) (ls : Array Slot), fX8_chainStep_9 N n x1 x2 σ = some (r, σ') → Wd kdM 31 D cA ad s σ H locs → lv_has ls 12 [(0, .ref (ad 0)), (1, .int x1), (2, .int x2)] → W p l e rmX8_chainStep s m args below meth c H locs 0 0 (EndW kdM 31 D cA ad below args s none σ') (F0 m 9 ls []) := by
  have hx := hC.1
  have hb := hC.2.1
  have hown := hC.2.2.2.1
  have hts := hC.2.2.2.2.1
  intro n
  induction n with
  | zero =>
    intro x1 x2 σ H locs ls hf
    rw [fX8_chainStep_9] at hf
    cases hf
  | succ n ih =>
    intro x1 x2 σ H locs ls hf hW hl
    rw [fX8_chainStep_9] at hf
    refine lv_aload_n hx hb dX8_chainStep_9 rfl (lv_at hl 0 rfl) ?_
    refine gfX8_74 hC hW 0 (by decide) rfl (q := 20) rfl dX8_chainStep_10 ?_
    refine lv_iload_n hx hb dX8_chainStep_13 rfl (lv_at hl 2 rfl) ?_
    obtain ⟨h1, hf⟩ := gd_some hf
    refine Wd.zald hC hW 20 (by decide) rfl h1 dX8_chainStep_14 ?_
    refine lv_if_ne (tgt := 24) hx hb dX8_chainStep_15 (by decide) (fun h2 => ?_) (fun h2 => ?_)
    · have hf := it_f h2 hf
      refine lv_aload_n hx hb dX8_chainStep_24 rfl (lv_at hl 0 rfl) ?_
      refine gfX8_89 hC hW 0 (by decide) rfl (q := 25) rfl dX8_chainStep_25 ?_
      refine lv_iconst (v := 0) hx hb dX8_chainStep_28 (by decide) ?_
      refine lv_iload_n hx hb dX8_chainStep_29 rfl (lv_at hl 2 rfl) ?_
      obtain ⟨h3, hf⟩ := gd_some hf
      refine Wd.iast hC hW 25 (by decide) rfl h3 dX8_chainStep_30 (fun H locs hW => ?_)
      obtain ⟨s4, es4, hf⟩ := nx_ex hf
      rw [← es4] at hW
      refine lv_aload_n hx hb dX8_chainStep_31 rfl (lv_at hl 0 rfl) ?_
      refine lv_iconst (v := 1) hx hb dX8_chainStep_32 (by decide) ?_
      refine pgfX8_199 hC hW 0 (by decide) rfl rfl dX8_chainStep_33 (fun H locs hW => ?_)
      obtain ⟨s5, es5, hf⟩ := nx_ex hf
      rw [← es5] at hW
      exact wX8_chainStep_36 hC hf hW (lv_sub hl [0, 1] rfl)
    · have hf := it_t h2 hf
      obtain ⟨v6, ev6⟩ : ∃ y : Int32, y = x2 + (1 : Int32) := ⟨_, rfl⟩
      have hf := nx_at ev6 hf
      refine lv_iinc (v := v6) (lv' := [(2, .int v6), (0, .ref (ad 0)), (1, .int x1)]) hx hb dX8_chainStep_18 hl (k := 2) rfl (by rw [ev6]; rfl) (by decide) rfl (fun ls hl => ?_)
      refine lv_goto (tgt := 9) hx hb dX8_chainStep_21 (by decide) ?_
      exact ih _ _ _ _ _ _ hf hW (lv_sub hl [1, 2, 0] rfl)
def fX8_chainStep (N : Nat) (x1 : Int32) (σ : St) : Option (Unit × St) := if (σ.1 0 33) = 0 then (fX8_chainStep_9 N N x1 (0 : Int32) σ) else (fX8_chainStep_36 N x1 σ)
set_option maxHeartbeats 4000000 in
set_option maxRecDepth 100000 in
theorem kX8_chainStep {l : Launch} {D : va_G} {cA : Nat → ClassId} {ad : Nat → Nat} {N : Nat} {x1 : Int32} {σ : St} {r : Unit} {σ' : St} (hf : fX8_chainStep N x1 σ = some (r, σ')) : MW kdM 31 l D cA ad ⟨RX8, "chainStep", "(I)V"⟩ cX8_chainStep 12 none rmX8_chainStep [.ref (ad 0), .int x1] σ none σ' := by
  refine MW.of (by decide) (Nat.le_of_ble_eq_true rfl) ?_
  intro p e s m args below meth c ls hC hW hl
  have hx := hC.1
  have hb := hC.2.1
  have hown := hC.2.2.2.1
  have hts := hC.2.2.2.2.1
  have hl : lv_has ls 12 [(0, .ref (ad 0)), (1, .int x1)] := hl
  unfold fX8_chainStep at hf
  refine lv_aload_n hx hb dX8_chainStep_0 rfl (lv_at hl 0 rfl) ?_
  refine gfX8_199 hC hW 0 (by decide) rfl rfl dX8_chainStep_1 ?_
  refine lv_if_ne (tgt := 36) hx hb dX8_chainStep_4 (by decide) (fun h1 => ?_) (fun h1 => ?_)
  · have hf := it_f h1 hf
    exact wX8_chainStep_36 hC hf hW (lv_sub hl [0, 1] rfl)
  · have hf := it_t h1 hf
    refine lv_iconst (v := 0) hx hb dX8_chainStep_7 (by decide) ?_
    refine lv_istore_n (lv' := [(2, .int (0 : Int32)), (0, .ref (ad 0)), (1, .int x1)]) hx hb dX8_chainStep_8 rfl hl (by decide) rfl (fun ls hl => ?_)
    exact wX8_chainStep_9 hC N _ _ _ _ _ _ hf hW (lv_sub hl [1, 2, 0] rfl)
abbrev rmX8_chain : Room := { frames := 4, cells := 0, slots := 0, locals := 109 }
def fX8_chain_27 (N : Nat) : Nat → Int32 → Int32 → St → Option (Int32 × St)
  | 0, _, _, _ => none
  | n + 1, x1, x2, σ => if ((σ.1 0 0) - (1 : Int32)) ≤ (σ.1 0 11) then bd (fX8_keeps N x1 x2 (1 : Int32) σ) (fun r2 s3 => some ((s3.1 0 11), s3)) else bd (fX8_chainStep N x2 σ) (fun r5 s6 => ((fX8_chain_27 N n) x1 x2 s6))
set_option maxHeartbeats 4000000 in
set_option maxRecDepth 100000 in
theorem wX8_chain_27 (hC : Cx RX8 cX8_chain 3 (some .int) D cA p s m args meth c) {N : Nat} {r : Int32} {σ' : St} : ∀ (n : Nat) (x1 : Int32) (x2 : Int32) (σ : St) (H : Heap) (locs : List Loc) (ls : Array Slot), fX8_chain_27 N n x1 x2 σ = some (r, σ') → Wd kdM 31 D cA ad s σ H locs → lv_has ls 3 [(0, .ref (ad 0)), (1, .int x1), (2, .int x2)] → W p l e rmX8_chain s m args below meth c H locs 0 0 (EndW kdM 31 D cA ad below args s (some (.int r)) σ') (F0 m 27 ls []) := by
  have hx := hC.1
  have hb := hC.2.1
  have hown := hC.2.2.2.1
  have hts := hC.2.2.2.2.1
  intro n
  induction n with
  | zero =>
    intro x1 x2 σ H locs ls hf
    rw [fX8_chain_27] at hf
    cases hf
  | succ n ih =>
    intro x1 x2 σ H locs ls hf hW hl
    rw [fX8_chain_27] at hf
    refine lv_aload_n hx hb dX8_chain_27 rfl (lv_at hl 0 rfl) ?_
    refine gfX8_147 hC hW 0 (by decide) rfl rfl dX8_chain_28 ?_
    refine lv_aload_n hx hb dX8_chain_31 rfl (lv_at hl 0 rfl) ?_
    refine gfX8_107 hC hW 0 (by decide) rfl rfl dX8_chain_32 ?_
    refine lv_iconst (v := 1) hx hb dX8_chain_35 (by decide) ?_
    refine lv_isub hx hb dX8_chain_36 ?_
    refine lv_icmp_ge (tgt := 48) hx hb dX8_chain_37 (by decide) (fun h1 => ?_) (fun h1 => ?_)
    · have hf := it_t h1 hf
      refine lv_aload_n hx hb dX8_chain_48 rfl (lv_at hl 0 rfl) ?_
      refine lv_iload_n hx hb dX8_chain_49 rfl (lv_at hl 1 rfl) ?_
      refine lv_iload_n hx hb dX8_chain_50 rfl (lv_at hl 2 rfl) ?_
      refine lv_iconst (v := 1) hx hb dX8_chain_51 (by decide) ?_
      obtain ⟨r2, s3, c4, hf⟩ := bd_some hf
      refine Wd.callV (n := 3) (As := [.int x1, .int x2, .int (1 : Int32)]) (rest := []) (rv := none) hC hW 0 (kX8_keeps c4) (by decide) rfl rfl q879 q881 qs60 q8 q882 ⟨rfl, rfl⟩ ⟨by decide +kernel, by decide +kernel, by decide +kernel⟩ ⟨Nat.le_of_ble_eq_true rfl, Nat.le_of_ble_eq_true rfl⟩ ⟨Nat.zero_le _, Nat.zero_le _⟩ rfl hl.1 rfl (st2 := []) rfl (Nat.le_of_ble_eq_true rfl) dX8_chain_52 (fun H locs hW => ?_)
      refine lv_aload_n hx hb dX8_chain_55 rfl (lv_at hl 0 rfl) ?_
      refine gfX8_147 hC hW 0 (by decide) rfl rfl dX8_chain_56 ?_
      obtain ⟨rfl, rfl⟩ := sp hf
      exact Wd.iret hC hW dX8_chain_59
    · have hf := it_f h1 hf
      refine lv_aload_n hx hb dX8_chain_40 rfl (lv_at hl 0 rfl) ?_
      refine lv_iload_n hx hb dX8_chain_41 rfl (lv_at hl 2 rfl) ?_
      obtain ⟨r5, s6, c7, hf⟩ := bd_some hf
      refine Wd.callV (n := 1) (As := [.int x2]) (rest := []) (rv := none) hC hW 0 (kX8_chainStep c7) (by decide) rfl rfl q887 q889 qs61 q8 q890 ⟨rfl, rfl⟩ ⟨by decide +kernel, by decide +kernel, by decide +kernel⟩ ⟨Nat.le_of_ble_eq_true rfl, Nat.le_of_ble_eq_true rfl⟩ ⟨Nat.zero_le _, Nat.zero_le _⟩ rfl hl.1 rfl (st2 := []) rfl (Nat.le_of_ble_eq_true rfl) dX8_chain_42 (fun H locs hW => ?_)
      refine lv_goto (tgt := 27) hx hb dX8_chain_45 (by decide) ?_
      exact ih _ _ _ _ _ _ hf hW (lv_sub hl [0, 1, 2] rfl)
def fX8_chain (N : Nat) (x1 : Int32) (x2 : Int32) (σ : St) : Option (Int32 × St) := bd (fX8_isIn N x1 (4 : Int32) σ) (fun r1 s2 => if r1 = 0 then some ((-1 : Int32), s2) else bd (fX8_isIn N x2 (5 : Int32) s2) (fun r5 s6 => if r5 = 0 then some ((-1 : Int32), s6) else bd (fX8_begins N s6) (fun r9 s10 => nx (sI s10 0 33 (0 : Int32)) (fun s12 => (fX8_chain_27 N N x1 x2 s12)))))
set_option maxHeartbeats 4000000 in
set_option maxRecDepth 100000 in
theorem kX8_chain {l : Launch} {D : va_G} {cA : Nat → ClassId} {ad : Nat → Nat} {N : Nat} {x1 : Int32} {x2 : Int32} {σ : St} {r : Int32} {σ' : St} (hf : fX8_chain N x1 x2 σ = some (r, σ')) : MW kdM 31 l D cA ad ⟨RX8, "chain", "(II)I"⟩ cX8_chain 3 (some .int) rmX8_chain [.ref (ad 0), .int x1, .int x2] σ (some (.int r)) σ' := by
  refine MW.of (by decide) (Nat.le_of_ble_eq_true rfl) ?_
  intro p e s m args below meth c ls hC hW hl
  have hx := hC.1
  have hb := hC.2.1
  have hown := hC.2.2.2.1
  have hts := hC.2.2.2.2.1
  have hl : lv_has ls 3 [(0, .ref (ad 0)), (1, .int x1), (2, .int x2)] := hl
  unfold fX8_chain at hf
  refine lv_iload_n hx hb dX8_chain_0 rfl (lv_at hl 1 rfl) ?_
  refine lv_iconst (v := 4) hx hb dX8_chain_1 (by decide) ?_
  obtain ⟨r1, s2, c3, hf⟩ := bd_some hf
  refine Wd.callS (n := 2) (As := [.int x1, .int (4 : Int32)]) (rest := []) (rv := some (.int r1)) hC hW (kX8_isIn c3) q762 q763 q8 q764 ⟨rfl, rfl⟩ ⟨by decide +kernel, by decide +kernel, by decide +kernel⟩ ⟨Nat.le_of_ble_eq_true rfl, Nat.le_of_ble_eq_true rfl⟩ ⟨Nat.zero_le _, Nat.zero_le _⟩ rfl hl.1 rfl (st2 := [.int r1]) rfl (Nat.le_of_ble_eq_true rfl) dX8_chain_2 (fun H locs hW => ?_)
  refine lv_if_eq (tgt := 16) hx hb dX8_chain_5 (by decide) (fun h4 => ?_) (fun h4 => ?_)
  · have hf := it_t h4 hf
    refine lv_iconst (v := (-1)) hx hb dX8_chain_16 (by decide) ?_
    obtain ⟨rfl, rfl⟩ := sp hf
    exact Wd.iret hC hW dX8_chain_17
  · have hf := it_f h4 hf
    refine lv_iload_n hx hb dX8_chain_8 rfl (lv_at hl 2 rfl) ?_
    refine lv_iconst (v := 5) hx hb dX8_chain_9 (by decide) ?_
    obtain ⟨r5, s6, c7, hf⟩ := bd_some hf
    refine Wd.callS (n := 2) (As := [.int x2, .int (5 : Int32)]) (rest := []) (rv := some (.int r5)) hC hW (kX8_isIn c7) q762 q763 q8 q764 ⟨rfl, rfl⟩ ⟨by decide +kernel, by decide +kernel, by decide +kernel⟩ ⟨Nat.le_of_ble_eq_true rfl, Nat.le_of_ble_eq_true rfl⟩ ⟨Nat.zero_le _, Nat.zero_le _⟩ rfl hl.1 rfl (st2 := [.int r5]) rfl (Nat.le_of_ble_eq_true rfl) dX8_chain_10 (fun H locs hW => ?_)
    refine lv_if_ne (tgt := 18) hx hb dX8_chain_13 (by decide) (fun h8 => ?_) (fun h8 => ?_)
    · have hf := it_f h8 hf
      refine lv_aload_n hx hb dX8_chain_18 rfl (lv_at hl 0 rfl) ?_
      obtain ⟨r9, s10, c11, hf⟩ := bd_some hf
      refine Wd.callV (n := 0) (As := []) (rest := []) (rv := none) hC hW 0 (kX8_begins c11) (by decide) rfl rfl q864 q866 qs57 q8 q867 ⟨rfl, rfl⟩ ⟨by decide +kernel, by decide +kernel, by decide +kernel⟩ ⟨Nat.le_of_ble_eq_true rfl, Nat.le_of_ble_eq_true rfl⟩ ⟨Nat.zero_le _, Nat.zero_le _⟩ rfl hl.1 rfl (st2 := []) rfl (Nat.le_of_ble_eq_true rfl) dX8_chain_19 (fun H locs hW => ?_)
      refine lv_aload_n hx hb dX8_chain_22 rfl (lv_at hl 0 rfl) ?_
      refine lv_iconst (v := 0) hx hb dX8_chain_23 (by decide) ?_
      refine pgfX8_199 hC hW 0 (by decide) rfl rfl dX8_chain_24 (fun H locs hW => ?_)
      obtain ⟨s12, es12, hf⟩ := nx_ex hf
      rw [← es12] at hW
      exact wX8_chain_27 hC N _ _ _ _ _ _ hf hW (lv_sub hl [0, 1, 2] rfl)
    · have hf := it_t h8 hf
      refine lv_iconst (v := (-1)) hx hb dX8_chain_16 (by decide) ?_
      obtain ⟨rfl, rfl⟩ := sp hf
      exact Wd.iret hC hW dX8_chain_17
abbrev rmX8_isTree : Room := { frames := 1, cells := 0, slots := 0, locals := 21 }
def fX8_isTree (N : Nat) (x1 : Int32) (σ : St) : Option (Int32 × St) := bd (fX8_isIn N x1 (4 : Int32) σ) (fun r1 s2 => if r1 = 0 then some ((0 : Int32), s2) else gd (ib x1 4) (if (s2.1 8 x1.toNatClampNeg) = 0 then some ((0 : Int32), s2) else some ((1 : Int32), s2)))
set_option maxHeartbeats 4000000 in
set_option maxRecDepth 100000 in
theorem kX8_isTree {l : Launch} {D : va_G} {cA : Nat → ClassId} {ad : Nat → Nat} {N : Nat} {x1 : Int32} {σ : St} {r : Int32} {σ' : St} (hf : fX8_isTree N x1 σ = some (r, σ')) : MW kdM 31 l D cA ad ⟨RX8, "isTree", "(I)Z"⟩ cX8_isTree 2 (some .boolean) rmX8_isTree [.ref (ad 0), .int x1] σ (some (.int r)) σ' := by
  refine MW.of (by decide) (Nat.le_of_ble_eq_true rfl) ?_
  intro p e s m args below meth c ls hC hW hl
  have hx := hC.1
  have hb := hC.2.1
  have hown := hC.2.2.2.1
  have hts := hC.2.2.2.2.1
  have hl : lv_has ls 2 [(0, .ref (ad 0)), (1, .int x1)] := hl
  unfold fX8_isTree at hf
  refine lv_iload_n hx hb dX8_isTree_0 rfl (lv_at hl 1 rfl) ?_
  refine lv_iconst (v := 4) hx hb dX8_isTree_1 (by decide) ?_
  obtain ⟨r1, s2, c3, hf⟩ := bd_some hf
  refine Wd.callS (n := 2) (As := [.int x1, .int (4 : Int32)]) (rest := []) (rv := some (.int r1)) hC hW (kX8_isIn c3) q762 q763 q8 q764 ⟨rfl, rfl⟩ ⟨by decide +kernel, by decide +kernel, by decide +kernel⟩ ⟨Nat.le_of_ble_eq_true rfl, Nat.le_of_ble_eq_true rfl⟩ ⟨Nat.zero_le _, Nat.zero_le _⟩ rfl hl.1 rfl (st2 := [.int r1]) rfl (Nat.le_of_ble_eq_true rfl) dX8_isTree_2 (fun H locs hW => ?_)
  refine lv_if_eq (tgt := 21) hx hb dX8_isTree_5 (by decide) (fun h4 => ?_) (fun h4 => ?_)
  · have hf := it_t h4 hf
    refine lv_iconst (v := 0) hx hb dX8_isTree_21 (by decide) ?_
    obtain ⟨rfl, rfl⟩ := sp hf
    exact Wd.zret hC hW (Or.inl rfl) dX8_isTree_22
  · have hf := it_f h4 hf
    refine lv_aload_n hx hb dX8_isTree_8 rfl (lv_at hl 0 rfl) ?_
    refine gfX8_36 hC hW 0 (by decide) rfl (q := 8) rfl dX8_isTree_9 ?_
    refine lv_iload_n hx hb dX8_isTree_12 rfl (lv_at hl 1 rfl) ?_
    obtain ⟨h5, hf⟩ := gd_some hf
    refine Wd.zald hC hW 8 (by decide) rfl h5 dX8_isTree_13 ?_
    refine lv_if_eq (tgt := 21) hx hb dX8_isTree_14 (by decide) (fun h6 => ?_) (fun h6 => ?_)
    · have hf := it_t h6 hf
      refine lv_iconst (v := 0) hx hb dX8_isTree_21 (by decide) ?_
      obtain ⟨rfl, rfl⟩ := sp hf
      exact Wd.zret hC hW (Or.inl rfl) dX8_isTree_22
    · have hf := it_f h6 hf
      refine lv_iconst (v := 1) hx hb dX8_isTree_17 (by decide) ?_
      refine lv_goto (tgt := 22) hx hb dX8_isTree_18 (by decide) ?_
      obtain ⟨rfl, rfl⟩ := sp hf
      exact Wd.zret hC hW (Or.inr rfl) dX8_isTree_22
abbrev rmX8_steps : Room := { frames := 0, cells := 0, slots := 0, locals := 0 }
def fX8_steps (N : Nat) (x1 : Int32) (σ : St) : Option (Int32 × St) := gd (ib x1 4) (if (σ.1 9 x1.toNatClampNeg) ≤ (1 : Int32) then some ((0 : Int32), σ) else gd (ib x1 4) (some (((σ.1 9 x1.toNatClampNeg) - (1 : Int32)), σ)))
set_option maxHeartbeats 4000000 in
set_option maxRecDepth 100000 in
theorem kX8_steps {l : Launch} {D : va_G} {cA : Nat → ClassId} {ad : Nat → Nat} {N : Nat} {x1 : Int32} {σ : St} {r : Int32} {σ' : St} (hf : fX8_steps N x1 σ = some (r, σ')) : MW kdM 31 l D cA ad ⟨RX8, "steps", "(I)I"⟩ cX8_steps 2 (some .int) rmX8_steps [.ref (ad 0), .int x1] σ (some (.int r)) σ' := by
  refine MW.of (by decide) (Nat.le_of_ble_eq_true rfl) ?_
  intro p e s m args below meth c ls hC hW hl
  have hx := hC.1
  have hb := hC.2.1
  have hown := hC.2.2.2.1
  have hts := hC.2.2.2.2.1
  have hl : lv_has ls 2 [(0, .ref (ad 0)), (1, .int x1)] := hl
  unfold fX8_steps at hf
  refine lv_aload_n hx hb dX8_steps_0 rfl (lv_at hl 0 rfl) ?_
  refine gfX8_40 hC hW 0 (by decide) rfl (q := 9) rfl dX8_steps_1 ?_
  refine lv_iload_n hx hb dX8_steps_4 rfl (lv_at hl 1 rfl) ?_
  obtain ⟨h1, hf⟩ := gd_some hf
  refine Wd.iald hC hW 9 (by decide) rfl h1 dX8_steps_5 ?_
  refine lv_iconst (v := 1) hx hb dX8_steps_6 (by decide) ?_
  refine lv_icmp_le (tgt := 21) hx hb dX8_steps_7 (by decide) (fun h2 => ?_) (fun h2 => ?_)
  · have hf := it_t h2 hf
    refine lv_iconst (v := 0) hx hb dX8_steps_21 (by decide) ?_
    obtain ⟨rfl, rfl⟩ := sp hf
    exact Wd.iret hC hW dX8_steps_22
  · have hf := it_f h2 hf
    refine lv_aload_n hx hb dX8_steps_10 rfl (lv_at hl 0 rfl) ?_
    refine gfX8_40 hC hW 0 (by decide) rfl (q := 9) rfl dX8_steps_11 ?_
    refine lv_iload_n hx hb dX8_steps_14 rfl (lv_at hl 1 rfl) ?_
    obtain ⟨h3, hf⟩ := gd_some hf
    refine Wd.iald hC hW 9 (by decide) rfl h3 dX8_steps_15 ?_
    refine lv_iconst (v := 1) hx hb dX8_steps_16 (by decide) ?_
    refine lv_isub hx hb dX8_steps_17 ?_
    refine lv_goto (tgt := 22) hx hb dX8_steps_18 (by decide) ?_
    obtain ⟨rfl, rfl⟩ := sp hf
    exact Wd.iret hC hW dX8_steps_22
abbrev rmX8_tree : Room := { frames := 2, cells := 0, slots := 0, locals := 42 }
def fX8_tree (N : Nat) (x1 : Int32) (x2 : Int32) (σ : St) : Option (Int32 × St) := bd (fX8_isTree N x1 σ) (fun r1 s2 => if r1 = 0 then some ((-1 : Int32), s2) else nx x2 (fun sw => if sw = (0 : Int32) then bd (fX8_steps N x1 s2) (fun r5 s6 => some (r5, s6)) else if sw = (1 : Int32) then gd (ib x1 4) (some ((s2.1 12 x1.toNatClampNeg), s2)) else if sw = (2 : Int32) then gd (ib x1 4) (some ((s2.1 9 x1.toNatClampNeg), s2)) else if sw = (3 : Int32) then gd (ib x1 4) (some ((s2.1 10 x1.toNatClampNeg), s2)) else if sw = (4 : Int32) then gd (ib x1 4) (some ((s2.1 11 x1.toNatClampNeg), s2)) else some ((-1 : Int32), s2)))
set_option maxHeartbeats 4000000 in
set_option maxRecDepth 100000 in
theorem kX8_tree {l : Launch} {D : va_G} {cA : Nat → ClassId} {ad : Nat → Nat} {N : Nat} {x1 : Int32} {x2 : Int32} {σ : St} {r : Int32} {σ' : St} (hf : fX8_tree N x1 x2 σ = some (r, σ')) : MW kdM 31 l D cA ad ⟨RX8, "tree", "(II)I"⟩ cX8_tree 3 (some .int) rmX8_tree [.ref (ad 0), .int x1, .int x2] σ (some (.int r)) σ' := by
  refine MW.of (by decide) (Nat.le_of_ble_eq_true rfl) ?_
  intro p e s m args below meth c ls hC hW hl
  have hx := hC.1
  have hb := hC.2.1
  have hown := hC.2.2.2.1
  have hts := hC.2.2.2.2.1
  have hl : lv_has ls 3 [(0, .ref (ad 0)), (1, .int x1), (2, .int x2)] := hl
  unfold fX8_tree at hf
  refine lv_aload_n hx hb dX8_tree_0 rfl (lv_at hl 0 rfl) ?_
  refine lv_iload_n hx hb dX8_tree_1 rfl (lv_at hl 1 rfl) ?_
  obtain ⟨r1, s2, c3, hf⟩ := bd_some hf
  refine Wd.callV (n := 1) (As := [.int x1]) (rest := []) (rv := some (.int r1)) hC hW 0 (kX8_isTree c3) (by decide) rfl rfl q895 q897 qs62 q8 q898 ⟨rfl, rfl⟩ ⟨by decide +kernel, by decide +kernel, by decide +kernel⟩ ⟨Nat.le_of_ble_eq_true rfl, Nat.le_of_ble_eq_true rfl⟩ ⟨Nat.zero_le _, Nat.zero_le _⟩ rfl hl.1 rfl (st2 := [.int r1]) rfl (Nat.le_of_ble_eq_true rfl) dX8_tree_2 (fun H locs hW => ?_)
  refine lv_if_ne (tgt := 10) hx hb dX8_tree_5 (by decide) (fun h4 => ?_) (fun h4 => ?_)
  · have hf := it_f h4 hf
    refine lv_iload_n hx hb dX8_tree_10 rfl (lv_at hl 2 rfl) ?_
    refine lv_topi (fun sw esw => ?_)
    have hf := nx_at esw hf
    by_cases hs0 : sw = (0 : Int32)
    · have hf := it_t hs0 hf
      refine lv_tableIn (tgt := 44) hx hb dX8_tree_11 (by rw [hs0]; decide) (by rw [hs0]; decide) (by rw [hs0]; rfl) (by decide) ?_
      refine lv_aload_n hx hb dX8_tree_44 rfl (lv_at hl 0 rfl) ?_
      refine lv_iload_n hx hb dX8_tree_45 rfl (lv_at hl 1 rfl) ?_
      obtain ⟨r5, s6, c7, hf⟩ := bd_some hf
      refine Wd.callV (n := 1) (As := [.int x1]) (rest := []) (rv := some (.int r5)) hC hW 0 (kX8_steps c7) (by decide) rfl rfl q899 q901 qs63 q8 q902 ⟨rfl, rfl⟩ ⟨by decide +kernel, by decide +kernel, by decide +kernel⟩ ⟨Nat.le_of_ble_eq_true rfl, Nat.le_of_ble_eq_true rfl⟩ ⟨Nat.zero_le _, Nat.zero_le _⟩ rfl hl.1 rfl (st2 := [.int r5]) rfl (Nat.le_of_ble_eq_true rfl) dX8_tree_46 (fun H locs hW => ?_)
      obtain ⟨rfl, rfl⟩ := sp hf
      exact Wd.iret hC hW dX8_tree_49
    have hf := it_f hs0 hf
    by_cases hs1 : sw = (1 : Int32)
    · have hf := it_t hs1 hf
      refine lv_tableIn (tgt := 50) hx hb dX8_tree_11 (by rw [hs1]; decide) (by rw [hs1]; decide) (by rw [hs1]; rfl) (by decide) ?_
      refine lv_aload_n hx hb dX8_tree_50 rfl (lv_at hl 0 rfl) ?_
      refine gfX8_49 hC hW 0 (by decide) rfl (q := 12) rfl dX8_tree_51 ?_
      refine lv_iload_n hx hb dX8_tree_54 rfl (lv_at hl 1 rfl) ?_
      obtain ⟨h8, hf⟩ := gd_some hf
      refine Wd.iald hC hW 12 (by decide) rfl h8 dX8_tree_55 ?_
      obtain ⟨rfl, rfl⟩ := sp hf
      exact Wd.iret hC hW dX8_tree_56
    have hf := it_f hs1 hf
    by_cases hs2 : sw = (2 : Int32)
    · have hf := it_t hs2 hf
      refine lv_tableIn (tgt := 57) hx hb dX8_tree_11 (by rw [hs2]; decide) (by rw [hs2]; decide) (by rw [hs2]; rfl) (by decide) ?_
      refine lv_aload_n hx hb dX8_tree_57 rfl (lv_at hl 0 rfl) ?_
      refine gfX8_40 hC hW 0 (by decide) rfl (q := 9) rfl dX8_tree_58 ?_
      refine lv_iload_n hx hb dX8_tree_61 rfl (lv_at hl 1 rfl) ?_
      obtain ⟨h9, hf⟩ := gd_some hf
      refine Wd.iald hC hW 9 (by decide) rfl h9 dX8_tree_62 ?_
      obtain ⟨rfl, rfl⟩ := sp hf
      exact Wd.iret hC hW dX8_tree_63
    have hf := it_f hs2 hf
    by_cases hs3 : sw = (3 : Int32)
    · have hf := it_t hs3 hf
      refine lv_tableIn (tgt := 64) hx hb dX8_tree_11 (by rw [hs3]; decide) (by rw [hs3]; decide) (by rw [hs3]; rfl) (by decide) ?_
      refine lv_aload_n hx hb dX8_tree_64 rfl (lv_at hl 0 rfl) ?_
      refine gfX8_43 hC hW 0 (by decide) rfl (q := 10) rfl dX8_tree_65 ?_
      refine lv_iload_n hx hb dX8_tree_68 rfl (lv_at hl 1 rfl) ?_
      obtain ⟨h10, hf⟩ := gd_some hf
      refine Wd.iald hC hW 10 (by decide) rfl h10 dX8_tree_69 ?_
      obtain ⟨rfl, rfl⟩ := sp hf
      exact Wd.iret hC hW dX8_tree_70
    have hf := it_f hs3 hf
    by_cases hs4 : sw = (4 : Int32)
    · have hf := it_t hs4 hf
      refine lv_tableIn (tgt := 71) hx hb dX8_tree_11 (by rw [hs4]; decide) (by rw [hs4]; decide) (by rw [hs4]; rfl) (by decide) ?_
      refine lv_aload_n hx hb dX8_tree_71 rfl (lv_at hl 0 rfl) ?_
      refine gfX8_46 hC hW 0 (by decide) rfl (q := 11) rfl dX8_tree_72 ?_
      refine lv_iload_n hx hb dX8_tree_75 rfl (lv_at hl 1 rfl) ?_
      obtain ⟨h11, hf⟩ := gd_some hf
      refine Wd.iald hC hW 11 (by decide) rfl h11 dX8_tree_76 ?_
      obtain ⟨rfl, rfl⟩ := sp hf
      exact Wd.iret hC hW dX8_tree_77
    have hf := it_f hs4 hf
    refine lv_tableOut (tgt := 78) hx hb dX8_tree_11 (by have t0 := lv_neT hs0 (a := 0) (by decide); have t1 := lv_neT hs1 (a := 1) (by decide); have t2 := lv_neT hs2 (a := 2) (by decide); have t3 := lv_neT hs3 (a := 3) (by decide); have t4 := lv_neT hs4 (a := 4) (by decide); omega) (by decide) ?_
    refine lv_iconst (v := (-1)) hx hb dX8_tree_78 (by decide) ?_
    obtain ⟨rfl, rfl⟩ := sp hf
    exact Wd.iret hC hW dX8_tree_79
  · have hf := it_t h4 hf
    refine lv_iconst (v := (-1)) hx hb dX8_tree_8 (by decide) ?_
    obtain ⟨rfl, rfl⟩ := sp hf
    exact Wd.iret hC hW dX8_tree_9
abbrev rmX8_isStep : Room := { frames := 2, cells := 0, slots := 0, locals := 42 }
def fX8_isStep (N : Nat) (x1 : Int32) (x2 : Int32) (σ : St) : Option (Int32 × St) := bd (fX8_isTree N x1 σ) (fun r1 s2 => if r1 = 0 then some ((0 : Int32), s2) else bd (fX8_steps N x1 s2) (fun r5 s6 => bd (fX8_isIn N x2 r5 s6) (fun r8 s9 => if r8 = 0 then some ((0 : Int32), s9) else some ((1 : Int32), s9))))
set_option maxHeartbeats 4000000 in
set_option maxRecDepth 100000 in
theorem kX8_isStep {l : Launch} {D : va_G} {cA : Nat → ClassId} {ad : Nat → Nat} {N : Nat} {x1 : Int32} {x2 : Int32} {σ : St} {r : Int32} {σ' : St} (hf : fX8_isStep N x1 x2 σ = some (r, σ')) : MW kdM 31 l D cA ad ⟨RX8, "isStep", "(II)Z"⟩ cX8_isStep 3 (some .boolean) rmX8_isStep [.ref (ad 0), .int x1, .int x2] σ (some (.int r)) σ' := by
  refine MW.of (by decide) (Nat.le_of_ble_eq_true rfl) ?_
  intro p e s m args below meth c ls hC hW hl
  have hx := hC.1
  have hb := hC.2.1
  have hown := hC.2.2.2.1
  have hts := hC.2.2.2.2.1
  have hl : lv_has ls 3 [(0, .ref (ad 0)), (1, .int x1), (2, .int x2)] := hl
  unfold fX8_isStep at hf
  refine lv_aload_n hx hb dX8_isStep_0 rfl (lv_at hl 0 rfl) ?_
  refine lv_iload_n hx hb dX8_isStep_1 rfl (lv_at hl 1 rfl) ?_
  obtain ⟨r1, s2, c3, hf⟩ := bd_some hf
  refine Wd.callV (n := 1) (As := [.int x1]) (rest := []) (rv := some (.int r1)) hC hW 0 (kX8_isTree c3) (by decide) rfl rfl q895 q897 qs62 q8 q898 ⟨rfl, rfl⟩ ⟨by decide +kernel, by decide +kernel, by decide +kernel⟩ ⟨Nat.le_of_ble_eq_true rfl, Nat.le_of_ble_eq_true rfl⟩ ⟨Nat.zero_le _, Nat.zero_le _⟩ rfl hl.1 rfl (st2 := [.int r1]) rfl (Nat.le_of_ble_eq_true rfl) dX8_isStep_2 (fun H locs hW => ?_)
  refine lv_if_eq (tgt := 24) hx hb dX8_isStep_5 (by decide) (fun h4 => ?_) (fun h4 => ?_)
  · have hf := it_t h4 hf
    refine lv_iconst (v := 0) hx hb dX8_isStep_24 (by decide) ?_
    obtain ⟨rfl, rfl⟩ := sp hf
    exact Wd.zret hC hW (Or.inl rfl) dX8_isStep_25
  · have hf := it_f h4 hf
    refine lv_iload_n hx hb dX8_isStep_8 rfl (lv_at hl 2 rfl) ?_
    refine lv_aload_n hx hb dX8_isStep_9 rfl (lv_at hl 0 rfl) ?_
    refine lv_iload_n hx hb dX8_isStep_10 rfl (lv_at hl 1 rfl) ?_
    obtain ⟨r5, s6, c7, hf⟩ := bd_some hf
    refine Wd.callV (n := 1) (As := [.int x1]) (rest := [.int x2]) (rv := some (.int r5)) hC hW 0 (kX8_steps c7) (by decide) rfl rfl q899 q901 qs63 q8 q902 ⟨rfl, rfl⟩ ⟨by decide +kernel, by decide +kernel, by decide +kernel⟩ ⟨Nat.le_of_ble_eq_true rfl, Nat.le_of_ble_eq_true rfl⟩ ⟨Nat.zero_le _, Nat.zero_le _⟩ rfl hl.1 rfl (st2 := [.int r5, .int x2]) rfl (Nat.le_of_ble_eq_true rfl) dX8_isStep_11 (fun H locs hW => ?_)
    obtain ⟨r8, s9, c10, hf⟩ := bd_some hf
    refine Wd.callS (n := 2) (As := [.int x2, .int r5]) (rest := []) (rv := some (.int r8)) hC hW (kX8_isIn c10) q762 q763 q8 q764 ⟨rfl, rfl⟩ ⟨by decide +kernel, by decide +kernel, by decide +kernel⟩ ⟨Nat.le_of_ble_eq_true rfl, Nat.le_of_ble_eq_true rfl⟩ ⟨Nat.zero_le _, Nat.zero_le _⟩ rfl hl.1 rfl (st2 := [.int r8]) rfl (Nat.le_of_ble_eq_true rfl) dX8_isStep_14 (fun H locs hW => ?_)
    refine lv_if_eq (tgt := 24) hx hb dX8_isStep_17 (by decide) (fun h11 => ?_) (fun h11 => ?_)
    · have hf := it_t h11 hf
      refine lv_iconst (v := 0) hx hb dX8_isStep_24 (by decide) ?_
      obtain ⟨rfl, rfl⟩ := sp hf
      exact Wd.zret hC hW (Or.inl rfl) dX8_isStep_25
    · have hf := it_f h11 hf
      refine lv_iconst (v := 1) hx hb dX8_isStep_20 (by decide) ?_
      refine lv_goto (tgt := 25) hx hb dX8_isStep_21 (by decide) ?_
      obtain ⟨rfl, rfl⟩ := sp hf
      exact Wd.zret hC hW (Or.inr rfl) dX8_isStep_25
abbrev rmX8_step : Room := { frames := 3, cells := 0, slots := 0, locals := 64 }
def fX8_step (N : Nat) (x1 : Int32) (x2 : Int32) (x3 : Int32) (σ : St) : Option (Int32 × St) := bd (fX8_isStep N x1 x2 σ) (fun r1 s2 => if r1 = 0 then some ((-1 : Int32), s2) else nx (((19 : Int32) * x1) + x2) (fun v5 => if x3 = 0 then gd (ib v5 76) (some ((s2.1 13 v5.toNatClampNeg), s2)) else if x3 = (1 : Int32) then gd (ib v5 76) (some ((s2.1 14 v5.toNatClampNeg), s2)) else if x3 = (2 : Int32) then gd (ib v5 76) (bd (fX8_many N (s2.1 15 v5.toNatClampNeg) s2) (fun r12 s13 => some (r12, s13))) else if x3 = (3 : Int32) then gd (ib v5 76) (some ((s2.1 15 v5.toNatClampNeg), s2)) else some ((-1 : Int32), s2)))
set_option maxHeartbeats 4000000 in
set_option maxRecDepth 100000 in
theorem kX8_step {l : Launch} {D : va_G} {cA : Nat → ClassId} {ad : Nat → Nat} {N : Nat} {x1 : Int32} {x2 : Int32} {x3 : Int32} {σ : St} {r : Int32} {σ' : St} (hf : fX8_step N x1 x2 x3 σ = some (r, σ')) : MW kdM 31 l D cA ad ⟨RX8, "step", "(III)I"⟩ cX8_step 5 (some .int) rmX8_step [.ref (ad 0), .int x1, .int x2, .int x3] σ (some (.int r)) σ' := by
  refine MW.of (by decide) (Nat.le_of_ble_eq_true rfl) ?_
  intro p e s m args below meth c ls hC hW hl
  have hx := hC.1
  have hb := hC.2.1
  have hown := hC.2.2.2.1
  have hts := hC.2.2.2.2.1
  have hl : lv_has ls 5 [(0, .ref (ad 0)), (1, .int x1), (2, .int x2), (3, .int x3)] := hl
  unfold fX8_step at hf
  refine lv_aload_n hx hb dX8_step_0 rfl (lv_at hl 0 rfl) ?_
  refine lv_iload_n hx hb dX8_step_1 rfl (lv_at hl 1 rfl) ?_
  refine lv_iload_n hx hb dX8_step_2 rfl (lv_at hl 2 rfl) ?_
  obtain ⟨r1, s2, c3, hf⟩ := bd_some hf
  refine Wd.callV (n := 2) (As := [.int x1, .int x2]) (rest := []) (rv := some (.int r1)) hC hW 0 (kX8_isStep c3) (by decide) rfl rfl q907 q909 qs64 q8 q910 ⟨rfl, rfl⟩ ⟨by decide +kernel, by decide +kernel, by decide +kernel⟩ ⟨Nat.le_of_ble_eq_true rfl, Nat.le_of_ble_eq_true rfl⟩ ⟨Nat.zero_le _, Nat.zero_le _⟩ rfl hl.1 rfl (st2 := [.int r1]) rfl (Nat.le_of_ble_eq_true rfl) dX8_step_3 (fun H locs hW => ?_)
  refine lv_if_ne (tgt := 11) hx hb dX8_step_6 (by decide) (fun h4 => ?_) (fun h4 => ?_)
  · have hf := it_f h4 hf
    refine lv_bipush (v := 19) hx hb dX8_step_11 (by decide) ?_
    refine lv_iload_n hx hb dX8_step_13 rfl (lv_at hl 1 rfl) ?_
    refine lv_imul hx hb dX8_step_14 ?_
    refine lv_iload_n hx hb dX8_step_15 rfl (lv_at hl 2 rfl) ?_
    refine lv_iadd hx hb dX8_step_16 ?_
    refine lv_topi (fun v5 ev5 => ?_)
    have hf := nx_at ev5 hf
    refine lv_istore (lv' := [(4, .int v5), (0, .ref (ad 0)), (1, .int x1), (2, .int x2), (3, .int x3)]) hx hb dX8_step_17 hl (by decide) rfl (fun ls hl => ?_)
    refine lv_iload_n hx hb dX8_step_19 rfl (lv_at hl 4 rfl) ?_
    refine lv_if_ne (tgt := 33) hx hb dX8_step_20 (by decide) (fun h6 => ?_) (fun h6 => ?_)
    · have hf := it_f h6 hf
      refine lv_iload_n hx hb dX8_step_33 rfl (lv_at hl 4 rfl) ?_
      refine lv_iconst (v := 1) hx hb dX8_step_34 (by decide) ?_
      refine lv_icmp_ne (tgt := 48) hx hb dX8_step_35 (by decide) (fun h7 => ?_) (fun h7 => ?_)
      · have hf := it_f h7 hf
        refine lv_iload_n hx hb dX8_step_48 rfl (lv_at hl 4 rfl) ?_
        refine lv_iconst (v := 2) hx hb dX8_step_49 (by decide) ?_
        refine lv_icmp_ne (tgt := 66) hx hb dX8_step_50 (by decide) (fun h8 => ?_) (fun h8 => ?_)
        · have hf := it_f h8 hf
          refine lv_iload_n hx hb dX8_step_66 rfl (lv_at hl 4 rfl) ?_
          refine lv_iconst (v := 3) hx hb dX8_step_67 (by decide) ?_
          refine lv_icmp_ne (tgt := 81) hx hb dX8_step_68 (by decide) (fun h9 => ?_) (fun h9 => ?_)
          · have hf := it_f h9 hf
            refine lv_iconst (v := (-1)) hx hb dX8_step_81 (by decide) ?_
            obtain ⟨rfl, rfl⟩ := sp hf
            exact Wd.iret hC hW dX8_step_82
          · have hf := it_t h9 hf
            refine lv_aload_n hx hb dX8_step_71 rfl (lv_at hl 1 rfl) ?_
            refine gfX8_58 hC hW 0 (by decide) rfl (q := 15) rfl dX8_step_72 ?_
            refine lv_iload hx hb dX8_step_75 (lv_at hl 0 rfl) ?_
            obtain ⟨h10, hf⟩ := gd_some hf
            refine Wd.iald hC hW 15 (by decide) rfl h10 dX8_step_77 ?_
            refine lv_goto (tgt := 82) hx hb dX8_step_78 (by decide) ?_
            obtain ⟨rfl, rfl⟩ := sp hf
            exact Wd.iret hC hW dX8_step_82
        · have hf := it_t h8 hf
          refine lv_aload_n hx hb dX8_step_53 rfl (lv_at hl 1 rfl) ?_
          refine gfX8_58 hC hW 0 (by decide) rfl (q := 15) rfl dX8_step_54 ?_
          refine lv_iload hx hb dX8_step_57 (lv_at hl 0 rfl) ?_
          obtain ⟨h11, hf⟩ := gd_some hf
          refine Wd.iald hC hW 15 (by decide) rfl h11 dX8_step_59 ?_
          obtain ⟨r12, s13, c14, hf⟩ := bd_some hf
          refine Wd.callS (n := 1) (As := [.int (s2.1 15 v5.toNatClampNeg)]) (rest := []) (rv := some (.int r12)) hC hW (kX8_many c14) q835 q836 q8 q837 ⟨rfl, rfl⟩ ⟨by decide +kernel, by decide +kernel, by decide +kernel⟩ ⟨Nat.le_of_ble_eq_true rfl, Nat.le_of_ble_eq_true rfl⟩ ⟨Nat.zero_le _, Nat.zero_le _⟩ rfl hl.1 rfl (st2 := [.int r12]) rfl (Nat.le_of_ble_eq_true rfl) dX8_step_60 (fun H locs hW => ?_)
          refine lv_goto (tgt := 82) hx hb dX8_step_63 (by decide) ?_
          obtain ⟨rfl, rfl⟩ := sp hf
          exact Wd.iret hC hW dX8_step_82
      · have hf := it_t h7 hf
        refine lv_aload_n hx hb dX8_step_38 rfl (lv_at hl 1 rfl) ?_
        refine gfX8_55 hC hW 0 (by decide) rfl (q := 14) rfl dX8_step_39 ?_
        refine lv_iload hx hb dX8_step_42 (lv_at hl 0 rfl) ?_
        obtain ⟨h15, hf⟩ := gd_some hf
        refine Wd.iald hC hW 14 (by decide) rfl h15 dX8_step_44 ?_
        refine lv_goto (tgt := 82) hx hb dX8_step_45 (by decide) ?_
        obtain ⟨rfl, rfl⟩ := sp hf
        exact Wd.iret hC hW dX8_step_82
    · have hf := it_t h6 hf
      refine lv_aload_n hx hb dX8_step_23 rfl (lv_at hl 1 rfl) ?_
      refine gfX8_52 hC hW 0 (by decide) rfl (q := 13) rfl dX8_step_24 ?_
      refine lv_iload hx hb dX8_step_27 (lv_at hl 0 rfl) ?_
      obtain ⟨h16, hf⟩ := gd_some hf
      refine Wd.iald hC hW 13 (by decide) rfl h16 dX8_step_29 ?_
      refine lv_goto (tgt := 82) hx hb dX8_step_30 (by decide) ?_
      obtain ⟨rfl, rfl⟩ := sp hf
      exact Wd.iret hC hW dX8_step_82
  · have hf := it_t h4 hf
    refine lv_iconst (v := (-1)) hx hb dX8_step_9 (by decide) ?_
    obtain ⟨rfl, rfl⟩ := sp hf
    exact Wd.iret hC hW dX8_step_10
abbrev rmX8_height : Room := { frames := 3, cells := 0, slots := 0, locals := 64 }
def fX8_height (N : Nat) (x1 : Int32) (x2 : Int32) (x3 : Int32) (σ : St) : Option (Int64 × St) := bd (fX8_isStep N x1 x2 σ) (fun r1 s2 => if r1 = 0 then some ((-1 : Int64), s2) else if x3 = 0 then gd (ib (((19 : Int32) * x1) + x2) 76) (some ((s2.2 16 (((19 : Int32) * x1) + x2).toNatClampNeg), s2)) else if x3 = (1 : Int32) then gd (ib (((19 : Int32) * x1) + x2) 76) (some ((s2.2 17 (((19 : Int32) * x1) + x2).toNatClampNeg), s2)) else some ((-1 : Int64), s2))
set_option maxHeartbeats 4000000 in
set_option maxRecDepth 100000 in
theorem kX8_height {l : Launch} {D : va_G} {cA : Nat → ClassId} {ad : Nat → Nat} {N : Nat} {x1 : Int32} {x2 : Int32} {x3 : Int32} {σ : St} {r : Int64} {σ' : St} (hf : fX8_height N x1 x2 x3 σ = some (r, σ')) : MW kdM 31 l D cA ad ⟨RX8, "height", "(III)J"⟩ cX8_height 4 (some .long) rmX8_height [.ref (ad 0), .int x1, .int x2, .int x3] σ (some (.long r)) σ' := by
  refine MW.of (by decide) (Nat.le_of_ble_eq_true rfl) ?_
  intro p e s m args below meth c ls hC hW hl
  have hx := hC.1
  have hb := hC.2.1
  have hown := hC.2.2.2.1
  have hts := hC.2.2.2.2.1
  have hl : lv_has ls 4 [(0, .ref (ad 0)), (1, .int x1), (2, .int x2), (3, .int x3)] := hl
  unfold fX8_height at hf
  refine lv_aload_n hx hb dX8_height_0 rfl (lv_at hl 0 rfl) ?_
  refine lv_iload_n hx hb dX8_height_1 rfl (lv_at hl 1 rfl) ?_
  refine lv_iload_n hx hb dX8_height_2 rfl (lv_at hl 2 rfl) ?_
  obtain ⟨r1, s2, c3, hf⟩ := bd_some hf
  refine Wd.callV (n := 2) (As := [.int x1, .int x2]) (rest := []) (rv := some (.int r1)) hC hW 0 (kX8_isStep c3) (by decide) rfl rfl q907 q909 qs64 q8 q910 ⟨rfl, rfl⟩ ⟨by decide +kernel, by decide +kernel, by decide +kernel⟩ ⟨Nat.le_of_ble_eq_true rfl, Nat.le_of_ble_eq_true rfl⟩ ⟨Nat.zero_le _, Nat.zero_le _⟩ rfl hl.1 rfl (st2 := [.int r1]) rfl (Nat.le_of_ble_eq_true rfl) dX8_height_3 (fun H locs hW => ?_)
  refine lv_if_ne (tgt := 13) hx hb dX8_height_6 (by decide) (fun h4 => ?_) (fun h4 => ?_)
  · have hf := it_f h4 hf
    refine lv_iload_n hx hb dX8_height_13 rfl (lv_at hl 3 rfl) ?_
    refine lv_if_ne (tgt := 31) hx hb dX8_height_14 (by decide) (fun h5 => ?_) (fun h5 => ?_)
    · have hf := it_f h5 hf
      refine lv_iload_n hx hb dX8_height_31 rfl (lv_at hl 3 rfl) ?_
      refine lv_iconst (v := 1) hx hb dX8_height_32 (by decide) ?_
      refine lv_icmp_ne (tgt := 50) hx hb dX8_height_33 (by decide) (fun h6 => ?_) (fun h6 => ?_)
      · have hf := it_f h6 hf
        refine lv_ldc2 hx hb hown (hts _ q830) dX8_height_50 ?_
        obtain ⟨rfl, rfl⟩ := sp hf
        exact Wd.lret hC hW dX8_height_53
      · have hf := it_t h6 hf
        refine lv_aload_n hx hb dX8_height_36 rfl (lv_at hl 0 rfl) ?_
        refine gfX8_65 hC hW 0 (by decide) rfl (q := 17) rfl dX8_height_37 ?_
        refine lv_bipush (v := 19) hx hb dX8_height_40 (by decide) ?_
        refine lv_iload_n hx hb dX8_height_42 rfl (lv_at hl 1 rfl) ?_
        refine lv_imul hx hb dX8_height_43 ?_
        refine lv_iload_n hx hb dX8_height_44 rfl (lv_at hl 2 rfl) ?_
        refine lv_iadd hx hb dX8_height_45 ?_
        obtain ⟨h7, hf⟩ := gd_some hf
        refine Wd.lald hC hW 17 (by decide) rfl h7 dX8_height_46 ?_
        refine lv_goto (tgt := 53) hx hb dX8_height_47 (by decide) ?_
        obtain ⟨rfl, rfl⟩ := sp hf
        exact Wd.lret hC hW dX8_height_53
    · have hf := it_t h5 hf
      refine lv_aload_n hx hb dX8_height_17 rfl (lv_at hl 0 rfl) ?_
      refine gfX8_61 hC hW 0 (by decide) rfl (q := 16) rfl dX8_height_18 ?_
      refine lv_bipush (v := 19) hx hb dX8_height_21 (by decide) ?_
      refine lv_iload_n hx hb dX8_height_23 rfl (lv_at hl 1 rfl) ?_
      refine lv_imul hx hb dX8_height_24 ?_
      refine lv_iload_n hx hb dX8_height_25 rfl (lv_at hl 2 rfl) ?_
      refine lv_iadd hx hb dX8_height_26 ?_
      obtain ⟨h8, hf⟩ := gd_some hf
      refine Wd.lald hC hW 16 (by decide) rfl h8 dX8_height_27 ?_
      refine lv_goto (tgt := 53) hx hb dX8_height_28 (by decide) ?_
      obtain ⟨rfl, rfl⟩ := sp hf
      exact Wd.lret hC hW dX8_height_53
  · have hf := it_t h4 hf
    refine lv_ldc2 hx hb hown (hts _ q830) dX8_height_9 ?_
    obtain ⟨rfl, rfl⟩ := sp hf
    exact Wd.lret hC hW dX8_height_12
abbrev rmX8_joins : Room := { frames := 2, cells := 0, slots := 0, locals := 42 }
def fX8_joins_53 (N : Nat) : Nat → Int32 → Int32 → Int32 → St → Option (Int32 × St)
  | 0, _, _, _, _ => none
  | n + 1, x1, x4, x5, σ => gd (ib (((19 : Int32) * x1) + x4) 76) (if ((σ.1 15 (((19 : Int32) * x1) + x4).toNatClampNeg) &&& x5) = x5 then some (x4, σ) else nx (x4 + (1 : Int32)) (fun v3 => ((fX8_joins_53 N n) x1 v3 x5 σ)))
set_option maxHeartbeats 4000000 in
set_option maxRecDepth 100000 in
theorem wX8_joins_53 (hC : Cx RX8 cX8_joins 6 (some .int) D cA p s m args meth c) {N : Nat} {r : Int32} {σ' : St} : ∀ (n : Nat) (x1 : Int32) (x4 : Int32) (x5 : Int32) (σ : St) (H : Heap) (locs : List Loc) (ls : Array Slot), fX8_joins_53 N n x1 x4 x5 σ = some (r, σ') → Wd kdM 31 D cA ad s σ H locs → lv_has ls 6 [(0, .ref (ad 0)), (1, .int x1), (4, .int x4), (5, .int x5)] → W p l e rmX8_joins s m args below meth c H locs 0 0 (EndW kdM 31 D cA ad below args s (some (.int r)) σ') (F0 m 53 ls []) := by
  have hx := hC.1
  have hb := hC.2.1
  have hown := hC.2.2.2.1
  have hts := hC.2.2.2.2.1
  intro n
  induction n with
  | zero =>
    intro x1 x4 x5 σ H locs ls hf
    rw [fX8_joins_53] at hf
    cases hf
  | succ n ih =>
    intro x1 x4 x5 σ H locs ls hf hW hl
    rw [fX8_joins_53] at hf
    refine lv_aload_n hx hb dX8_joins_53 rfl (lv_at hl 0 rfl) ?_
    refine gfX8_58 hC hW 0 (by decide) rfl (q := 15) rfl dX8_joins_54 ?_
    refine lv_bipush (v := 19) hx hb dX8_joins_57 (by decide) ?_
    refine lv_iload_n hx hb dX8_joins_59 rfl (lv_at hl 1 rfl) ?_
    refine lv_imul hx hb dX8_joins_60 ?_
    refine lv_iload hx hb dX8_joins_61 (lv_at hl 2 rfl) ?_
    refine lv_iadd hx hb dX8_joins_63 ?_
    obtain ⟨h1, hf⟩ := gd_some hf
    refine Wd.iald hC hW 15 (by decide) rfl h1 dX8_joins_64 ?_
    refine lv_iload hx hb dX8_joins_65 (lv_at hl 3 rfl) ?_
    refine lv_iand hx hb dX8_joins_67 ?_
    refine lv_iload hx hb dX8_joins_68 (lv_at hl 3 rfl) ?_
    refine lv_icmp_eq (tgt := 79) hx hb dX8_joins_70 (by decide) (fun h2 => ?_) (fun h2 => ?_)
    · have hf := it_t h2 hf
      refine lv_iload hx hb dX8_joins_79 (lv_at hl 2 rfl) ?_
      obtain ⟨rfl, rfl⟩ := sp hf
      exact Wd.iret hC hW dX8_joins_81
    · have hf := it_f h2 hf
      obtain ⟨v3, ev3⟩ : ∃ y : Int32, y = x4 + (1 : Int32) := ⟨_, rfl⟩
      have hf := nx_at ev3 hf
      refine lv_iinc (v := v3) (lv' := [(4, .int v3), (0, .ref (ad 0)), (1, .int x1), (5, .int x5)]) hx hb dX8_joins_73 hl (k := 2) rfl (by rw [ev3]; rfl) (by decide) rfl (fun ls hl => ?_)
      refine lv_goto (tgt := 53) hx hb dX8_joins_76 (by decide) ?_
      exact ih _ _ _ _ _ _ _ hf hW (lv_sub hl [1, 2, 0, 3] rfl)
def fX8_joins (N : Nat) (x1 : Int32) (x2 : Int32) (x3 : Int32) (σ : St) : Option (Int32 × St) := bd (fX8_isTree N x1 σ) (fun r1 s2 => if r1 = 0 then some ((-1 : Int32), s2) else gd (ib x1 4) (bd (fX8_isIn N x2 (s2.1 9 x1.toNatClampNeg) s2) (fun r6 s7 => if r6 = 0 then some ((-1 : Int32), s7) else gd (ib x1 4) (bd (fX8_isIn N x3 (s7.1 9 x1.toNatClampNeg) s7) (fun r11 s12 => if r11 = 0 then some ((-1 : Int32), s12) else if x2 = x3 then some ((-1 : Int32), s12) else nx (((1 : Int32) <<< (x2 &&& 31)) ||| ((1 : Int32) <<< (x3 &&& 31))) (fun v16 => (fX8_joins_53 N N x1 (0 : Int32) v16 s12)))))))
set_option maxHeartbeats 4000000 in
set_option maxRecDepth 100000 in
theorem kX8_joins {l : Launch} {D : va_G} {cA : Nat → ClassId} {ad : Nat → Nat} {N : Nat} {x1 : Int32} {x2 : Int32} {x3 : Int32} {σ : St} {r : Int32} {σ' : St} (hf : fX8_joins N x1 x2 x3 σ = some (r, σ')) : MW kdM 31 l D cA ad ⟨RX8, "joins", "(III)I"⟩ cX8_joins 6 (some .int) rmX8_joins [.ref (ad 0), .int x1, .int x2, .int x3] σ (some (.int r)) σ' := by
  refine MW.of (by decide) (Nat.le_of_ble_eq_true rfl) ?_
  intro p e s m args below meth c ls hC hW hl
  have hx := hC.1
  have hb := hC.2.1
  have hown := hC.2.2.2.1
  have hts := hC.2.2.2.2.1
  have hl : lv_has ls 6 [(0, .ref (ad 0)), (1, .int x1), (2, .int x2), (3, .int x3)] := hl
  unfold fX8_joins at hf
  refine lv_aload_n hx hb dX8_joins_0 rfl (lv_at hl 0 rfl) ?_
  refine lv_iload_n hx hb dX8_joins_1 rfl (lv_at hl 1 rfl) ?_
  obtain ⟨r1, s2, c3, hf⟩ := bd_some hf
  refine Wd.callV (n := 1) (As := [.int x1]) (rest := []) (rv := some (.int r1)) hC hW 0 (kX8_isTree c3) (by decide) rfl rfl q895 q897 qs62 q8 q898 ⟨rfl, rfl⟩ ⟨by decide +kernel, by decide +kernel, by decide +kernel⟩ ⟨Nat.le_of_ble_eq_true rfl, Nat.le_of_ble_eq_true rfl⟩ ⟨Nat.zero_le _, Nat.zero_le _⟩ rfl hl.1 rfl (st2 := [.int r1]) rfl (Nat.le_of_ble_eq_true rfl) dX8_joins_2 (fun H locs hW => ?_)
  refine lv_if_eq (tgt := 39) hx hb dX8_joins_5 (by decide) (fun h4 => ?_) (fun h4 => ?_)
  · have hf := it_t h4 hf
    refine lv_iconst (v := (-1)) hx hb dX8_joins_39 (by decide) ?_
    obtain ⟨rfl, rfl⟩ := sp hf
    exact Wd.iret hC hW dX8_joins_40
  · have hf := it_f h4 hf
    refine lv_iload_n hx hb dX8_joins_8 rfl (lv_at hl 2 rfl) ?_
    refine lv_aload_n hx hb dX8_joins_9 rfl (lv_at hl 0 rfl) ?_
    refine gfX8_40 hC hW 0 (by decide) rfl (q := 9) rfl dX8_joins_10 ?_
    refine lv_iload_n hx hb dX8_joins_13 rfl (lv_at hl 1 rfl) ?_
    obtain ⟨h5, hf⟩ := gd_some hf
    refine Wd.iald hC hW 9 (by decide) rfl h5 dX8_joins_14 ?_
    obtain ⟨r6, s7, c8, hf⟩ := bd_some hf
    refine Wd.callS (n := 2) (As := [.int x2, .int (s2.1 9 x1.toNatClampNeg)]) (rest := []) (rv := some (.int r6)) hC hW (kX8_isIn c8) q762 q763 q8 q764 ⟨rfl, rfl⟩ ⟨by decide +kernel, by decide +kernel, by decide +kernel⟩ ⟨Nat.le_of_ble_eq_true rfl, Nat.le_of_ble_eq_true rfl⟩ ⟨Nat.zero_le _, Nat.zero_le _⟩ rfl hl.1 rfl (st2 := [.int r6]) rfl (Nat.le_of_ble_eq_true rfl) dX8_joins_15 (fun H locs hW => ?_)
    refine lv_if_eq (tgt := 39) hx hb dX8_joins_18 (by decide) (fun h9 => ?_) (fun h9 => ?_)
    · have hf := it_t h9 hf
      refine lv_iconst (v := (-1)) hx hb dX8_joins_39 (by decide) ?_
      obtain ⟨rfl, rfl⟩ := sp hf
      exact Wd.iret hC hW dX8_joins_40
    · have hf := it_f h9 hf
      refine lv_iload_n hx hb dX8_joins_21 rfl (lv_at hl 3 rfl) ?_
      refine lv_aload_n hx hb dX8_joins_22 rfl (lv_at hl 0 rfl) ?_
      refine gfX8_40 hC hW 0 (by decide) rfl (q := 9) rfl dX8_joins_23 ?_
      refine lv_iload_n hx hb dX8_joins_26 rfl (lv_at hl 1 rfl) ?_
      obtain ⟨h10, hf⟩ := gd_some hf
      refine Wd.iald hC hW 9 (by decide) rfl h10 dX8_joins_27 ?_
      obtain ⟨r11, s12, c13, hf⟩ := bd_some hf
      refine Wd.callS (n := 2) (As := [.int x3, .int (s7.1 9 x1.toNatClampNeg)]) (rest := []) (rv := some (.int r11)) hC hW (kX8_isIn c13) q762 q763 q8 q764 ⟨rfl, rfl⟩ ⟨by decide +kernel, by decide +kernel, by decide +kernel⟩ ⟨Nat.le_of_ble_eq_true rfl, Nat.le_of_ble_eq_true rfl⟩ ⟨Nat.zero_le _, Nat.zero_le _⟩ rfl hl.1 rfl (st2 := [.int r11]) rfl (Nat.le_of_ble_eq_true rfl) dX8_joins_28 (fun H locs hW => ?_)
      refine lv_if_eq (tgt := 39) hx hb dX8_joins_31 (by decide) (fun h14 => ?_) (fun h14 => ?_)
      · have hf := it_t h14 hf
        refine lv_iconst (v := (-1)) hx hb dX8_joins_39 (by decide) ?_
        obtain ⟨rfl, rfl⟩ := sp hf
        exact Wd.iret hC hW dX8_joins_40
      · have hf := it_f h14 hf
        refine lv_iload_n hx hb dX8_joins_34 rfl (lv_at hl 2 rfl) ?_
        refine lv_iload_n hx hb dX8_joins_35 rfl (lv_at hl 3 rfl) ?_
        refine lv_icmp_ne (tgt := 41) hx hb dX8_joins_36 (by decide) (fun h15 => ?_) (fun h15 => ?_)
        · have hf := it_f h15 hf
          refine lv_iconst (v := 0) hx hb dX8_joins_41 (by decide) ?_
          refine lv_istore (lv' := [(4, .int (0 : Int32)), (0, .ref (ad 0)), (1, .int x1), (2, .int x2), (3, .int x3)]) hx hb dX8_joins_42 hl (by decide) rfl (fun ls hl => ?_)
          refine lv_iconst (v := 1) hx hb dX8_joins_44 (by decide) ?_
          refine lv_iload_n hx hb dX8_joins_45 rfl (lv_at hl 3 rfl) ?_
          refine lv_ishl hx hb dX8_joins_46 ?_
          refine lv_iconst (v := 1) hx hb dX8_joins_47 (by decide) ?_
          refine lv_iload_n hx hb dX8_joins_48 rfl (lv_at hl 4 rfl) ?_
          refine lv_ishl hx hb dX8_joins_49 ?_
          refine lv_ior hx hb dX8_joins_50 ?_
          refine lv_topi (fun v16 ev16 => ?_)
          have hf := nx_at ev16 hf
          refine lv_istore (lv' := [(5, .int v16), (4, .int (0 : Int32)), (0, .ref (ad 0)), (1, .int x1), (2, .int x2), (3, .int x3)]) hx hb dX8_joins_51 hl (by decide) rfl (fun ls hl => ?_)
          exact wX8_joins_53 hC N _ _ _ _ _ _ _ hf hW (lv_sub hl [2, 3, 1, 0] rfl)
        · have hf := it_t h15 hf
          refine lv_iconst (v := (-1)) hx hb dX8_joins_39 (by decide) ?_
          obtain ⟨rfl, rfl⟩ := sp hf
          exact Wd.iret hC hW dX8_joins_40
abbrev rmX8_same : Room := { frames := 2, cells := 0, slots := 0, locals := 42 }
def fX8_same_145 (N : Nat) (K38 : Int32 → Int32 → Int32 → Int32 → St → Option (Int32 × St)) (x1 : Int32) (x2 : Int32) (x4 : Int32) (y0 : Int32) (σ : St) : Option (Int32 × St) := nx (x4 + (1 : Int32)) (fun v1 => (K38 x1 x2 y0 v1 σ))
set_option maxHeartbeats 4000000 in
set_option maxRecDepth 100000 in
theorem wX8_same_145 (hC : Cx RX8 cX8_same 7 (some .boolean) D cA p s m args meth c) {N : Nat} {K38 : Int32 → Int32 → Int32 → Int32 → St → Option (Int32 × St)} {x1 : Int32} {x2 : Int32} {x4 : Int32} {y0 : Int32} {σ : St} {r : Int32} {σ' : St} (hK38 : ∀ (x1 : Int32) (x2 : Int32) (x3 : Int32) (x4 : Int32) (σ : St) (H : Heap) (locs : List Loc) (ls : Array Slot), K38 x1 x2 x3 x4 σ = some (r, σ') → Wd kdM 31 D cA ad s σ H locs → lv_has ls 7 [(0, .ref (ad 0)), (1, .int x1), (2, .int x2), (3, .int x3), (4, .int x4)] → W p l e rmX8_same s m args below meth c H locs 0 0 (EndW kdM 31 D cA ad below args s (some (.int r)) σ') (F0 m 38 ls [])) {H : Heap} {locs : List Loc} {ls : Array Slot} (hf : fX8_same_145 N K38 x1 x2 x4 y0 σ = some (r, σ')) (hW : Wd kdM 31 D cA ad s σ H locs) (hl : lv_has ls 7 [(0, .ref (ad 0)), (1, .int x1), (2, .int x2), (4, .int x4)]) : W p l e rmX8_same s m args below meth c H locs 0 0 (EndW kdM 31 D cA ad below args s (some (.int r)) σ') (F0 m 145 ls [.int y0]) := by
  have hx := hC.1
  have hb := hC.2.1
  have hown := hC.2.2.2.1
  have hts := hC.2.2.2.2.1
  unfold fX8_same_145 at hf
  refine lv_istore_n (lv' := [(3, .int y0), (0, .ref (ad 0)), (1, .int x1), (2, .int x2), (4, .int x4)]) hx hb dX8_same_145 rfl hl (by decide) rfl (fun ls hl => ?_)
  obtain ⟨v1, ev1⟩ : ∃ y : Int32, y = x4 + (1 : Int32) := ⟨_, rfl⟩
  have hf := nx_at ev1 hf
  refine lv_iinc (v := v1) (lv' := [(4, .int v1), (3, .int y0), (0, .ref (ad 0)), (1, .int x1), (2, .int x2)]) hx hb dX8_same_146 hl (k := 4) rfl (by rw [ev1]; rfl) (by decide) rfl (fun ls hl => ?_)
  refine lv_goto (tgt := 38) hx hb dX8_same_149 (by decide) ?_
  exact hK38 _ _ _ _ _ _ _ _ hf hW (lv_sub hl [2, 3, 4, 1, 0] rfl)
def fX8_same_144 (N : Nat) (K38 : Int32 → Int32 → Int32 → Int32 → St → Option (Int32 × St)) (x1 : Int32) (x2 : Int32) (x4 : Int32) (σ : St) : Option (Int32 × St) := (fX8_same_145 N K38 x1 x2 x4 (0 : Int32) σ)
set_option maxHeartbeats 4000000 in
set_option maxRecDepth 100000 in
theorem wX8_same_144 (hC : Cx RX8 cX8_same 7 (some .boolean) D cA p s m args meth c) {N : Nat} {K38 : Int32 → Int32 → Int32 → Int32 → St → Option (Int32 × St)} {x1 : Int32} {x2 : Int32} {x4 : Int32} {σ : St} {r : Int32} {σ' : St} (hK38 : ∀ (x1 : Int32) (x2 : Int32) (x3 : Int32) (x4 : Int32) (σ : St) (H : Heap) (locs : List Loc) (ls : Array Slot), K38 x1 x2 x3 x4 σ = some (r, σ') → Wd kdM 31 D cA ad s σ H locs → lv_has ls 7 [(0, .ref (ad 0)), (1, .int x1), (2, .int x2), (3, .int x3), (4, .int x4)] → W p l e rmX8_same s m args below meth c H locs 0 0 (EndW kdM 31 D cA ad below args s (some (.int r)) σ') (F0 m 38 ls [])) {H : Heap} {locs : List Loc} {ls : Array Slot} (hf : fX8_same_144 N K38 x1 x2 x4 σ = some (r, σ')) (hW : Wd kdM 31 D cA ad s σ H locs) (hl : lv_has ls 7 [(0, .ref (ad 0)), (1, .int x1), (2, .int x2), (4, .int x4)]) : W p l e rmX8_same s m args below meth c H locs 0 0 (EndW kdM 31 D cA ad below args s (some (.int r)) σ') (F0 m 144 ls []) := by
  have hx := hC.1
  have hb := hC.2.1
  have hown := hC.2.2.2.1
  have hts := hC.2.2.2.2.1
  unfold fX8_same_144 at hf
  refine lv_iconst (v := 0) hx hb dX8_same_144 (by decide) ?_
  exact wX8_same_145 hC hK38 hf hW (lv_sub hl [0, 1, 2, 3] rfl)
def fX8_same_38 (N : Nat) : Nat → Int32 → Int32 → Int32 → Int32 → St → Option (Int32 × St)
  | 0, _, _, _, _, _ => none
  | n + 1, x1, x2, x3, x4, σ => bd (fX8_steps N x1 σ) (fun r1 s2 => if r1 ≤ x4 then gd (zb x3) (some (x3, s2)) else nx (((19 : Int32) * x1) + x4) (fun v6 => nx (((19 : Int32) * x2) + x4) (fun v7 => if x3 = 0 then (fX8_same_144 N (fX8_same_38 N n) x1 x2 x4 s2) else gd (ib v6 76) (gd (ib v7 76) (if (s2.1 13 v6.toNatClampNeg) = (s2.1 13 v7.toNatClampNeg) then gd (ib v6 76) (gd (ib v7 76) (if (s2.1 14 v6.toNatClampNeg) = (s2.1 14 v7.toNatClampNeg) then gd (ib v6 76) (gd (ib v7 76) (if (lg_cmp (s2.2 16 v6.toNatClampNeg) (s2.2 16 v7.toNatClampNeg)) = 0 then gd (ib v6 76) (gd (ib v7 76) (if (lg_cmp (s2.2 17 v6.toNatClampNeg) (s2.2 17 v7.toNatClampNeg)) = 0 then (fX8_same_145 N (fX8_same_38 N n) x1 x2 x4 (1 : Int32) s2) else (fX8_same_144 N (fX8_same_38 N n) x1 x2 x4 s2))) else (fX8_same_144 N (fX8_same_38 N n) x1 x2 x4 s2))) else (fX8_same_144 N (fX8_same_38 N n) x1 x2 x4 s2))) else (fX8_same_144 N (fX8_same_38 N n) x1 x2 x4 s2))))))
set_option maxHeartbeats 4000000 in
set_option maxRecDepth 100000 in
theorem wX8_same_38 (hC : Cx RX8 cX8_same 7 (some .boolean) D cA p s m args meth c) {N : Nat} {r : Int32} {σ' : St} : ∀ (n : Nat) (x1 : Int32) (x2 : Int32) (x3 : Int32) (x4 : Int32) (σ : St) (H : Heap) (locs : List Loc) (ls : Array Slot), fX8_same_38 N n x1 x2 x3 x4 σ = some (r, σ') → Wd kdM 31 D cA ad s σ H locs → lv_has ls 7 [(0, .ref (ad 0)), (1, .int x1), (2, .int x2), (3, .int x3), (4, .int x4)] → W p l e rmX8_same s m args below meth c H locs 0 0 (EndW kdM 31 D cA ad below args s (some (.int r)) σ') (F0 m 38 ls []) := by
  have hx := hC.1
  have hb := hC.2.1
  have hown := hC.2.2.2.1
  have hts := hC.2.2.2.2.1
  intro n
  induction n with
  | zero =>
    intro x1 x2 x3 x4 σ H locs ls hf
    rw [fX8_same_38] at hf
    cases hf
  | succ n ih =>
    intro x1 x2 x3 x4 σ H locs ls hf hW hl
    rw [fX8_same_38] at hf
    refine lv_iload hx hb dX8_same_38 (lv_at hl 4 rfl) ?_
    refine lv_aload_n hx hb dX8_same_40 rfl (lv_at hl 0 rfl) ?_
    refine lv_iload_n hx hb dX8_same_41 rfl (lv_at hl 1 rfl) ?_
    obtain ⟨r1, s2, c3, hf⟩ := bd_some hf
    refine Wd.callV (n := 1) (As := [.int x1]) (rest := [.int x4]) (rv := some (.int r1)) hC hW 0 (kX8_steps c3) (by decide) rfl rfl q899 q901 qs63 q8 q902 ⟨rfl, rfl⟩ ⟨by decide +kernel, by decide +kernel, by decide +kernel⟩ ⟨Nat.le_of_ble_eq_true rfl, Nat.le_of_ble_eq_true rfl⟩ ⟨Nat.zero_le _, Nat.zero_le _⟩ rfl hl.1 rfl (st2 := [.int r1, .int x4]) rfl (Nat.le_of_ble_eq_true rfl) dX8_same_42 (fun H locs hW => ?_)
    refine lv_icmp_ge (tgt := 152) hx hb dX8_same_45 (by decide) (fun h4 => ?_) (fun h4 => ?_)
    · have hf := it_t h4 hf
      refine lv_iload_n hx hb dX8_same_152 rfl (lv_at hl 3 rfl) ?_
      obtain ⟨h5, hf⟩ := gd_some hf
      obtain ⟨rfl, rfl⟩ := sp hf
      exact Wd.zret hC hW (zb_of h5) dX8_same_153
    · have hf := it_f h4 hf
      refine lv_bipush (v := 19) hx hb dX8_same_48 (by decide) ?_
      refine lv_iload_n hx hb dX8_same_50 rfl (lv_at hl 1 rfl) ?_
      refine lv_imul hx hb dX8_same_51 ?_
      refine lv_iload hx hb dX8_same_52 (lv_at hl 4 rfl) ?_
      refine lv_iadd hx hb dX8_same_54 ?_
      refine lv_topi (fun v6 ev6 => ?_)
      have hf := nx_at ev6 hf
      refine lv_istore (lv' := [(5, .int v6), (0, .ref (ad 0)), (1, .int x1), (2, .int x2), (3, .int x3), (4, .int x4)]) hx hb dX8_same_55 hl (by decide) rfl (fun ls hl => ?_)
      refine lv_bipush (v := 19) hx hb dX8_same_57 (by decide) ?_
      refine lv_iload_n hx hb dX8_same_59 rfl (lv_at hl 3 rfl) ?_
      refine lv_imul hx hb dX8_same_60 ?_
      refine lv_iload hx hb dX8_same_61 (lv_at hl 5 rfl) ?_
      refine lv_iadd hx hb dX8_same_63 ?_
      refine lv_topi (fun v7 ev7 => ?_)
      have hf := nx_at ev7 hf
      refine lv_istore (lv' := [(6, .int v7), (5, .int v6), (0, .ref (ad 0)), (1, .int x1), (2, .int x2), (3, .int x3), (4, .int x4)]) hx hb dX8_same_64 hl (by decide) rfl (fun ls hl => ?_)
      refine lv_iload_n hx hb dX8_same_66 rfl (lv_at hl 5 rfl) ?_
      refine lv_if_eq (tgt := 144) hx hb dX8_same_67 (by decide) (fun h8 => ?_) (fun h8 => ?_)
      · have hf := it_t h8 hf
        exact wX8_same_144 hC ih hf hW (lv_sub hl [2, 3, 4, 6] rfl)
      · have hf := it_f h8 hf
        refine lv_aload_n hx hb dX8_same_70 rfl (lv_at hl 2 rfl) ?_
        refine gfX8_52 hC hW 0 (by decide) rfl (q := 13) rfl dX8_same_71 ?_
        refine lv_iload hx hb dX8_same_74 (lv_at hl 1 rfl) ?_
        obtain ⟨h9, hf⟩ := gd_some hf
        refine Wd.iald hC hW 13 (by decide) rfl h9 dX8_same_76 ?_
        refine lv_aload_n hx hb dX8_same_77 rfl (lv_at hl 2 rfl) ?_
        refine gfX8_52 hC hW 0 (by decide) rfl (q := 13) rfl dX8_same_78 ?_
        refine lv_iload hx hb dX8_same_81 (lv_at hl 0 rfl) ?_
        obtain ⟨h10, hf⟩ := gd_some hf
        refine Wd.iald hC hW 13 (by decide) rfl h10 dX8_same_83 ?_
        refine lv_icmp_ne (tgt := 144) hx hb dX8_same_84 (by decide) (fun h11 => ?_) (fun h11 => ?_)
        · have hf := it_f h11 hf
          exact wX8_same_144 hC ih hf hW (lv_sub hl [2, 3, 4, 6] rfl)
        · have hf := it_t h11 hf
          refine lv_aload_n hx hb dX8_same_87 rfl (lv_at hl 2 rfl) ?_
          refine gfX8_55 hC hW 0 (by decide) rfl (q := 14) rfl dX8_same_88 ?_
          refine lv_iload hx hb dX8_same_91 (lv_at hl 1 rfl) ?_
          obtain ⟨h12, hf⟩ := gd_some hf
          refine Wd.iald hC hW 14 (by decide) rfl h12 dX8_same_93 ?_
          refine lv_aload_n hx hb dX8_same_94 rfl (lv_at hl 2 rfl) ?_
          refine gfX8_55 hC hW 0 (by decide) rfl (q := 14) rfl dX8_same_95 ?_
          refine lv_iload hx hb dX8_same_98 (lv_at hl 0 rfl) ?_
          obtain ⟨h13, hf⟩ := gd_some hf
          refine Wd.iald hC hW 14 (by decide) rfl h13 dX8_same_100 ?_
          refine lv_icmp_ne (tgt := 144) hx hb dX8_same_101 (by decide) (fun h14 => ?_) (fun h14 => ?_)
          · have hf := it_f h14 hf
            exact wX8_same_144 hC ih hf hW (lv_sub hl [2, 3, 4, 6] rfl)
          · have hf := it_t h14 hf
            refine lv_aload_n hx hb dX8_same_104 rfl (lv_at hl 2 rfl) ?_
            refine gfX8_61 hC hW 0 (by decide) rfl (q := 16) rfl dX8_same_105 ?_
            refine lv_iload hx hb dX8_same_108 (lv_at hl 1 rfl) ?_
            obtain ⟨h15, hf⟩ := gd_some hf
            refine Wd.lald hC hW 16 (by decide) rfl h15 dX8_same_110 ?_
            refine lv_aload_n hx hb dX8_same_111 rfl (lv_at hl 2 rfl) ?_
            refine gfX8_61 hC hW 0 (by decide) rfl (q := 16) rfl dX8_same_112 ?_
            refine lv_iload hx hb dX8_same_115 (lv_at hl 0 rfl) ?_
            obtain ⟨h16, hf⟩ := gd_some hf
            refine Wd.lald hC hW 16 (by decide) rfl h16 dX8_same_117 ?_
            refine W.lcmp hx hb dX8_same_118 ?_
            refine lv_if_ne (tgt := 144) hx hb dX8_same_119 (by decide) (fun h17 => ?_) (fun h17 => ?_)
            · have hf := it_f h17 hf
              exact wX8_same_144 hC ih hf hW (lv_sub hl [2, 3, 4, 6] rfl)
            · have hf := it_t h17 hf
              refine lv_aload_n hx hb dX8_same_122 rfl (lv_at hl 2 rfl) ?_
              refine gfX8_65 hC hW 0 (by decide) rfl (q := 17) rfl dX8_same_123 ?_
              refine lv_iload hx hb dX8_same_126 (lv_at hl 1 rfl) ?_
              obtain ⟨h18, hf⟩ := gd_some hf
              refine Wd.lald hC hW 17 (by decide) rfl h18 dX8_same_128 ?_
              refine lv_aload_n hx hb dX8_same_129 rfl (lv_at hl 2 rfl) ?_
              refine gfX8_65 hC hW 0 (by decide) rfl (q := 17) rfl dX8_same_130 ?_
              refine lv_iload hx hb dX8_same_133 (lv_at hl 0 rfl) ?_
              obtain ⟨h19, hf⟩ := gd_some hf
              refine Wd.lald hC hW 17 (by decide) rfl h19 dX8_same_135 ?_
              refine W.lcmp hx hb dX8_same_136 ?_
              refine lv_if_ne (tgt := 144) hx hb dX8_same_137 (by decide) (fun h20 => ?_) (fun h20 => ?_)
              · have hf := it_f h20 hf
                exact wX8_same_144 hC ih hf hW (lv_sub hl [2, 3, 4, 6] rfl)
              · have hf := it_t h20 hf
                refine lv_iconst (v := 1) hx hb dX8_same_140 (by decide) ?_
                refine lv_goto (tgt := 145) hx hb dX8_same_141 (by decide) ?_
                exact wX8_same_145 hC ih hf hW (lv_sub hl [2, 3, 4, 6] rfl)
def fX8_same (N : Nat) (x1 : Int32) (x2 : Int32) (σ : St) : Option (Int32 × St) := bd (fX8_isTree N x1 σ) (fun r1 s2 => if r1 = 0 then some ((0 : Int32), s2) else bd (fX8_isTree N x2 s2) (fun r5 s6 => if r5 = 0 then some ((0 : Int32), s6) else gd (ib x1 4) (gd (ib x2 4) (if (s6.1 9 x1.toNatClampNeg) = (s6.1 9 x2.toNatClampNeg) then (fX8_same_38 N N x1 x2 (1 : Int32) (0 : Int32) s6) else some ((0 : Int32), s6)))))
set_option maxHeartbeats 4000000 in
set_option maxRecDepth 100000 in
theorem kX8_same {l : Launch} {D : va_G} {cA : Nat → ClassId} {ad : Nat → Nat} {N : Nat} {x1 : Int32} {x2 : Int32} {σ : St} {r : Int32} {σ' : St} (hf : fX8_same N x1 x2 σ = some (r, σ')) : MW kdM 31 l D cA ad ⟨RX8, "same", "(II)Z"⟩ cX8_same 7 (some .boolean) rmX8_same [.ref (ad 0), .int x1, .int x2] σ (some (.int r)) σ' := by
  refine MW.of (by decide) (Nat.le_of_ble_eq_true rfl) ?_
  intro p e s m args below meth c ls hC hW hl
  have hx := hC.1
  have hb := hC.2.1
  have hown := hC.2.2.2.1
  have hts := hC.2.2.2.2.1
  have hl : lv_has ls 7 [(0, .ref (ad 0)), (1, .int x1), (2, .int x2)] := hl
  unfold fX8_same at hf
  refine lv_aload_n hx hb dX8_same_0 rfl (lv_at hl 0 rfl) ?_
  refine lv_iload_n hx hb dX8_same_1 rfl (lv_at hl 1 rfl) ?_
  obtain ⟨r1, s2, c3, hf⟩ := bd_some hf
  refine Wd.callV (n := 1) (As := [.int x1]) (rest := []) (rv := some (.int r1)) hC hW 0 (kX8_isTree c3) (by decide) rfl rfl q895 q897 qs62 q8 q898 ⟨rfl, rfl⟩ ⟨by decide +kernel, by decide +kernel, by decide +kernel⟩ ⟨Nat.le_of_ble_eq_true rfl, Nat.le_of_ble_eq_true rfl⟩ ⟨Nat.zero_le _, Nat.zero_le _⟩ rfl hl.1 rfl (st2 := [.int r1]) rfl (Nat.le_of_ble_eq_true rfl) dX8_same_2 (fun H locs hW => ?_)
  refine lv_if_eq (tgt := 31) hx hb dX8_same_5 (by decide) (fun h4 => ?_) (fun h4 => ?_)
  · have hf := it_t h4 hf
    refine lv_iconst (v := 0) hx hb dX8_same_31 (by decide) ?_
    obtain ⟨rfl, rfl⟩ := sp hf
    exact Wd.zret hC hW (Or.inl rfl) dX8_same_32
  · have hf := it_f h4 hf
    refine lv_aload_n hx hb dX8_same_8 rfl (lv_at hl 0 rfl) ?_
    refine lv_iload_n hx hb dX8_same_9 rfl (lv_at hl 2 rfl) ?_
    obtain ⟨r5, s6, c7, hf⟩ := bd_some hf
    refine Wd.callV (n := 1) (As := [.int x2]) (rest := []) (rv := some (.int r5)) hC hW 0 (kX8_isTree c7) (by decide) rfl rfl q895 q897 qs62 q8 q898 ⟨rfl, rfl⟩ ⟨by decide +kernel, by decide +kernel, by decide +kernel⟩ ⟨Nat.le_of_ble_eq_true rfl, Nat.le_of_ble_eq_true rfl⟩ ⟨Nat.zero_le _, Nat.zero_le _⟩ rfl hl.1 rfl (st2 := [.int r5]) rfl (Nat.le_of_ble_eq_true rfl) dX8_same_10 (fun H locs hW => ?_)
    refine lv_if_eq (tgt := 31) hx hb dX8_same_13 (by decide) (fun h8 => ?_) (fun h8 => ?_)
    · have hf := it_t h8 hf
      refine lv_iconst (v := 0) hx hb dX8_same_31 (by decide) ?_
      obtain ⟨rfl, rfl⟩ := sp hf
      exact Wd.zret hC hW (Or.inl rfl) dX8_same_32
    · have hf := it_f h8 hf
      refine lv_aload_n hx hb dX8_same_16 rfl (lv_at hl 0 rfl) ?_
      refine gfX8_40 hC hW 0 (by decide) rfl (q := 9) rfl dX8_same_17 ?_
      refine lv_iload_n hx hb dX8_same_20 rfl (lv_at hl 1 rfl) ?_
      obtain ⟨h9, hf⟩ := gd_some hf
      refine Wd.iald hC hW 9 (by decide) rfl h9 dX8_same_21 ?_
      refine lv_aload_n hx hb dX8_same_22 rfl (lv_at hl 0 rfl) ?_
      refine gfX8_40 hC hW 0 (by decide) rfl (q := 9) rfl dX8_same_23 ?_
      refine lv_iload_n hx hb dX8_same_26 rfl (lv_at hl 2 rfl) ?_
      obtain ⟨h10, hf⟩ := gd_some hf
      refine Wd.iald hC hW 9 (by decide) rfl h10 dX8_same_27 ?_
      refine lv_icmp_eq (tgt := 33) hx hb dX8_same_28 (by decide) (fun h11 => ?_) (fun h11 => ?_)
      · have hf := it_t h11 hf
        refine lv_iconst (v := 1) hx hb dX8_same_33 (by decide) ?_
        refine lv_istore_n (lv' := [(3, .int (1 : Int32)), (0, .ref (ad 0)), (1, .int x1), (2, .int x2)]) hx hb dX8_same_34 rfl hl (by decide) rfl (fun ls hl => ?_)
        refine lv_iconst (v := 0) hx hb dX8_same_35 (by decide) ?_
        refine lv_istore (lv' := [(4, .int (0 : Int32)), (3, .int (1 : Int32)), (0, .ref (ad 0)), (1, .int x1), (2, .int x2)]) hx hb dX8_same_36 hl (by decide) rfl (fun ls hl => ?_)
        exact wX8_same_38 hC N _ _ _ _ _ _ _ _ hf hW (lv_sub hl [2, 3, 4, 1, 0] rfl)
      · have hf := it_f h11 hf
        refine lv_iconst (v := 0) hx hb dX8_same_31 (by decide) ?_
        obtain ⟨rfl, rfl⟩ := sp hf
        exact Wd.zret hC hW (Or.inl rfl) dX8_same_32
abbrev rmX8_leastOf : Room := { frames := 0, cells := 0, slots := 0, locals := 0 }
def fX8_leastOf_38 (N : Nat) : Nat → Int32 → Int32 → St → Option (Int32 × St)
  | 0, _, _, _ => none
  | n + 1, x3, x4, σ => if ((x3 >>> (x4 &&& 31)) &&& (1 : Int32)) = 0 then nx (x4 + (1 : Int32)) (fun v2 => ((fX8_leastOf_38 N n) x3 v2 σ)) else some (x4, σ)
set_option maxHeartbeats 4000000 in
set_option maxRecDepth 100000 in
theorem wX8_leastOf_38 (hC : Cx RX8 cX8_leastOf 5 (some .int) D cA p s m args meth c) {N : Nat} {r : Int32} {σ' : St} : ∀ (n : Nat) (x3 : Int32) (x4 : Int32) (σ : St) (H : Heap) (locs : List Loc) (ls : Array Slot), fX8_leastOf_38 N n x3 x4 σ = some (r, σ') → Wd kdM 31 D cA ad s σ H locs → lv_has ls 5 [(3, .int x3), (4, .int x4)] → W p l e rmX8_leastOf s m args below meth c H locs 0 0 (EndW kdM 31 D cA ad below args s (some (.int r)) σ') (F0 m 38 ls []) := by
  have hx := hC.1
  have hb := hC.2.1
  have hown := hC.2.2.2.1
  have hts := hC.2.2.2.2.1
  intro n
  induction n with
  | zero =>
    intro x3 x4 σ H locs ls hf
    rw [fX8_leastOf_38] at hf
    cases hf
  | succ n ih =>
    intro x3 x4 σ H locs ls hf hW hl
    rw [fX8_leastOf_38] at hf
    refine lv_iload_n hx hb dX8_leastOf_38 rfl (lv_at hl 0 rfl) ?_
    refine lv_iload hx hb dX8_leastOf_39 (lv_at hl 1 rfl) ?_
    refine lv_ishr hx hb dX8_leastOf_41 ?_
    refine lv_iconst (v := 1) hx hb dX8_leastOf_42 (by decide) ?_
    refine lv_iand hx hb dX8_leastOf_43 ?_
    refine lv_if_ne (tgt := 53) hx hb dX8_leastOf_44 (by decide) (fun h1 => ?_) (fun h1 => ?_)
    · have hf := it_f h1 hf
      refine lv_iload hx hb dX8_leastOf_53 (lv_at hl 1 rfl) ?_
      obtain ⟨rfl, rfl⟩ := sp hf
      exact Wd.iret hC hW dX8_leastOf_55
    · have hf := it_t h1 hf
      obtain ⟨v2, ev2⟩ : ∃ y : Int32, y = x4 + (1 : Int32) := ⟨_, rfl⟩
      have hf := nx_at ev2 hf
      refine lv_iinc (v := v2) (lv' := [(4, .int v2), (3, .int x3)]) hx hb dX8_leastOf_47 hl (k := 1) rfl (by rw [ev2]; rfl) (by decide) rfl (fun ls hl => ?_)
      refine lv_goto (tgt := 38) hx hb dX8_leastOf_50 (by decide) ?_
      exact ih _ _ _ _ _ _ hf hW (lv_sub hl [1, 0] rfl)
def fX8_leastOf_34 (N : Nat) (y0 : Int32) (σ : St) : Option (Int32 × St) := (fX8_leastOf_38 N N y0 (0 : Int32) σ)
set_option maxHeartbeats 4000000 in
set_option maxRecDepth 100000 in
theorem wX8_leastOf_34 (hC : Cx RX8 cX8_leastOf 5 (some .int) D cA p s m args meth c) {N : Nat} {y0 : Int32} {σ : St} {r : Int32} {σ' : St} {H : Heap} {locs : List Loc} {ls : Array Slot} (hf : fX8_leastOf_34 N y0 σ = some (r, σ')) (hW : Wd kdM 31 D cA ad s σ H locs) (hl : lv_has ls 5 []) : W p l e rmX8_leastOf s m args below meth c H locs 0 0 (EndW kdM 31 D cA ad below args s (some (.int r)) σ') (F0 m 34 ls [.int y0]) := by
  have hx := hC.1
  have hb := hC.2.1
  have hown := hC.2.2.2.1
  have hts := hC.2.2.2.2.1
  unfold fX8_leastOf_34 at hf
  refine lv_istore_n (lv' := [(3, .int y0)]) hx hb dX8_leastOf_34 rfl hl (by decide) rfl (fun ls hl => ?_)
  refine lv_iconst (v := 0) hx hb dX8_leastOf_35 (by decide) ?_
  refine lv_istore (lv' := [(4, .int (0 : Int32)), (3, .int y0)]) hx hb dX8_leastOf_36 hl (by decide) rfl (fun ls hl => ?_)
  exact wX8_leastOf_38 hC N _ _ _ _ _ _ hf hW (lv_sub hl [1, 0] rfl)
def fX8_leastOf (N : Nat) (x1 : Int32) (x2 : Int32) (σ : St) : Option (Int32 × St) := gd (ib x1 4) (if (σ.1 9 x1.toNatClampNeg) ≤ x2 then gd (ib x1 4) (gd (ib ((((19 : Int32) * x1) + x2) - (σ.1 9 x1.toNatClampNeg)) 76) ((fX8_leastOf_34 N (σ.1 15 ((((19 : Int32) * x1) + x2) - (σ.1 9 x1.toNatClampNeg)).toNatClampNeg) σ))) else (fX8_leastOf_34 N ((1 : Int32) <<< (x2 &&& 31)) σ))
set_option maxHeartbeats 4000000 in
set_option maxRecDepth 100000 in
theorem kX8_leastOf {l : Launch} {D : va_G} {cA : Nat → ClassId} {ad : Nat → Nat} {N : Nat} {x1 : Int32} {x2 : Int32} {σ : St} {r : Int32} {σ' : St} (hf : fX8_leastOf N x1 x2 σ = some (r, σ')) : MW kdM 31 l D cA ad ⟨RX8, "leastOf", "(II)I"⟩ cX8_leastOf 5 (some .int) rmX8_leastOf [.ref (ad 0), .int x1, .int x2] σ (some (.int r)) σ' := by
  refine MW.of (by decide) (Nat.le_of_ble_eq_true rfl) ?_
  intro p e s m args below meth c ls hC hW hl
  have hx := hC.1
  have hb := hC.2.1
  have hown := hC.2.2.2.1
  have hts := hC.2.2.2.2.1
  have hl : lv_has ls 5 [(0, .ref (ad 0)), (1, .int x1), (2, .int x2)] := hl
  unfold fX8_leastOf at hf
  refine lv_iload_n hx hb dX8_leastOf_0 rfl (lv_at hl 2 rfl) ?_
  refine lv_aload_n hx hb dX8_leastOf_1 rfl (lv_at hl 0 rfl) ?_
  refine gfX8_40 hC hW 0 (by decide) rfl (q := 9) rfl dX8_leastOf_2 ?_
  refine lv_iload_n hx hb dX8_leastOf_5 rfl (lv_at hl 1 rfl) ?_
  obtain ⟨h1, hf⟩ := gd_some hf
  refine Wd.iald hC hW 9 (by decide) rfl h1 dX8_leastOf_6 ?_
  refine lv_icmp_ge (tgt := 16) hx hb dX8_leastOf_7 (by decide) (fun h2 => ?_) (fun h2 => ?_)
  · have hf := it_t h2 hf
    refine lv_aload_n hx hb dX8_leastOf_16 rfl (lv_at hl 0 rfl) ?_
    refine gfX8_58 hC hW 0 (by decide) rfl (q := 15) rfl dX8_leastOf_17 ?_
    refine lv_bipush (v := 19) hx hb dX8_leastOf_20 (by decide) ?_
    refine lv_iload_n hx hb dX8_leastOf_22 rfl (lv_at hl 1 rfl) ?_
    refine lv_imul hx hb dX8_leastOf_23 ?_
    refine lv_iload_n hx hb dX8_leastOf_24 rfl (lv_at hl 2 rfl) ?_
    refine lv_iadd hx hb dX8_leastOf_25 ?_
    refine lv_aload_n hx hb dX8_leastOf_26 rfl (lv_at hl 0 rfl) ?_
    refine gfX8_40 hC hW 0 (by decide) rfl (q := 9) rfl dX8_leastOf_27 ?_
    refine lv_iload_n hx hb dX8_leastOf_30 rfl (lv_at hl 1 rfl) ?_
    obtain ⟨h3, hf⟩ := gd_some hf
    refine Wd.iald hC hW 9 (by decide) rfl h3 dX8_leastOf_31 ?_
    refine lv_isub hx hb dX8_leastOf_32 ?_
    obtain ⟨h4, hf⟩ := gd_some hf
    refine Wd.iald hC hW 15 (by decide) rfl h4 dX8_leastOf_33 ?_
    exact wX8_leastOf_34 hC hf hW (lv_sub hl [] rfl)
  · have hf := it_f h2 hf
    refine lv_iconst (v := 1) hx hb dX8_leastOf_10 (by decide) ?_
    refine lv_iload_n hx hb dX8_leastOf_11 rfl (lv_at hl 2 rfl) ?_
    refine lv_ishl hx hb dX8_leastOf_12 ?_
    refine lv_goto (tgt := 34) hx hb dX8_leastOf_13 (by decide) ?_
    exact wX8_leastOf_34 hC hf hW (lv_sub hl [] rfl)
abbrev rmX8_tells : Room := { frames := 2, cells := 0, slots := 0, locals := 47 }
def fX8_tells_309 (N : Nat) (K43 : Int32 → Int32 → Int32 → Int32 → St → Option (Unit × St)) (x1 : Int32) (x2 : Int32) (x3 : Int32) (x4 : Int32) (σ : St) : Option (Unit × St) := (K43 x1 x2 x3 x4 σ)
set_option maxHeartbeats 4000000 in
set_option maxRecDepth 100000 in
theorem wX8_tells_309 (hC : Cx RX8 cX8_tells 8 none D cA p s m args meth c) {N : Nat} {K43 : Int32 → Int32 → Int32 → Int32 → St → Option (Unit × St)} {x1 : Int32} {x2 : Int32} {x3 : Int32} {x4 : Int32} {σ : St} {r : Unit} {σ' : St} (hK43 : ∀ (x1 : Int32) (x2 : Int32) (x3 : Int32) (x4 : Int32) (σ : St) (H : Heap) (locs : List Loc) (ls : Array Slot), K43 x1 x2 x3 x4 σ = some (r, σ') → Wd kdM 31 D cA ad s σ H locs → lv_has ls 8 [(0, .ref (ad 0)), (1, .int x1), (2, .int x2), (3, .int x3), (4, .int x4)] → W p l e rmX8_tells s m args below meth c H locs 0 0 (EndW kdM 31 D cA ad below args s none σ') (F0 m 43 ls [])) {H : Heap} {locs : List Loc} {ls : Array Slot} (hf : fX8_tells_309 N K43 x1 x2 x3 x4 σ = some (r, σ')) (hW : Wd kdM 31 D cA ad s σ H locs) (hl : lv_has ls 8 [(0, .ref (ad 0)), (1, .int x1), (2, .int x2), (3, .int x3), (4, .int x4)]) : W p l e rmX8_tells s m args below meth c H locs 0 0 (EndW kdM 31 D cA ad below args s none σ') (F0 m 309 ls []) := by
  have hx := hC.1
  have hb := hC.2.1
  have hown := hC.2.2.2.1
  have hts := hC.2.2.2.2.1
  unfold fX8_tells_309 at hf
  refine lv_goto (tgt := 43) hx hb dX8_tells_309 (by decide) ?_
  exact hK43 _ _ _ _ _ _ _ _ hf hW (lv_sub hl [0, 1, 2, 3, 4] rfl)
def fX8_tells_305 (N : Nat) (K43 : Int32 → Int32 → Int32 → Int32 → St → Option (Unit × St)) (x1 : Int32) (x2 : Int32) (x3 : Int32) (x4 : Int32) (y0 : Int32) (y1 : Int32) (σ : St) : Option (Unit × St) := gd (ib y1 100) (nx (sI σ 28 y1.toNatClampNeg y0) (fun s2 => nx (x3 + (4 : Int32)) (fun v3 => (fX8_tells_309 N K43 x1 x2 v3 x4 s2))))
set_option maxHeartbeats 4000000 in
set_option maxRecDepth 100000 in
theorem wX8_tells_305 (hC : Cx RX8 cX8_tells 8 none D cA p s m args meth c) {N : Nat} {K43 : Int32 → Int32 → Int32 → Int32 → St → Option (Unit × St)} {x1 : Int32} {x2 : Int32} {x3 : Int32} {x4 : Int32} {y0 : Int32} {y1 : Int32} {σ : St} {r : Unit} {σ' : St} (hK43 : ∀ (x1 : Int32) (x2 : Int32) (x3 : Int32) (x4 : Int32) (σ : St) (H : Heap) (locs : List Loc) (ls : Array Slot), K43 x1 x2 x3 x4 σ = some (r, σ') → Wd kdM 31 D cA ad s σ H locs → lv_has ls 8 [(0, .ref (ad 0)), (1, .int x1), (2, .int x2), (3, .int x3), (4, .int x4)] → W p l e rmX8_tells s m args below meth c H locs 0 0 (EndW kdM 31 D cA ad below args s none σ') (F0 m 43 ls [])) {H : Heap} {locs : List Loc} {ls : Array Slot} (hf : fX8_tells_305 N K43 x1 x2 x3 x4 y0 y1 σ = some (r, σ')) (hW : Wd kdM 31 D cA ad s σ H locs) (hl : lv_has ls 8 [(0, .ref (ad 0)), (1, .int x1), (2, .int x2), (3, .int x3), (4, .int x4)]) : W p l e rmX8_tells s m args below meth c H locs 0 0 (EndW kdM 31 D cA ad below args s none σ') (F0 m 305 ls [.int y0, .int y1, .ref (ad 28)]) := by
  have hx := hC.1
  have hb := hC.2.1
  have hown := hC.2.2.2.1
  have hts := hC.2.2.2.2.1
  unfold fX8_tells_305 at hf
  obtain ⟨h1, hf⟩ := gd_some hf
  refine Wd.iast hC hW 28 (by decide) rfl h1 dX8_tells_305 (fun H locs hW => ?_)
  obtain ⟨s2, es2, hf⟩ := nx_ex hf
  rw [← es2] at hW
  obtain ⟨v3, ev3⟩ : ∃ y : Int32, y = x3 + (4 : Int32) := ⟨_, rfl⟩
  have hf := nx_at ev3 hf
  refine lv_iinc (v := v3) (lv' := [(3, .int v3), (0, .ref (ad 0)), (1, .int x1), (2, .int x2), (4, .int x4)]) hx hb dX8_tells_306 hl (k := 3) rfl (by rw [ev3]; rfl) (by decide) rfl (fun ls hl => ?_)
  exact wX8_tells_309 hC hK43 hf hW (lv_sub hl [1, 2, 3, 0, 4] rfl)
def fX8_tells_266 (N : Nat) (K43 : Int32 → Int32 → Int32 → Int32 → St → Option (Unit × St)) (x1 : Int32) (x2 : Int32) (x3 : Int32) (x4 : Int32) (x6 : Int32) (x7 : Int32) (y0 : Int32) (y1 : Int32) (σ : St) : Option (Unit × St) := gd (ib y1 100) (nx (sI σ 28 y1.toNatClampNeg y0) (fun s2 => gd (ib (x3 + (2 : Int32)) 100) (nx (sI s2 28 (x3 + (2 : Int32)).toNatClampNeg (-1 : Int32)) (fun s4 => if x7 = 0 then gd (ib x6 76) ((fX8_tells_305 N K43 x1 x2 x3 x4 (s4.1 13 x6.toNatClampNeg) (x3 + (3 : Int32)) s4)) else gd (ib x6 76) ((fX8_tells_305 N K43 x1 x2 x3 x4 (s4.1 14 x6.toNatClampNeg) (x3 + (3 : Int32)) s4))))))
set_option maxHeartbeats 4000000 in
set_option maxRecDepth 100000 in
theorem wX8_tells_266 (hC : Cx RX8 cX8_tells 8 none D cA p s m args meth c) {N : Nat} {K43 : Int32 → Int32 → Int32 → Int32 → St → Option (Unit × St)} {x1 : Int32} {x2 : Int32} {x3 : Int32} {x4 : Int32} {x6 : Int32} {x7 : Int32} {y0 : Int32} {y1 : Int32} {σ : St} {r : Unit} {σ' : St} (hK43 : ∀ (x1 : Int32) (x2 : Int32) (x3 : Int32) (x4 : Int32) (σ : St) (H : Heap) (locs : List Loc) (ls : Array Slot), K43 x1 x2 x3 x4 σ = some (r, σ') → Wd kdM 31 D cA ad s σ H locs → lv_has ls 8 [(0, .ref (ad 0)), (1, .int x1), (2, .int x2), (3, .int x3), (4, .int x4)] → W p l e rmX8_tells s m args below meth c H locs 0 0 (EndW kdM 31 D cA ad below args s none σ') (F0 m 43 ls [])) {H : Heap} {locs : List Loc} {ls : Array Slot} (hf : fX8_tells_266 N K43 x1 x2 x3 x4 x6 x7 y0 y1 σ = some (r, σ')) (hW : Wd kdM 31 D cA ad s σ H locs) (hl : lv_has ls 8 [(0, .ref (ad 0)), (1, .int x1), (2, .int x2), (3, .int x3), (4, .int x4), (6, .int x6), (7, .int x7)]) : W p l e rmX8_tells s m args below meth c H locs 0 0 (EndW kdM 31 D cA ad below args s none σ') (F0 m 266 ls [.int y0, .int y1, .ref (ad 28)]) := by
  have hx := hC.1
  have hb := hC.2.1
  have hown := hC.2.2.2.1
  have hts := hC.2.2.2.2.1
  unfold fX8_tells_266 at hf
  obtain ⟨h1, hf⟩ := gd_some hf
  refine Wd.iast hC hW 28 (by decide) rfl h1 dX8_tells_266 (fun H locs hW => ?_)
  obtain ⟨s2, es2, hf⟩ := nx_ex hf
  rw [← es2] at hW
  refine lv_aload_n hx hb dX8_tells_267 rfl (lv_at hl 0 rfl) ?_
  refine gfX8_98 hC hW 0 (by decide) rfl (q := 28) rfl dX8_tells_268 ?_
  refine lv_iload_n hx hb dX8_tells_271 rfl (lv_at hl 3 rfl) ?_
  refine lv_iconst (v := 2) hx hb dX8_tells_272 (by decide) ?_
  refine lv_iadd hx hb dX8_tells_273 ?_
  refine lv_iconst (v := (-1)) hx hb dX8_tells_274 (by decide) ?_
  obtain ⟨h3, hf⟩ := gd_some hf
  refine Wd.iast hC hW 28 (by decide) rfl h3 dX8_tells_275 (fun H locs hW => ?_)
  obtain ⟨s4, es4, hf⟩ := nx_ex hf
  rw [← es4] at hW
  refine lv_aload_n hx hb dX8_tells_276 rfl (lv_at hl 0 rfl) ?_
  refine gfX8_98 hC hW 0 (by decide) rfl (q := 28) rfl dX8_tells_277 ?_
  refine lv_iload_n hx hb dX8_tells_280 rfl (lv_at hl 3 rfl) ?_
  refine lv_iconst (v := 3) hx hb dX8_tells_281 (by decide) ?_
  refine lv_iadd hx hb dX8_tells_282 ?_
  refine lv_iload hx hb dX8_tells_283 (lv_at hl 6 rfl) ?_
  refine lv_if_eq (tgt := 298) hx hb dX8_tells_285 (by decide) (fun h5 => ?_) (fun h5 => ?_)
  · have hf := it_t h5 hf
    refine lv_aload_n hx hb dX8_tells_298 rfl (lv_at hl 0 rfl) ?_
    refine gfX8_52 hC hW 0 (by decide) rfl (q := 13) rfl dX8_tells_299 ?_
    refine lv_iload hx hb dX8_tells_302 (lv_at hl 5 rfl) ?_
    obtain ⟨h6, hf⟩ := gd_some hf
    refine Wd.iald hC hW 13 (by decide) rfl h6 dX8_tells_304 ?_
    exact wX8_tells_305 hC hK43 hf hW (lv_sub hl [0, 1, 2, 3, 4] rfl)
  · have hf := it_f h5 hf
    refine lv_aload_n hx hb dX8_tells_288 rfl (lv_at hl 0 rfl) ?_
    refine gfX8_55 hC hW 0 (by decide) rfl (q := 14) rfl dX8_tells_289 ?_
    refine lv_iload hx hb dX8_tells_292 (lv_at hl 5 rfl) ?_
    obtain ⟨h7, hf⟩ := gd_some hf
    refine Wd.iald hC hW 14 (by decide) rfl h7 dX8_tells_294 ?_
    refine lv_goto (tgt := 305) hx hb dX8_tells_295 (by decide) ?_
    exact wX8_tells_305 hC hK43 hf hW (lv_sub hl [0, 1, 2, 3, 4] rfl)
def fX8_tells_216 (N : Nat) (K43 : Int32 → Int32 → Int32 → Int32 → St → Option (Unit × St)) (x1 : Int32) (x2 : Int32) (x3 : Int32) (x4 : Int32) (x5 : Int32) (x6 : Int32) (y0 : Int32) (σ : St) : Option (Unit × St) := bd (fX8_ink N (40 : Int32) σ) (fun r1 s2 => gd (ib x3 100) (nx (sI s2 28 x3.toNatClampNeg ((-2 : Int32) - (x5 - x2))) (fun s5 => if y0 = 0 then gd (ib x6 76) ((fX8_tells_266 N K43 x1 x2 x3 x4 x6 y0 (s5.1 14 x6.toNatClampNeg) (x3 + (1 : Int32)) s5)) else gd (ib x6 76) ((fX8_tells_266 N K43 x1 x2 x3 x4 x6 y0 (s5.1 13 x6.toNatClampNeg) (x3 + (1 : Int32)) s5)))))
set_option maxHeartbeats 4000000 in
set_option maxRecDepth 100000 in
theorem wX8_tells_216 (hC : Cx RX8 cX8_tells 8 none D cA p s m args meth c) {N : Nat} {K43 : Int32 → Int32 → Int32 → Int32 → St → Option (Unit × St)} {x1 : Int32} {x2 : Int32} {x3 : Int32} {x4 : Int32} {x5 : Int32} {x6 : Int32} {y0 : Int32} {σ : St} {r : Unit} {σ' : St} (hK43 : ∀ (x1 : Int32) (x2 : Int32) (x3 : Int32) (x4 : Int32) (σ : St) (H : Heap) (locs : List Loc) (ls : Array Slot), K43 x1 x2 x3 x4 σ = some (r, σ') → Wd kdM 31 D cA ad s σ H locs → lv_has ls 8 [(0, .ref (ad 0)), (1, .int x1), (2, .int x2), (3, .int x3), (4, .int x4)] → W p l e rmX8_tells s m args below meth c H locs 0 0 (EndW kdM 31 D cA ad below args s none σ') (F0 m 43 ls [])) {H : Heap} {locs : List Loc} {ls : Array Slot} (hf : fX8_tells_216 N K43 x1 x2 x3 x4 x5 x6 y0 σ = some (r, σ')) (hW : Wd kdM 31 D cA ad s σ H locs) (hl : lv_has ls 8 [(0, .ref (ad 0)), (1, .int x1), (2, .int x2), (3, .int x3), (4, .int x4), (5, .int x5), (6, .int x6)]) : W p l e rmX8_tells s m args below meth c H locs 0 0 (EndW kdM 31 D cA ad below args s none σ') (F0 m 216 ls [.int y0]) := by
  have hx := hC.1
  have hb := hC.2.1
  have hown := hC.2.2.2.1
  have hts := hC.2.2.2.2.1
  unfold fX8_tells_216 at hf
  refine lv_istore (lv' := [(7, .int y0), (0, .ref (ad 0)), (1, .int x1), (2, .int x2), (3, .int x3), (4, .int x4), (5, .int x5), (6, .int x6)]) hx hb dX8_tells_216 hl (by decide) rfl (fun ls hl => ?_)
  refine lv_aload_n hx hb dX8_tells_218 rfl (lv_at hl 1 rfl) ?_
  refine lv_bipush (v := 40) hx hb dX8_tells_219 (by decide) ?_
  obtain ⟨r1, s2, c3, hf⟩ := bd_some hf
  refine Wd.callV (n := 1) (As := [.int (40 : Int32)]) (rest := []) (rv := none) hC hW 0 (kX8_ink c3) (by decide) rfl rfl q815 q817 qs50 q8 q818 ⟨rfl, rfl⟩ ⟨by decide +kernel, by decide +kernel, by decide +kernel⟩ ⟨Nat.le_of_ble_eq_true rfl, Nat.le_of_ble_eq_true rfl⟩ ⟨Nat.zero_le _, Nat.zero_le _⟩ rfl hl.1 rfl (st2 := []) rfl (Nat.le_of_ble_eq_true rfl) dX8_tells_221 (fun H locs hW => ?_)
  refine lv_aload_n hx hb dX8_tells_224 rfl (lv_at hl 1 rfl) ?_
  refine gfX8_98 hC hW 0 (by decide) rfl (q := 28) rfl dX8_tells_225 ?_
  refine lv_iload_n hx hb dX8_tells_228 rfl (lv_at hl 4 rfl) ?_
  refine lv_bipush (v := (-2)) hx hb dX8_tells_229 (by decide) ?_
  refine lv_iload hx hb dX8_tells_231 (lv_at hl 6 rfl) ?_
  refine lv_iload_n hx hb dX8_tells_233 rfl (lv_at hl 3 rfl) ?_
  refine lv_isub hx hb dX8_tells_234 ?_
  refine lv_isub hx hb dX8_tells_235 ?_
  obtain ⟨h4, hf⟩ := gd_some hf
  refine Wd.iast hC hW 28 (by decide) rfl h4 dX8_tells_236 (fun H locs hW => ?_)
  obtain ⟨s5, es5, hf⟩ := nx_ex hf
  rw [← es5] at hW
  refine lv_aload_n hx hb dX8_tells_237 rfl (lv_at hl 1 rfl) ?_
  refine gfX8_98 hC hW 0 (by decide) rfl (q := 28) rfl dX8_tells_238 ?_
  refine lv_iload_n hx hb dX8_tells_241 rfl (lv_at hl 4 rfl) ?_
  refine lv_iconst (v := 1) hx hb dX8_tells_242 (by decide) ?_
  refine lv_iadd hx hb dX8_tells_243 ?_
  refine lv_iload hx hb dX8_tells_244 (lv_at hl 0 rfl) ?_
  refine lv_if_eq (tgt := 259) hx hb dX8_tells_246 (by decide) (fun h6 => ?_) (fun h6 => ?_)
  · have hf := it_t h6 hf
    refine lv_aload_n hx hb dX8_tells_259 rfl (lv_at hl 1 rfl) ?_
    refine gfX8_55 hC hW 0 (by decide) rfl (q := 14) rfl dX8_tells_260 ?_
    refine lv_iload hx hb dX8_tells_263 (lv_at hl 7 rfl) ?_
    obtain ⟨h7, hf⟩ := gd_some hf
    refine Wd.iald hC hW 14 (by decide) rfl h7 dX8_tells_265 ?_
    exact wX8_tells_266 hC hK43 hf hW (lv_sub hl [1, 2, 3, 4, 5, 7, 0] rfl)
  · have hf := it_f h6 hf
    refine lv_aload_n hx hb dX8_tells_249 rfl (lv_at hl 1 rfl) ?_
    refine gfX8_52 hC hW 0 (by decide) rfl (q := 13) rfl dX8_tells_250 ?_
    refine lv_iload hx hb dX8_tells_253 (lv_at hl 7 rfl) ?_
    obtain ⟨h8, hf⟩ := gd_some hf
    refine Wd.iald hC hW 13 (by decide) rfl h8 dX8_tells_255 ?_
    refine lv_goto (tgt := 266) hx hb dX8_tells_256 (by decide) ?_
    exact wX8_tells_266 hC hK43 hf hW (lv_sub hl [1, 2, 3, 4, 5, 7, 0] rfl)
def fX8_tells_142 (N : Nat) (K43 : Int32 → Int32 → Int32 → Int32 → St → Option (Unit × St)) (x1 : Int32) (x2 : Int32) (x3 : Int32) (x4 : Int32) (σ : St) : Option (Unit × St) := (fX8_tells_309 N K43 x1 x2 x3 x4 σ)
set_option maxHeartbeats 4000000 in
set_option maxRecDepth 100000 in
theorem wX8_tells_142 (hC : Cx RX8 cX8_tells 8 none D cA p s m args meth c) {N : Nat} {K43 : Int32 → Int32 → Int32 → Int32 → St → Option (Unit × St)} {x1 : Int32} {x2 : Int32} {x3 : Int32} {x4 : Int32} {σ : St} {r : Unit} {σ' : St} (hK43 : ∀ (x1 : Int32) (x2 : Int32) (x3 : Int32) (x4 : Int32) (σ : St) (H : Heap) (locs : List Loc) (ls : Array Slot), K43 x1 x2 x3 x4 σ = some (r, σ') → Wd kdM 31 D cA ad s σ H locs → lv_has ls 8 [(0, .ref (ad 0)), (1, .int x1), (2, .int x2), (3, .int x3), (4, .int x4)] → W p l e rmX8_tells s m args below meth c H locs 0 0 (EndW kdM 31 D cA ad below args s none σ') (F0 m 43 ls [])) {H : Heap} {locs : List Loc} {ls : Array Slot} (hf : fX8_tells_142 N K43 x1 x2 x3 x4 σ = some (r, σ')) (hW : Wd kdM 31 D cA ad s σ H locs) (hl : lv_has ls 8 [(0, .ref (ad 0)), (1, .int x1), (2, .int x2), (3, .int x3), (4, .int x4)]) : W p l e rmX8_tells s m args below meth c H locs 0 0 (EndW kdM 31 D cA ad below args s none σ') (F0 m 142 ls []) := by
  have hx := hC.1
  have hb := hC.2.1
  have hown := hC.2.2.2.1
  have hts := hC.2.2.2.2.1
  unfold fX8_tells_142 at hf
  refine lv_goto (tgt := 309) hx hb dX8_tells_142 (by decide) ?_
  exact wX8_tells_309 hC hK43 hf hW (lv_sub hl [0, 1, 2, 3, 4] rfl)
def fX8_tells_43 (N : Nat) : Nat → Int32 → Int32 → Int32 → Int32 → St → Option (Unit × St)
  | 0, _, _, _, _, _ => none
  | n + 1, x1, x2, x3, x4, σ => if x3 ≤ 0 then bd (fX8_ink N (59 : Int32) σ) (fun r2 s3 => some ((), s3)) else nx (x3 + (-1 : Int32)) (fun v5 => gd (ib v5 100) (nx (σ.1 28 v5.toNatClampNeg) (fun v7 => if v7 = (-1 : Int32) then bd (fX8_ink N (44 : Int32) σ) (fun r47 s48 => (fX8_tells_309 N (fX8_tells_43 N n) x1 x2 v5 x4 s48)) else if (-1 : Int32) ≤ v7 then if x2 ≤ v7 then nx ((((19 : Int32) * x1) + v7) - x2) (fun v11 => gd (ib v11 76) (bd (fX8_leastOf N x1 (σ.1 13 v11.toNatClampNeg) σ) (fun r13 s14 => gd (ib v11 76) (bd (fX8_leastOf N x1 (s14.1 14 v11.toNatClampNeg) s14) (fun r17 s18 => if r13 ≤ r17 then (fX8_tells_216 N (fX8_tells_43 N n) x1 x2 v5 x4 v7 v11 (0 : Int32) s18) else (fX8_tells_216 N (fX8_tells_43 N n) x1 x2 v5 x4 v7 v11 (1 : Int32) s18)))))) else bd (fX8_inkNumber N v7.toInt64 σ) (fun r21 s22 => gd (ib x4 20) (nx (sI s22 29 x4.toNatClampNeg v7) (fun s25 => nx (x4 + (1 : Int32)) (fun v26 => (fX8_tells_309 N (fX8_tells_43 N n) x1 x2 v5 v26 s25))))) else nx ((((19 : Int32) * x1) - v7) - (2 : Int32)) (fun v27 => bd (fX8_ink N (41 : Int32) σ) (fun r28 s29 => bd (fX8_ink N (58 : Int32) s29) (fun r31 s32 => gd (ib v27 76) (bd (fX8_inkNumber N (s32.2 16 v27.toNatClampNeg) s32) (fun r35 s36 => gd (ib v27 76) (if (lg_cmp (s36.2 17 v27.toNatClampNeg) (1 : Int64)) = 0 then (fX8_tells_142 N (fX8_tells_43 N n) x1 x2 v5 x4 s36) else bd (fX8_ink N (47 : Int32) s36) (fun r40 s41 => gd (ib v27 76) (bd (fX8_inkNumber N (s41.2 17 v27.toNatClampNeg) s41) (fun r44 s45 => (fX8_tells_142 N (fX8_tells_43 N n) x1 x2 v5 x4 s45)))))))))))))
set_option maxHeartbeats 4000000 in
set_option maxRecDepth 100000 in
theorem wX8_tells_43 (hC : Cx RX8 cX8_tells 8 none D cA p s m args meth c) {N : Nat} {r : Unit} {σ' : St} : ∀ (n : Nat) (x1 : Int32) (x2 : Int32) (x3 : Int32) (x4 : Int32) (σ : St) (H : Heap) (locs : List Loc) (ls : Array Slot), fX8_tells_43 N n x1 x2 x3 x4 σ = some (r, σ') → Wd kdM 31 D cA ad s σ H locs → lv_has ls 8 [(0, .ref (ad 0)), (1, .int x1), (2, .int x2), (3, .int x3), (4, .int x4)] → W p l e rmX8_tells s m args below meth c H locs 0 0 (EndW kdM 31 D cA ad below args s none σ') (F0 m 43 ls []) := by
  have hx := hC.1
  have hb := hC.2.1
  have hown := hC.2.2.2.1
  have hts := hC.2.2.2.2.1
  intro n
  induction n with
  | zero =>
    intro x1 x2 x3 x4 σ H locs ls hf
    rw [fX8_tells_43] at hf
    cases hf
  | succ n ih =>
    intro x1 x2 x3 x4 σ H locs ls hf hW hl
    rw [fX8_tells_43] at hf
    refine lv_iload_n hx hb dX8_tells_43 rfl (lv_at hl 3 rfl) ?_
    refine lv_if_le (tgt := 312) hx hb dX8_tells_44 (by decide) (fun h1 => ?_) (fun h1 => ?_)
    · have hf := it_t h1 hf
      refine lv_aload_n hx hb dX8_tells_312 rfl (lv_at hl 0 rfl) ?_
      refine lv_bipush (v := 59) hx hb dX8_tells_313 (by decide) ?_
      obtain ⟨r2, s3, c4, hf⟩ := bd_some hf
      refine Wd.callV (n := 1) (As := [.int (59 : Int32)]) (rest := []) (rv := none) hC hW 0 (kX8_ink c4) (by decide) rfl rfl q815 q817 qs50 q8 q818 ⟨rfl, rfl⟩ ⟨by decide +kernel, by decide +kernel, by decide +kernel⟩ ⟨Nat.le_of_ble_eq_true rfl, Nat.le_of_ble_eq_true rfl⟩ ⟨Nat.zero_le _, Nat.zero_le _⟩ rfl hl.1 rfl (st2 := []) rfl (Nat.le_of_ble_eq_true rfl) dX8_tells_315 (fun H locs hW => ?_)
      obtain ⟨-, rfl⟩ := sp hf
      exact Wd.vret hC hW dX8_tells_318
    · have hf := it_f h1 hf
      obtain ⟨v5, ev5⟩ : ∃ y : Int32, y = x3 + (-1 : Int32) := ⟨_, rfl⟩
      have hf := nx_at ev5 hf
      refine lv_iinc (v := v5) (lv' := [(3, .int v5), (0, .ref (ad 0)), (1, .int x1), (2, .int x2), (4, .int x4)]) hx hb dX8_tells_47 hl (k := 3) rfl (by rw [ev5]; rfl) (by decide) rfl (fun ls hl => ?_)
      refine lv_aload_n hx hb dX8_tells_50 rfl (lv_at hl 1 rfl) ?_
      refine gfX8_98 hC hW 0 (by decide) rfl (q := 28) rfl dX8_tells_51 ?_
      refine lv_iload_n hx hb dX8_tells_54 rfl (lv_at hl 0 rfl) ?_
      obtain ⟨h6, hf⟩ := gd_some hf
      refine Wd.iald hC hW 28 (by decide) rfl h6 dX8_tells_55 ?_
      refine lv_topi (fun v7 ev7 => ?_)
      have hf := nx_at ev7 hf
      refine lv_istore (lv' := [(5, .int v7), (3, .int v5), (0, .ref (ad 0)), (1, .int x1), (2, .int x2), (4, .int x4)]) hx hb dX8_tells_56 hl (by decide) rfl (fun ls hl => ?_)
      refine lv_iload hx hb dX8_tells_58 (lv_at hl 0 rfl) ?_
      refine lv_iconst (v := (-1)) hx hb dX8_tells_60 (by decide) ?_
      refine lv_icmp_ne (tgt := 73) hx hb dX8_tells_61 (by decide) (fun h8 => ?_) (fun h8 => ?_)
      · have hf := it_f h8 hf
        refine lv_iload hx hb dX8_tells_73 (lv_at hl 0 rfl) ?_
        refine lv_iconst (v := (-1)) hx hb dX8_tells_75 (by decide) ?_
        refine lv_icmp_ge (tgt := 145) hx hb dX8_tells_76 (by decide) (fun h9 => ?_) (fun h9 => ?_)
        · have hf := it_t h9 hf
          refine lv_iload hx hb dX8_tells_145 (lv_at hl 0 rfl) ?_
          refine lv_iload_n hx hb dX8_tells_147 rfl (lv_at hl 4 rfl) ?_
          refine lv_icmp_ge (tgt := 173) hx hb dX8_tells_148 (by decide) (fun h10 => ?_) (fun h10 => ?_)
          · have hf := it_t h10 hf
            refine lv_bipush (v := 19) hx hb dX8_tells_173 (by decide) ?_
            refine lv_iload_n hx hb dX8_tells_175 rfl (lv_at hl 3 rfl) ?_
            refine lv_imul hx hb dX8_tells_176 ?_
            refine lv_iload hx hb dX8_tells_177 (lv_at hl 0 rfl) ?_
            refine lv_iadd hx hb dX8_tells_179 ?_
            refine lv_iload_n hx hb dX8_tells_180 rfl (lv_at hl 4 rfl) ?_
            refine lv_isub hx hb dX8_tells_181 ?_
            refine lv_topi (fun v11 ev11 => ?_)
            have hf := nx_at ev11 hf
            refine lv_istore (lv' := [(6, .int v11), (5, .int v7), (3, .int v5), (0, .ref (ad 0)), (1, .int x1), (2, .int x2), (4, .int x4)]) hx hb dX8_tells_182 hl (by decide) rfl (fun ls hl => ?_)
            refine lv_aload_n hx hb dX8_tells_184 rfl (lv_at hl 3 rfl) ?_
            refine lv_iload_n hx hb dX8_tells_185 rfl (lv_at hl 4 rfl) ?_
            refine lv_aload_n hx hb dX8_tells_186 rfl (lv_at hl 3 rfl) ?_
            refine gfX8_52 hC hW 0 (by decide) rfl (q := 13) rfl dX8_tells_187 ?_
            refine lv_iload hx hb dX8_tells_190 (lv_at hl 0 rfl) ?_
            obtain ⟨h12, hf⟩ := gd_some hf
            refine Wd.iald hC hW 13 (by decide) rfl h12 dX8_tells_192 ?_
            obtain ⟨r13, s14, c15, hf⟩ := bd_some hf
            refine Wd.callV (n := 2) (As := [.int x1, .int (σ.1 13 v11.toNatClampNeg)]) (rest := []) (rv := some (.int r13)) hC hW 0 (kX8_leastOf c15) (by decide) rfl rfl q931 q933 qs66 q8 q934 ⟨rfl, rfl⟩ ⟨by decide +kernel, by decide +kernel, by decide +kernel⟩ ⟨Nat.le_of_ble_eq_true rfl, Nat.le_of_ble_eq_true rfl⟩ ⟨Nat.zero_le _, Nat.zero_le _⟩ rfl hl.1 rfl (st2 := [.int r13]) rfl (Nat.le_of_ble_eq_true rfl) dX8_tells_193 (fun H locs hW => ?_)
            refine lv_aload_n hx hb dX8_tells_196 rfl (lv_at hl 3 rfl) ?_
            refine lv_iload_n hx hb dX8_tells_197 rfl (lv_at hl 4 rfl) ?_
            refine lv_aload_n hx hb dX8_tells_198 rfl (lv_at hl 3 rfl) ?_
            refine gfX8_55 hC hW 0 (by decide) rfl (q := 14) rfl dX8_tells_199 ?_
            refine lv_iload hx hb dX8_tells_202 (lv_at hl 0 rfl) ?_
            obtain ⟨h16, hf⟩ := gd_some hf
            refine Wd.iald hC hW 14 (by decide) rfl h16 dX8_tells_204 ?_
            obtain ⟨r17, s18, c19, hf⟩ := bd_some hf
            refine Wd.callV (n := 2) (As := [.int x1, .int (s14.1 14 v11.toNatClampNeg)]) (rest := [.int r13]) (rv := some (.int r17)) hC hW 0 (kX8_leastOf c19) (by decide) rfl rfl q931 q933 qs66 q8 q934 ⟨rfl, rfl⟩ ⟨by decide +kernel, by decide +kernel, by decide +kernel⟩ ⟨Nat.le_of_ble_eq_true rfl, Nat.le_of_ble_eq_true rfl⟩ ⟨Nat.zero_le _, Nat.zero_le _⟩ rfl hl.1 rfl (st2 := [.int r17, .int r13]) rfl (Nat.le_of_ble_eq_true rfl) dX8_tells_205 (fun H locs hW => ?_)
            refine lv_icmp_le (tgt := 215) hx hb dX8_tells_208 (by decide) (fun h20 => ?_) (fun h20 => ?_)
            · have hf := it_t h20 hf
              refine lv_iconst (v := 0) hx hb dX8_tells_215 (by decide) ?_
              exact wX8_tells_216 hC ih hf hW (lv_sub hl [3, 4, 5, 2, 6, 1, 0] rfl)
            · have hf := it_f h20 hf
              refine lv_iconst (v := 1) hx hb dX8_tells_211 (by decide) ?_
              refine lv_goto (tgt := 216) hx hb dX8_tells_212 (by decide) ?_
              exact wX8_tells_216 hC ih hf hW (lv_sub hl [3, 4, 5, 2, 6, 1, 0] rfl)
          · have hf := it_f h10 hf
            refine lv_aload_n hx hb dX8_tells_151 rfl (lv_at hl 2 rfl) ?_
            refine lv_iload hx hb dX8_tells_152 (lv_at hl 0 rfl) ?_
            refine lv_i2l (v := v7.toInt64) hx hb dX8_tells_154 rfl ?_
            obtain ⟨r21, s22, c23, hf⟩ := bd_some hf
            refine Wd.callV (n := 1) (As := [.long v7.toInt64]) (rest := []) (rv := none) hC hW 0 (kX8_inkNumber c23) (by decide) rfl rfl q811 q813 qs49 q8 q814 ⟨rfl, rfl⟩ ⟨by decide +kernel, by decide +kernel, by decide +kernel⟩ ⟨Nat.le_of_ble_eq_true rfl, Nat.le_of_ble_eq_true rfl⟩ ⟨Nat.zero_le _, Nat.zero_le _⟩ rfl hl.1 rfl (st2 := []) rfl (Nat.le_of_ble_eq_true rfl) dX8_tells_155 (fun H locs hW => ?_)
            refine lv_aload_n hx hb dX8_tells_158 rfl (lv_at hl 2 rfl) ?_
            refine gfX8_101 hC hW 0 (by decide) rfl (q := 29) rfl dX8_tells_159 ?_
            refine lv_iload hx hb dX8_tells_162 (lv_at hl 5 rfl) ?_
            refine lv_iload hx hb dX8_tells_164 (lv_at hl 0 rfl) ?_
            obtain ⟨h24, hf⟩ := gd_some hf
            refine Wd.iast hC hW 29 (by decide) rfl h24 dX8_tells_166 (fun H locs hW => ?_)
            obtain ⟨s25, es25, hf⟩ := nx_ex hf
            rw [← es25] at hW
            obtain ⟨v26, ev26⟩ : ∃ y : Int32, y = x4 + (1 : Int32) := ⟨_, rfl⟩
            have hf := nx_at ev26 hf
            refine lv_iinc (v := v26) (lv' := [(4, .int v26), (5, .int v7), (3, .int v5), (0, .ref (ad 0)), (1, .int x1), (2, .int x2)]) hx hb dX8_tells_167 hl (k := 5) rfl (by rw [ev26]; rfl) (by decide) rfl (fun ls hl => ?_)
            refine lv_goto (tgt := 309) hx hb dX8_tells_170 (by decide) ?_
            exact wX8_tells_309 hC ih hf hW (lv_sub hl [3, 4, 5, 2, 0] rfl)
        · have hf := it_f h9 hf
          refine lv_bipush (v := 19) hx hb dX8_tells_79 (by decide) ?_
          refine lv_iload_n hx hb dX8_tells_81 rfl (lv_at hl 3 rfl) ?_
          refine lv_imul hx hb dX8_tells_82 ?_
          refine lv_iload hx hb dX8_tells_83 (lv_at hl 0 rfl) ?_
          refine lv_isub hx hb dX8_tells_85 ?_
          refine lv_iconst (v := 2) hx hb dX8_tells_86 (by decide) ?_
          refine lv_isub hx hb dX8_tells_87 ?_
          refine lv_topi (fun v27 ev27 => ?_)
          have hf := nx_at ev27 hf
          refine lv_istore (lv' := [(6, .int v27), (5, .int v7), (3, .int v5), (0, .ref (ad 0)), (1, .int x1), (2, .int x2), (4, .int x4)]) hx hb dX8_tells_88 hl (by decide) rfl (fun ls hl => ?_)
          refine lv_aload_n hx hb dX8_tells_90 rfl (lv_at hl 3 rfl) ?_
          refine lv_bipush (v := 41) hx hb dX8_tells_91 (by decide) ?_
          obtain ⟨r28, s29, c30, hf⟩ := bd_some hf
          refine Wd.callV (n := 1) (As := [.int (41 : Int32)]) (rest := []) (rv := none) hC hW 0 (kX8_ink c30) (by decide) rfl rfl q815 q817 qs50 q8 q818 ⟨rfl, rfl⟩ ⟨by decide +kernel, by decide +kernel, by decide +kernel⟩ ⟨Nat.le_of_ble_eq_true rfl, Nat.le_of_ble_eq_true rfl⟩ ⟨Nat.zero_le _, Nat.zero_le _⟩ rfl hl.1 rfl (st2 := []) rfl (Nat.le_of_ble_eq_true rfl) dX8_tells_93 (fun H locs hW => ?_)
          refine lv_aload_n hx hb dX8_tells_96 rfl (lv_at hl 3 rfl) ?_
          refine lv_bipush (v := 58) hx hb dX8_tells_97 (by decide) ?_
          obtain ⟨r31, s32, c33, hf⟩ := bd_some hf
          refine Wd.callV (n := 1) (As := [.int (58 : Int32)]) (rest := []) (rv := none) hC hW 0 (kX8_ink c33) (by decide) rfl rfl q815 q817 qs50 q8 q818 ⟨rfl, rfl⟩ ⟨by decide +kernel, by decide +kernel, by decide +kernel⟩ ⟨Nat.le_of_ble_eq_true rfl, Nat.le_of_ble_eq_true rfl⟩ ⟨Nat.zero_le _, Nat.zero_le _⟩ rfl hl.1 rfl (st2 := []) rfl (Nat.le_of_ble_eq_true rfl) dX8_tells_99 (fun H locs hW => ?_)
          refine lv_aload_n hx hb dX8_tells_102 rfl (lv_at hl 3 rfl) ?_
          refine lv_aload_n hx hb dX8_tells_103 rfl (lv_at hl 3 rfl) ?_
          refine gfX8_61 hC hW 0 (by decide) rfl (q := 16) rfl dX8_tells_104 ?_
          refine lv_iload hx hb dX8_tells_107 (lv_at hl 0 rfl) ?_
          obtain ⟨h34, hf⟩ := gd_some hf
          refine Wd.lald hC hW 16 (by decide) rfl h34 dX8_tells_109 ?_
          obtain ⟨r35, s36, c37, hf⟩ := bd_some hf
          refine Wd.callV (n := 1) (As := [.long (s32.2 16 v27.toNatClampNeg)]) (rest := []) (rv := none) hC hW 0 (kX8_inkNumber c37) (by decide) rfl rfl q811 q813 qs49 q8 q814 ⟨rfl, rfl⟩ ⟨by decide +kernel, by decide +kernel, by decide +kernel⟩ ⟨Nat.le_of_ble_eq_true rfl, Nat.le_of_ble_eq_true rfl⟩ ⟨Nat.zero_le _, Nat.zero_le _⟩ rfl hl.1 rfl (st2 := []) rfl (Nat.le_of_ble_eq_true rfl) dX8_tells_110 (fun H locs hW => ?_)
          refine lv_aload_n hx hb dX8_tells_113 rfl (lv_at hl 3 rfl) ?_
          refine gfX8_65 hC hW 0 (by decide) rfl (q := 17) rfl dX8_tells_114 ?_
          refine lv_iload hx hb dX8_tells_117 (lv_at hl 0 rfl) ?_
          obtain ⟨h38, hf⟩ := gd_some hf
          refine Wd.lald hC hW 17 (by decide) rfl h38 dX8_tells_119 ?_
          refine lv_lconst (v := 1) hx hb dX8_tells_120 (by decide) ?_
          refine W.lcmp hx hb dX8_tells_121 ?_
          refine lv_if_eq (tgt := 142) hx hb dX8_tells_122 (by decide) (fun h39 => ?_) (fun h39 => ?_)
          · have hf := it_t h39 hf
            exact wX8_tells_142 hC ih hf hW (lv_sub hl [3, 4, 5, 2, 6] rfl)
          · have hf := it_f h39 hf
            refine lv_aload_n hx hb dX8_tells_125 rfl (lv_at hl 3 rfl) ?_
            refine lv_bipush (v := 47) hx hb dX8_tells_126 (by decide) ?_
            obtain ⟨r40, s41, c42, hf⟩ := bd_some hf
            refine Wd.callV (n := 1) (As := [.int (47 : Int32)]) (rest := []) (rv := none) hC hW 0 (kX8_ink c42) (by decide) rfl rfl q815 q817 qs50 q8 q818 ⟨rfl, rfl⟩ ⟨by decide +kernel, by decide +kernel, by decide +kernel⟩ ⟨Nat.le_of_ble_eq_true rfl, Nat.le_of_ble_eq_true rfl⟩ ⟨Nat.zero_le _, Nat.zero_le _⟩ rfl hl.1 rfl (st2 := []) rfl (Nat.le_of_ble_eq_true rfl) dX8_tells_128 (fun H locs hW => ?_)
            refine lv_aload_n hx hb dX8_tells_131 rfl (lv_at hl 3 rfl) ?_
            refine lv_aload_n hx hb dX8_tells_132 rfl (lv_at hl 3 rfl) ?_
            refine gfX8_65 hC hW 0 (by decide) rfl (q := 17) rfl dX8_tells_133 ?_
            refine lv_iload hx hb dX8_tells_136 (lv_at hl 0 rfl) ?_
            obtain ⟨h43, hf⟩ := gd_some hf
            refine Wd.lald hC hW 17 (by decide) rfl h43 dX8_tells_138 ?_
            obtain ⟨r44, s45, c46, hf⟩ := bd_some hf
            refine Wd.callV (n := 1) (As := [.long (s41.2 17 v27.toNatClampNeg)]) (rest := []) (rv := none) hC hW 0 (kX8_inkNumber c46) (by decide) rfl rfl q811 q813 qs49 q8 q814 ⟨rfl, rfl⟩ ⟨by decide +kernel, by decide +kernel, by decide +kernel⟩ ⟨Nat.le_of_ble_eq_true rfl, Nat.le_of_ble_eq_true rfl⟩ ⟨Nat.zero_le _, Nat.zero_le _⟩ rfl hl.1 rfl (st2 := []) rfl (Nat.le_of_ble_eq_true rfl) dX8_tells_139 (fun H locs hW => ?_)
            exact wX8_tells_142 hC ih hf hW (lv_sub hl [3, 4, 5, 2, 6] rfl)
      · have hf := it_t h8 hf
        refine lv_aload_n hx hb dX8_tells_64 rfl (lv_at hl 2 rfl) ?_
        refine lv_bipush (v := 44) hx hb dX8_tells_65 (by decide) ?_
        obtain ⟨r47, s48, c49, hf⟩ := bd_some hf
        refine Wd.callV (n := 1) (As := [.int (44 : Int32)]) (rest := []) (rv := none) hC hW 0 (kX8_ink c49) (by decide) rfl rfl q815 q817 qs50 q8 q818 ⟨rfl, rfl⟩ ⟨by decide +kernel, by decide +kernel, by decide +kernel⟩ ⟨Nat.le_of_ble_eq_true rfl, Nat.le_of_ble_eq_true rfl⟩ ⟨Nat.zero_le _, Nat.zero_le _⟩ rfl hl.1 rfl (st2 := []) rfl (Nat.le_of_ble_eq_true rfl) dX8_tells_67 (fun H locs hW => ?_)
        refine lv_goto (tgt := 309) hx hb dX8_tells_70 (by decide) ?_
        exact wX8_tells_309 hC ih hf hW (lv_sub hl [2, 3, 4, 1, 5] rfl)
def fX8_tells_40 (N : Nat) (x1 : Int32) (x2 : Int32) (x4 : Int32) (y0 : Int32) (y1 : Int32) (σ : St) : Option (Unit × St) := gd (ib y1 100) (nx (sI σ 28 y1.toNatClampNeg y0) (fun s2 => (fX8_tells_43 N N x1 x2 (1 : Int32) x4 s2)))
set_option maxHeartbeats 4000000 in
set_option maxRecDepth 100000 in
theorem wX8_tells_40 (hC : Cx RX8 cX8_tells 8 none D cA p s m args meth c) {N : Nat} {x1 : Int32} {x2 : Int32} {x4 : Int32} {y0 : Int32} {y1 : Int32} {σ : St} {r : Unit} {σ' : St} {H : Heap} {locs : List Loc} {ls : Array Slot} (hf : fX8_tells_40 N x1 x2 x4 y0 y1 σ = some (r, σ')) (hW : Wd kdM 31 D cA ad s σ H locs) (hl : lv_has ls 8 [(0, .ref (ad 0)), (1, .int x1), (2, .int x2), (4, .int x4)]) : W p l e rmX8_tells s m args below meth c H locs 0 0 (EndW kdM 31 D cA ad below args s none σ') (F0 m 40 ls [.int y0, .int y1, .ref (ad 28)]) := by
  have hx := hC.1
  have hb := hC.2.1
  have hown := hC.2.2.2.1
  have hts := hC.2.2.2.2.1
  unfold fX8_tells_40 at hf
  obtain ⟨h1, hf⟩ := gd_some hf
  refine Wd.iast hC hW 28 (by decide) rfl h1 dX8_tells_40 (fun H locs hW => ?_)
  obtain ⟨s2, es2, hf⟩ := nx_ex hf
  rw [← es2] at hW
  refine lv_iconst (v := 1) hx hb dX8_tells_41 (by decide) ?_
  refine lv_istore_n (lv' := [(3, .int (1 : Int32)), (0, .ref (ad 0)), (1, .int x1), (2, .int x2), (4, .int x4)]) hx hb dX8_tells_42 rfl hl (by decide) rfl (fun ls hl => ?_)
  exact wX8_tells_43 hC N _ _ _ _ _ _ _ _ hf hW (lv_sub hl [1, 2, 3, 0, 4] rfl)
def fX8_tells (N : Nat) (x1 : Int32) (σ : St) : Option (Unit × St) := gd (ib x1 4) (nx (σ.1 9 x1.toNatClampNeg) (fun v2 => nx (sI σ 0 7 (0 : Int32)) (fun s3 => if v2 ≤ 0 then (fX8_tells_43 N N x1 v2 (0 : Int32) (0 : Int32) s3) else if v2 ≤ (1 : Int32) then (fX8_tells_40 N x1 v2 (0 : Int32) (0 : Int32) (0 : Int32) s3) else (fX8_tells_40 N x1 v2 (0 : Int32) (((2 : Int32) * v2) - (2 : Int32)) (0 : Int32) s3))))
set_option maxHeartbeats 4000000 in
set_option maxRecDepth 100000 in
theorem kX8_tells {l : Launch} {D : va_G} {cA : Nat → ClassId} {ad : Nat → Nat} {N : Nat} {x1 : Int32} {σ : St} {r : Unit} {σ' : St} (hf : fX8_tells N x1 σ = some (r, σ')) : MW kdM 31 l D cA ad ⟨RX8, "tells", "(I)V"⟩ cX8_tells 8 none rmX8_tells [.ref (ad 0), .int x1] σ none σ' := by
  refine MW.of (by decide) (Nat.le_of_ble_eq_true rfl) ?_
  intro p e s m args below meth c ls hC hW hl
  have hx := hC.1
  have hb := hC.2.1
  have hown := hC.2.2.2.1
  have hts := hC.2.2.2.2.1
  have hl : lv_has ls 8 [(0, .ref (ad 0)), (1, .int x1)] := hl
  unfold fX8_tells at hf
  refine lv_aload_n hx hb dX8_tells_0 rfl (lv_at hl 0 rfl) ?_
  refine gfX8_40 hC hW 0 (by decide) rfl (q := 9) rfl dX8_tells_1 ?_
  refine lv_iload_n hx hb dX8_tells_4 rfl (lv_at hl 1 rfl) ?_
  obtain ⟨h1, hf⟩ := gd_some hf
  refine Wd.iald hC hW 9 (by decide) rfl h1 dX8_tells_5 ?_
  refine lv_topi (fun v2 ev2 => ?_)
  have hf := nx_at ev2 hf
  refine lv_istore_n (lv' := [(2, .int v2), (0, .ref (ad 0)), (1, .int x1)]) hx hb dX8_tells_6 rfl hl (by decide) rfl (fun ls hl => ?_)
  refine lv_aload_n hx hb dX8_tells_7 rfl (lv_at hl 1 rfl) ?_
  refine lv_iconst (v := 0) hx hb dX8_tells_8 (by decide) ?_
  refine pgfX8_126 hC hW 0 (by decide) rfl rfl dX8_tells_9 (fun H locs hW => ?_)
  obtain ⟨s3, es3, hf⟩ := nx_ex hf
  rw [← es3] at hW
  refine lv_iconst (v := 0) hx hb dX8_tells_12 (by decide) ?_
  refine lv_istore_n (lv' := [(3, .int (0 : Int32)), (2, .int v2), (0, .ref (ad 0)), (1, .int x1)]) hx hb dX8_tells_13 rfl hl (by decide) rfl (fun ls hl => ?_)
  refine lv_iconst (v := 0) hx hb dX8_tells_14 (by decide) ?_
  refine lv_istore (lv' := [(4, .int (0 : Int32)), (3, .int (0 : Int32)), (2, .int v2), (0, .ref (ad 0)), (1, .int x1)]) hx hb dX8_tells_15 hl (by decide) rfl (fun ls hl => ?_)
  refine lv_iload_n hx hb dX8_tells_17 rfl (lv_at hl 2 rfl) ?_
  refine lv_if_le (tgt := 43) hx hb dX8_tells_18 (by decide) (fun h4 => ?_) (fun h4 => ?_)
  · have hf := it_t h4 hf
    exact wX8_tells_43 hC N _ _ _ _ _ _ _ _ hf hW (lv_sub hl [3, 4, 2, 1, 0] rfl)
  · have hf := it_f h4 hf
    refine lv_aload_n hx hb dX8_tells_21 rfl (lv_at hl 3 rfl) ?_
    refine gfX8_98 hC hW 0 (by decide) rfl (q := 28) rfl dX8_tells_22 ?_
    refine lv_iconst (v := 0) hx hb dX8_tells_25 (by decide) ?_
    refine lv_iload_n hx hb dX8_tells_26 rfl (lv_at hl 2 rfl) ?_
    refine lv_iconst (v := 1) hx hb dX8_tells_27 (by decide) ?_
    refine lv_icmp_le (tgt := 39) hx hb dX8_tells_28 (by decide) (fun h5 => ?_) (fun h5 => ?_)
    · have hf := it_t h5 hf
      refine lv_iconst (v := 0) hx hb dX8_tells_39 (by decide) ?_
      exact wX8_tells_40 hC hf hW (lv_sub hl [3, 4, 2, 0] rfl)
    · have hf := it_f h5 hf
      refine lv_iconst (v := 2) hx hb dX8_tells_31 (by decide) ?_
      refine lv_iload_n hx hb dX8_tells_32 rfl (lv_at hl 2 rfl) ?_
      refine lv_imul hx hb dX8_tells_33 ?_
      refine lv_iconst (v := 2) hx hb dX8_tells_34 (by decide) ?_
      refine lv_isub hx hb dX8_tells_35 ?_
      refine lv_goto (tgt := 40) hx hb dX8_tells_36 (by decide) ?_
      exact wX8_tells_40 hC hf hW (lv_sub hl [3, 4, 2, 0] rfl)
end
