/-! THE CONSTRUCTORS (printed by wip/whole/gen/ctor.py) -/
theorem hfX1 : ∀ j, j < 15 → defaultValue (tyX1 j) = vp_V [.int 0, .int 0, .int 0, .null, .null, .null, .int 0, .null, .null, .null, .null, .null, .null, .null, .int 0] j := by
  intro j hj
  match j, hj with
  | 0, _ => rfl
  | 1, _ => rfl
  | 2, _ => rfl
  | 3, _ => rfl
  | 4, _ => rfl
  | 5, _ => rfl
  | 6, _ => rfl
  | 7, _ => rfl
  | 8, _ => rfl
  | 9, _ => rfl
  | 10, _ => rfl
  | 11, _ => rfl
  | 12, _ => rfl
  | 13, _ => rfl
  | 14, _ => rfl
  | n + 15, h => exact absurd h (by omega)
abbrev rmX1_init : Room := { frames := 2, cells := 75, slots := 1480, locals := 40 }
abbrev S1 : Type := (Nat → Nat) × (Nat → Nat) × (Nat → Nat) × (Nat → Nat) × (Nat → Nat)
def po1 (cA : Nat → ClassId) (h0 : Nat) (r : S1) : va_W := (h0, .inr (1, [.int 0, .int 0, .int 0, .ref (r.1 0), .ref (r.1 1), .ref (r.1 2), .int 0, .ref (r.1 3), .ref (r.1 4), .ref (r.1 5), .ref (r.1 6), .ref (r.1 7), .ref (r.1 8), .ref (r.1 9), .int 0])) :: (po4 cA (r.1 0) r.2.1 ++ ([(r.1 1, .inl (cA 0, (19, .inl (fun _ => 0)))), (r.1 2, .inl (cA 0, (20, .inl (fun _ => 0)))), (r.1 3, .inl (cA 0, (20, .inl (fun _ => 0)))), (r.1 4, .inl (cA 0, (20, .inl (fun _ => 0)))), (r.1 5, .inl (cA 3, (20, .inr (.inl (fun _ => 0)))))] ++ (((r.1 6, .inl (cA 5, 20, .inr (.inr (.inr (.inr (rfs 20 r.2.2.1)))))) :: rws (cA 3) (20, .inr (.inl (fun _ => 0))) 20 r.2.2.1) ++ (((r.1 7, .inl (cA 5, 20, .inr (.inr (.inr (.inr (rfs 20 r.2.2.2.1)))))) :: rws (cA 3) (20, .inr (.inl (fun _ => 0))) 20 r.2.2.2.1) ++ (((r.1 8, .inl (cA 5, 20, .inr (.inr (.inr (.inr (rfs 20 r.2.2.2.2)))))) :: rws (cA 3) (20, .inr (.inl (fun _ => 0))) 20 r.2.2.2.2) ++ [(r.1 9, .inl (cA 0, (20, .inl (fun _ => 0))))])))))
set_option maxHeartbeats 4000000 in
set_option maxRecDepth 100000 in
theorem iX1 {l : Launch} {D : va_G} {cA : Nat → ClassId} {h0 sz : Nat} : MI l D cA ⟨RX1, "<init>", "()V"⟩ cX1_init 1 rmX1_init h0 1 [.int 0, .int 0, .int 0, .null, .null, .null, .int 0, .null, .null, .null, .null, .null, .null, .null, .int 0] sz (po1 cA h0) 75 1480 := by
  refine MI.of (by decide) (by decide) ?_
  intro p e s m args below meth c ls A hC hi hO hA hW hl
  have hx := hC.1
  have hb := hC.2.1
  have hl : lv_has ls 1 [(0, .ref h0)] := hl
  refine lv_aload_n hx hb dX1_init_0 rfl (lv_at hl 0 rfl) ?_
  refine Wi.obj' hC qc89 qc20 qc21 hl.1 dX1_init_1 (Nat.le_of_ble_eq_true rfl) (Nat.le_of_ble_eq_true rfl) ?_
  refine lv_aload_n hx hb dX1_init_4 rfl (lv_at hl 0 rfl) ?_
  refine Wi.newC hC hA hW inX4_g tyX4 tyX4_ok qc90 qc91 q6 (ci := 4) rfl [.int 0, .null, .null, .null, .null, .null] hfX4 (Nat.le_of_ble_eq_true rfl) (Nat.le_of_ble_eq_true rfl) dX1_init_5 (fun y0 H hW => ?_)
  refine lv_dup hx hb dX1_init_8 rfl ?_
  refine Wi.callNC hC hO hA (q := y0) (ci := 4) (fs := [.int 0, .null, .null, .null, .null, .null]) hW (iX4 (cA := cA) (h0 := y0)) qc92 qc93 q6 qc94 ⟨rfl, rfl⟩ ⟨by decide, by decide, by decide⟩ ⟨Nat.le_of_ble_eq_true rfl, Nat.le_of_ble_eq_true rfl⟩ ⟨Nat.le_of_ble_eq_true rfl, Nat.le_of_ble_eq_true rfl⟩ hl.1 (Nat.le_of_ble_eq_true rfl) dX1_init_9 (fun r0 H locs hW => ?_)
  refine Wi.putFS hC hi hW 3 (ty := (.object "DendroDesk$Steps")) inX1_g tyX1_ok nmX1 rfl (by decide) q137 rfl rfl (by decide +kernel) rfl rfl (Nat.le_of_ble_eq_true rfl) (fs' := [.int 0, .int 0, .int 0, .ref y0, .null, .null, .int 0, .null, .null, .null, .null, .null, .null, .null, .int 0]) rfl dX1_init_12 (fun H locs hW => ?_)
  refine lv_aload_n hx hb dX1_init_15 rfl (lv_at hl 0 rfl) ?_
  refine lv_bipush (v := 19) hx hb dX1_init_16 (by decide) ?_
  refine Wi.newaC hC hA hW 0 (ty := .int) rfl rfl qc49 (N' := 19) (19, .inl (fun _ => 0)) (fun _ => rfl) (by decide) (by decide) (by decide) (Nat.le_of_ble_eq_true rfl) (Nat.le_of_ble_eq_true rfl) dX1_init_18 (fun y1 H hW => ?_)
  refine Wi.putFS hC hi hW 4 (ty := (.array .int)) inX1_g tyX1_ok nmX1 rfl (by decide) q138 rfl rfl (by decide +kernel) rfl rfl (Nat.le_of_ble_eq_true rfl) (fs' := [.int 0, .int 0, .int 0, .ref y0, .ref y1, .null, .int 0, .null, .null, .null, .null, .null, .null, .null, .int 0]) rfl dX1_init_20 (fun H locs hW => ?_)
  refine lv_aload_n hx hb dX1_init_23 rfl (lv_at hl 0 rfl) ?_
  refine lv_bipush (v := 20) hx hb dX1_init_24 (by decide) ?_
  refine Wi.newaC hC hA hW 0 (ty := .int) rfl rfl qc49 (N' := 20) (20, .inl (fun _ => 0)) (fun _ => rfl) (by decide) (by decide) (by decide) (Nat.le_of_ble_eq_true rfl) (Nat.le_of_ble_eq_true rfl) dX1_init_26 (fun y2 H hW => ?_)
  refine Wi.putFS hC hi hW 5 (ty := (.array .int)) inX1_g tyX1_ok nmX1 rfl (by decide) q139 rfl rfl (by decide +kernel) rfl rfl (Nat.le_of_ble_eq_true rfl) (fs' := [.int 0, .int 0, .int 0, .ref y0, .ref y1, .ref y2, .int 0, .null, .null, .null, .null, .null, .null, .null, .int 0]) rfl dX1_init_28 (fun H locs hW => ?_)
  refine lv_aload_n hx hb dX1_init_31 rfl (lv_at hl 0 rfl) ?_
  refine lv_bipush (v := 20) hx hb dX1_init_32 (by decide) ?_
  refine Wi.newaC hC hA hW 0 (ty := .int) rfl rfl qc49 (N' := 20) (20, .inl (fun _ => 0)) (fun _ => rfl) (by decide) (by decide) (by decide) (Nat.le_of_ble_eq_true rfl) (Nat.le_of_ble_eq_true rfl) dX1_init_34 (fun y3 H hW => ?_)
  refine Wi.putFS hC hi hW 7 (ty := (.array .int)) inX1_g tyX1_ok nmX1 rfl (by decide) q141 rfl rfl (by decide +kernel) rfl rfl (Nat.le_of_ble_eq_true rfl) (fs' := [.int 0, .int 0, .int 0, .ref y0, .ref y1, .ref y2, .int 0, .ref y3, .null, .null, .null, .null, .null, .null, .int 0]) rfl dX1_init_36 (fun H locs hW => ?_)
  refine lv_aload_n hx hb dX1_init_39 rfl (lv_at hl 0 rfl) ?_
  refine lv_bipush (v := 20) hx hb dX1_init_40 (by decide) ?_
  refine Wi.newaC hC hA hW 0 (ty := .int) rfl rfl qc49 (N' := 20) (20, .inl (fun _ => 0)) (fun _ => rfl) (by decide) (by decide) (by decide) (Nat.le_of_ble_eq_true rfl) (Nat.le_of_ble_eq_true rfl) dX1_init_42 (fun y4 H hW => ?_)
  refine Wi.putFS hC hi hW 8 (ty := (.array .int)) inX1_g tyX1_ok nmX1 rfl (by decide) q142 rfl rfl (by decide +kernel) rfl rfl (Nat.le_of_ble_eq_true rfl) (fs' := [.int 0, .int 0, .int 0, .ref y0, .ref y1, .ref y2, .int 0, .ref y3, .ref y4, .null, .null, .null, .null, .null, .int 0]) rfl dX1_init_44 (fun H locs hW => ?_)
  refine lv_aload_n hx hb dX1_init_47 rfl (lv_at hl 0 rfl) ?_
  refine lv_bipush (v := 20) hx hb dX1_init_48 (by decide) ?_
  refine Wi.newaC hC hA hW 3 (ty := .long) rfl rfl qc131 (N' := 20) (20, .inr (.inl (fun _ => 0))) (fun _ => rfl) (by decide) (by decide) (by decide) (Nat.le_of_ble_eq_true rfl) (Nat.le_of_ble_eq_true rfl) dX1_init_50 (fun y5 H hW => ?_)
  refine Wi.putFS hC hi hW 9 (ty := (.array .long)) inX1_g tyX1_ok nmX1 rfl (by decide) q143 rfl rfl (by decide +kernel) rfl rfl (Nat.le_of_ble_eq_true rfl) (fs' := [.int 0, .int 0, .int 0, .ref y0, .ref y1, .ref y2, .int 0, .ref y3, .ref y4, .ref y5, .null, .null, .null, .null, .int 0]) rfl dX1_init_52 (fun H locs hW => ?_)
  refine lv_aload_n hx hb dX1_init_55 rfl (lv_at hl 0 rfl) ?_
  refine lv_bipush (v := 20) hx hb dX1_init_56 (by decide) ?_
  refine lv_bipush (v := 20) hx hb dX1_init_58 (by decide) ?_
  refine Wi.mnaC hC hA hW 5 3 (ty := .long) hO.2.1 rfl rfl qc132 qc131 (fun h => h) (N' := 20) (K' := 20) (20, .inr (.inl (fun _ => 0))) (by decide) (by decide) (by decide) (by decide) (by decide) (by decide) (by decide) rfl rfl (Nat.le_of_ble_eq_true rfl) (Nat.le_of_ble_eq_true rfl) (fun _ => rfl) dX1_init_60 (fun y6 w1 H hW => ?_)
  refine Wi.putFS hC hi hW 10 (ty := (.array (.array .long))) inX1_g tyX1_ok nmX1 rfl (by decide) q144 rfl rfl (by decide +kernel) rfl rfl (Nat.le_of_ble_eq_true rfl) (fs' := [.int 0, .int 0, .int 0, .ref y0, .ref y1, .ref y2, .int 0, .ref y3, .ref y4, .ref y5, .ref y6, .null, .null, .null, .int 0]) rfl dX1_init_64 (fun H locs hW => ?_)
  refine lv_aload_n hx hb dX1_init_67 rfl (lv_at hl 0 rfl) ?_
  refine lv_bipush (v := 20) hx hb dX1_init_68 (by decide) ?_
  refine lv_bipush (v := 20) hx hb dX1_init_70 (by decide) ?_
  refine Wi.mnaC hC hA hW 5 3 (ty := .long) hO.2.1 rfl rfl qc132 qc131 (fun h => h) (N' := 20) (K' := 20) (20, .inr (.inl (fun _ => 0))) (by decide) (by decide) (by decide) (by decide) (by decide) (by decide) (by decide) rfl rfl (Nat.le_of_ble_eq_true rfl) (Nat.le_of_ble_eq_true rfl) (fun _ => rfl) dX1_init_72 (fun y7 w2 H hW => ?_)
  refine Wi.putFS hC hi hW 11 (ty := (.array (.array .long))) inX1_g tyX1_ok nmX1 rfl (by decide) q145 rfl rfl (by decide +kernel) rfl rfl (Nat.le_of_ble_eq_true rfl) (fs' := [.int 0, .int 0, .int 0, .ref y0, .ref y1, .ref y2, .int 0, .ref y3, .ref y4, .ref y5, .ref y6, .ref y7, .null, .null, .int 0]) rfl dX1_init_76 (fun H locs hW => ?_)
  refine lv_aload_n hx hb dX1_init_79 rfl (lv_at hl 0 rfl) ?_
  refine lv_bipush (v := 20) hx hb dX1_init_80 (by decide) ?_
  refine lv_bipush (v := 20) hx hb dX1_init_82 (by decide) ?_
  refine Wi.mnaC hC hA hW 5 3 (ty := .long) hO.2.1 rfl rfl qc132 qc131 (fun h => h) (N' := 20) (K' := 20) (20, .inr (.inl (fun _ => 0))) (by decide) (by decide) (by decide) (by decide) (by decide) (by decide) (by decide) rfl rfl (Nat.le_of_ble_eq_true rfl) (Nat.le_of_ble_eq_true rfl) (fun _ => rfl) dX1_init_84 (fun y8 w3 H hW => ?_)
  refine Wi.putFS hC hi hW 12 (ty := (.array (.array .long))) inX1_g tyX1_ok nmX1 rfl (by decide) q146 rfl rfl (by decide +kernel) rfl rfl (Nat.le_of_ble_eq_true rfl) (fs' := [.int 0, .int 0, .int 0, .ref y0, .ref y1, .ref y2, .int 0, .ref y3, .ref y4, .ref y5, .ref y6, .ref y7, .ref y8, .null, .int 0]) rfl dX1_init_88 (fun H locs hW => ?_)
  refine lv_aload_n hx hb dX1_init_91 rfl (lv_at hl 0 rfl) ?_
  refine lv_bipush (v := 20) hx hb dX1_init_92 (by decide) ?_
  refine Wi.newaC hC hA hW 0 (ty := .int) rfl rfl qc49 (N' := 20) (20, .inl (fun _ => 0)) (fun _ => rfl) (by decide) (by decide) (by decide) (Nat.le_of_ble_eq_true rfl) (Nat.le_of_ble_eq_true rfl) dX1_init_94 (fun y9 H hW => ?_)
  refine Wi.putFS hC hi hW 13 (ty := (.array .int)) inX1_g tyX1_ok nmX1 rfl (by decide) q147 rfl rfl (by decide +kernel) rfl rfl (Nat.le_of_ble_eq_true rfl) (fs' := [.int 0, .int 0, .int 0, .ref y0, .ref y1, .ref y2, .int 0, .ref y3, .ref y4, .ref y5, .ref y6, .ref y7, .ref y8, .ref y9, .int 0]) rfl dX1_init_96 (fun H locs hW => ?_)
  exact Wi.ret hC (post := po1 cA h0) ((fun i => ([y0, y1, y2, y3, y4, y5, y6, y7, y8, y9] : List _).getD i 0), r0, w1, w2, w3) (show Wi D A s (po1 cA h0 ((fun i => ([y0, y1, y2, y3, y4, y5, y6, y7, y8, y9] : List _).getD i 0), r0, w1, w2, w3)) H _ from hW) (Nat.le_of_ble_eq_true rfl) (Nat.le_of_ble_eq_true rfl) dX1_init_99
