/-! THE CONSTRUCTORS (printed by wip/whole/gen/ctor.py) -/
theorem hfX8 : ∀ j, j < 39 → defaultValue (tyX8 j) = vp_V [.int 0, .null, .null, .null, .null, .null, .int 0, .int 0, .int 0, .null, .null, .int 0, .long 0, .long 0, .null, .null, .null, .null, .null, .null, .null, .null, .null, .null, .null, .null, .null, .null, .null, .null, .null, .int 0, .null, .int 0, .null, .null, .null, .null, .null] j := by
  intro j hj
  match j, hj with
  | 0, _ => rfl
  | 1, _ => rfl
  | 2, _ => rfl
  | 3, _ => rfl
  | 4, _ => rfl
  | 5, _ => rfl
  | 6, _ => rfl
  | 7, _ => rfl
  | 8, _ => rfl
  | 9, _ => rfl
  | 10, _ => rfl
  | 11, _ => rfl
  | 12, _ => rfl
  | 13, _ => rfl
  | 14, _ => rfl
  | 15, _ => rfl
  | 16, _ => rfl
  | 17, _ => rfl
  | 18, _ => rfl
  | 19, _ => rfl
  | 20, _ => rfl
  | 21, _ => rfl
  | 22, _ => rfl
  | 23, _ => rfl
  | 24, _ => rfl
  | 25, _ => rfl
  | 26, _ => rfl
  | 27, _ => rfl
  | 28, _ => rfl
  | 29, _ => rfl
  | 30, _ => rfl
  | 31, _ => rfl
  | 32, _ => rfl
  | 33, _ => rfl
  | 34, _ => rfl
  | 35, _ => rfl
  | 36, _ => rfl
  | 37, _ => rfl
  | 38, _ => rfl
  | n + 39, h => exact absurd h (by omega)
abbrev rmX8_init : Room := { frames := 1, cells := 30, slots := 8705, locals := 20 }
def po8 (cA : Nat → ClassId) (h0 : Nat) (r : Nat → Nat) : va_W := (h0, .inr (8, [.int 0, .ref (r 0), .ref (r 1), .ref (r 2), .ref (r 3), .ref (r 4), .int 0, .int 0, .int (-1), .ref (r 5), .ref (r 6), .int 0, .long 0, .long 0, .ref (r 7), .ref (r 8), .ref (r 9), .ref (r 10), .ref (r 11), .ref (r 12), .ref (r 13), .ref (r 14), .ref (r 15), .ref (r 16), .ref (r 17), .ref (r 18), .ref (r 19), .ref (r 20), .ref (r 21), .ref (r 22), .ref (r 23), .int 0, .ref (r 24), .int 0, .ref (r 25), .ref (r 26), .ref (r 27), .ref (r 28), .ref (r 29)])) :: [(r 0, .inl (cA 0, (400, .inl (fun _ => 0)))), (r 1, .inl (cA 0, (20, .inl (fun _ => 0)))), (r 2, .inl (cA 0, (20, .inl (fun _ => 0)))), (r 3, .inl (cA 1, (2400, .inl (fun _ => 0)))), (r 4, .inl (cA 1, (2400, .inl (fun _ => 0)))), (r 5, .inl (cA 0, (191, .inl (fun _ => 0)))), (r 6, .inl (cA 0, (19, .inl (fun _ => 0)))), (r 7, .inl (cA 2, (4, .inl (fun _ => 0)))), (r 8, .inl (cA 0, (4, .inl (fun _ => 0)))), (r 9, .inl (cA 0, (4, .inl (fun _ => 0)))), (r 10, .inl (cA 0, (4, .inl (fun _ => 0)))), (r 11, .inl (cA 0, (4, .inl (fun _ => 0)))), (r 12, .inl (cA 0, (76, .inl (fun _ => 0)))), (r 13, .inl (cA 0, (76, .inl (fun _ => 0)))), (r 14, .inl (cA 0, (76, .inl (fun _ => 0)))), (r 15, .inl (cA 3, (76, .inr (.inl (fun _ => 0))))), (r 16, .inl (cA 3, (76, .inr (.inl (fun _ => 0))))), (r 17, .inl (cA 0, (80, .inl (fun _ => 0)))), (r 18, .inl (cA 0, (40, .inl (fun _ => 0)))), (r 19, .inl (cA 2, (40, .inl (fun _ => 0)))), (r 20, .inl (cA 0, (19, .inl (fun _ => 0)))), (r 21, .inl (cA 0, (19, .inl (fun _ => 0)))), (r 22, .inl (cA 3, (19, .inr (.inl (fun _ => 0))))), (r 23, .inl (cA 3, (19, .inr (.inl (fun _ => 0))))), (r 24, .inl (cA 0, (40, .inl (fun _ => 0)))), (r 25, .inl (cA 0, (19, .inl (fun _ => 0)))), (r 26, .inl (cA 0, (40, .inl (fun _ => 0)))), (r 27, .inl (cA 0, (100, .inl (fun _ => 0)))), (r 28, .inl (cA 0, (20, .inl (fun _ => 0)))), (r 29, .inl (cA 1, (2400, .inl (fun _ => 0))))]
set_option maxHeartbeats 4000000 in
set_option maxRecDepth 100000 in
theorem iX8 {l : Launch} {D : va_G} {cA : Nat → ClassId} {h0 sz : Nat} : MI l D cA ⟨RX8, "<init>", "()V"⟩ cX8_init 1 rmX8_init h0 8 [.int 0, .null, .null, .null, .null, .null, .int 0, .int 0, .int 0, .null, .null, .int 0, .long 0, .long 0, .null, .null, .null, .null, .null, .null, .null, .null, .null, .null, .null, .null, .null, .null, .null, .null, .null, .int 0, .null, .int 0, .null, .null, .null, .null, .null] sz (po8 cA h0) 30 8705 := by
  refine MI.of (by decide) (by decide) ?_
  intro p e s m args below meth c ls A hC hi hO hA hW hl
  have hx := hC.1
  have hb := hC.2.1
  have hl : lv_has ls 1 [(0, .ref h0)] := hl
  refine lv_aload_n hx hb dX8_init_0 rfl (lv_at hl 0 rfl) ?_
  refine Wi.obj' hC qc634 qc20 qc21 hl.1 dX8_init_1 (Nat.le_of_ble_eq_true rfl) (Nat.le_of_ble_eq_true rfl) ?_
  refine lv_aload_n hx hb dX8_init_4 rfl (lv_at hl 0 rfl) ?_
  refine lv_sipush (v := 400) hx hb dX8_init_5 (by decide) ?_
  refine Wi.newaC hC hA hW 0 (ty := .int) rfl rfl qc49 (N' := 400) (400, .inl (fun _ => 0)) (fun _ => rfl) (by decide) (by decide) (by decide) (Nat.le_of_ble_eq_true rfl) (Nat.le_of_ble_eq_true rfl) dX8_init_8 (fun y0 H hW => ?_)
  refine Wi.putFS hC hi hW 1 (ty := (.array .int)) inX8_g tyX8_ok nmX8 rfl (by decide) q636 rfl rfl (by decide +kernel) rfl rfl (Nat.le_of_ble_eq_true rfl) (fs' := [.int 0, .ref y0, .null, .null, .null, .null, .int 0, .int 0, .int 0, .null, .null, .int 0, .long 0, .long 0, .null, .null, .null, .null, .null, .null, .null, .null, .null, .null, .null, .null, .null, .null, .null, .null, .null, .int 0, .null, .int 0, .null, .null, .null, .null, .null]) rfl dX8_init_10 (fun H locs hW => ?_)
  refine lv_aload_n hx hb dX8_init_13 rfl (lv_at hl 0 rfl) ?_
  refine lv_bipush (v := 20) hx hb dX8_init_14 (by decide) ?_
  refine Wi.newaC hC hA hW 0 (ty := .int) rfl rfl qc49 (N' := 20) (20, .inl (fun _ => 0)) (fun _ => rfl) (by decide) (by decide) (by decide) (Nat.le_of_ble_eq_true rfl) (Nat.le_of_ble_eq_true rfl) dX8_init_16 (fun y1 H hW => ?_)
  refine Wi.putFS hC hi hW 2 (ty := (.array .int)) inX8_g tyX8_ok nmX8 rfl (by decide) q637 rfl rfl (by decide +kernel) rfl rfl (Nat.le_of_ble_eq_true rfl) (fs' := [.int 0, .ref y0, .ref y1, .null, .null, .null, .int 0, .int 0, .int 0, .null, .null, .int 0, .long 0, .long 0, .null, .null, .null, .null, .null, .null, .null, .null, .null, .null, .null, .null, .null, .null, .null, .null, .null, .int 0, .null, .int 0, .null, .null, .null, .null, .null]) rfl dX8_init_18 (fun H locs hW => ?_)
  refine lv_aload_n hx hb dX8_init_21 rfl (lv_at hl 0 rfl) ?_
  refine lv_bipush (v := 20) hx hb dX8_init_22 (by decide) ?_
  refine Wi.newaC hC hA hW 0 (ty := .int) rfl rfl qc49 (N' := 20) (20, .inl (fun _ => 0)) (fun _ => rfl) (by decide) (by decide) (by decide) (Nat.le_of_ble_eq_true rfl) (Nat.le_of_ble_eq_true rfl) dX8_init_24 (fun y2 H hW => ?_)
  refine Wi.putFS hC hi hW 3 (ty := (.array .int)) inX8_g tyX8_ok nmX8 rfl (by decide) q638 rfl rfl (by decide +kernel) rfl rfl (Nat.le_of_ble_eq_true rfl) (fs' := [.int 0, .ref y0, .ref y1, .ref y2, .null, .null, .int 0, .int 0, .int 0, .null, .null, .int 0, .long 0, .long 0, .null, .null, .null, .null, .null, .null, .null, .null, .null, .null, .null, .null, .null, .null, .null, .null, .null, .int 0, .null, .int 0, .null, .null, .null, .null, .null]) rfl dX8_init_26 (fun H locs hW => ?_)
  refine lv_aload_n hx hb dX8_init_29 rfl (lv_at hl 0 rfl) ?_
  refine lv_sipush (v := 2400) hx hb dX8_init_30 (by decide) ?_
  refine Wi.newaC hC hA hW 1 (ty := .byte) rfl rfl qc65 (N' := 2400) (2400, .inl (fun _ => 0)) (fun _ => rfl) (by decide) (by decide) (by decide) (Nat.le_of_ble_eq_true rfl) (Nat.le_of_ble_eq_true rfl) dX8_init_33 (fun y3 H hW => ?_)
  refine Wi.putFS hC hi hW 4 (ty := (.array .byte)) inX8_g tyX8_ok nmX8 rfl (by decide) q639 rfl rfl (by decide +kernel) rfl rfl (Nat.le_of_ble_eq_true rfl) (fs' := [.int 0, .ref y0, .ref y1, .ref y2, .ref y3, .null, .int 0, .int 0, .int 0, .null, .null, .int 0, .long 0, .long 0, .null, .null, .null, .null, .null, .null, .null, .null, .null, .null, .null, .null, .null, .null, .null, .null, .null, .int 0, .null, .int 0, .null, .null, .null, .null, .null]) rfl dX8_init_35 (fun H locs hW => ?_)
  refine lv_aload_n hx hb dX8_init_38 rfl (lv_at hl 0 rfl) ?_
  refine lv_sipush (v := 2400) hx hb dX8_init_39 (by decide) ?_
  refine Wi.newaC hC hA hW 1 (ty := .byte) rfl rfl qc65 (N' := 2400) (2400, .inl (fun _ => 0)) (fun _ => rfl) (by decide) (by decide) (by decide) (Nat.le_of_ble_eq_true rfl) (Nat.le_of_ble_eq_true rfl) dX8_init_42 (fun y4 H hW => ?_)
  refine Wi.putFS hC hi hW 5 (ty := (.array .byte)) inX8_g tyX8_ok nmX8 rfl (by decide) q640 rfl rfl (by decide +kernel) rfl rfl (Nat.le_of_ble_eq_true rfl) (fs' := [.int 0, .ref y0, .ref y1, .ref y2, .ref y3, .ref y4, .int 0, .int 0, .int 0, .null, .null, .int 0, .long 0, .long 0, .null, .null, .null, .null, .null, .null, .null, .null, .null, .null, .null, .null, .null, .null, .null, .null, .null, .int 0, .null, .int 0, .null, .null, .null, .null, .null]) rfl dX8_init_44 (fun H locs hW => ?_)
  refine lv_aload_n hx hb dX8_init_47 rfl (lv_at hl 0 rfl) ?_
  refine lv_iconst (v := (-1)) hx hb dX8_init_48 (by decide) ?_
  refine Wi.putS hC hW 8 (ty := .int) inX8_g tyX8_ok nmX8 rfl (by decide) q643 rfl rfl (by decide +kernel) rfl rfl (Nat.le_of_ble_eq_true rfl) (fs' := [.int 0, .ref y0, .ref y1, .ref y2, .ref y3, .ref y4, .int 0, .int 0, .int (-1), .null, .null, .int 0, .long 0, .long 0, .null, .null, .null, .null, .null, .null, .null, .null, .null, .null, .null, .null, .null, .null, .null, .null, .null, .int 0, .null, .int 0, .null, .null, .null, .null, .null]) rfl dX8_init_49 (fun H locs hW => ?_)
  refine lv_aload_n hx hb dX8_init_52 rfl (lv_at hl 0 rfl) ?_
  refine lv_sipush (v := 191) hx hb dX8_init_53 (by decide) ?_
  refine Wi.newaC hC hA hW 0 (ty := .int) rfl rfl qc49 (N' := 191) (191, .inl (fun _ => 0)) (fun _ => rfl) (by decide) (by decide) (by decide) (Nat.le_of_ble_eq_true rfl) (Nat.le_of_ble_eq_true rfl) dX8_init_56 (fun y5 H hW => ?_)
  refine Wi.putFS hC hi hW 9 (ty := (.array .int)) inX8_g tyX8_ok nmX8 rfl (by decide) q644 rfl rfl (by decide +kernel) rfl rfl (Nat.le_of_ble_eq_true rfl) (fs' := [.int 0, .ref y0, .ref y1, .ref y2, .ref y3, .ref y4, .int 0, .int 0, .int (-1), .ref y5, .null, .int 0, .long 0, .long 0, .null, .null, .null, .null, .null, .null, .null, .null, .null, .null, .null, .null, .null, .null, .null, .null, .null, .int 0, .null, .int 0, .null, .null, .null, .null, .null]) rfl dX8_init_58 (fun H locs hW => ?_)
  refine lv_aload_n hx hb dX8_init_61 rfl (lv_at hl 0 rfl) ?_
  refine lv_bipush (v := 19) hx hb dX8_init_62 (by decide) ?_
  refine Wi.newaC hC hA hW 0 (ty := .int) rfl rfl qc49 (N' := 19) (19, .inl (fun _ => 0)) (fun _ => rfl) (by decide) (by decide) (by decide) (Nat.le_of_ble_eq_true rfl) (Nat.le_of_ble_eq_true rfl) dX8_init_64 (fun y6 H hW => ?_)
  refine Wi.putFS hC hi hW 10 (ty := (.array .int)) inX8_g tyX8_ok nmX8 rfl (by decide) q645 rfl rfl (by decide +kernel) rfl rfl (Nat.le_of_ble_eq_true rfl) (fs' := [.int 0, .ref y0, .ref y1, .ref y2, .ref y3, .ref y4, .int 0, .int 0, .int (-1), .ref y5, .ref y6, .int 0, .long 0, .long 0, .null, .null, .null, .null, .null, .null, .null, .null, .null, .null, .null, .null, .null, .null, .null, .null, .null, .int 0, .null, .int 0, .null, .null, .null, .null, .null]) rfl dX8_init_66 (fun H locs hW => ?_)
  refine lv_aload_n hx hb dX8_init_69 rfl (lv_at hl 0 rfl) ?_
  refine lv_iconst (v := 4) hx hb dX8_init_70 (by decide) ?_
  refine Wi.newaC hC hA hW 2 (ty := .boolean) rfl rfl qc753 (N' := 4) (4, .inl (fun _ => 0)) (fun _ => rfl) (by decide) (by decide) (by decide) (Nat.le_of_ble_eq_true rfl) (Nat.le_of_ble_eq_true rfl) dX8_init_71 (fun y7 H hW => ?_)
  refine Wi.putFS hC hi hW 14 (ty := (.array .boolean)) inX8_g tyX8_ok nmX8 rfl (by decide) q649 rfl rfl (by decide +kernel) rfl rfl (Nat.le_of_ble_eq_true rfl) (fs' := [.int 0, .ref y0, .ref y1, .ref y2, .ref y3, .ref y4, .int 0, .int 0, .int (-1), .ref y5, .ref y6, .int 0, .long 0, .long 0, .ref y7, .null, .null, .null, .null, .null, .null, .null, .null, .null, .null, .null, .null, .null, .null, .null, .null, .int 0, .null, .int 0, .null, .null, .null, .null, .null]) rfl dX8_init_73 (fun H locs hW => ?_)
  refine lv_aload_n hx hb dX8_init_76 rfl (lv_at hl 0 rfl) ?_
  refine lv_iconst (v := 4) hx hb dX8_init_77 (by decide) ?_
  refine Wi.newaC hC hA hW 0 (ty := .int) rfl rfl qc49 (N' := 4) (4, .inl (fun _ => 0)) (fun _ => rfl) (by decide) (by decide) (by decide) (Nat.le_of_ble_eq_true rfl) (Nat.le_of_ble_eq_true rfl) dX8_init_78 (fun y8 H hW => ?_)
  refine Wi.putFS hC hi hW 15 (ty := (.array .int)) inX8_g tyX8_ok nmX8 rfl (by decide) q650 rfl rfl (by decide +kernel) rfl rfl (Nat.le_of_ble_eq_true rfl) (fs' := [.int 0, .ref y0, .ref y1, .ref y2, .ref y3, .ref y4, .int 0, .int 0, .int (-1), .ref y5, .ref y6, .int 0, .long 0, .long 0, .ref y7, .ref y8, .null, .null, .null, .null, .null, .null, .null, .null, .null, .null, .null, .null, .null, .null, .null, .int 0, .null, .int 0, .null, .null, .null, .null, .null]) rfl dX8_init_80 (fun H locs hW => ?_)
  refine lv_aload_n hx hb dX8_init_83 rfl (lv_at hl 0 rfl) ?_
  refine lv_iconst (v := 4) hx hb dX8_init_84 (by decide) ?_
  refine Wi.newaC hC hA hW 0 (ty := .int) rfl rfl qc49 (N' := 4) (4, .inl (fun _ => 0)) (fun _ => rfl) (by decide) (by decide) (by decide) (Nat.le_of_ble_eq_true rfl) (Nat.le_of_ble_eq_true rfl) dX8_init_85 (fun y9 H hW => ?_)
  refine Wi.putFS hC hi hW 16 (ty := (.array .int)) inX8_g tyX8_ok nmX8 rfl (by decide) q651 rfl rfl (by decide +kernel) rfl rfl (Nat.le_of_ble_eq_true rfl) (fs' := [.int 0, .ref y0, .ref y1, .ref y2, .ref y3, .ref y4, .int 0, .int 0, .int (-1), .ref y5, .ref y6, .int 0, .long 0, .long 0, .ref y7, .ref y8, .ref y9, .null, .null, .null, .null, .null, .null, .null, .null, .null, .null, .null, .null, .null, .null, .int 0, .null, .int 0, .null, .null, .null, .null, .null]) rfl dX8_init_87 (fun H locs hW => ?_)
  refine lv_aload_n hx hb dX8_init_90 rfl (lv_at hl 0 rfl) ?_
  refine lv_iconst (v := 4) hx hb dX8_init_91 (by decide) ?_
  refine Wi.newaC hC hA hW 0 (ty := .int) rfl rfl qc49 (N' := 4) (4, .inl (fun _ => 0)) (fun _ => rfl) (by decide) (by decide) (by decide) (Nat.le_of_ble_eq_true rfl) (Nat.le_of_ble_eq_true rfl) dX8_init_92 (fun y10 H hW => ?_)
  refine Wi.putFS hC hi hW 17 (ty := (.array .int)) inX8_g tyX8_ok nmX8 rfl (by decide) q652 rfl rfl (by decide +kernel) rfl rfl (Nat.le_of_ble_eq_true rfl) (fs' := [.int 0, .ref y0, .ref y1, .ref y2, .ref y3, .ref y4, .int 0, .int 0, .int (-1), .ref y5, .ref y6, .int 0, .long 0, .long 0, .ref y7, .ref y8, .ref y9, .ref y10, .null, .null, .null, .null, .null, .null, .null, .null, .null, .null, .null, .null, .null, .int 0, .null, .int 0, .null, .null, .null, .null, .null]) rfl dX8_init_94 (fun H locs hW => ?_)
  refine lv_aload_n hx hb dX8_init_97 rfl (lv_at hl 0 rfl) ?_
  refine lv_iconst (v := 4) hx hb dX8_init_98 (by decide) ?_
  refine Wi.newaC hC hA hW 0 (ty := .int) rfl rfl qc49 (N' := 4) (4, .inl (fun _ => 0)) (fun _ => rfl) (by decide) (by decide) (by decide) (Nat.le_of_ble_eq_true rfl) (Nat.le_of_ble_eq_true rfl) dX8_init_99 (fun y11 H hW => ?_)
  refine Wi.putFS hC hi hW 18 (ty := (.array .int)) inX8_g tyX8_ok nmX8 rfl (by decide) q653 rfl rfl (by decide +kernel) rfl rfl (Nat.le_of_ble_eq_true rfl) (fs' := [.int 0, .ref y0, .ref y1, .ref y2, .ref y3, .ref y4, .int 0, .int 0, .int (-1), .ref y5, .ref y6, .int 0, .long 0, .long 0, .ref y7, .ref y8, .ref y9, .ref y10, .ref y11, .null, .null, .null, .null, .null, .null, .null, .null, .null, .null, .null, .null, .int 0, .null, .int 0, .null, .null, .null, .null, .null]) rfl dX8_init_101 (fun H locs hW => ?_)
  refine lv_aload_n hx hb dX8_init_104 rfl (lv_at hl 0 rfl) ?_
  refine lv_bipush (v := 76) hx hb dX8_init_105 (by decide) ?_
  refine Wi.newaC hC hA hW 0 (ty := .int) rfl rfl qc49 (N' := 76) (76, .inl (fun _ => 0)) (fun _ => rfl) (by decide) (by decide) (by decide) (Nat.le_of_ble_eq_true rfl) (Nat.le_of_ble_eq_true rfl) dX8_init_107 (fun y12 H hW => ?_)
  refine Wi.putFS hC hi hW 19 (ty := (.array .int)) inX8_g tyX8_ok nmX8 rfl (by decide) q654 rfl rfl (by decide +kernel) rfl rfl (Nat.le_of_ble_eq_true rfl) (fs' := [.int 0, .ref y0, .ref y1, .ref y2, .ref y3, .ref y4, .int 0, .int 0, .int (-1), .ref y5, .ref y6, .int 0, .long 0, .long 0, .ref y7, .ref y8, .ref y9, .ref y10, .ref y11, .ref y12, .null, .null, .null, .null, .null, .null, .null, .null, .null, .null, .null, .int 0, .null, .int 0, .null, .null, .null, .null, .null]) rfl dX8_init_109 (fun H locs hW => ?_)
  refine lv_aload_n hx hb dX8_init_112 rfl (lv_at hl 0 rfl) ?_
  refine lv_bipush (v := 76) hx hb dX8_init_113 (by decide) ?_
  refine Wi.newaC hC hA hW 0 (ty := .int) rfl rfl qc49 (N' := 76) (76, .inl (fun _ => 0)) (fun _ => rfl) (by decide) (by decide) (by decide) (Nat.le_of_ble_eq_true rfl) (Nat.le_of_ble_eq_true rfl) dX8_init_115 (fun y13 H hW => ?_)
  refine Wi.putFS hC hi hW 20 (ty := (.array .int)) inX8_g tyX8_ok nmX8 rfl (by decide) q655 rfl rfl (by decide +kernel) rfl rfl (Nat.le_of_ble_eq_true rfl) (fs' := [.int 0, .ref y0, .ref y1, .ref y2, .ref y3, .ref y4, .int 0, .int 0, .int (-1), .ref y5, .ref y6, .int 0, .long 0, .long 0, .ref y7, .ref y8, .ref y9, .ref y10, .ref y11, .ref y12, .ref y13, .null, .null, .null, .null, .null, .null, .null, .null, .null, .null, .int 0, .null, .int 0, .null, .null, .null, .null, .null]) rfl dX8_init_117 (fun H locs hW => ?_)
  refine lv_aload_n hx hb dX8_init_120 rfl (lv_at hl 0 rfl) ?_
  refine lv_bipush (v := 76) hx hb dX8_init_121 (by decide) ?_
  refine Wi.newaC hC hA hW 0 (ty := .int) rfl rfl qc49 (N' := 76) (76, .inl (fun _ => 0)) (fun _ => rfl) (by decide) (by decide) (by decide) (Nat.le_of_ble_eq_true rfl) (Nat.le_of_ble_eq_true rfl) dX8_init_123 (fun y14 H hW => ?_)
  refine Wi.putFS hC hi hW 21 (ty := (.array .int)) inX8_g tyX8_ok nmX8 rfl (by decide) q656 rfl rfl (by decide +kernel) rfl rfl (Nat.le_of_ble_eq_true rfl) (fs' := [.int 0, .ref y0, .ref y1, .ref y2, .ref y3, .ref y4, .int 0, .int 0, .int (-1), .ref y5, .ref y6, .int 0, .long 0, .long 0, .ref y7, .ref y8, .ref y9, .ref y10, .ref y11, .ref y12, .ref y13, .ref y14, .null, .null, .null, .null, .null, .null, .null, .null, .null, .int 0, .null, .int 0, .null, .null, .null, .null, .null]) rfl dX8_init_125 (fun H locs hW => ?_)
  refine lv_aload_n hx hb dX8_init_128 rfl (lv_at hl 0 rfl) ?_
  refine lv_bipush (v := 76) hx hb dX8_init_129 (by decide) ?_
  refine Wi.newaC hC hA hW 3 (ty := .long) rfl rfl qc131 (N' := 76) (76, .inr (.inl (fun _ => 0))) (fun _ => rfl) (by decide) (by decide) (by decide) (Nat.le_of_ble_eq_true rfl) (Nat.le_of_ble_eq_true rfl) dX8_init_131 (fun y15 H hW => ?_)
  refine Wi.putFS hC hi hW 22 (ty := (.array .long)) inX8_g tyX8_ok nmX8 rfl (by decide) q657 rfl rfl (by decide +kernel) rfl rfl (Nat.le_of_ble_eq_true rfl) (fs' := [.int 0, .ref y0, .ref y1, .ref y2, .ref y3, .ref y4, .int 0, .int 0, .int (-1), .ref y5, .ref y6, .int 0, .long 0, .long 0, .ref y7, .ref y8, .ref y9, .ref y10, .ref y11, .ref y12, .ref y13, .ref y14, .ref y15, .null, .null, .null, .null, .null, .null, .null, .null, .int 0, .null, .int 0, .null, .null, .null, .null, .null]) rfl dX8_init_133 (fun H locs hW => ?_)
  refine lv_aload_n hx hb dX8_init_136 rfl (lv_at hl 0 rfl) ?_
  refine lv_bipush (v := 76) hx hb dX8_init_137 (by decide) ?_
  refine Wi.newaC hC hA hW 3 (ty := .long) rfl rfl qc131 (N' := 76) (76, .inr (.inl (fun _ => 0))) (fun _ => rfl) (by decide) (by decide) (by decide) (Nat.le_of_ble_eq_true rfl) (Nat.le_of_ble_eq_true rfl) dX8_init_139 (fun y16 H hW => ?_)
  refine Wi.putFS hC hi hW 23 (ty := (.array .long)) inX8_g tyX8_ok nmX8 rfl (by decide) q658 rfl rfl (by decide +kernel) rfl rfl (Nat.le_of_ble_eq_true rfl) (fs' := [.int 0, .ref y0, .ref y1, .ref y2, .ref y3, .ref y4, .int 0, .int 0, .int (-1), .ref y5, .ref y6, .int 0, .long 0, .long 0, .ref y7, .ref y8, .ref y9, .ref y10, .ref y11, .ref y12, .ref y13, .ref y14, .ref y15, .ref y16, .null, .null, .null, .null, .null, .null, .null, .int 0, .null, .int 0, .null, .null, .null, .null, .null]) rfl dX8_init_141 (fun H locs hW => ?_)
  refine lv_aload_n hx hb dX8_init_144 rfl (lv_at hl 0 rfl) ?_
  refine lv_bipush (v := 80) hx hb dX8_init_145 (by decide) ?_
  refine Wi.newaC hC hA hW 0 (ty := .int) rfl rfl qc49 (N' := 80) (80, .inl (fun _ => 0)) (fun _ => rfl) (by decide) (by decide) (by decide) (Nat.le_of_ble_eq_true rfl) (Nat.le_of_ble_eq_true rfl) dX8_init_147 (fun y17 H hW => ?_)
  refine Wi.putFS hC hi hW 24 (ty := (.array .int)) inX8_g tyX8_ok nmX8 rfl (by decide) q659 rfl rfl (by decide +kernel) rfl rfl (Nat.le_of_ble_eq_true rfl) (fs' := [.int 0, .ref y0, .ref y1, .ref y2, .ref y3, .ref y4, .int 0, .int 0, .int (-1), .ref y5, .ref y6, .int 0, .long 0, .long 0, .ref y7, .ref y8, .ref y9, .ref y10, .ref y11, .ref y12, .ref y13, .ref y14, .ref y15, .ref y16, .ref y17, .null, .null, .null, .null, .null, .null, .int 0, .null, .int 0, .null, .null, .null, .null, .null]) rfl dX8_init_149 (fun H locs hW => ?_)
  refine lv_aload_n hx hb dX8_init_152 rfl (lv_at hl 0 rfl) ?_
  refine lv_bipush (v := 40) hx hb dX8_init_153 (by decide) ?_
  refine Wi.newaC hC hA hW 0 (ty := .int) rfl rfl qc49 (N' := 40) (40, .inl (fun _ => 0)) (fun _ => rfl) (by decide) (by decide) (by decide) (Nat.le_of_ble_eq_true rfl) (Nat.le_of_ble_eq_true rfl) dX8_init_155 (fun y18 H hW => ?_)
  refine Wi.putFS hC hi hW 25 (ty := (.array .int)) inX8_g tyX8_ok nmX8 rfl (by decide) q660 rfl rfl (by decide +kernel) rfl rfl (Nat.le_of_ble_eq_true rfl) (fs' := [.int 0, .ref y0, .ref y1, .ref y2, .ref y3, .ref y4, .int 0, .int 0, .int (-1), .ref y5, .ref y6, .int 0, .long 0, .long 0, .ref y7, .ref y8, .ref y9, .ref y10, .ref y11, .ref y12, .ref y13, .ref y14, .ref y15, .ref y16, .ref y17, .ref y18, .null, .null, .null, .null, .null, .int 0, .null, .int 0, .null, .null, .null, .null, .null]) rfl dX8_init_157 (fun H locs hW => ?_)
  refine lv_aload_n hx hb dX8_init_160 rfl (lv_at hl 0 rfl) ?_
  refine lv_bipush (v := 40) hx hb dX8_init_161 (by decide) ?_
  refine Wi.newaC hC hA hW 2 (ty := .boolean) rfl rfl qc753 (N' := 40) (40, .inl (fun _ => 0)) (fun _ => rfl) (by decide) (by decide) (by decide) (Nat.le_of_ble_eq_true rfl) (Nat.le_of_ble_eq_true rfl) dX8_init_163 (fun y19 H hW => ?_)
  refine Wi.putFS hC hi hW 26 (ty := (.array .boolean)) inX8_g tyX8_ok nmX8 rfl (by decide) q661 rfl rfl (by decide +kernel) rfl rfl (Nat.le_of_ble_eq_true rfl) (fs' := [.int 0, .ref y0, .ref y1, .ref y2, .ref y3, .ref y4, .int 0, .int 0, .int (-1), .ref y5, .ref y6, .int 0, .long 0, .long 0, .ref y7, .ref y8, .ref y9, .ref y10, .ref y11, .ref y12, .ref y13, .ref y14, .ref y15, .ref y16, .ref y17, .ref y18, .ref y19, .null, .null, .null, .null, .int 0, .null, .int 0, .null, .null, .null, .null, .null]) rfl dX8_init_165 (fun H locs hW => ?_)
  refine lv_aload_n hx hb dX8_init_168 rfl (lv_at hl 0 rfl) ?_
  refine lv_bipush (v := 19) hx hb dX8_init_169 (by decide) ?_
  refine Wi.newaC hC hA hW 0 (ty := .int) rfl rfl qc49 (N' := 19) (19, .inl (fun _ => 0)) (fun _ => rfl) (by decide) (by decide) (by decide) (Nat.le_of_ble_eq_true rfl) (Nat.le_of_ble_eq_true rfl) dX8_init_171 (fun y20 H hW => ?_)
  refine Wi.putFS hC hi hW 27 (ty := (.array .int)) inX8_g tyX8_ok nmX8 rfl (by decide) q662 rfl rfl (by decide +kernel) rfl rfl (Nat.le_of_ble_eq_true rfl) (fs' := [.int 0, .ref y0, .ref y1, .ref y2, .ref y3, .ref y4, .int 0, .int 0, .int (-1), .ref y5, .ref y6, .int 0, .long 0, .long 0, .ref y7, .ref y8, .ref y9, .ref y10, .ref y11, .ref y12, .ref y13, .ref y14, .ref y15, .ref y16, .ref y17, .ref y18, .ref y19, .ref y20, .null, .null, .null, .int 0, .null, .int 0, .null, .null, .null, .null, .null]) rfl dX8_init_173 (fun H locs hW => ?_)
  refine lv_aload_n hx hb dX8_init_176 rfl (lv_at hl 0 rfl) ?_
  refine lv_bipush (v := 19) hx hb dX8_init_177 (by decide) ?_
  refine Wi.newaC hC hA hW 0 (ty := .int) rfl rfl qc49 (N' := 19) (19, .inl (fun _ => 0)) (fun _ => rfl) (by decide) (by decide) (by decide) (Nat.le_of_ble_eq_true rfl) (Nat.le_of_ble_eq_true rfl) dX8_init_179 (fun y21 H hW => ?_)
  refine Wi.putFS hC hi hW 28 (ty := (.array .int)) inX8_g tyX8_ok nmX8 rfl (by decide) q663 rfl rfl (by decide +kernel) rfl rfl (Nat.le_of_ble_eq_true rfl) (fs' := [.int 0, .ref y0, .ref y1, .ref y2, .ref y3, .ref y4, .int 0, .int 0, .int (-1), .ref y5, .ref y6, .int 0, .long 0, .long 0, .ref y7, .ref y8, .ref y9, .ref y10, .ref y11, .ref y12, .ref y13, .ref y14, .ref y15, .ref y16, .ref y17, .ref y18, .ref y19, .ref y20, .ref y21, .null, .null, .int 0, .null, .int 0, .null, .null, .null, .null, .null]) rfl dX8_init_181 (fun H locs hW => ?_)
  refine lv_aload_n hx hb dX8_init_184 rfl (lv_at hl 0 rfl) ?_
  refine lv_bipush (v := 19) hx hb dX8_init_185 (by decide) ?_
  refine Wi.newaC hC hA hW 3 (ty := .long) rfl rfl qc131 (N' := 19) (19, .inr (.inl (fun _ => 0))) (fun _ => rfl) (by decide) (by decide) (by decide) (Nat.le_of_ble_eq_true rfl) (Nat.le_of_ble_eq_true rfl) dX8_init_187 (fun y22 H hW => ?_)
  refine Wi.putFS hC hi hW 29 (ty := (.array .long)) inX8_g tyX8_ok nmX8 rfl (by decide) q664 rfl rfl (by decide +kernel) rfl rfl (Nat.le_of_ble_eq_true rfl) (fs' := [.int 0, .ref y0, .ref y1, .ref y2, .ref y3, .ref y4, .int 0, .int 0, .int (-1), .ref y5, .ref y6, .int 0, .long 0, .long 0, .ref y7, .ref y8, .ref y9, .ref y10, .ref y11, .ref y12, .ref y13, .ref y14, .ref y15, .ref y16, .ref y17, .ref y18, .ref y19, .ref y20, .ref y21, .ref y22, .null, .int 0, .null, .int 0, .null, .null, .null, .null, .null]) rfl dX8_init_189 (fun H locs hW => ?_)
  refine lv_aload_n hx hb dX8_init_192 rfl (lv_at hl 0 rfl) ?_
  refine lv_bipush (v := 19) hx hb dX8_init_193 (by decide) ?_
  refine Wi.newaC hC hA hW 3 (ty := .long) rfl rfl qc131 (N' := 19) (19, .inr (.inl (fun _ => 0))) (fun _ => rfl) (by decide) (by decide) (by decide) (Nat.le_of_ble_eq_true rfl) (Nat.le_of_ble_eq_true rfl) dX8_init_195 (fun y23 H hW => ?_)
  refine Wi.putFS hC hi hW 30 (ty := (.array .long)) inX8_g tyX8_ok nmX8 rfl (by decide) q665 rfl rfl (by decide +kernel) rfl rfl (Nat.le_of_ble_eq_true rfl) (fs' := [.int 0, .ref y0, .ref y1, .ref y2, .ref y3, .ref y4, .int 0, .int 0, .int (-1), .ref y5, .ref y6, .int 0, .long 0, .long 0, .ref y7, .ref y8, .ref y9, .ref y10, .ref y11, .ref y12, .ref y13, .ref y14, .ref y15, .ref y16, .ref y17, .ref y18, .ref y19, .ref y20, .ref y21, .ref y22, .ref y23, .int 0, .null, .int 0, .null, .null, .null, .null, .null]) rfl dX8_init_197 (fun H locs hW => ?_)
  refine lv_aload_n hx hb dX8_init_200 rfl (lv_at hl 0 rfl) ?_
  refine lv_bipush (v := 40) hx hb dX8_init_201 (by decide) ?_
  refine Wi.newaC hC hA hW 0 (ty := .int) rfl rfl qc49 (N' := 40) (40, .inl (fun _ => 0)) (fun _ => rfl) (by decide) (by decide) (by decide) (Nat.le_of_ble_eq_true rfl) (Nat.le_of_ble_eq_true rfl) dX8_init_203 (fun y24 H hW => ?_)
  refine Wi.putFS hC hi hW 32 (ty := (.array .int)) inX8_g tyX8_ok nmX8 rfl (by decide) q667 rfl rfl (by decide +kernel) rfl rfl (Nat.le_of_ble_eq_true rfl) (fs' := [.int 0, .ref y0, .ref y1, .ref y2, .ref y3, .ref y4, .int 0, .int 0, .int (-1), .ref y5, .ref y6, .int 0, .long 0, .long 0, .ref y7, .ref y8, .ref y9, .ref y10, .ref y11, .ref y12, .ref y13, .ref y14, .ref y15, .ref y16, .ref y17, .ref y18, .ref y19, .ref y20, .ref y21, .ref y22, .ref y23, .int 0, .ref y24, .int 0, .null, .null, .null, .null, .null]) rfl dX8_init_205 (fun H locs hW => ?_)
  refine lv_aload_n hx hb dX8_init_208 rfl (lv_at hl 0 rfl) ?_
  refine lv_bipush (v := 19) hx hb dX8_init_209 (by decide) ?_
  refine Wi.newaC hC hA hW 0 (ty := .int) rfl rfl qc49 (N' := 19) (19, .inl (fun _ => 0)) (fun _ => rfl) (by decide) (by decide) (by decide) (Nat.le_of_ble_eq_true rfl) (Nat.le_of_ble_eq_true rfl) dX8_init_211 (fun y25 H hW => ?_)
  refine Wi.putFS hC hi hW 34 (ty := (.array .int)) inX8_g tyX8_ok nmX8 rfl (by decide) q669 rfl rfl (by decide +kernel) rfl rfl (Nat.le_of_ble_eq_true rfl) (fs' := [.int 0, .ref y0, .ref y1, .ref y2, .ref y3, .ref y4, .int 0, .int 0, .int (-1), .ref y5, .ref y6, .int 0, .long 0, .long 0, .ref y7, .ref y8, .ref y9, .ref y10, .ref y11, .ref y12, .ref y13, .ref y14, .ref y15, .ref y16, .ref y17, .ref y18, .ref y19, .ref y20, .ref y21, .ref y22, .ref y23, .int 0, .ref y24, .int 0, .ref y25, .null, .null, .null, .null]) rfl dX8_init_213 (fun H locs hW => ?_)
  refine lv_aload_n hx hb dX8_init_216 rfl (lv_at hl 0 rfl) ?_
  refine lv_bipush (v := 40) hx hb dX8_init_217 (by decide) ?_
  refine Wi.newaC hC hA hW 0 (ty := .int) rfl rfl qc49 (N' := 40) (40, .inl (fun _ => 0)) (fun _ => rfl) (by decide) (by decide) (by decide) (Nat.le_of_ble_eq_true rfl) (Nat.le_of_ble_eq_true rfl) dX8_init_219 (fun y26 H hW => ?_)
  refine Wi.putFS hC hi hW 35 (ty := (.array .int)) inX8_g tyX8_ok nmX8 rfl (by decide) q670 rfl rfl (by decide +kernel) rfl rfl (Nat.le_of_ble_eq_true rfl) (fs' := [.int 0, .ref y0, .ref y1, .ref y2, .ref y3, .ref y4, .int 0, .int 0, .int (-1), .ref y5, .ref y6, .int 0, .long 0, .long 0, .ref y7, .ref y8, .ref y9, .ref y10, .ref y11, .ref y12, .ref y13, .ref y14, .ref y15, .ref y16, .ref y17, .ref y18, .ref y19, .ref y20, .ref y21, .ref y22, .ref y23, .int 0, .ref y24, .int 0, .ref y25, .ref y26, .null, .null, .null]) rfl dX8_init_221 (fun H locs hW => ?_)
  refine lv_aload_n hx hb dX8_init_224 rfl (lv_at hl 0 rfl) ?_
  refine lv_bipush (v := 100) hx hb dX8_init_225 (by decide) ?_
  refine Wi.newaC hC hA hW 0 (ty := .int) rfl rfl qc49 (N' := 100) (100, .inl (fun _ => 0)) (fun _ => rfl) (by decide) (by decide) (by decide) (Nat.le_of_ble_eq_true rfl) (Nat.le_of_ble_eq_true rfl) dX8_init_227 (fun y27 H hW => ?_)
  refine Wi.putFS hC hi hW 36 (ty := (.array .int)) inX8_g tyX8_ok nmX8 rfl (by decide) q671 rfl rfl (by decide +kernel) rfl rfl (Nat.le_of_ble_eq_true rfl) (fs' := [.int 0, .ref y0, .ref y1, .ref y2, .ref y3, .ref y4, .int 0, .int 0, .int (-1), .ref y5, .ref y6, .int 0, .long 0, .long 0, .ref y7, .ref y8, .ref y9, .ref y10, .ref y11, .ref y12, .ref y13, .ref y14, .ref y15, .ref y16, .ref y17, .ref y18, .ref y19, .ref y20, .ref y21, .ref y22, .ref y23, .int 0, .ref y24, .int 0, .ref y25, .ref y26, .ref y27, .null, .null]) rfl dX8_init_229 (fun H locs hW => ?_)
  refine lv_aload_n hx hb dX8_init_232 rfl (lv_at hl 0 rfl) ?_
  refine lv_bipush (v := 20) hx hb dX8_init_233 (by decide) ?_
  refine Wi.newaC hC hA hW 0 (ty := .int) rfl rfl qc49 (N' := 20) (20, .inl (fun _ => 0)) (fun _ => rfl) (by decide) (by decide) (by decide) (Nat.le_of_ble_eq_true rfl) (Nat.le_of_ble_eq_true rfl) dX8_init_235 (fun y28 H hW => ?_)
  refine Wi.putFS hC hi hW 37 (ty := (.array .int)) inX8_g tyX8_ok nmX8 rfl (by decide) q672 rfl rfl (by decide +kernel) rfl rfl (Nat.le_of_ble_eq_true rfl) (fs' := [.int 0, .ref y0, .ref y1, .ref y2, .ref y3, .ref y4, .int 0, .int 0, .int (-1), .ref y5, .ref y6, .int 0, .long 0, .long 0, .ref y7, .ref y8, .ref y9, .ref y10, .ref y11, .ref y12, .ref y13, .ref y14, .ref y15, .ref y16, .ref y17, .ref y18, .ref y19, .ref y20, .ref y21, .ref y22, .ref y23, .int 0, .ref y24, .int 0, .ref y25, .ref y26, .ref y27, .ref y28, .null]) rfl dX8_init_237 (fun H locs hW => ?_)
  refine lv_aload_n hx hb dX8_init_240 rfl (lv_at hl 0 rfl) ?_
  refine lv_sipush (v := 2400) hx hb dX8_init_241 (by decide) ?_
  refine Wi.newaC hC hA hW 1 (ty := .byte) rfl rfl qc65 (N' := 2400) (2400, .inl (fun _ => 0)) (fun _ => rfl) (by decide) (by decide) (by decide) (Nat.le_of_ble_eq_true rfl) (Nat.le_of_ble_eq_true rfl) dX8_init_244 (fun y29 H hW => ?_)
  refine Wi.putFS hC hi hW 38 (ty := (.array .byte)) inX8_g tyX8_ok nmX8 rfl (by decide) q673 rfl rfl (by decide +kernel) rfl rfl (Nat.le_of_ble_eq_true rfl) (fs' := [.int 0, .ref y0, .ref y1, .ref y2, .ref y3, .ref y4, .int 0, .int 0, .int (-1), .ref y5, .ref y6, .int 0, .long 0, .long 0, .ref y7, .ref y8, .ref y9, .ref y10, .ref y11, .ref y12, .ref y13, .ref y14, .ref y15, .ref y16, .ref y17, .ref y18, .ref y19, .ref y20, .ref y21, .ref y22, .ref y23, .int 0, .ref y24, .int 0, .ref y25, .ref y26, .ref y27, .ref y28, .ref y29]) rfl dX8_init_246 (fun H locs hW => ?_)
  simp only [List.nil_append, List.cons_append] at hW
  exact Wi.ret hC (post := po8 cA h0) (fun i => ([y0, y1, y2, y3, y4, y5, y6, y7, y8, y9, y10, y11, y12, y13, y14, y15, y16, y17, y18, y19, y20, y21, y22, y23, y24, y25, y26, y27, y28, y29] : List _).getD i 0) (show Wi D A s (po8 cA h0 (fun i => ([y0, y1, y2, y3, y4, y5, y6, y7, y8, y9, y10, y11, y12, y13, y14, y15, y16, y17, y18, y19, y20, y21, y22, y23, y24, y25, y26, y27, y28, y29] : List _).getD i 0)) H _ from hW) (Nat.le_of_ble_eq_true rfl) (Nat.le_of_ble_eq_true rfl) dX8_init_249
