/-! THE FIRST WORLDS (printed by wip/whole/gen/conv.py) -/
def ad7 (h0 : Nat) (r : S7) (c : Nat) : Nat := if c < 60 then ([h0, r.1 0, r.2.1.1 1, r.2.1.1 2, r.2.1.1 0, r.1 1, r.2.2.1 0, r.1 2, r.2.2.1 1, r.1 3, r.2.2.1 2, r.1 4, r.2.2.2.1.1 1, r.2.2.2.1.1 2, r.2.2.2.1.1 3, r.2.2.2.1.1 4, r.2.2.2.1.1 5, r.2.2.2.1.1 6, r.2.2.2.1.1 7, r.2.2.2.1.1 8, r.2.2.2.1.1 9, r.1 5, r.2.2.2.1.1 0, r.2.2.2.1.2.1 0, r.2.2.2.1.2.1 1, r.2.2.2.1.2.1 2, r.2.2.2.1.2.1 3, r.2.2.2.1.2.1 4, (r.2.2.2.2 0).1, (r.2.2.2.2 0).2.1 0, (r.2.2.2.2 0).2.1 1, (r.2.2.2.2 0).2.1 2, (r.2.2.2.2 0).2.1 3, (r.2.2.2.2 0).2.1 4, (r.2.2.2.2 1).1, (r.2.2.2.2 1).2.1 0, (r.2.2.2.2 1).2.1 1, (r.2.2.2.2 1).2.1 2, (r.2.2.2.2 1).2.1 3, (r.2.2.2.2 1).2.1 4, (r.2.2.2.2 2).1, (r.2.2.2.2 2).2.1 0, (r.2.2.2.2 2).2.1 1, (r.2.2.2.2 2).2.1 2, (r.2.2.2.2 2).2.1 3, (r.2.2.2.2 2).2.1 4, (r.2.2.2.2 3).1, (r.2.2.2.2 3).2.1 0, (r.2.2.2.2 3).2.1 1, (r.2.2.2.2 3).2.1 2, (r.2.2.2.2 3).2.1 3, (r.2.2.2.2 3).2.1 4, r.1 6, (r.2.2.2.2 0).2.2, r.1 7, (r.2.2.2.2 1).2.2, r.1 8, (r.2.2.2.2 2).2.2, r.1 9, (r.2.2.2.2 3).2.2] : List Nat).getD c 0 else if c < 80 then r.2.1.2 (c - 60) else if c < 100 then r.2.2.2.1.2.2.1 (c - 80) else if c < 120 then r.2.2.2.1.2.2.2.1 (c - 100) else r.2.2.2.1.2.2.2.2 (c - 120)
def ad8 (h0 : Nat) (r : Nat → Nat) (c : Nat) : Nat := if c = 0 then h0 else r (c - 1)
def s07 : St := (fun c => if c = 9 then (fun k => if k = 2 then -1 else 0) else fun _ => 0, fun _ _ => 0)
def s08 : St := (fun c => if c = 0 then (fun k => if k = 8 then -1 else 0) else fun _ => 0, fun _ _ => 0)
def g7 (c : Nat) : Nat := ([0, 1, 23, 24, 2, 25, 26, 27, 28, 29, 30, 31, 38, 39, 40, 41, 42, 43, 64, 85, 106, 107, 32, 33, 34, 35, 36, 37, 109, 110, 111, 112, 113, 114, 117, 118, 119, 120, 121, 122, 125, 126, 127, 128, 129, 130, 133, 134, 135, 136, 137, 138, 108, 115, 116, 123, 124, 131, 132, 139, 3, 4, 5, 6, 7, 8, 9, 10, 11, 12, 13, 14, 15, 16, 17, 18, 19, 20, 21, 22, 44, 45, 46, 47, 48, 49, 50, 51, 52, 53, 54, 55, 56, 57, 58, 59, 60, 61, 62, 63, 65, 66, 67, 68, 69, 70, 71, 72, 73, 74, 75, 76, 77, 78, 79, 80, 81, 82, 83, 84, 86, 87, 88, 89, 90, 91, 92, 93, 94, 95, 96, 97, 98, 99, 100, 101, 102, 103, 104, 105] : List Nat).getD c 0
def g7i (c : Nat) : Nat := ([0, 1, 4, 60, 61, 62, 63, 64, 65, 66, 67, 68, 69, 70, 71, 72, 73, 74, 75, 76, 77, 78, 79, 2, 3, 5, 6, 7, 8, 9, 10, 11, 22, 23, 24, 25, 26, 27, 12, 13, 14, 15, 16, 17, 80, 81, 82, 83, 84, 85, 86, 87, 88, 89, 90, 91, 92, 93, 94, 95, 96, 97, 98, 99, 18, 100, 101, 102, 103, 104, 105, 106, 107, 108, 109, 110, 111, 112, 113, 114, 115, 116, 117, 118, 119, 19, 120, 121, 122, 123, 124, 125, 126, 127, 128, 129, 130, 131, 132, 133, 134, 135, 136, 137, 138, 139, 20, 21, 52, 28, 29, 30, 31, 32, 33, 53, 54, 34, 35, 36, 37, 38, 39, 55, 56, 40, 41, 42, 43, 44, 45, 57, 58, 46, 47, 48, 49, 50, 51, 59] : List Nat).getD c 0
set_option maxRecDepth 100000 in
theorem g7_inv : ∀ c, c < 140 → g7i (g7 c) = c := by decide +kernel
theorem rf_eq {n : Nat} {w : Nat → Nat} {ad : Nat → Nat} {b st : Nat} (h : ∀ j, j < n → ad (b + st * j) = w j) : rfs n w = fun j => if j < n then some (ad (b + st * j)) else none := by
  funext j
  unfold rfs
  by_cases hj : j < n
  · rw [if_pos hj, if_pos hj, h j hj]
  · rw [if_neg hj, if_neg hj]
theorem sl_eq {h0 : Nat} {r : S7} : sl4 (fun i => r.1 (6 + i)) = fun j => if j < 4 then some (ad7 h0 r (52 + 2 * j)) else none := by
  funext j
  match j with
  | 0 => rfl
  | 1 => rfl
  | 2 => rfl
  | 3 => rfl
  | j + 4 =>
    rw [if_neg (by omega)]
    have e0 : (0 : Int32).toNatClampNeg = 0 := by decide
    have e1 : (1 : Int32).toNatClampNeg = 1 := by decide
    have e2 : (2 : Int32).toNatClampNeg = 2 := by decide
    have e3 : (3 : Int32).toNatClampNeg = 3 := by decide
    unfold sl4 va_up
    rw [e0, e1, e2, e3]
    simp
theorem ad_r60 {h0 : Nat} {r : S7} : ∀ j, j < 20 → ad7 h0 r (60 + 1 * j) = r.2.1.2 j := by
  intro j hj
  unfold ad7
  rw [if_neg (show ¬ 60 + 1 * j < 60 by omega), if_pos (show 60 + 1 * j < 80 by omega), show 60 + 1 * j - 60 = j by omega]
theorem ad_r80 {h0 : Nat} {r : S7} : ∀ j, j < 20 → ad7 h0 r (80 + 1 * j) = r.2.2.2.1.2.2.1 j := by
  intro j hj
  unfold ad7
  rw [if_neg (show ¬ 80 + 1 * j < 60 by omega), if_neg (show ¬ 80 + 1 * j < 80 by omega), if_pos (show 80 + 1 * j < 100 by omega), show 80 + 1 * j - 80 = j by omega]
theorem ad_r100 {h0 : Nat} {r : S7} : ∀ j, j < 20 → ad7 h0 r (100 + 1 * j) = r.2.2.2.1.2.2.2.1 j := by
  intro j hj
  unfold ad7
  rw [if_neg (show ¬ 100 + 1 * j < 60 by omega), if_neg (show ¬ 100 + 1 * j < 80 by omega), if_neg (show ¬ 100 + 1 * j < 100 by omega), if_pos (show 100 + 1 * j < 120 by omega), show 100 + 1 * j - 100 = j by omega]
theorem ad_r120 {h0 : Nat} {r : S7} : ∀ j, j < 20 → ad7 h0 r (120 + 1 * j) = r.2.2.2.1.2.2.2.2 j := by
  intro j hj
  unfold ad7
  rw [if_neg (show ¬ 120 + 1 * j < 60 by omega), if_neg (show ¬ 120 + 1 * j < 80 by omega), if_neg (show ¬ 120 + 1 * j < 100 by omega), if_neg (show ¬ 120 + 1 * j < 120 by omega), show 120 + 1 * j - 120 = j by omega]
theorem cv7_0 {cA : Nat → ClassId} {h0 : Nat} {r : S7} : (po7 cA h0 r)[0]? = some (ad7 h0 r 0, ent kdX (ad7 h0 r) cA s07 0) := rfl
theorem cv7_1 {cA : Nat → ClassId} {h0 : Nat} {r : S7} : (po7 cA h0 r)[1]? = some (ad7 h0 r 1, ent kdX (ad7 h0 r) cA s07 1) := rfl
theorem cv7_2 {cA : Nat → ClassId} {h0 : Nat} {r : S7} : (po7 cA h0 r)[23]? = some (ad7 h0 r 2, ent kdX (ad7 h0 r) cA s07 2) := rfl
theorem cv7_3 {cA : Nat → ClassId} {h0 : Nat} {r : S7} : (po7 cA h0 r)[24]? = some (ad7 h0 r 3, ent kdX (ad7 h0 r) cA s07 3) := rfl
theorem cv7_4 {cA : Nat → ClassId} {h0 : Nat} {r : S7} : (po7 cA h0 r)[2]? = some (ad7 h0 r 4, ent kdX (ad7 h0 r) cA s07 4) := congrArg (fun f : Nat → Option Nat => some (ad7 h0 r 4, (.inl (cA 4, 20, .inr (.inr (.inr (.inr f)))) : va_E))) (rf_eq (n := 20) (w := r.2.1.2) (ad := ad7 h0 r) (b := 60) (st := 1) ad_r60)
theorem cv7_5 {cA : Nat → ClassId} {h0 : Nat} {r : S7} : (po7 cA h0 r)[25]? = some (ad7 h0 r 5, ent kdX (ad7 h0 r) cA s07 5) := rfl
theorem cv7_6 {cA : Nat → ClassId} {h0 : Nat} {r : S7} : (po7 cA h0 r)[26]? = some (ad7 h0 r 6, ent kdX (ad7 h0 r) cA s07 6) := rfl
theorem cv7_7 {cA : Nat → ClassId} {h0 : Nat} {r : S7} : (po7 cA h0 r)[27]? = some (ad7 h0 r 7, ent kdX (ad7 h0 r) cA s07 7) := rfl
theorem cv7_8 {cA : Nat → ClassId} {h0 : Nat} {r : S7} : (po7 cA h0 r)[28]? = some (ad7 h0 r 8, ent kdX (ad7 h0 r) cA s07 8) := rfl
theorem cv7_9 {cA : Nat → ClassId} {h0 : Nat} {r : S7} : (po7 cA h0 r)[29]? = some (ad7 h0 r 9, ent kdX (ad7 h0 r) cA s07 9) := rfl
theorem cv7_10 {cA : Nat → ClassId} {h0 : Nat} {r : S7} : (po7 cA h0 r)[30]? = some (ad7 h0 r 10, ent kdX (ad7 h0 r) cA s07 10) := rfl
theorem cv7_11 {cA : Nat → ClassId} {h0 : Nat} {r : S7} : (po7 cA h0 r)[31]? = some (ad7 h0 r 11, ent kdX (ad7 h0 r) cA s07 11) := rfl
theorem cv7_12 {cA : Nat → ClassId} {h0 : Nat} {r : S7} : (po7 cA h0 r)[38]? = some (ad7 h0 r 12, ent kdX (ad7 h0 r) cA s07 12) := rfl
theorem cv7_13 {cA : Nat → ClassId} {h0 : Nat} {r : S7} : (po7 cA h0 r)[39]? = some (ad7 h0 r 13, ent kdX (ad7 h0 r) cA s07 13) := rfl
theorem cv7_14 {cA : Nat → ClassId} {h0 : Nat} {r : S7} : (po7 cA h0 r)[40]? = some (ad7 h0 r 14, ent kdX (ad7 h0 r) cA s07 14) := rfl
theorem cv7_15 {cA : Nat → ClassId} {h0 : Nat} {r : S7} : (po7 cA h0 r)[41]? = some (ad7 h0 r 15, ent kdX (ad7 h0 r) cA s07 15) := rfl
theorem cv7_16 {cA : Nat → ClassId} {h0 : Nat} {r : S7} : (po7 cA h0 r)[42]? = some (ad7 h0 r 16, ent kdX (ad7 h0 r) cA s07 16) := rfl
theorem cv7_17 {cA : Nat → ClassId} {h0 : Nat} {r : S7} : (po7 cA h0 r)[43]? = some (ad7 h0 r 17, ent kdX (ad7 h0 r) cA s07 17) := congrArg (fun f : Nat → Option Nat => some (ad7 h0 r 17, (.inl (cA 5, 20, .inr (.inr (.inr (.inr f)))) : va_E))) (rf_eq (n := 20) (w := r.2.2.2.1.2.2.1) (ad := ad7 h0 r) (b := 80) (st := 1) ad_r80)
theorem cv7_18 {cA : Nat → ClassId} {h0 : Nat} {r : S7} : (po7 cA h0 r)[64]? = some (ad7 h0 r 18, ent kdX (ad7 h0 r) cA s07 18) := congrArg (fun f : Nat → Option Nat => some (ad7 h0 r 18, (.inl (cA 5, 20, .inr (.inr (.inr (.inr f)))) : va_E))) (rf_eq (n := 20) (w := r.2.2.2.1.2.2.2.1) (ad := ad7 h0 r) (b := 100) (st := 1) ad_r100)
theorem cv7_19 {cA : Nat → ClassId} {h0 : Nat} {r : S7} : (po7 cA h0 r)[85]? = some (ad7 h0 r 19, ent kdX (ad7 h0 r) cA s07 19) := congrArg (fun f : Nat → Option Nat => some (ad7 h0 r 19, (.inl (cA 5, 20, .inr (.inr (.inr (.inr f)))) : va_E))) (rf_eq (n := 20) (w := r.2.2.2.1.2.2.2.2) (ad := ad7 h0 r) (b := 120) (st := 1) ad_r120)
theorem cv7_20 {cA : Nat → ClassId} {h0 : Nat} {r : S7} : (po7 cA h0 r)[106]? = some (ad7 h0 r 20, ent kdX (ad7 h0 r) cA s07 20) := rfl
theorem cv7_21 {cA : Nat → ClassId} {h0 : Nat} {r : S7} : (po7 cA h0 r)[107]? = some (ad7 h0 r 21, ent kdX (ad7 h0 r) cA s07 21) := congrArg (fun f : Nat → Option Nat => some (ad7 h0 r 21, (.inl (cA 6, 4, .inr (.inr (.inr (.inr f)))) : va_E))) (sl_eq (h0 := h0) (r := r))
theorem cv7_22 {cA : Nat → ClassId} {h0 : Nat} {r : S7} : (po7 cA h0 r)[32]? = some (ad7 h0 r 22, ent kdX (ad7 h0 r) cA s07 22) := rfl
theorem cv7_23 {cA : Nat → ClassId} {h0 : Nat} {r : S7} : (po7 cA h0 r)[33]? = some (ad7 h0 r 23, ent kdX (ad7 h0 r) cA s07 23) := rfl
theorem cv7_24 {cA : Nat → ClassId} {h0 : Nat} {r : S7} : (po7 cA h0 r)[34]? = some (ad7 h0 r 24, ent kdX (ad7 h0 r) cA s07 24) := rfl
theorem cv7_25 {cA : Nat → ClassId} {h0 : Nat} {r : S7} : (po7 cA h0 r)[35]? = some (ad7 h0 r 25, ent kdX (ad7 h0 r) cA s07 25) := rfl
theorem cv7_26 {cA : Nat → ClassId} {h0 : Nat} {r : S7} : (po7 cA h0 r)[36]? = some (ad7 h0 r 26, ent kdX (ad7 h0 r) cA s07 26) := rfl
theorem cv7_27 {cA : Nat → ClassId} {h0 : Nat} {r : S7} : (po7 cA h0 r)[37]? = some (ad7 h0 r 27, ent kdX (ad7 h0 r) cA s07 27) := rfl
theorem cv7_28 {cA : Nat → ClassId} {h0 : Nat} {r : S7} : (po7 cA h0 r)[109]? = some (ad7 h0 r 28, ent kdX (ad7 h0 r) cA s07 28) := rfl
theorem cv7_29 {cA : Nat → ClassId} {h0 : Nat} {r : S7} : (po7 cA h0 r)[110]? = some (ad7 h0 r 29, ent kdX (ad7 h0 r) cA s07 29) := rfl
theorem cv7_30 {cA : Nat → ClassId} {h0 : Nat} {r : S7} : (po7 cA h0 r)[111]? = some (ad7 h0 r 30, ent kdX (ad7 h0 r) cA s07 30) := rfl
theorem cv7_31 {cA : Nat → ClassId} {h0 : Nat} {r : S7} : (po7 cA h0 r)[112]? = some (ad7 h0 r 31, ent kdX (ad7 h0 r) cA s07 31) := rfl
theorem cv7_32 {cA : Nat → ClassId} {h0 : Nat} {r : S7} : (po7 cA h0 r)[113]? = some (ad7 h0 r 32, ent kdX (ad7 h0 r) cA s07 32) := rfl
theorem cv7_33 {cA : Nat → ClassId} {h0 : Nat} {r : S7} : (po7 cA h0 r)[114]? = some (ad7 h0 r 33, ent kdX (ad7 h0 r) cA s07 33) := rfl
theorem cv7_34 {cA : Nat → ClassId} {h0 : Nat} {r : S7} : (po7 cA h0 r)[117]? = some (ad7 h0 r 34, ent kdX (ad7 h0 r) cA s07 34) := rfl
theorem cv7_35 {cA : Nat → ClassId} {h0 : Nat} {r : S7} : (po7 cA h0 r)[118]? = some (ad7 h0 r 35, ent kdX (ad7 h0 r) cA s07 35) := rfl
theorem cv7_36 {cA : Nat → ClassId} {h0 : Nat} {r : S7} : (po7 cA h0 r)[119]? = some (ad7 h0 r 36, ent kdX (ad7 h0 r) cA s07 36) := rfl
theorem cv7_37 {cA : Nat → ClassId} {h0 : Nat} {r : S7} : (po7 cA h0 r)[120]? = some (ad7 h0 r 37, ent kdX (ad7 h0 r) cA s07 37) := rfl
theorem cv7_38 {cA : Nat → ClassId} {h0 : Nat} {r : S7} : (po7 cA h0 r)[121]? = some (ad7 h0 r 38, ent kdX (ad7 h0 r) cA s07 38) := rfl
theorem cv7_39 {cA : Nat → ClassId} {h0 : Nat} {r : S7} : (po7 cA h0 r)[122]? = some (ad7 h0 r 39, ent kdX (ad7 h0 r) cA s07 39) := rfl
theorem cv7_40 {cA : Nat → ClassId} {h0 : Nat} {r : S7} : (po7 cA h0 r)[125]? = some (ad7 h0 r 40, ent kdX (ad7 h0 r) cA s07 40) := rfl
theorem cv7_41 {cA : Nat → ClassId} {h0 : Nat} {r : S7} : (po7 cA h0 r)[126]? = some (ad7 h0 r 41, ent kdX (ad7 h0 r) cA s07 41) := rfl
theorem cv7_42 {cA : Nat → ClassId} {h0 : Nat} {r : S7} : (po7 cA h0 r)[127]? = some (ad7 h0 r 42, ent kdX (ad7 h0 r) cA s07 42) := rfl
theorem cv7_43 {cA : Nat → ClassId} {h0 : Nat} {r : S7} : (po7 cA h0 r)[128]? = some (ad7 h0 r 43, ent kdX (ad7 h0 r) cA s07 43) := rfl
theorem cv7_44 {cA : Nat → ClassId} {h0 : Nat} {r : S7} : (po7 cA h0 r)[129]? = some (ad7 h0 r 44, ent kdX (ad7 h0 r) cA s07 44) := rfl
theorem cv7_45 {cA : Nat → ClassId} {h0 : Nat} {r : S7} : (po7 cA h0 r)[130]? = some (ad7 h0 r 45, ent kdX (ad7 h0 r) cA s07 45) := rfl
theorem cv7_46 {cA : Nat → ClassId} {h0 : Nat} {r : S7} : (po7 cA h0 r)[133]? = some (ad7 h0 r 46, ent kdX (ad7 h0 r) cA s07 46) := rfl
theorem cv7_47 {cA : Nat → ClassId} {h0 : Nat} {r : S7} : (po7 cA h0 r)[134]? = some (ad7 h0 r 47, ent kdX (ad7 h0 r) cA s07 47) := rfl
theorem cv7_48 {cA : Nat → ClassId} {h0 : Nat} {r : S7} : (po7 cA h0 r)[135]? = some (ad7 h0 r 48, ent kdX (ad7 h0 r) cA s07 48) := rfl
theorem cv7_49 {cA : Nat → ClassId} {h0 : Nat} {r : S7} : (po7 cA h0 r)[136]? = some (ad7 h0 r 49, ent kdX (ad7 h0 r) cA s07 49) := rfl
theorem cv7_50 {cA : Nat → ClassId} {h0 : Nat} {r : S7} : (po7 cA h0 r)[137]? = some (ad7 h0 r 50, ent kdX (ad7 h0 r) cA s07 50) := rfl
theorem cv7_51 {cA : Nat → ClassId} {h0 : Nat} {r : S7} : (po7 cA h0 r)[138]? = some (ad7 h0 r 51, ent kdX (ad7 h0 r) cA s07 51) := rfl
theorem cv7_52 {cA : Nat → ClassId} {h0 : Nat} {r : S7} : (po7 cA h0 r)[108]? = some (ad7 h0 r 52, ent kdX (ad7 h0 r) cA s07 52) := rfl
theorem cv7_53 {cA : Nat → ClassId} {h0 : Nat} {r : S7} : (po7 cA h0 r)[115]? = some (ad7 h0 r 53, ent kdX (ad7 h0 r) cA s07 53) := rfl
theorem cv7_54 {cA : Nat → ClassId} {h0 : Nat} {r : S7} : (po7 cA h0 r)[116]? = some (ad7 h0 r 54, ent kdX (ad7 h0 r) cA s07 54) := rfl
theorem cv7_55 {cA : Nat → ClassId} {h0 : Nat} {r : S7} : (po7 cA h0 r)[123]? = some (ad7 h0 r 55, ent kdX (ad7 h0 r) cA s07 55) := rfl
theorem cv7_56 {cA : Nat → ClassId} {h0 : Nat} {r : S7} : (po7 cA h0 r)[124]? = some (ad7 h0 r 56, ent kdX (ad7 h0 r) cA s07 56) := rfl
theorem cv7_57 {cA : Nat → ClassId} {h0 : Nat} {r : S7} : (po7 cA h0 r)[131]? = some (ad7 h0 r 57, ent kdX (ad7 h0 r) cA s07 57) := rfl
theorem cv7_58 {cA : Nat → ClassId} {h0 : Nat} {r : S7} : (po7 cA h0 r)[132]? = some (ad7 h0 r 58, ent kdX (ad7 h0 r) cA s07 58) := rfl
theorem cv7_59 {cA : Nat → ClassId} {h0 : Nat} {r : S7} : (po7 cA h0 r)[139]? = some (ad7 h0 r 59, ent kdX (ad7 h0 r) cA s07 59) := rfl
theorem cv7_60 {cA : Nat → ClassId} {h0 : Nat} {r : S7} : (po7 cA h0 r)[3]? = some (ad7 h0 r 60, ent kdX (ad7 h0 r) cA s07 60) := rfl
theorem cv7_61 {cA : Nat → ClassId} {h0 : Nat} {r : S7} : (po7 cA h0 r)[4]? = some (ad7 h0 r 61, ent kdX (ad7 h0 r) cA s07 61) := rfl
theorem cv7_62 {cA : Nat → ClassId} {h0 : Nat} {r : S7} : (po7 cA h0 r)[5]? = some (ad7 h0 r 62, ent kdX (ad7 h0 r) cA s07 62) := rfl
theorem cv7_63 {cA : Nat → ClassId} {h0 : Nat} {r : S7} : (po7 cA h0 r)[6]? = some (ad7 h0 r 63, ent kdX (ad7 h0 r) cA s07 63) := rfl
theorem cv7_64 {cA : Nat → ClassId} {h0 : Nat} {r : S7} : (po7 cA h0 r)[7]? = some (ad7 h0 r 64, ent kdX (ad7 h0 r) cA s07 64) := rfl
theorem cv7_65 {cA : Nat → ClassId} {h0 : Nat} {r : S7} : (po7 cA h0 r)[8]? = some (ad7 h0 r 65, ent kdX (ad7 h0 r) cA s07 65) := rfl
theorem cv7_66 {cA : Nat → ClassId} {h0 : Nat} {r : S7} : (po7 cA h0 r)[9]? = some (ad7 h0 r 66, ent kdX (ad7 h0 r) cA s07 66) := rfl
theorem cv7_67 {cA : Nat → ClassId} {h0 : Nat} {r : S7} : (po7 cA h0 r)[10]? = some (ad7 h0 r 67, ent kdX (ad7 h0 r) cA s07 67) := rfl
theorem cv7_68 {cA : Nat → ClassId} {h0 : Nat} {r : S7} : (po7 cA h0 r)[11]? = some (ad7 h0 r 68, ent kdX (ad7 h0 r) cA s07 68) := rfl
theorem cv7_69 {cA : Nat → ClassId} {h0 : Nat} {r : S7} : (po7 cA h0 r)[12]? = some (ad7 h0 r 69, ent kdX (ad7 h0 r) cA s07 69) := rfl
theorem cv7_70 {cA : Nat → ClassId} {h0 : Nat} {r : S7} : (po7 cA h0 r)[13]? = some (ad7 h0 r 70, ent kdX (ad7 h0 r) cA s07 70) := rfl
theorem cv7_71 {cA : Nat → ClassId} {h0 : Nat} {r : S7} : (po7 cA h0 r)[14]? = some (ad7 h0 r 71, ent kdX (ad7 h0 r) cA s07 71) := rfl
theorem cv7_72 {cA : Nat → ClassId} {h0 : Nat} {r : S7} : (po7 cA h0 r)[15]? = some (ad7 h0 r 72, ent kdX (ad7 h0 r) cA s07 72) := rfl
theorem cv7_73 {cA : Nat → ClassId} {h0 : Nat} {r : S7} : (po7 cA h0 r)[16]? = some (ad7 h0 r 73, ent kdX (ad7 h0 r) cA s07 73) := rfl
theorem cv7_74 {cA : Nat → ClassId} {h0 : Nat} {r : S7} : (po7 cA h0 r)[17]? = some (ad7 h0 r 74, ent kdX (ad7 h0 r) cA s07 74) := rfl
theorem cv7_75 {cA : Nat → ClassId} {h0 : Nat} {r : S7} : (po7 cA h0 r)[18]? = some (ad7 h0 r 75, ent kdX (ad7 h0 r) cA s07 75) := rfl
theorem cv7_76 {cA : Nat → ClassId} {h0 : Nat} {r : S7} : (po7 cA h0 r)[19]? = some (ad7 h0 r 76, ent kdX (ad7 h0 r) cA s07 76) := rfl
theorem cv7_77 {cA : Nat → ClassId} {h0 : Nat} {r : S7} : (po7 cA h0 r)[20]? = some (ad7 h0 r 77, ent kdX (ad7 h0 r) cA s07 77) := rfl
theorem cv7_78 {cA : Nat → ClassId} {h0 : Nat} {r : S7} : (po7 cA h0 r)[21]? = some (ad7 h0 r 78, ent kdX (ad7 h0 r) cA s07 78) := rfl
theorem cv7_79 {cA : Nat → ClassId} {h0 : Nat} {r : S7} : (po7 cA h0 r)[22]? = some (ad7 h0 r 79, ent kdX (ad7 h0 r) cA s07 79) := rfl
theorem cv7_80 {cA : Nat → ClassId} {h0 : Nat} {r : S7} : (po7 cA h0 r)[44]? = some (ad7 h0 r 80, ent kdX (ad7 h0 r) cA s07 80) := rfl
theorem cv7_81 {cA : Nat → ClassId} {h0 : Nat} {r : S7} : (po7 cA h0 r)[45]? = some (ad7 h0 r 81, ent kdX (ad7 h0 r) cA s07 81) := rfl
theorem cv7_82 {cA : Nat → ClassId} {h0 : Nat} {r : S7} : (po7 cA h0 r)[46]? = some (ad7 h0 r 82, ent kdX (ad7 h0 r) cA s07 82) := rfl
theorem cv7_83 {cA : Nat → ClassId} {h0 : Nat} {r : S7} : (po7 cA h0 r)[47]? = some (ad7 h0 r 83, ent kdX (ad7 h0 r) cA s07 83) := rfl
theorem cv7_84 {cA : Nat → ClassId} {h0 : Nat} {r : S7} : (po7 cA h0 r)[48]? = some (ad7 h0 r 84, ent kdX (ad7 h0 r) cA s07 84) := rfl
theorem cv7_85 {cA : Nat → ClassId} {h0 : Nat} {r : S7} : (po7 cA h0 r)[49]? = some (ad7 h0 r 85, ent kdX (ad7 h0 r) cA s07 85) := rfl
theorem cv7_86 {cA : Nat → ClassId} {h0 : Nat} {r : S7} : (po7 cA h0 r)[50]? = some (ad7 h0 r 86, ent kdX (ad7 h0 r) cA s07 86) := rfl
theorem cv7_87 {cA : Nat → ClassId} {h0 : Nat} {r : S7} : (po7 cA h0 r)[51]? = some (ad7 h0 r 87, ent kdX (ad7 h0 r) cA s07 87) := rfl
theorem cv7_88 {cA : Nat → ClassId} {h0 : Nat} {r : S7} : (po7 cA h0 r)[52]? = some (ad7 h0 r 88, ent kdX (ad7 h0 r) cA s07 88) := rfl
theorem cv7_89 {cA : Nat → ClassId} {h0 : Nat} {r : S7} : (po7 cA h0 r)[53]? = some (ad7 h0 r 89, ent kdX (ad7 h0 r) cA s07 89) := rfl
theorem cv7_90 {cA : Nat → ClassId} {h0 : Nat} {r : S7} : (po7 cA h0 r)[54]? = some (ad7 h0 r 90, ent kdX (ad7 h0 r) cA s07 90) := rfl
theorem cv7_91 {cA : Nat → ClassId} {h0 : Nat} {r : S7} : (po7 cA h0 r)[55]? = some (ad7 h0 r 91, ent kdX (ad7 h0 r) cA s07 91) := rfl
theorem cv7_92 {cA : Nat → ClassId} {h0 : Nat} {r : S7} : (po7 cA h0 r)[56]? = some (ad7 h0 r 92, ent kdX (ad7 h0 r) cA s07 92) := rfl
theorem cv7_93 {cA : Nat → ClassId} {h0 : Nat} {r : S7} : (po7 cA h0 r)[57]? = some (ad7 h0 r 93, ent kdX (ad7 h0 r) cA s07 93) := rfl
theorem cv7_94 {cA : Nat → ClassId} {h0 : Nat} {r : S7} : (po7 cA h0 r)[58]? = some (ad7 h0 r 94, ent kdX (ad7 h0 r) cA s07 94) := rfl
theorem cv7_95 {cA : Nat → ClassId} {h0 : Nat} {r : S7} : (po7 cA h0 r)[59]? = some (ad7 h0 r 95, ent kdX (ad7 h0 r) cA s07 95) := rfl
theorem cv7_96 {cA : Nat → ClassId} {h0 : Nat} {r : S7} : (po7 cA h0 r)[60]? = some (ad7 h0 r 96, ent kdX (ad7 h0 r) cA s07 96) := rfl
theorem cv7_97 {cA : Nat → ClassId} {h0 : Nat} {r : S7} : (po7 cA h0 r)[61]? = some (ad7 h0 r 97, ent kdX (ad7 h0 r) cA s07 97) := rfl
theorem cv7_98 {cA : Nat → ClassId} {h0 : Nat} {r : S7} : (po7 cA h0 r)[62]? = some (ad7 h0 r 98, ent kdX (ad7 h0 r) cA s07 98) := rfl
theorem cv7_99 {cA : Nat → ClassId} {h0 : Nat} {r : S7} : (po7 cA h0 r)[63]? = some (ad7 h0 r 99, ent kdX (ad7 h0 r) cA s07 99) := rfl
theorem cv7_100 {cA : Nat → ClassId} {h0 : Nat} {r : S7} : (po7 cA h0 r)[65]? = some (ad7 h0 r 100, ent kdX (ad7 h0 r) cA s07 100) := rfl
theorem cv7_101 {cA : Nat → ClassId} {h0 : Nat} {r : S7} : (po7 cA h0 r)[66]? = some (ad7 h0 r 101, ent kdX (ad7 h0 r) cA s07 101) := rfl
theorem cv7_102 {cA : Nat → ClassId} {h0 : Nat} {r : S7} : (po7 cA h0 r)[67]? = some (ad7 h0 r 102, ent kdX (ad7 h0 r) cA s07 102) := rfl
theorem cv7_103 {cA : Nat → ClassId} {h0 : Nat} {r : S7} : (po7 cA h0 r)[68]? = some (ad7 h0 r 103, ent kdX (ad7 h0 r) cA s07 103) := rfl
theorem cv7_104 {cA : Nat → ClassId} {h0 : Nat} {r : S7} : (po7 cA h0 r)[69]? = some (ad7 h0 r 104, ent kdX (ad7 h0 r) cA s07 104) := rfl
theorem cv7_105 {cA : Nat → ClassId} {h0 : Nat} {r : S7} : (po7 cA h0 r)[70]? = some (ad7 h0 r 105, ent kdX (ad7 h0 r) cA s07 105) := rfl
theorem cv7_106 {cA : Nat → ClassId} {h0 : Nat} {r : S7} : (po7 cA h0 r)[71]? = some (ad7 h0 r 106, ent kdX (ad7 h0 r) cA s07 106) := rfl
theorem cv7_107 {cA : Nat → ClassId} {h0 : Nat} {r : S7} : (po7 cA h0 r)[72]? = some (ad7 h0 r 107, ent kdX (ad7 h0 r) cA s07 107) := rfl
theorem cv7_108 {cA : Nat → ClassId} {h0 : Nat} {r : S7} : (po7 cA h0 r)[73]? = some (ad7 h0 r 108, ent kdX (ad7 h0 r) cA s07 108) := rfl
theorem cv7_109 {cA : Nat → ClassId} {h0 : Nat} {r : S7} : (po7 cA h0 r)[74]? = some (ad7 h0 r 109, ent kdX (ad7 h0 r) cA s07 109) := rfl
theorem cv7_110 {cA : Nat → ClassId} {h0 : Nat} {r : S7} : (po7 cA h0 r)[75]? = some (ad7 h0 r 110, ent kdX (ad7 h0 r) cA s07 110) := rfl
theorem cv7_111 {cA : Nat → ClassId} {h0 : Nat} {r : S7} : (po7 cA h0 r)[76]? = some (ad7 h0 r 111, ent kdX (ad7 h0 r) cA s07 111) := rfl
theorem cv7_112 {cA : Nat → ClassId} {h0 : Nat} {r : S7} : (po7 cA h0 r)[77]? = some (ad7 h0 r 112, ent kdX (ad7 h0 r) cA s07 112) := rfl
theorem cv7_113 {cA : Nat → ClassId} {h0 : Nat} {r : S7} : (po7 cA h0 r)[78]? = some (ad7 h0 r 113, ent kdX (ad7 h0 r) cA s07 113) := rfl
theorem cv7_114 {cA : Nat → ClassId} {h0 : Nat} {r : S7} : (po7 cA h0 r)[79]? = some (ad7 h0 r 114, ent kdX (ad7 h0 r) cA s07 114) := rfl
theorem cv7_115 {cA : Nat → ClassId} {h0 : Nat} {r : S7} : (po7 cA h0 r)[80]? = some (ad7 h0 r 115, ent kdX (ad7 h0 r) cA s07 115) := rfl
theorem cv7_116 {cA : Nat → ClassId} {h0 : Nat} {r : S7} : (po7 cA h0 r)[81]? = some (ad7 h0 r 116, ent kdX (ad7 h0 r) cA s07 116) := rfl
theorem cv7_117 {cA : Nat → ClassId} {h0 : Nat} {r : S7} : (po7 cA h0 r)[82]? = some (ad7 h0 r 117, ent kdX (ad7 h0 r) cA s07 117) := rfl
theorem cv7_118 {cA : Nat → ClassId} {h0 : Nat} {r : S7} : (po7 cA h0 r)[83]? = some (ad7 h0 r 118, ent kdX (ad7 h0 r) cA s07 118) := rfl
theorem cv7_119 {cA : Nat → ClassId} {h0 : Nat} {r : S7} : (po7 cA h0 r)[84]? = some (ad7 h0 r 119, ent kdX (ad7 h0 r) cA s07 119) := rfl
theorem cv7_120 {cA : Nat → ClassId} {h0 : Nat} {r : S7} : (po7 cA h0 r)[86]? = some (ad7 h0 r 120, ent kdX (ad7 h0 r) cA s07 120) := rfl
theorem cv7_121 {cA : Nat → ClassId} {h0 : Nat} {r : S7} : (po7 cA h0 r)[87]? = some (ad7 h0 r 121, ent kdX (ad7 h0 r) cA s07 121) := rfl
theorem cv7_122 {cA : Nat → ClassId} {h0 : Nat} {r : S7} : (po7 cA h0 r)[88]? = some (ad7 h0 r 122, ent kdX (ad7 h0 r) cA s07 122) := rfl
theorem cv7_123 {cA : Nat → ClassId} {h0 : Nat} {r : S7} : (po7 cA h0 r)[89]? = some (ad7 h0 r 123, ent kdX (ad7 h0 r) cA s07 123) := rfl
theorem cv7_124 {cA : Nat → ClassId} {h0 : Nat} {r : S7} : (po7 cA h0 r)[90]? = some (ad7 h0 r 124, ent kdX (ad7 h0 r) cA s07 124) := rfl
theorem cv7_125 {cA : Nat → ClassId} {h0 : Nat} {r : S7} : (po7 cA h0 r)[91]? = some (ad7 h0 r 125, ent kdX (ad7 h0 r) cA s07 125) := rfl
theorem cv7_126 {cA : Nat → ClassId} {h0 : Nat} {r : S7} : (po7 cA h0 r)[92]? = some (ad7 h0 r 126, ent kdX (ad7 h0 r) cA s07 126) := rfl
theorem cv7_127 {cA : Nat → ClassId} {h0 : Nat} {r : S7} : (po7 cA h0 r)[93]? = some (ad7 h0 r 127, ent kdX (ad7 h0 r) cA s07 127) := rfl
theorem cv7_128 {cA : Nat → ClassId} {h0 : Nat} {r : S7} : (po7 cA h0 r)[94]? = some (ad7 h0 r 128, ent kdX (ad7 h0 r) cA s07 128) := rfl
theorem cv7_129 {cA : Nat → ClassId} {h0 : Nat} {r : S7} : (po7 cA h0 r)[95]? = some (ad7 h0 r 129, ent kdX (ad7 h0 r) cA s07 129) := rfl
theorem cv7_130 {cA : Nat → ClassId} {h0 : Nat} {r : S7} : (po7 cA h0 r)[96]? = some (ad7 h0 r 130, ent kdX (ad7 h0 r) cA s07 130) := rfl
theorem cv7_131 {cA : Nat → ClassId} {h0 : Nat} {r : S7} : (po7 cA h0 r)[97]? = some (ad7 h0 r 131, ent kdX (ad7 h0 r) cA s07 131) := rfl
theorem cv7_132 {cA : Nat → ClassId} {h0 : Nat} {r : S7} : (po7 cA h0 r)[98]? = some (ad7 h0 r 132, ent kdX (ad7 h0 r) cA s07 132) := rfl
theorem cv7_133 {cA : Nat → ClassId} {h0 : Nat} {r : S7} : (po7 cA h0 r)[99]? = some (ad7 h0 r 133, ent kdX (ad7 h0 r) cA s07 133) := rfl
theorem cv7_134 {cA : Nat → ClassId} {h0 : Nat} {r : S7} : (po7 cA h0 r)[100]? = some (ad7 h0 r 134, ent kdX (ad7 h0 r) cA s07 134) := rfl
theorem cv7_135 {cA : Nat → ClassId} {h0 : Nat} {r : S7} : (po7 cA h0 r)[101]? = some (ad7 h0 r 135, ent kdX (ad7 h0 r) cA s07 135) := rfl
theorem cv7_136 {cA : Nat → ClassId} {h0 : Nat} {r : S7} : (po7 cA h0 r)[102]? = some (ad7 h0 r 136, ent kdX (ad7 h0 r) cA s07 136) := rfl
theorem cv7_137 {cA : Nat → ClassId} {h0 : Nat} {r : S7} : (po7 cA h0 r)[103]? = some (ad7 h0 r 137, ent kdX (ad7 h0 r) cA s07 137) := rfl
theorem cv7_138 {cA : Nat → ClassId} {h0 : Nat} {r : S7} : (po7 cA h0 r)[104]? = some (ad7 h0 r 138, ent kdX (ad7 h0 r) cA s07 138) := rfl
theorem cv7_139 {cA : Nat → ClassId} {h0 : Nat} {r : S7} : (po7 cA h0 r)[105]? = some (ad7 h0 r 139, ent kdX (ad7 h0 r) cA s07 139) := rfl
theorem cv7 {cA : Nat → ClassId} {h0 : Nat} {r : S7} : ∀ c, c < 140 → (po7 cA h0 r)[g7 c]? = some (ad7 h0 r c, ent kdX (ad7 h0 r) cA s07 c)
  | 0, _ => cv7_0
  | 1, _ => cv7_1
  | 2, _ => cv7_2
  | 3, _ => cv7_3
  | 4, _ => cv7_4
  | 5, _ => cv7_5
  | 6, _ => cv7_6
  | 7, _ => cv7_7
  | 8, _ => cv7_8
  | 9, _ => cv7_9
  | 10, _ => cv7_10
  | 11, _ => cv7_11
  | 12, _ => cv7_12
  | 13, _ => cv7_13
  | 14, _ => cv7_14
  | 15, _ => cv7_15
  | 16, _ => cv7_16
  | 17, _ => cv7_17
  | 18, _ => cv7_18
  | 19, _ => cv7_19
  | 20, _ => cv7_20
  | 21, _ => cv7_21
  | 22, _ => cv7_22
  | 23, _ => cv7_23
  | 24, _ => cv7_24
  | 25, _ => cv7_25
  | 26, _ => cv7_26
  | 27, _ => cv7_27
  | 28, _ => cv7_28
  | 29, _ => cv7_29
  | 30, _ => cv7_30
  | 31, _ => cv7_31
  | 32, _ => cv7_32
  | 33, _ => cv7_33
  | 34, _ => cv7_34
  | 35, _ => cv7_35
  | 36, _ => cv7_36
  | 37, _ => cv7_37
  | 38, _ => cv7_38
  | 39, _ => cv7_39
  | 40, _ => cv7_40
  | 41, _ => cv7_41
  | 42, _ => cv7_42
  | 43, _ => cv7_43
  | 44, _ => cv7_44
  | 45, _ => cv7_45
  | 46, _ => cv7_46
  | 47, _ => cv7_47
  | 48, _ => cv7_48
  | 49, _ => cv7_49
  | 50, _ => cv7_50
  | 51, _ => cv7_51
  | 52, _ => cv7_52
  | 53, _ => cv7_53
  | 54, _ => cv7_54
  | 55, _ => cv7_55
  | 56, _ => cv7_56
  | 57, _ => cv7_57
  | 58, _ => cv7_58
  | 59, _ => cv7_59
  | 60, _ => cv7_60
  | 61, _ => cv7_61
  | 62, _ => cv7_62
  | 63, _ => cv7_63
  | 64, _ => cv7_64
  | 65, _ => cv7_65
  | 66, _ => cv7_66
  | 67, _ => cv7_67
  | 68, _ => cv7_68
  | 69, _ => cv7_69
  | 70, _ => cv7_70
  | 71, _ => cv7_71
  | 72, _ => cv7_72
  | 73, _ => cv7_73
  | 74, _ => cv7_74
  | 75, _ => cv7_75
  | 76, _ => cv7_76
  | 77, _ => cv7_77
  | 78, _ => cv7_78
  | 79, _ => cv7_79
  | 80, _ => cv7_80
  | 81, _ => cv7_81
  | 82, _ => cv7_82
  | 83, _ => cv7_83
  | 84, _ => cv7_84
  | 85, _ => cv7_85
  | 86, _ => cv7_86
  | 87, _ => cv7_87
  | 88, _ => cv7_88
  | 89, _ => cv7_89
  | 90, _ => cv7_90
  | 91, _ => cv7_91
  | 92, _ => cv7_92
  | 93, _ => cv7_93
  | 94, _ => cv7_94
  | 95, _ => cv7_95
  | 96, _ => cv7_96
  | 97, _ => cv7_97
  | 98, _ => cv7_98
  | 99, _ => cv7_99
  | 100, _ => cv7_100
  | 101, _ => cv7_101
  | 102, _ => cv7_102
  | 103, _ => cv7_103
  | 104, _ => cv7_104
  | 105, _ => cv7_105
  | 106, _ => cv7_106
  | 107, _ => cv7_107
  | 108, _ => cv7_108
  | 109, _ => cv7_109
  | 110, _ => cv7_110
  | 111, _ => cv7_111
  | 112, _ => cv7_112
  | 113, _ => cv7_113
  | 114, _ => cv7_114
  | 115, _ => cv7_115
  | 116, _ => cv7_116
  | 117, _ => cv7_117
  | 118, _ => cv7_118
  | 119, _ => cv7_119
  | 120, _ => cv7_120
  | 121, _ => cv7_121
  | 122, _ => cv7_122
  | 123, _ => cv7_123
  | 124, _ => cv7_124
  | 125, _ => cv7_125
  | 126, _ => cv7_126
  | 127, _ => cv7_127
  | 128, _ => cv7_128
  | 129, _ => cv7_129
  | 130, _ => cv7_130
  | 131, _ => cv7_131
  | 132, _ => cv7_132
  | 133, _ => cv7_133
  | 134, _ => cv7_134
  | 135, _ => cv7_135
  | 136, _ => cv7_136
  | 137, _ => cv7_137
  | 138, _ => cv7_138
  | 139, _ => cv7_139
  | n + 140, h => absurd h (by omega)
theorem cv7w {cA : Nat → ClassId} {h0 : Nat} {r : S7} (k : Nat) (q : Nat × va_E) (h : (wl kdX 140 (ad7 h0 r) cA s07)[k]? = some q) : (po7 cA h0 r)[g7 k]? = some q := by
  have hk : k < 140 := by
    have := (List.getElem?_eq_some_iff.mp h).1
    simpa [wl] using this
  rw [wl_get hk] at h
  rw [cv7 k hk]
  exact h
theorem cv7i (i j : Nat) (hi : i < 140) (hj : j < 140) (h : g7 i = g7 j) : i = j := by
  have h1 := g7_inv i hi
  have h2 := g7_inv j hj
  rw [h] at h1
  exact h1.symm.trans h2
theorem cv8_0 {cA : Nat → ClassId} {h0 : Nat} {r : Nat → Nat} : (po8 cA h0 r)[0]? = some (ad8 h0 r 0, ent kdM (ad8 h0 r) cA s08 0) := rfl
theorem cv8_1 {cA : Nat → ClassId} {h0 : Nat} {r : Nat → Nat} : (po8 cA h0 r)[1]? = some (ad8 h0 r 1, ent kdM (ad8 h0 r) cA s08 1) := rfl
theorem cv8_2 {cA : Nat → ClassId} {h0 : Nat} {r : Nat → Nat} : (po8 cA h0 r)[2]? = some (ad8 h0 r 2, ent kdM (ad8 h0 r) cA s08 2) := rfl
theorem cv8_3 {cA : Nat → ClassId} {h0 : Nat} {r : Nat → Nat} : (po8 cA h0 r)[3]? = some (ad8 h0 r 3, ent kdM (ad8 h0 r) cA s08 3) := rfl
theorem cv8_4 {cA : Nat → ClassId} {h0 : Nat} {r : Nat → Nat} : (po8 cA h0 r)[4]? = some (ad8 h0 r 4, ent kdM (ad8 h0 r) cA s08 4) := rfl
theorem cv8_5 {cA : Nat → ClassId} {h0 : Nat} {r : Nat → Nat} : (po8 cA h0 r)[5]? = some (ad8 h0 r 5, ent kdM (ad8 h0 r) cA s08 5) := rfl
theorem cv8_6 {cA : Nat → ClassId} {h0 : Nat} {r : Nat → Nat} : (po8 cA h0 r)[6]? = some (ad8 h0 r 6, ent kdM (ad8 h0 r) cA s08 6) := rfl
theorem cv8_7 {cA : Nat → ClassId} {h0 : Nat} {r : Nat → Nat} : (po8 cA h0 r)[7]? = some (ad8 h0 r 7, ent kdM (ad8 h0 r) cA s08 7) := rfl
theorem cv8_8 {cA : Nat → ClassId} {h0 : Nat} {r : Nat → Nat} : (po8 cA h0 r)[8]? = some (ad8 h0 r 8, ent kdM (ad8 h0 r) cA s08 8) := rfl
theorem cv8_9 {cA : Nat → ClassId} {h0 : Nat} {r : Nat → Nat} : (po8 cA h0 r)[9]? = some (ad8 h0 r 9, ent kdM (ad8 h0 r) cA s08 9) := rfl
theorem cv8_10 {cA : Nat → ClassId} {h0 : Nat} {r : Nat → Nat} : (po8 cA h0 r)[10]? = some (ad8 h0 r 10, ent kdM (ad8 h0 r) cA s08 10) := rfl
theorem cv8_11 {cA : Nat → ClassId} {h0 : Nat} {r : Nat → Nat} : (po8 cA h0 r)[11]? = some (ad8 h0 r 11, ent kdM (ad8 h0 r) cA s08 11) := rfl
theorem cv8_12 {cA : Nat → ClassId} {h0 : Nat} {r : Nat → Nat} : (po8 cA h0 r)[12]? = some (ad8 h0 r 12, ent kdM (ad8 h0 r) cA s08 12) := rfl
theorem cv8_13 {cA : Nat → ClassId} {h0 : Nat} {r : Nat → Nat} : (po8 cA h0 r)[13]? = some (ad8 h0 r 13, ent kdM (ad8 h0 r) cA s08 13) := rfl
theorem cv8_14 {cA : Nat → ClassId} {h0 : Nat} {r : Nat → Nat} : (po8 cA h0 r)[14]? = some (ad8 h0 r 14, ent kdM (ad8 h0 r) cA s08 14) := rfl
theorem cv8_15 {cA : Nat → ClassId} {h0 : Nat} {r : Nat → Nat} : (po8 cA h0 r)[15]? = some (ad8 h0 r 15, ent kdM (ad8 h0 r) cA s08 15) := rfl
theorem cv8_16 {cA : Nat → ClassId} {h0 : Nat} {r : Nat → Nat} : (po8 cA h0 r)[16]? = some (ad8 h0 r 16, ent kdM (ad8 h0 r) cA s08 16) := rfl
theorem cv8_17 {cA : Nat → ClassId} {h0 : Nat} {r : Nat → Nat} : (po8 cA h0 r)[17]? = some (ad8 h0 r 17, ent kdM (ad8 h0 r) cA s08 17) := rfl
theorem cv8_18 {cA : Nat → ClassId} {h0 : Nat} {r : Nat → Nat} : (po8 cA h0 r)[18]? = some (ad8 h0 r 18, ent kdM (ad8 h0 r) cA s08 18) := rfl
theorem cv8_19 {cA : Nat → ClassId} {h0 : Nat} {r : Nat → Nat} : (po8 cA h0 r)[19]? = some (ad8 h0 r 19, ent kdM (ad8 h0 r) cA s08 19) := rfl
theorem cv8_20 {cA : Nat → ClassId} {h0 : Nat} {r : Nat → Nat} : (po8 cA h0 r)[20]? = some (ad8 h0 r 20, ent kdM (ad8 h0 r) cA s08 20) := rfl
theorem cv8_21 {cA : Nat → ClassId} {h0 : Nat} {r : Nat → Nat} : (po8 cA h0 r)[21]? = some (ad8 h0 r 21, ent kdM (ad8 h0 r) cA s08 21) := rfl
theorem cv8_22 {cA : Nat → ClassId} {h0 : Nat} {r : Nat → Nat} : (po8 cA h0 r)[22]? = some (ad8 h0 r 22, ent kdM (ad8 h0 r) cA s08 22) := rfl
theorem cv8_23 {cA : Nat → ClassId} {h0 : Nat} {r : Nat → Nat} : (po8 cA h0 r)[23]? = some (ad8 h0 r 23, ent kdM (ad8 h0 r) cA s08 23) := rfl
theorem cv8_24 {cA : Nat → ClassId} {h0 : Nat} {r : Nat → Nat} : (po8 cA h0 r)[24]? = some (ad8 h0 r 24, ent kdM (ad8 h0 r) cA s08 24) := rfl
theorem cv8_25 {cA : Nat → ClassId} {h0 : Nat} {r : Nat → Nat} : (po8 cA h0 r)[25]? = some (ad8 h0 r 25, ent kdM (ad8 h0 r) cA s08 25) := rfl
theorem cv8_26 {cA : Nat → ClassId} {h0 : Nat} {r : Nat → Nat} : (po8 cA h0 r)[26]? = some (ad8 h0 r 26, ent kdM (ad8 h0 r) cA s08 26) := rfl
theorem cv8_27 {cA : Nat → ClassId} {h0 : Nat} {r : Nat → Nat} : (po8 cA h0 r)[27]? = some (ad8 h0 r 27, ent kdM (ad8 h0 r) cA s08 27) := rfl
theorem cv8_28 {cA : Nat → ClassId} {h0 : Nat} {r : Nat → Nat} : (po8 cA h0 r)[28]? = some (ad8 h0 r 28, ent kdM (ad8 h0 r) cA s08 28) := rfl
theorem cv8_29 {cA : Nat → ClassId} {h0 : Nat} {r : Nat → Nat} : (po8 cA h0 r)[29]? = some (ad8 h0 r 29, ent kdM (ad8 h0 r) cA s08 29) := rfl
theorem cv8_30 {cA : Nat → ClassId} {h0 : Nat} {r : Nat → Nat} : (po8 cA h0 r)[30]? = some (ad8 h0 r 30, ent kdM (ad8 h0 r) cA s08 30) := rfl
theorem cv8 {cA : Nat → ClassId} {h0 : Nat} {r : Nat → Nat} : ∀ c, c < 31 → (po8 cA h0 r)[c]? = some (ad8 h0 r c, ent kdM (ad8 h0 r) cA s08 c)
  | 0, _ => cv8_0
  | 1, _ => cv8_1
  | 2, _ => cv8_2
  | 3, _ => cv8_3
  | 4, _ => cv8_4
  | 5, _ => cv8_5
  | 6, _ => cv8_6
  | 7, _ => cv8_7
  | 8, _ => cv8_8
  | 9, _ => cv8_9
  | 10, _ => cv8_10
  | 11, _ => cv8_11
  | 12, _ => cv8_12
  | 13, _ => cv8_13
  | 14, _ => cv8_14
  | 15, _ => cv8_15
  | 16, _ => cv8_16
  | 17, _ => cv8_17
  | 18, _ => cv8_18
  | 19, _ => cv8_19
  | 20, _ => cv8_20
  | 21, _ => cv8_21
  | 22, _ => cv8_22
  | 23, _ => cv8_23
  | 24, _ => cv8_24
  | 25, _ => cv8_25
  | 26, _ => cv8_26
  | 27, _ => cv8_27
  | 28, _ => cv8_28
  | 29, _ => cv8_29
  | 30, _ => cv8_30
  | n + 31, h => absurd h (by omega)
theorem cv8w {cA : Nat → ClassId} {h0 : Nat} {r : Nat → Nat} : po8 cA h0 r = wl kdM 31 (ad8 h0 r) cA s08 := by
  apply List.ext_getElem?
  intro k
  by_cases hk : k < 31
  · rw [wl_get hk, cv8 k hk]
  · rw [List.getElem?_eq_none (show (po8 cA h0 r).length ≤ k from Nat.le_trans (Nat.le_of_ble_eq_true rfl) (Nat.not_lt.mp hk)), List.getElem?_eq_none (by simp [wl]; omega)]
/-- the first part of a world told otherwise -/
theorem Wi.left {D : va_G} {A : Nat → Prop} {s : State} {a a' b : va_W} {H : Heap} {locs : List Loc} (g : Nat → Nat) (hl : a'.length = a.length) (hg : ∀ (k : Nat) (q : Nat × va_E), a'[k]? = some q → a[g k]? = some q) (hi : ∀ i j : Nat, i < a'.length → j < a'.length → g i = g j → i = j) (h : Wi D A s (a ++ b) H locs) : Wi D A s (a' ++ b) H locs := by
  have hg2 : ∀ (k : Nat) (q : Nat × va_E), (a' ++ b)[k]? = some q → (a ++ b)[if k < a'.length then g k else k]? = some q := by
    intro k q hk
    by_cases h1 : k < a'.length
    · rw [if_pos h1]
      rw [List.getElem?_append_left h1] at hk
      have h2 := hg k q hk
      rw [List.getElem?_append_left (List.getElem?_eq_some_iff.mp h2).1]
      exact h2
    · rw [if_neg h1]
      rw [List.getElem?_append_right (by omega)] at hk
      rw [List.getElem?_append_right (by omega), ← hl]
      exact hk
  refine ⟨h.1.by _ hg2, h.2.1.by _ hg2 (fun i j _ _ e => ?_), h.2.2⟩
  have gb : ∀ k, k < a'.length → g k < a'.length := fun k hk => by
    have h2 := hg k _ (List.getElem?_eq_getElem hk)
    rw [hl]
    exact (List.getElem?_eq_some_iff.mp h2).1
  by_cases h1 : i < a'.length <;> by_cases h2 : j < a'.length
  · rw [if_pos h1, if_pos h2] at e
    exact hi i j h1 h2 e
  · rw [if_pos h1, if_neg h2] at e
    have := gb i h1
    omega
  · rw [if_neg h1, if_pos h2] at e
    have := gb j h2
    omega
  · rw [if_neg h1, if_neg h2] at e
    exact e
theorem Wi.conv {D : va_G} {A : Nat → Prop} {s : State} {cA : Nat → ClassId} {h7 h8 : Nat} {r7 : S7} {r8 : Nat → Nat} {H : Heap} {locs : List Loc} (h : Wi D A s (po7 cA h7 r7 ++ po8 cA h8 r8) H locs) : Wi D A s (wl kdX 140 (ad7 h7 r7) cA s07 ++ wl kdM 31 (ad8 h8 r8) cA s08) H locs := by
  rw [cv8w] at h
  have e : (wl kdX 140 (ad7 h7 r7) cA s07).length = 140 := by simp [wl]
  refine Wi.left g7 (e.trans rfl) cv7w (fun i j hi hj he => cv7i i j (by rw [e] at hi; exact hi) (by rw [e] at hj; exact hj) he) h
theorem inR0 : inR 0 := by
  unfold inR
  decide
theorem Rel0 : Rel s07 s08 := by
  refine ⟨⟨0, fun _ _ => 0, fun _ => 0, fun _ => 0, ⟨Nat.zero_le _, fun _ _ => ⟨Nat.zero_le _, rfl⟩, fun _ => rfl, fun _ => ⟨inR0, inR0⟩⟩, ⟨rfl, fun i j hi hj => ?_, fun i hi => ⟨rfl, rfl⟩⟩, ⟨rfl, fun i j hi hj => ?_, fun i hi => ⟨rfl, rfl⟩⟩⟩, ⟨[], ⟨by decide, fun b hb => absurd hb List.not_mem_nil⟩, ⟨rfl, fun i hi => absurd hi (Nat.not_lt_zero i)⟩, ⟨rfl, fun i hi => absurd hi (Nat.not_lt_zero i)⟩⟩, ⟨[], ⟨by decide, fun b hb => absurd hb List.not_mem_nil⟩, ⟨rfl, fun i hi => absurd hi (Nat.not_lt_zero i)⟩, ⟨rfl, fun i hi => absurd hi (Nat.not_lt_zero i)⟩⟩, rfl, fun q hq => Or.inl ⟨?_, rfl⟩⟩
  · show (if 60 + i = 9 then (fun k => if k = 2 then (-1 : Int32) else 0) else fun _ => 0) j = 0
    rw [if_neg (show ¬ 60 + i = 9 by omega)]
  · rfl
  · show (if 52 + 2 * q = 9 then (fun k => if k = 2 then (-1 : Int32) else 0) else fun _ => 0) 0 = 0
    rw [if_neg (show ¬ 52 + 2 * q = 9 by omega)]
