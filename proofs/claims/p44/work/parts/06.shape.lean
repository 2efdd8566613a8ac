/-! THE WORLD: its places in the order in which they are made, and their shape; what stands outside it and is never written. -/
abbrev hz_M : Type := Nat → Nat → Int32
def hz_set (M : hz_M) (i k : Nat) (v : Int32) : hz_M := fun a b => if a = i ∧ b = k then v else M a b
/-- a place's shape: an object (its class's place in vwCl; its fields: a number, or the place it points to), an array of numbers (its type's place, its length), an array of places, an array of the enum's constants, an array whose elements are told as places by numbers -/
abbrev hz_S : Type := (Nat × List (Option Nat)) ⊕ ((Nat × Nat) ⊕ ((Nat × List Nat) ⊕ (Nat ⊕ Nat)))
def hz_eo (x : Int32) : Option Nat := if x = 0 then none else some (x.toNatClampNeg - 1)
/-- the constants of the world: numbers of the classes, of the array classes, addresses of the places, of the enum's constants, of the texts, of their bytes; the cells that may be written; how many texts there are; the last one's length and bytes; the script's address, length and numbers -/
abbrev hz_C : Type := va_G × (Nat → ClassId) × (Nat → Nat) × (Nat → Nat) × (Nat → Nat) × (Nat → Nat) × (Nat → Prop) × Nat × Nat × (Nat → Int32) × Nat × Nat × (Nat → Int32)
def hz_D (w : hz_C) : va_G := w.1
def hz_tc (w : hz_C) : Nat → ClassId := w.2.1
def hz_ad (w : hz_C) : Nat → Nat := w.2.2.1
def hz_en (w : hz_C) : Nat → Nat := w.2.2.2.1
def hz_sa (w : hz_C) : Nat → Nat := w.2.2.2.2.1
def hz_sv (w : hz_C) : Nat → Nat := w.2.2.2.2.2.1
def hz_A (w : hz_C) : Nat → Prop := w.2.2.2.2.2.2.1
def hz_ns (w : hz_C) : Nat := w.2.2.2.2.2.2.2.1
def hz_dl (w : hz_C) : Nat := w.2.2.2.2.2.2.2.2.1
def hz_db (w : hz_C) : Nat → Int32 := w.2.2.2.2.2.2.2.2.2.1
def hz_scb (w : hz_C) : Nat := w.2.2.2.2.2.2.2.2.2.2.1
def hz_scl (w : hz_C) : Nat := w.2.2.2.2.2.2.2.2.2.2.2.1
def hz_scx (w : hz_C) : Nat → Int32 := w.2.2.2.2.2.2.2.2.2.2.2.2
/-- all cells from n on may be written -/
def hz_up (w : hz_C) (n : Nat) : Prop := ∀ q, n ≤ q → hz_A w q
theorem hz_up.le {w : hz_C} {a b : Nat} (h : hz_up w a) (hab : a ≤ b) : hz_up w b := fun q hq => h q (Nat.le_trans hab hq)
def hz_SHc : List hz_S := [.inl (10, [some 1, some 5, some 9, some 11, some 25, some 26, some 27, some 32, some 176, none]), .inl (4, [some 2, some 3, some 4, none, none, none, none, none, none, none, none, none]), .inr (.inl (0, 16)), .inr (.inl (0, 96)), .inr (.inl (0, 16)), .inl (4, [some 6, some 7, some 8, none, none, none, none, none, none, none, none, none]), .inr (.inl (0, 16)), .inr (.inl (0, 96)), .inr (.inl (0, 16)), .inl (8, [some 10, none, none, none, none, none, none, none]), .inr (.inl (0, 600)), .inl (7, [some 1, some 12, some 13, some 14, some 15, some 16, some 17, some 18, some 19, some 20, some 21, some 22, some 23, some 24, none, none, none, none, none, none]), .inr (.inl (0, 4)), .inr (.inl (0, 16)), .inr (.inl (0, 16)), .inr (.inl (0, 16)), .inr (.inl (0, 16)), .inr (.inl (0, 16)), .inr (.inl (0, 16)), .inr (.inl (0, 12)), .inr (.inl (0, 16)), .inr (.inl (0, 16)), .inr (.inl (0, 16)), .inr (.inl (0, 16)), .inr (.inl (0, 9)), .inl (9, [some 1, some 11]), .inl (2, [some 1, some 11, some 25, none]), .inl (6, [some 1, some 26, some 28, some 29, some 30, some 31, none, none, none]), .inr (.inr (.inr (.inl 30))), .inr (.inl (0, 30)), .inr (.inl (0, 30)), .inr (.inl (0, 30)), .inl (3, [some 33, some 34, some 35, none, none]), .inr (.inr (.inl (2, [36, 50, 64, 78, 92, 106, 120, 134]))), .inr (.inr (.inl (2, [148, 162]))), .inr (.inl (1, 2)), .inl (7, [some 1, some 37, some 38, some 39, some 40, some 41, some 42, some 43, some 44, some 45, some 46, some 47, some 48, some 49, none, none, none, none, none, none]), .inr (.inl (0, 4)), .inr (.inl (0, 16)), .inr (.inl (0, 16)), .inr (.inl (0, 16)), .inr (.inl (0, 16)), .inr (.inl (0, 16)), .inr (.inl (0, 16)), .inr (.inl (0, 12)), .inr (.inl (0, 16)), .inr (.inl (0, 16)), .inr (.inl (0, 16)), .inr (.inl (0, 16)), .inr (.inl (0, 9)), .inl (7, [some 1, some 51, some 52, some 53, some 54, some 55, some 56, some 57, some 58, some 59, some 60, some 61, some 62, some 63, none, none, none, none, none, none]), .inr (.inl (0, 4)), .inr (.inl (0, 16)), .inr (.inl (0, 16)), .inr (.inl (0, 16)), .inr (.inl (0, 16)), .inr (.inl (0, 16)), .inr (.inl (0, 16)), .inr (.inl (0, 12)), .inr (.inl (0, 16)), .inr (.inl (0, 16)), .inr (.inl (0, 16)), .inr (.inl (0, 16)), .inr (.inl (0, 9)), .inl (7, [some 1, some 65, some 66, some 67, some 68, some 69, some 70, some 71, some 72, some 73, some 74, some 75, some 76, some 77, none, none, none, none, none, none]), .inr (.inl (0, 4)), .inr (.inl (0, 16)), .inr (.inl (0, 16)), .inr (.inl (0, 16)), .inr (.inl (0, 16)), .inr (.inl (0, 16)), .inr (.inl (0, 16)), .inr (.inl (0, 12)), .inr (.inl (0, 16)), .inr (.inl (0, 16)), .inr (.inl (0, 16)), .inr (.inl (0, 16)), .inr (.inl (0, 9)), .inl (7, [some 1, some 79, some 80, some 81, some 82, some 83, some 84, some 85, some 86, some 87, some 88, some 89, some 90, some 91, none, none, none, none, none, none]), .inr (.inl (0, 4)), .inr (.inl (0, 16)), .inr (.inl (0, 16)), .inr (.inl (0, 16)), .inr (.inl (0, 16)), .inr (.inl (0, 16)), .inr (.inl (0, 16)), .inr (.inl (0, 12)), .inr (.inl (0, 16)), .inr (.inl (0, 16)), .inr (.inl (0, 16)), .inr (.inl (0, 16)), .inr (.inl (0, 9)), .inl (7, [some 1, some 93, some 94, some 95, some 96, some 97, some 98, some 99, some 100, some 101, some 102, some 103, some 104, some 105, none, none, none, none, none, none]), .inr (.inl (0, 4)), .inr (.inl (0, 16)), .inr (.inl (0, 16)), .inr (.inl (0, 16)), .inr (.inl (0, 16)), .inr (.inl (0, 16)), .inr (.inl (0, 16)), .inr (.inl (0, 12)), .inr (.inl (0, 16)), .inr (.inl (0, 16)), .inr (.inl (0, 16)), .inr (.inl (0, 16)), .inr (.inl (0, 9)), .inl (7, [some 1, some 107, some 108, some 109, some 110, some 111, some 112, some 113, some 114, some 115, some 116, some 117, some 118, some 119, none, none, none, none, none, none]), .inr (.inl (0, 4)), .inr (.inl (0, 16)), .inr (.inl (0, 16)), .inr (.inl (0, 16)), .inr (.inl (0, 16)), .inr (.inl (0, 16)), .inr (.inl (0, 16)), .inr (.inl (0, 12)), .inr (.inl (0, 16)), .inr (.inl (0, 16)), .inr (.inl (0, 16)), .inr (.inl (0, 16)), .inr (.inl (0, 9)), .inl (7, [some 1, some 121, some 122, some 123, some 124, some 125, some 126, some 127, some 128, some 129, some 130, some 131, some 132, some 133, none, none, none, none, none, none]), .inr (.inl (0, 4)), .inr (.inl (0, 16)), .inr (.inl (0, 16)), .inr (.inl (0, 16)), .inr (.inl (0, 16)), .inr (.inl (0, 16)), .inr (.inl (0, 16)), .inr (.inl (0, 12)), .inr (.inl (0, 16)), .inr (.inl (0, 16)), .inr (.inl (0, 16)), .inr (.inl (0, 16)), .inr (.inl (0, 9)), .inl (7, [some 1, some 135, some 136, some 137, some 138, some 139, some 140, some 141, some 142, some 143, some 144, some 145, some 146, some 147, none, none, none, none, none, none]), .inr (.inl (0, 4)), .inr (.inl (0, 16)), .inr (.inl (0, 16)), .inr (.inl (0, 16)), .inr (.inl (0, 16)), .inr (.inl (0, 16)), .inr (.inl (0, 16)), .inr (.inl (0, 12)), .inr (.inl (0, 16)), .inr (.inl (0, 16)), .inr (.inl (0, 16)), .inr (.inl (0, 16)), .inr (.inl (0, 9)), .inl (7, [some 1, some 149, some 150, some 151, some 152, some 153, some 154, some 155, some 156, some 157, some 158, some 159, some 160, some 161, none, none, none, none, none, none]), .inr (.inl (0, 4)), .inr (.inl (0, 16)), .inr (.inl (0, 16)), .inr (.inl (0, 16)), .inr (.inl (0, 16)), .inr (.inl (0, 16)), .inr (.inl (0, 16)), .inr (.inl (0, 12)), .inr (.inl (0, 16)), .inr (.inl (0, 16)), .inr (.inl (0, 16)), .inr (.inl (0, 16)), .inr (.inl (0, 9)), .inl (7, [some 1, some 163, some 164, some 165, some 166, some 167, some 168, some 169, some 170, some 171, some 172, some 173, some 174, some 175, none, none, none, none, none, none]), .inr (.inl (0, 4)), .inr (.inl (0, 16)), .inr (.inl (0, 16)), .inr (.inl (0, 16)), .inr (.inl (0, 16)), .inr (.inl (0, 16)), .inr (.inl (0, 16)), .inr (.inl (0, 12)), .inr (.inl (0, 16)), .inr (.inl (0, 16)), .inr (.inl (0, 16)), .inr (.inl (0, 16)), .inr (.inl (0, 9)), .inl (5, [some 1, some 177, none]), .inr (.inl (0, 256)), .inl (11, [none, none, none, none, none, none, none, none, none, none, none, none, some 179, some 180, some 181, some 182, some 183, some 184, some 185, some 186, some 187, some 188, some 189, none]), .inr (.inl (0, 4)), .inr (.inl (0, 16)), .inr (.inl (0, 12)), .inr (.inl (0, 16)), .inr (.inl (0, 9)), .inr (.inl (0, 16)), .inr (.inl (0, 16)), .inr (.inl (0, 16)), .inr (.inl (0, 16)), .inr (.inl (0, 16)), .inr (.inl (0, 16)), .inr (.inr (.inr (.inr 40)))]
/-- the k-th place of a bathhouse of the law's own that begins at b -/
def hz_os (b : Nat) : Nat → hz_S
  | 0 => .inl (11, [none, none, none, none, none, none, none, none, none, none, none, none, some (b + 1), some (b + 2), some (b + 3), some (b + 4), some (b + 5), some (b + 6), some (b + 7), some (b + 8), some (b + 9), some (b + 10), some (b + 11), none])
  | 1 => .inr (.inl (0, 4))
  | 2 => .inr (.inl (0, 16))
  | 3 => .inr (.inl (0, 12))
  | 4 => .inr (.inl (0, 16))
  | 5 => .inr (.inl (0, 9))
  | 6 => .inr (.inl (0, 16))
  | 7 => .inr (.inl (0, 16))
  | 8 => .inr (.inl (0, 16))
  | 9 => .inr (.inl (0, 16))
  | 10 => .inr (.inl (0, 16))
  | 11 => .inr (.inl (0, 16))
  | _ => .inr (.inl (0, 0))
def hz_SH : List hz_S := hz_SHc ++ (List.range 576).map (fun n => hz_os (191 + 12 * (n / 12)) (n % 12))
set_option maxRecDepth 100000 in
theorem hz_SHc_len : hz_SHc.length = 191 := by decide +kernel
theorem hz_shc {i : Nat} {sh : hz_S} (h : hz_SHc[i]? = some sh) : hz_SH[i]? = some sh := by
  have hl : i < hz_SHc.length := (List.getElem?_eq_some_iff.mp h).1
  rw [hz_SH, List.getElem?_append_left hl]
  exact h
theorem hz_sho {j k : Nat} (hj : j < 48) (hk : k < 12) : hz_SH[191 + 12 * j + k]? = some (hz_os (191 + 12 * j) k) := by
  rw [hz_SH, List.getElem?_append_right (by rw [hz_SHc_len]; omega), hz_SHc_len, List.getElem?_map, List.getElem?_range (by omega)]
  rw [show 191 + 12 * j + k - 191 = 12 * j + k by omega]
  show some (hz_os (191 + 12 * ((12 * j + k) / 12)) ((12 * j + k) % 12)) = _
  rw [show (12 * j + k) / 12 = j by omega, show (12 * j + k) % 12 = k by omega]
theorem hz_sh_0 : hz_SH[0]? = some (.inl (10, [some 1, some 5, some 9, some 11, some 25, some 26, some 27, some 32, some 176, none])) := hz_shc rfl
theorem hz_sh_1 : hz_SH[1]? = some (.inl (4, [some 2, some 3, some 4, none, none, none, none, none, none, none, none, none])) := hz_shc rfl
theorem hz_sh_2 : hz_SH[2]? = some (.inr (.inl (0, 16))) := hz_shc rfl
theorem hz_sh_3 : hz_SH[3]? = some (.inr (.inl (0, 96))) := hz_shc rfl
theorem hz_sh_4 : hz_SH[4]? = some (.inr (.inl (0, 16))) := hz_shc rfl
theorem hz_sh_5 : hz_SH[5]? = some (.inl (4, [some 6, some 7, some 8, none, none, none, none, none, none, none, none, none])) := hz_shc rfl
theorem hz_sh_6 : hz_SH[6]? = some (.inr (.inl (0, 16))) := hz_shc rfl
theorem hz_sh_7 : hz_SH[7]? = some (.inr (.inl (0, 96))) := hz_shc rfl
theorem hz_sh_8 : hz_SH[8]? = some (.inr (.inl (0, 16))) := hz_shc rfl
theorem hz_sh_9 : hz_SH[9]? = some (.inl (8, [some 10, none, none, none, none, none, none, none])) := hz_shc rfl
theorem hz_sh_10 : hz_SH[10]? = some (.inr (.inl (0, 600))) := hz_shc rfl
theorem hz_sh_11 : hz_SH[11]? = some (.inl (7, [some 1, some 12, some 13, some 14, some 15, some 16, some 17, some 18, some 19, some 20, some 21, some 22, some 23, some 24, none, none, none, none, none, none])) := hz_shc rfl
theorem hz_sh_12 : hz_SH[12]? = some (.inr (.inl (0, 4))) := hz_shc rfl
theorem hz_sh_13 : hz_SH[13]? = some (.inr (.inl (0, 16))) := hz_shc rfl
theorem hz_sh_14 : hz_SH[14]? = some (.inr (.inl (0, 16))) := hz_shc rfl
theorem hz_sh_15 : hz_SH[15]? = some (.inr (.inl (0, 16))) := hz_shc rfl
theorem hz_sh_16 : hz_SH[16]? = some (.inr (.inl (0, 16))) := hz_shc rfl
theorem hz_sh_17 : hz_SH[17]? = some (.inr (.inl (0, 16))) := hz_shc rfl
theorem hz_sh_18 : hz_SH[18]? = some (.inr (.inl (0, 16))) := hz_shc rfl
theorem hz_sh_19 : hz_SH[19]? = some (.inr (.inl (0, 12))) := hz_shc rfl
theorem hz_sh_20 : hz_SH[20]? = some (.inr (.inl (0, 16))) := hz_shc rfl
theorem hz_sh_21 : hz_SH[21]? = some (.inr (.inl (0, 16))) := hz_shc rfl
theorem hz_sh_22 : hz_SH[22]? = some (.inr (.inl (0, 16))) := hz_shc rfl
theorem hz_sh_23 : hz_SH[23]? = some (.inr (.inl (0, 16))) := hz_shc rfl
theorem hz_sh_24 : hz_SH[24]? = some (.inr (.inl (0, 9))) := hz_shc rfl
theorem hz_sh_25 : hz_SH[25]? = some (.inl (9, [some 1, some 11])) := hz_shc rfl
theorem hz_sh_26 : hz_SH[26]? = some (.inl (2, [some 1, some 11, some 25, none])) := hz_shc rfl
theorem hz_sh_27 : hz_SH[27]? = some (.inl (6, [some 1, some 26, some 28, some 29, some 30, some 31, none, none, none])) := hz_shc rfl
theorem hz_sh_28 : hz_SH[28]? = some (.inr (.inr (.inr (.inl 30)))) := hz_shc rfl
theorem hz_sh_29 : hz_SH[29]? = some (.inr (.inl (0, 30))) := hz_shc rfl
theorem hz_sh_30 : hz_SH[30]? = some (.inr (.inl (0, 30))) := hz_shc rfl
theorem hz_sh_31 : hz_SH[31]? = some (.inr (.inl (0, 30))) := hz_shc rfl
theorem hz_sh_32 : hz_SH[32]? = some (.inl (3, [some 33, some 34, some 35, none, none])) := hz_shc rfl
theorem hz_sh_33 : hz_SH[33]? = some (.inr (.inr (.inl (2, [36, 50, 64, 78, 92, 106, 120, 134])))) := hz_shc rfl
theorem hz_sh_34 : hz_SH[34]? = some (.inr (.inr (.inl (2, [148, 162])))) := hz_shc rfl
theorem hz_sh_35 : hz_SH[35]? = some (.inr (.inl (1, 2))) := hz_shc rfl
theorem hz_sh_36 : hz_SH[36]? = some (.inl (7, [some 1, some 37, some 38, some 39, some 40, some 41, some 42, some 43, some 44, some 45, some 46, some 47, some 48, some 49, none, none, none, none, none, none])) := hz_shc rfl
theorem hz_sh_37 : hz_SH[37]? = some (.inr (.inl (0, 4))) := hz_shc rfl
theorem hz_sh_38 : hz_SH[38]? = some (.inr (.inl (0, 16))) := hz_shc rfl
theorem hz_sh_39 : hz_SH[39]? = some (.inr (.inl (0, 16))) := hz_shc rfl
theorem hz_sh_40 : hz_SH[40]? = some (.inr (.inl (0, 16))) := hz_shc rfl
theorem hz_sh_41 : hz_SH[41]? = some (.inr (.inl (0, 16))) := hz_shc rfl
theorem hz_sh_42 : hz_SH[42]? = some (.inr (.inl (0, 16))) := hz_shc rfl
theorem hz_sh_43 : hz_SH[43]? = some (.inr (.inl (0, 16))) := hz_shc rfl
theorem hz_sh_44 : hz_SH[44]? = some (.inr (.inl (0, 12))) := hz_shc rfl
theorem hz_sh_45 : hz_SH[45]? = some (.inr (.inl (0, 16))) := hz_shc rfl
theorem hz_sh_46 : hz_SH[46]? = some (.inr (.inl (0, 16))) := hz_shc rfl
theorem hz_sh_47 : hz_SH[47]? = some (.inr (.inl (0, 16))) := hz_shc rfl
theorem hz_sh_48 : hz_SH[48]? = some (.inr (.inl (0, 16))) := hz_shc rfl
theorem hz_sh_49 : hz_SH[49]? = some (.inr (.inl (0, 9))) := hz_shc rfl
theorem hz_sh_50 : hz_SH[50]? = some (.inl (7, [some 1, some 51, some 52, some 53, some 54, some 55, some 56, some 57, some 58, some 59, some 60, some 61, some 62, some 63, none, none, none, none, none, none])) := hz_shc rfl
theorem hz_sh_51 : hz_SH[51]? = some (.inr (.inl (0, 4))) := hz_shc rfl
theorem hz_sh_52 : hz_SH[52]? = some (.inr (.inl (0, 16))) := hz_shc rfl
theorem hz_sh_53 : hz_SH[53]? = some (.inr (.inl (0, 16))) := hz_shc rfl
theorem hz_sh_54 : hz_SH[54]? = some (.inr (.inl (0, 16))) := hz_shc rfl
theorem hz_sh_55 : hz_SH[55]? = some (.inr (.inl (0, 16))) := hz_shc rfl
theorem hz_sh_56 : hz_SH[56]? = some (.inr (.inl (0, 16))) := hz_shc rfl
theorem hz_sh_57 : hz_SH[57]? = some (.inr (.inl (0, 16))) := hz_shc rfl
theorem hz_sh_58 : hz_SH[58]? = some (.inr (.inl (0, 12))) := hz_shc rfl
theorem hz_sh_59 : hz_SH[59]? = some (.inr (.inl (0, 16))) := hz_shc rfl
theorem hz_sh_60 : hz_SH[60]? = some (.inr (.inl (0, 16))) := hz_shc rfl
theorem hz_sh_61 : hz_SH[61]? = some (.inr (.inl (0, 16))) := hz_shc rfl
theorem hz_sh_62 : hz_SH[62]? = some (.inr (.inl (0, 16))) := hz_shc rfl
theorem hz_sh_63 : hz_SH[63]? = some (.inr (.inl (0, 9))) := hz_shc rfl
theorem hz_sh_64 : hz_SH[64]? = some (.inl (7, [some 1, some 65, some 66, some 67, some 68, some 69, some 70, some 71, some 72, some 73, some 74, some 75, some 76, some 77, none, none, none, none, none, none])) := hz_shc rfl
theorem hz_sh_65 : hz_SH[65]? = some (.inr (.inl (0, 4))) := hz_shc rfl
theorem hz_sh_66 : hz_SH[66]? = some (.inr (.inl (0, 16))) := hz_shc rfl
theorem hz_sh_67 : hz_SH[67]? = some (.inr (.inl (0, 16))) := hz_shc rfl
theorem hz_sh_68 : hz_SH[68]? = some (.inr (.inl (0, 16))) := hz_shc rfl
theorem hz_sh_69 : hz_SH[69]? = some (.inr (.inl (0, 16))) := hz_shc rfl
theorem hz_sh_70 : hz_SH[70]? = some (.inr (.inl (0, 16))) := hz_shc rfl
theorem hz_sh_71 : hz_SH[71]? = some (.inr (.inl (0, 16))) := hz_shc rfl
theorem hz_sh_72 : hz_SH[72]? = some (.inr (.inl (0, 12))) := hz_shc rfl
theorem hz_sh_73 : hz_SH[73]? = some (.inr (.inl (0, 16))) := hz_shc rfl
theorem hz_sh_74 : hz_SH[74]? = some (.inr (.inl (0, 16))) := hz_shc rfl
theorem hz_sh_75 : hz_SH[75]? = some (.inr (.inl (0, 16))) := hz_shc rfl
theorem hz_sh_76 : hz_SH[76]? = some (.inr (.inl (0, 16))) := hz_shc rfl
theorem hz_sh_77 : hz_SH[77]? = some (.inr (.inl (0, 9))) := hz_shc rfl
theorem hz_sh_78 : hz_SH[78]? = some (.inl (7, [some 1, some 79, some 80, some 81, some 82, some 83, some 84, some 85, some 86, some 87, some 88, some 89, some 90, some 91, none, none, none, none, none, none])) := hz_shc rfl
theorem hz_sh_79 : hz_SH[79]? = some (.inr (.inl (0, 4))) := hz_shc rfl
theorem hz_sh_80 : hz_SH[80]? = some (.inr (.inl (0, 16))) := hz_shc rfl
theorem hz_sh_81 : hz_SH[81]? = some (.inr (.inl (0, 16))) := hz_shc rfl
theorem hz_sh_82 : hz_SH[82]? = some (.inr (.inl (0, 16))) := hz_shc rfl
theorem hz_sh_83 : hz_SH[83]? = some (.inr (.inl (0, 16))) := hz_shc rfl
theorem hz_sh_84 : hz_SH[84]? = some (.inr (.inl (0, 16))) := hz_shc rfl
theorem hz_sh_85 : hz_SH[85]? = some (.inr (.inl (0, 16))) := hz_shc rfl
theorem hz_sh_86 : hz_SH[86]? = some (.inr (.inl (0, 12))) := hz_shc rfl
theorem hz_sh_87 : hz_SH[87]? = some (.inr (.inl (0, 16))) := hz_shc rfl
theorem hz_sh_88 : hz_SH[88]? = some (.inr (.inl (0, 16))) := hz_shc rfl
theorem hz_sh_89 : hz_SH[89]? = some (.inr (.inl (0, 16))) := hz_shc rfl
theorem hz_sh_90 : hz_SH[90]? = some (.inr (.inl (0, 16))) := hz_shc rfl
theorem hz_sh_91 : hz_SH[91]? = some (.inr (.inl (0, 9))) := hz_shc rfl
theorem hz_sh_92 : hz_SH[92]? = some (.inl (7, [some 1, some 93, some 94, some 95, some 96, some 97, some 98, some 99, some 100, some 101, some 102, some 103, some 104, some 105, none, none, none, none, none, none])) := hz_shc rfl
theorem hz_sh_93 : hz_SH[93]? = some (.inr (.inl (0, 4))) := hz_shc rfl
theorem hz_sh_94 : hz_SH[94]? = some (.inr (.inl (0, 16))) := hz_shc rfl
theorem hz_sh_95 : hz_SH[95]? = some (.inr (.inl (0, 16))) := hz_shc rfl
theorem hz_sh_96 : hz_SH[96]? = some (.inr (.inl (0, 16))) := hz_shc rfl
theorem hz_sh_97 : hz_SH[97]? = some (.inr (.inl (0, 16))) := hz_shc rfl
theorem hz_sh_98 : hz_SH[98]? = some (.inr (.inl (0, 16))) := hz_shc rfl
theorem hz_sh_99 : hz_SH[99]? = some (.inr (.inl (0, 16))) := hz_shc rfl
theorem hz_sh_100 : hz_SH[100]? = some (.inr (.inl (0, 12))) := hz_shc rfl
theorem hz_sh_101 : hz_SH[101]? = some (.inr (.inl (0, 16))) := hz_shc rfl
theorem hz_sh_102 : hz_SH[102]? = some (.inr (.inl (0, 16))) := hz_shc rfl
theorem hz_sh_103 : hz_SH[103]? = some (.inr (.inl (0, 16))) := hz_shc rfl
theorem hz_sh_104 : hz_SH[104]? = some (.inr (.inl (0, 16))) := hz_shc rfl
theorem hz_sh_105 : hz_SH[105]? = some (.inr (.inl (0, 9))) := hz_shc rfl
theorem hz_sh_106 : hz_SH[106]? = some (.inl (7, [some 1, some 107, some 108, some 109, some 110, some 111, some 112, some 113, some 114, some 115, some 116, some 117, some 118, some 119, none, none, none, none, none, none])) := hz_shc rfl
theorem hz_sh_107 : hz_SH[107]? = some (.inr (.inl (0, 4))) := hz_shc rfl
theorem hz_sh_108 : hz_SH[108]? = some (.inr (.inl (0, 16))) := hz_shc rfl
theorem hz_sh_109 : hz_SH[109]? = some (.inr (.inl (0, 16))) := hz_shc rfl
theorem hz_sh_110 : hz_SH[110]? = some (.inr (.inl (0, 16))) := hz_shc rfl
theorem hz_sh_111 : hz_SH[111]? = some (.inr (.inl (0, 16))) := hz_shc rfl
theorem hz_sh_112 : hz_SH[112]? = some (.inr (.inl (0, 16))) := hz_shc rfl
theorem hz_sh_113 : hz_SH[113]? = some (.inr (.inl (0, 16))) := hz_shc rfl
theorem hz_sh_114 : hz_SH[114]? = some (.inr (.inl (0, 12))) := hz_shc rfl
theorem hz_sh_115 : hz_SH[115]? = some (.inr (.inl (0, 16))) := hz_shc rfl
theorem hz_sh_116 : hz_SH[116]? = some (.inr (.inl (0, 16))) := hz_shc rfl
theorem hz_sh_117 : hz_SH[117]? = some (.inr (.inl (0, 16))) := hz_shc rfl
theorem hz_sh_118 : hz_SH[118]? = some (.inr (.inl (0, 16))) := hz_shc rfl
theorem hz_sh_119 : hz_SH[119]? = some (.inr (.inl (0, 9))) := hz_shc rfl
theorem hz_sh_120 : hz_SH[120]? = some (.inl (7, [some 1, some 121, some 122, some 123, some 124, some 125, some 126, some 127, some 128, some 129, some 130, some 131, some 132, some 133, none, none, none, none, none, none])) := hz_shc rfl
theorem hz_sh_121 : hz_SH[121]? = some (.inr (.inl (0, 4))) := hz_shc rfl
theorem hz_sh_122 : hz_SH[122]? = some (.inr (.inl (0, 16))) := hz_shc rfl
theorem hz_sh_123 : hz_SH[123]? = some (.inr (.inl (0, 16))) := hz_shc rfl
theorem hz_sh_124 : hz_SH[124]? = some (.inr (.inl (0, 16))) := hz_shc rfl
theorem hz_sh_125 : hz_SH[125]? = some (.inr (.inl (0, 16))) := hz_shc rfl
theorem hz_sh_126 : hz_SH[126]? = some (.inr (.inl (0, 16))) := hz_shc rfl
theorem hz_sh_127 : hz_SH[127]? = some (.inr (.inl (0, 16))) := hz_shc rfl
theorem hz_sh_128 : hz_SH[128]? = some (.inr (.inl (0, 12))) := hz_shc rfl
theorem hz_sh_129 : hz_SH[129]? = some (.inr (.inl (0, 16))) := hz_shc rfl
theorem hz_sh_130 : hz_SH[130]? = some (.inr (.inl (0, 16))) := hz_shc rfl
theorem hz_sh_131 : hz_SH[131]? = some (.inr (.inl (0, 16))) := hz_shc rfl
theorem hz_sh_132 : hz_SH[132]? = some (.inr (.inl (0, 16))) := hz_shc rfl
theorem hz_sh_133 : hz_SH[133]? = some (.inr (.inl (0, 9))) := hz_shc rfl
theorem hz_sh_134 : hz_SH[134]? = some (.inl (7, [some 1, some 135, some 136, some 137, some 138, some 139, some 140, some 141, some 142, some 143, some 144, some 145, some 146, some 147, none, none, none, none, none, none])) := hz_shc rfl
theorem hz_sh_135 : hz_SH[135]? = some (.inr (.inl (0, 4))) := hz_shc rfl
theorem hz_sh_136 : hz_SH[136]? = some (.inr (.inl (0, 16))) := hz_shc rfl
theorem hz_sh_137 : hz_SH[137]? = some (.inr (.inl (0, 16))) := hz_shc rfl
theorem hz_sh_138 : hz_SH[138]? = some (.inr (.inl (0, 16))) := hz_shc rfl
theorem hz_sh_139 : hz_SH[139]? = some (.inr (.inl (0, 16))) := hz_shc rfl
theorem hz_sh_140 : hz_SH[140]? = some (.inr (.inl (0, 16))) := hz_shc rfl
theorem hz_sh_141 : hz_SH[141]? = some (.inr (.inl (0, 16))) := hz_shc rfl
theorem hz_sh_142 : hz_SH[142]? = some (.inr (.inl (0, 12))) := hz_shc rfl
theorem hz_sh_143 : hz_SH[143]? = some (.inr (.inl (0, 16))) := hz_shc rfl
theorem hz_sh_144 : hz_SH[144]? = some (.inr (.inl (0, 16))) := hz_shc rfl
theorem hz_sh_145 : hz_SH[145]? = some (.inr (.inl (0, 16))) := hz_shc rfl
theorem hz_sh_146 : hz_SH[146]? = some (.inr (.inl (0, 16))) := hz_shc rfl
theorem hz_sh_147 : hz_SH[147]? = some (.inr (.inl (0, 9))) := hz_shc rfl
theorem hz_sh_148 : hz_SH[148]? = some (.inl (7, [some 1, some 149, some 150, some 151, some 152, some 153, some 154, some 155, some 156, some 157, some 158, some 159, some 160, some 161, none, none, none, none, none, none])) := hz_shc rfl
theorem hz_sh_149 : hz_SH[149]? = some (.inr (.inl (0, 4))) := hz_shc rfl
theorem hz_sh_150 : hz_SH[150]? = some (.inr (.inl (0, 16))) := hz_shc rfl
theorem hz_sh_151 : hz_SH[151]? = some (.inr (.inl (0, 16))) := hz_shc rfl
theorem hz_sh_152 : hz_SH[152]? = some (.inr (.inl (0, 16))) := hz_shc rfl
theorem hz_sh_153 : hz_SH[153]? = some (.inr (.inl (0, 16))) := hz_shc rfl
theorem hz_sh_154 : hz_SH[154]? = some (.inr (.inl (0, 16))) := hz_shc rfl
theorem hz_sh_155 : hz_SH[155]? = some (.inr (.inl (0, 16))) := hz_shc rfl
theorem hz_sh_156 : hz_SH[156]? = some (.inr (.inl (0, 12))) := hz_shc rfl
theorem hz_sh_157 : hz_SH[157]? = some (.inr (.inl (0, 16))) := hz_shc rfl
theorem hz_sh_158 : hz_SH[158]? = some (.inr (.inl (0, 16))) := hz_shc rfl
theorem hz_sh_159 : hz_SH[159]? = some (.inr (.inl (0, 16))) := hz_shc rfl
theorem hz_sh_160 : hz_SH[160]? = some (.inr (.inl (0, 16))) := hz_shc rfl
theorem hz_sh_161 : hz_SH[161]? = some (.inr (.inl (0, 9))) := hz_shc rfl
theorem hz_sh_162 : hz_SH[162]? = some (.inl (7, [some 1, some 163, some 164, some 165, some 166, some 167, some 168, some 169, some 170, some 171, some 172, some 173, some 174, some 175, none, none, none, none, none, none])) := hz_shc rfl
theorem hz_sh_163 : hz_SH[163]? = some (.inr (.inl (0, 4))) := hz_shc rfl
theorem hz_sh_164 : hz_SH[164]? = some (.inr (.inl (0, 16))) := hz_shc rfl
theorem hz_sh_165 : hz_SH[165]? = some (.inr (.inl (0, 16))) := hz_shc rfl
theorem hz_sh_166 : hz_SH[166]? = some (.inr (.inl (0, 16))) := hz_shc rfl
theorem hz_sh_167 : hz_SH[167]? = some (.inr (.inl (0, 16))) := hz_shc rfl
theorem hz_sh_168 : hz_SH[168]? = some (.inr (.inl (0, 16))) := hz_shc rfl
theorem hz_sh_169 : hz_SH[169]? = some (.inr (.inl (0, 16))) := hz_shc rfl
theorem hz_sh_170 : hz_SH[170]? = some (.inr (.inl (0, 12))) := hz_shc rfl
theorem hz_sh_171 : hz_SH[171]? = some (.inr (.inl (0, 16))) := hz_shc rfl
theorem hz_sh_172 : hz_SH[172]? = some (.inr (.inl (0, 16))) := hz_shc rfl
theorem hz_sh_173 : hz_SH[173]? = some (.inr (.inl (0, 16))) := hz_shc rfl
theorem hz_sh_174 : hz_SH[174]? = some (.inr (.inl (0, 16))) := hz_shc rfl
theorem hz_sh_175 : hz_SH[175]? = some (.inr (.inl (0, 9))) := hz_shc rfl
theorem hz_sh_176 : hz_SH[176]? = some (.inl (5, [some 1, some 177, none])) := hz_shc rfl
theorem hz_sh_177 : hz_SH[177]? = some (.inr (.inl (0, 256))) := hz_shc rfl
theorem hz_sh_178 : hz_SH[178]? = some (.inl (11, [none, none, none, none, none, none, none, none, none, none, none, none, some 179, some 180, some 181, some 182, some 183, some 184, some 185, some 186, some 187, some 188, some 189, none])) := hz_shc rfl
theorem hz_sh_179 : hz_SH[179]? = some (.inr (.inl (0, 4))) := hz_shc rfl
theorem hz_sh_180 : hz_SH[180]? = some (.inr (.inl (0, 16))) := hz_shc rfl
theorem hz_sh_181 : hz_SH[181]? = some (.inr (.inl (0, 12))) := hz_shc rfl
theorem hz_sh_182 : hz_SH[182]? = some (.inr (.inl (0, 16))) := hz_shc rfl
theorem hz_sh_183 : hz_SH[183]? = some (.inr (.inl (0, 9))) := hz_shc rfl
theorem hz_sh_184 : hz_SH[184]? = some (.inr (.inl (0, 16))) := hz_shc rfl
theorem hz_sh_185 : hz_SH[185]? = some (.inr (.inl (0, 16))) := hz_shc rfl
theorem hz_sh_186 : hz_SH[186]? = some (.inr (.inl (0, 16))) := hz_shc rfl
theorem hz_sh_187 : hz_SH[187]? = some (.inr (.inl (0, 16))) := hz_shc rfl
theorem hz_sh_188 : hz_SH[188]? = some (.inr (.inl (0, 16))) := hz_shc rfl
theorem hz_sh_189 : hz_SH[189]? = some (.inr (.inl (0, 16))) := hz_shc rfl
theorem hz_sh_190 : hz_SH[190]? = some (.inr (.inr (.inr (.inr 40)))) := hz_shc rfl
theorem hz_lt_0 {N : Nat} (h : 178 ≤ N) : 0 < N := Nat.lt_of_lt_of_le (Nat.le_of_ble_eq_true rfl) h
theorem hz_lt_1 {N : Nat} (h : 178 ≤ N) : 1 < N := Nat.lt_of_lt_of_le (Nat.le_of_ble_eq_true rfl) h
theorem hz_lt_2 {N : Nat} (h : 178 ≤ N) : 2 < N := Nat.lt_of_lt_of_le (Nat.le_of_ble_eq_true rfl) h
theorem hz_lt_3 {N : Nat} (h : 178 ≤ N) : 3 < N := Nat.lt_of_lt_of_le (Nat.le_of_ble_eq_true rfl) h
theorem hz_lt_4 {N : Nat} (h : 178 ≤ N) : 4 < N := Nat.lt_of_lt_of_le (Nat.le_of_ble_eq_true rfl) h
theorem hz_lt_5 {N : Nat} (h : 178 ≤ N) : 5 < N := Nat.lt_of_lt_of_le (Nat.le_of_ble_eq_true rfl) h
theorem hz_lt_6 {N : Nat} (h : 178 ≤ N) : 6 < N := Nat.lt_of_lt_of_le (Nat.le_of_ble_eq_true rfl) h
theorem hz_lt_7 {N : Nat} (h : 178 ≤ N) : 7 < N := Nat.lt_of_lt_of_le (Nat.le_of_ble_eq_true rfl) h
theorem hz_lt_8 {N : Nat} (h : 178 ≤ N) : 8 < N := Nat.lt_of_lt_of_le (Nat.le_of_ble_eq_true rfl) h
theorem hz_lt_9 {N : Nat} (h : 178 ≤ N) : 9 < N := Nat.lt_of_lt_of_le (Nat.le_of_ble_eq_true rfl) h
theorem hz_lt_10 {N : Nat} (h : 178 ≤ N) : 10 < N := Nat.lt_of_lt_of_le (Nat.le_of_ble_eq_true rfl) h
theorem hz_lt_11 {N : Nat} (h : 178 ≤ N) : 11 < N := Nat.lt_of_lt_of_le (Nat.le_of_ble_eq_true rfl) h
theorem hz_lt_12 {N : Nat} (h : 178 ≤ N) : 12 < N := Nat.lt_of_lt_of_le (Nat.le_of_ble_eq_true rfl) h
theorem hz_lt_13 {N : Nat} (h : 178 ≤ N) : 13 < N := Nat.lt_of_lt_of_le (Nat.le_of_ble_eq_true rfl) h
theorem hz_lt_14 {N : Nat} (h : 178 ≤ N) : 14 < N := Nat.lt_of_lt_of_le (Nat.le_of_ble_eq_true rfl) h
theorem hz_lt_15 {N : Nat} (h : 178 ≤ N) : 15 < N := Nat.lt_of_lt_of_le (Nat.le_of_ble_eq_true rfl) h
theorem hz_lt_16 {N : Nat} (h : 178 ≤ N) : 16 < N := Nat.lt_of_lt_of_le (Nat.le_of_ble_eq_true rfl) h
theorem hz_lt_17 {N : Nat} (h : 178 ≤ N) : 17 < N := Nat.lt_of_lt_of_le (Nat.le_of_ble_eq_true rfl) h
theorem hz_lt_18 {N : Nat} (h : 178 ≤ N) : 18 < N := Nat.lt_of_lt_of_le (Nat.le_of_ble_eq_true rfl) h
theorem hz_lt_19 {N : Nat} (h : 178 ≤ N) : 19 < N := Nat.lt_of_lt_of_le (Nat.le_of_ble_eq_true rfl) h
theorem hz_lt_20 {N : Nat} (h : 178 ≤ N) : 20 < N := Nat.lt_of_lt_of_le (Nat.le_of_ble_eq_true rfl) h
theorem hz_lt_21 {N : Nat} (h : 178 ≤ N) : 21 < N := Nat.lt_of_lt_of_le (Nat.le_of_ble_eq_true rfl) h
theorem hz_lt_22 {N : Nat} (h : 178 ≤ N) : 22 < N := Nat.lt_of_lt_of_le (Nat.le_of_ble_eq_true rfl) h
theorem hz_lt_23 {N : Nat} (h : 178 ≤ N) : 23 < N := Nat.lt_of_lt_of_le (Nat.le_of_ble_eq_true rfl) h
theorem hz_lt_24 {N : Nat} (h : 178 ≤ N) : 24 < N := Nat.lt_of_lt_of_le (Nat.le_of_ble_eq_true rfl) h
theorem hz_lt_25 {N : Nat} (h : 178 ≤ N) : 25 < N := Nat.lt_of_lt_of_le (Nat.le_of_ble_eq_true rfl) h
theorem hz_lt_26 {N : Nat} (h : 178 ≤ N) : 26 < N := Nat.lt_of_lt_of_le (Nat.le_of_ble_eq_true rfl) h
theorem hz_lt_27 {N : Nat} (h : 178 ≤ N) : 27 < N := Nat.lt_of_lt_of_le (Nat.le_of_ble_eq_true rfl) h
theorem hz_lt_28 {N : Nat} (h : 178 ≤ N) : 28 < N := Nat.lt_of_lt_of_le (Nat.le_of_ble_eq_true rfl) h
theorem hz_lt_29 {N : Nat} (h : 178 ≤ N) : 29 < N := Nat.lt_of_lt_of_le (Nat.le_of_ble_eq_true rfl) h
theorem hz_lt_30 {N : Nat} (h : 178 ≤ N) : 30 < N := Nat.lt_of_lt_of_le (Nat.le_of_ble_eq_true rfl) h
theorem hz_lt_31 {N : Nat} (h : 178 ≤ N) : 31 < N := Nat.lt_of_lt_of_le (Nat.le_of_ble_eq_true rfl) h
theorem hz_lt_32 {N : Nat} (h : 178 ≤ N) : 32 < N := Nat.lt_of_lt_of_le (Nat.le_of_ble_eq_true rfl) h
theorem hz_lt_33 {N : Nat} (h : 178 ≤ N) : 33 < N := Nat.lt_of_lt_of_le (Nat.le_of_ble_eq_true rfl) h
theorem hz_lt_34 {N : Nat} (h : 178 ≤ N) : 34 < N := Nat.lt_of_lt_of_le (Nat.le_of_ble_eq_true rfl) h
theorem hz_lt_35 {N : Nat} (h : 178 ≤ N) : 35 < N := Nat.lt_of_lt_of_le (Nat.le_of_ble_eq_true rfl) h
theorem hz_lt_36 {N : Nat} (h : 178 ≤ N) : 36 < N := Nat.lt_of_lt_of_le (Nat.le_of_ble_eq_true rfl) h
theorem hz_lt_37 {N : Nat} (h : 178 ≤ N) : 37 < N := Nat.lt_of_lt_of_le (Nat.le_of_ble_eq_true rfl) h
theorem hz_lt_38 {N : Nat} (h : 178 ≤ N) : 38 < N := Nat.lt_of_lt_of_le (Nat.le_of_ble_eq_true rfl) h
theorem hz_lt_39 {N : Nat} (h : 178 ≤ N) : 39 < N := Nat.lt_of_lt_of_le (Nat.le_of_ble_eq_true rfl) h
theorem hz_lt_40 {N : Nat} (h : 178 ≤ N) : 40 < N := Nat.lt_of_lt_of_le (Nat.le_of_ble_eq_true rfl) h
theorem hz_lt_41 {N : Nat} (h : 178 ≤ N) : 41 < N := Nat.lt_of_lt_of_le (Nat.le_of_ble_eq_true rfl) h
theorem hz_lt_42 {N : Nat} (h : 178 ≤ N) : 42 < N := Nat.lt_of_lt_of_le (Nat.le_of_ble_eq_true rfl) h
theorem hz_lt_43 {N : Nat} (h : 178 ≤ N) : 43 < N := Nat.lt_of_lt_of_le (Nat.le_of_ble_eq_true rfl) h
theorem hz_lt_44 {N : Nat} (h : 178 ≤ N) : 44 < N := Nat.lt_of_lt_of_le (Nat.le_of_ble_eq_true rfl) h
theorem hz_lt_45 {N : Nat} (h : 178 ≤ N) : 45 < N := Nat.lt_of_lt_of_le (Nat.le_of_ble_eq_true rfl) h
theorem hz_lt_46 {N : Nat} (h : 178 ≤ N) : 46 < N := Nat.lt_of_lt_of_le (Nat.le_of_ble_eq_true rfl) h
theorem hz_lt_47 {N : Nat} (h : 178 ≤ N) : 47 < N := Nat.lt_of_lt_of_le (Nat.le_of_ble_eq_true rfl) h
theorem hz_lt_48 {N : Nat} (h : 178 ≤ N) : 48 < N := Nat.lt_of_lt_of_le (Nat.le_of_ble_eq_true rfl) h
theorem hz_lt_49 {N : Nat} (h : 178 ≤ N) : 49 < N := Nat.lt_of_lt_of_le (Nat.le_of_ble_eq_true rfl) h
theorem hz_lt_50 {N : Nat} (h : 178 ≤ N) : 50 < N := Nat.lt_of_lt_of_le (Nat.le_of_ble_eq_true rfl) h
theorem hz_lt_51 {N : Nat} (h : 178 ≤ N) : 51 < N := Nat.lt_of_lt_of_le (Nat.le_of_ble_eq_true rfl) h
theorem hz_lt_52 {N : Nat} (h : 178 ≤ N) : 52 < N := Nat.lt_of_lt_of_le (Nat.le_of_ble_eq_true rfl) h
theorem hz_lt_53 {N : Nat} (h : 178 ≤ N) : 53 < N := Nat.lt_of_lt_of_le (Nat.le_of_ble_eq_true rfl) h
theorem hz_lt_54 {N : Nat} (h : 178 ≤ N) : 54 < N := Nat.lt_of_lt_of_le (Nat.le_of_ble_eq_true rfl) h
theorem hz_lt_55 {N : Nat} (h : 178 ≤ N) : 55 < N := Nat.lt_of_lt_of_le (Nat.le_of_ble_eq_true rfl) h
theorem hz_lt_56 {N : Nat} (h : 178 ≤ N) : 56 < N := Nat.lt_of_lt_of_le (Nat.le_of_ble_eq_true rfl) h
theorem hz_lt_57 {N : Nat} (h : 178 ≤ N) : 57 < N := Nat.lt_of_lt_of_le (Nat.le_of_ble_eq_true rfl) h
theorem hz_lt_58 {N : Nat} (h : 178 ≤ N) : 58 < N := Nat.lt_of_lt_of_le (Nat.le_of_ble_eq_true rfl) h
theorem hz_lt_59 {N : Nat} (h : 178 ≤ N) : 59 < N := Nat.lt_of_lt_of_le (Nat.le_of_ble_eq_true rfl) h
theorem hz_lt_60 {N : Nat} (h : 178 ≤ N) : 60 < N := Nat.lt_of_lt_of_le (Nat.le_of_ble_eq_true rfl) h
theorem hz_lt_61 {N : Nat} (h : 178 ≤ N) : 61 < N := Nat.lt_of_lt_of_le (Nat.le_of_ble_eq_true rfl) h
theorem hz_lt_62 {N : Nat} (h : 178 ≤ N) : 62 < N := Nat.lt_of_lt_of_le (Nat.le_of_ble_eq_true rfl) h
theorem hz_lt_63 {N : Nat} (h : 178 ≤ N) : 63 < N := Nat.lt_of_lt_of_le (Nat.le_of_ble_eq_true rfl) h
theorem hz_lt_64 {N : Nat} (h : 178 ≤ N) : 64 < N := Nat.lt_of_lt_of_le (Nat.le_of_ble_eq_true rfl) h
theorem hz_lt_65 {N : Nat} (h : 178 ≤ N) : 65 < N := Nat.lt_of_lt_of_le (Nat.le_of_ble_eq_true rfl) h
theorem hz_lt_66 {N : Nat} (h : 178 ≤ N) : 66 < N := Nat.lt_of_lt_of_le (Nat.le_of_ble_eq_true rfl) h
theorem hz_lt_67 {N : Nat} (h : 178 ≤ N) : 67 < N := Nat.lt_of_lt_of_le (Nat.le_of_ble_eq_true rfl) h
theorem hz_lt_68 {N : Nat} (h : 178 ≤ N) : 68 < N := Nat.lt_of_lt_of_le (Nat.le_of_ble_eq_true rfl) h
theorem hz_lt_69 {N : Nat} (h : 178 ≤ N) : 69 < N := Nat.lt_of_lt_of_le (Nat.le_of_ble_eq_true rfl) h
theorem hz_lt_70 {N : Nat} (h : 178 ≤ N) : 70 < N := Nat.lt_of_lt_of_le (Nat.le_of_ble_eq_true rfl) h
theorem hz_lt_71 {N : Nat} (h : 178 ≤ N) : 71 < N := Nat.lt_of_lt_of_le (Nat.le_of_ble_eq_true rfl) h
theorem hz_lt_72 {N : Nat} (h : 178 ≤ N) : 72 < N := Nat.lt_of_lt_of_le (Nat.le_of_ble_eq_true rfl) h
theorem hz_lt_73 {N : Nat} (h : 178 ≤ N) : 73 < N := Nat.lt_of_lt_of_le (Nat.le_of_ble_eq_true rfl) h
theorem hz_lt_74 {N : Nat} (h : 178 ≤ N) : 74 < N := Nat.lt_of_lt_of_le (Nat.le_of_ble_eq_true rfl) h
theorem hz_lt_75 {N : Nat} (h : 178 ≤ N) : 75 < N := Nat.lt_of_lt_of_le (Nat.le_of_ble_eq_true rfl) h
theorem hz_lt_76 {N : Nat} (h : 178 ≤ N) : 76 < N := Nat.lt_of_lt_of_le (Nat.le_of_ble_eq_true rfl) h
theorem hz_lt_77 {N : Nat} (h : 178 ≤ N) : 77 < N := Nat.lt_of_lt_of_le (Nat.le_of_ble_eq_true rfl) h
theorem hz_lt_78 {N : Nat} (h : 178 ≤ N) : 78 < N := Nat.lt_of_lt_of_le (Nat.le_of_ble_eq_true rfl) h
theorem hz_lt_79 {N : Nat} (h : 178 ≤ N) : 79 < N := Nat.lt_of_lt_of_le (Nat.le_of_ble_eq_true rfl) h
theorem hz_lt_80 {N : Nat} (h : 178 ≤ N) : 80 < N := Nat.lt_of_lt_of_le (Nat.le_of_ble_eq_true rfl) h
theorem hz_lt_81 {N : Nat} (h : 178 ≤ N) : 81 < N := Nat.lt_of_lt_of_le (Nat.le_of_ble_eq_true rfl) h
theorem hz_lt_82 {N : Nat} (h : 178 ≤ N) : 82 < N := Nat.lt_of_lt_of_le (Nat.le_of_ble_eq_true rfl) h
theorem hz_lt_83 {N : Nat} (h : 178 ≤ N) : 83 < N := Nat.lt_of_lt_of_le (Nat.le_of_ble_eq_true rfl) h
theorem hz_lt_84 {N : Nat} (h : 178 ≤ N) : 84 < N := Nat.lt_of_lt_of_le (Nat.le_of_ble_eq_true rfl) h
theorem hz_lt_85 {N : Nat} (h : 178 ≤ N) : 85 < N := Nat.lt_of_lt_of_le (Nat.le_of_ble_eq_true rfl) h
theorem hz_lt_86 {N : Nat} (h : 178 ≤ N) : 86 < N := Nat.lt_of_lt_of_le (Nat.le_of_ble_eq_true rfl) h
theorem hz_lt_87 {N : Nat} (h : 178 ≤ N) : 87 < N := Nat.lt_of_lt_of_le (Nat.le_of_ble_eq_true rfl) h
theorem hz_lt_88 {N : Nat} (h : 178 ≤ N) : 88 < N := Nat.lt_of_lt_of_le (Nat.le_of_ble_eq_true rfl) h
theorem hz_lt_89 {N : Nat} (h : 178 ≤ N) : 89 < N := Nat.lt_of_lt_of_le (Nat.le_of_ble_eq_true rfl) h
theorem hz_lt_90 {N : Nat} (h : 178 ≤ N) : 90 < N := Nat.lt_of_lt_of_le (Nat.le_of_ble_eq_true rfl) h
theorem hz_lt_91 {N : Nat} (h : 178 ≤ N) : 91 < N := Nat.lt_of_lt_of_le (Nat.le_of_ble_eq_true rfl) h
theorem hz_lt_92 {N : Nat} (h : 178 ≤ N) : 92 < N := Nat.lt_of_lt_of_le (Nat.le_of_ble_eq_true rfl) h
theorem hz_lt_93 {N : Nat} (h : 178 ≤ N) : 93 < N := Nat.lt_of_lt_of_le (Nat.le_of_ble_eq_true rfl) h
theorem hz_lt_94 {N : Nat} (h : 178 ≤ N) : 94 < N := Nat.lt_of_lt_of_le (Nat.le_of_ble_eq_true rfl) h
theorem hz_lt_95 {N : Nat} (h : 178 ≤ N) : 95 < N := Nat.lt_of_lt_of_le (Nat.le_of_ble_eq_true rfl) h
theorem hz_lt_96 {N : Nat} (h : 178 ≤ N) : 96 < N := Nat.lt_of_lt_of_le (Nat.le_of_ble_eq_true rfl) h
theorem hz_lt_97 {N : Nat} (h : 178 ≤ N) : 97 < N := Nat.lt_of_lt_of_le (Nat.le_of_ble_eq_true rfl) h
theorem hz_lt_98 {N : Nat} (h : 178 ≤ N) : 98 < N := Nat.lt_of_lt_of_le (Nat.le_of_ble_eq_true rfl) h
theorem hz_lt_99 {N : Nat} (h : 178 ≤ N) : 99 < N := Nat.lt_of_lt_of_le (Nat.le_of_ble_eq_true rfl) h
theorem hz_lt_100 {N : Nat} (h : 178 ≤ N) : 100 < N := Nat.lt_of_lt_of_le (Nat.le_of_ble_eq_true rfl) h
theorem hz_lt_101 {N : Nat} (h : 178 ≤ N) : 101 < N := Nat.lt_of_lt_of_le (Nat.le_of_ble_eq_true rfl) h
theorem hz_lt_102 {N : Nat} (h : 178 ≤ N) : 102 < N := Nat.lt_of_lt_of_le (Nat.le_of_ble_eq_true rfl) h
theorem hz_lt_103 {N : Nat} (h : 178 ≤ N) : 103 < N := Nat.lt_of_lt_of_le (Nat.le_of_ble_eq_true rfl) h
theorem hz_lt_104 {N : Nat} (h : 178 ≤ N) : 104 < N := Nat.lt_of_lt_of_le (Nat.le_of_ble_eq_true rfl) h
theorem hz_lt_105 {N : Nat} (h : 178 ≤ N) : 105 < N := Nat.lt_of_lt_of_le (Nat.le_of_ble_eq_true rfl) h
theorem hz_lt_106 {N : Nat} (h : 178 ≤ N) : 106 < N := Nat.lt_of_lt_of_le (Nat.le_of_ble_eq_true rfl) h
theorem hz_lt_107 {N : Nat} (h : 178 ≤ N) : 107 < N := Nat.lt_of_lt_of_le (Nat.le_of_ble_eq_true rfl) h
theorem hz_lt_108 {N : Nat} (h : 178 ≤ N) : 108 < N := Nat.lt_of_lt_of_le (Nat.le_of_ble_eq_true rfl) h
theorem hz_lt_109 {N : Nat} (h : 178 ≤ N) : 109 < N := Nat.lt_of_lt_of_le (Nat.le_of_ble_eq_true rfl) h
theorem hz_lt_110 {N : Nat} (h : 178 ≤ N) : 110 < N := Nat.lt_of_lt_of_le (Nat.le_of_ble_eq_true rfl) h
theorem hz_lt_111 {N : Nat} (h : 178 ≤ N) : 111 < N := Nat.lt_of_lt_of_le (Nat.le_of_ble_eq_true rfl) h
theorem hz_lt_112 {N : Nat} (h : 178 ≤ N) : 112 < N := Nat.lt_of_lt_of_le (Nat.le_of_ble_eq_true rfl) h
theorem hz_lt_113 {N : Nat} (h : 178 ≤ N) : 113 < N := Nat.lt_of_lt_of_le (Nat.le_of_ble_eq_true rfl) h
theorem hz_lt_114 {N : Nat} (h : 178 ≤ N) : 114 < N := Nat.lt_of_lt_of_le (Nat.le_of_ble_eq_true rfl) h
theorem hz_lt_115 {N : Nat} (h : 178 ≤ N) : 115 < N := Nat.lt_of_lt_of_le (Nat.le_of_ble_eq_true rfl) h
theorem hz_lt_116 {N : Nat} (h : 178 ≤ N) : 116 < N := Nat.lt_of_lt_of_le (Nat.le_of_ble_eq_true rfl) h
theorem hz_lt_117 {N : Nat} (h : 178 ≤ N) : 117 < N := Nat.lt_of_lt_of_le (Nat.le_of_ble_eq_true rfl) h
theorem hz_lt_118 {N : Nat} (h : 178 ≤ N) : 118 < N := Nat.lt_of_lt_of_le (Nat.le_of_ble_eq_true rfl) h
theorem hz_lt_119 {N : Nat} (h : 178 ≤ N) : 119 < N := Nat.lt_of_lt_of_le (Nat.le_of_ble_eq_true rfl) h
theorem hz_lt_120 {N : Nat} (h : 178 ≤ N) : 120 < N := Nat.lt_of_lt_of_le (Nat.le_of_ble_eq_true rfl) h
theorem hz_lt_121 {N : Nat} (h : 178 ≤ N) : 121 < N := Nat.lt_of_lt_of_le (Nat.le_of_ble_eq_true rfl) h
theorem hz_lt_122 {N : Nat} (h : 178 ≤ N) : 122 < N := Nat.lt_of_lt_of_le (Nat.le_of_ble_eq_true rfl) h
theorem hz_lt_123 {N : Nat} (h : 178 ≤ N) : 123 < N := Nat.lt_of_lt_of_le (Nat.le_of_ble_eq_true rfl) h
theorem hz_lt_124 {N : Nat} (h : 178 ≤ N) : 124 < N := Nat.lt_of_lt_of_le (Nat.le_of_ble_eq_true rfl) h
theorem hz_lt_125 {N : Nat} (h : 178 ≤ N) : 125 < N := Nat.lt_of_lt_of_le (Nat.le_of_ble_eq_true rfl) h
theorem hz_lt_126 {N : Nat} (h : 178 ≤ N) : 126 < N := Nat.lt_of_lt_of_le (Nat.le_of_ble_eq_true rfl) h
theorem hz_lt_127 {N : Nat} (h : 178 ≤ N) : 127 < N := Nat.lt_of_lt_of_le (Nat.le_of_ble_eq_true rfl) h
theorem hz_lt_128 {N : Nat} (h : 178 ≤ N) : 128 < N := Nat.lt_of_lt_of_le (Nat.le_of_ble_eq_true rfl) h
theorem hz_lt_129 {N : Nat} (h : 178 ≤ N) : 129 < N := Nat.lt_of_lt_of_le (Nat.le_of_ble_eq_true rfl) h
theorem hz_lt_130 {N : Nat} (h : 178 ≤ N) : 130 < N := Nat.lt_of_lt_of_le (Nat.le_of_ble_eq_true rfl) h
theorem hz_lt_131 {N : Nat} (h : 178 ≤ N) : 131 < N := Nat.lt_of_lt_of_le (Nat.le_of_ble_eq_true rfl) h
theorem hz_lt_132 {N : Nat} (h : 178 ≤ N) : 132 < N := Nat.lt_of_lt_of_le (Nat.le_of_ble_eq_true rfl) h
theorem hz_lt_133 {N : Nat} (h : 178 ≤ N) : 133 < N := Nat.lt_of_lt_of_le (Nat.le_of_ble_eq_true rfl) h
theorem hz_lt_134 {N : Nat} (h : 178 ≤ N) : 134 < N := Nat.lt_of_lt_of_le (Nat.le_of_ble_eq_true rfl) h
theorem hz_lt_135 {N : Nat} (h : 178 ≤ N) : 135 < N := Nat.lt_of_lt_of_le (Nat.le_of_ble_eq_true rfl) h
theorem hz_lt_136 {N : Nat} (h : 178 ≤ N) : 136 < N := Nat.lt_of_lt_of_le (Nat.le_of_ble_eq_true rfl) h
theorem hz_lt_137 {N : Nat} (h : 178 ≤ N) : 137 < N := Nat.lt_of_lt_of_le (Nat.le_of_ble_eq_true rfl) h
theorem hz_lt_138 {N : Nat} (h : 178 ≤ N) : 138 < N := Nat.lt_of_lt_of_le (Nat.le_of_ble_eq_true rfl) h
theorem hz_lt_139 {N : Nat} (h : 178 ≤ N) : 139 < N := Nat.lt_of_lt_of_le (Nat.le_of_ble_eq_true rfl) h
theorem hz_lt_140 {N : Nat} (h : 178 ≤ N) : 140 < N := Nat.lt_of_lt_of_le (Nat.le_of_ble_eq_true rfl) h
theorem hz_lt_141 {N : Nat} (h : 178 ≤ N) : 141 < N := Nat.lt_of_lt_of_le (Nat.le_of_ble_eq_true rfl) h
theorem hz_lt_142 {N : Nat} (h : 178 ≤ N) : 142 < N := Nat.lt_of_lt_of_le (Nat.le_of_ble_eq_true rfl) h
theorem hz_lt_143 {N : Nat} (h : 178 ≤ N) : 143 < N := Nat.lt_of_lt_of_le (Nat.le_of_ble_eq_true rfl) h
theorem hz_lt_144 {N : Nat} (h : 178 ≤ N) : 144 < N := Nat.lt_of_lt_of_le (Nat.le_of_ble_eq_true rfl) h
theorem hz_lt_145 {N : Nat} (h : 178 ≤ N) : 145 < N := Nat.lt_of_lt_of_le (Nat.le_of_ble_eq_true rfl) h
theorem hz_lt_146 {N : Nat} (h : 178 ≤ N) : 146 < N := Nat.lt_of_lt_of_le (Nat.le_of_ble_eq_true rfl) h
theorem hz_lt_147 {N : Nat} (h : 178 ≤ N) : 147 < N := Nat.lt_of_lt_of_le (Nat.le_of_ble_eq_true rfl) h
theorem hz_lt_148 {N : Nat} (h : 178 ≤ N) : 148 < N := Nat.lt_of_lt_of_le (Nat.le_of_ble_eq_true rfl) h
theorem hz_lt_149 {N : Nat} (h : 178 ≤ N) : 149 < N := Nat.lt_of_lt_of_le (Nat.le_of_ble_eq_true rfl) h
theorem hz_lt_150 {N : Nat} (h : 178 ≤ N) : 150 < N := Nat.lt_of_lt_of_le (Nat.le_of_ble_eq_true rfl) h
theorem hz_lt_151 {N : Nat} (h : 178 ≤ N) : 151 < N := Nat.lt_of_lt_of_le (Nat.le_of_ble_eq_true rfl) h
theorem hz_lt_152 {N : Nat} (h : 178 ≤ N) : 152 < N := Nat.lt_of_lt_of_le (Nat.le_of_ble_eq_true rfl) h
theorem hz_lt_153 {N : Nat} (h : 178 ≤ N) : 153 < N := Nat.lt_of_lt_of_le (Nat.le_of_ble_eq_true rfl) h
theorem hz_lt_154 {N : Nat} (h : 178 ≤ N) : 154 < N := Nat.lt_of_lt_of_le (Nat.le_of_ble_eq_true rfl) h
theorem hz_lt_155 {N : Nat} (h : 178 ≤ N) : 155 < N := Nat.lt_of_lt_of_le (Nat.le_of_ble_eq_true rfl) h
theorem hz_lt_156 {N : Nat} (h : 178 ≤ N) : 156 < N := Nat.lt_of_lt_of_le (Nat.le_of_ble_eq_true rfl) h
theorem hz_lt_157 {N : Nat} (h : 178 ≤ N) : 157 < N := Nat.lt_of_lt_of_le (Nat.le_of_ble_eq_true rfl) h
theorem hz_lt_158 {N : Nat} (h : 178 ≤ N) : 158 < N := Nat.lt_of_lt_of_le (Nat.le_of_ble_eq_true rfl) h
theorem hz_lt_159 {N : Nat} (h : 178 ≤ N) : 159 < N := Nat.lt_of_lt_of_le (Nat.le_of_ble_eq_true rfl) h
theorem hz_lt_160 {N : Nat} (h : 178 ≤ N) : 160 < N := Nat.lt_of_lt_of_le (Nat.le_of_ble_eq_true rfl) h
theorem hz_lt_161 {N : Nat} (h : 178 ≤ N) : 161 < N := Nat.lt_of_lt_of_le (Nat.le_of_ble_eq_true rfl) h
theorem hz_lt_162 {N : Nat} (h : 178 ≤ N) : 162 < N := Nat.lt_of_lt_of_le (Nat.le_of_ble_eq_true rfl) h
theorem hz_lt_163 {N : Nat} (h : 178 ≤ N) : 163 < N := Nat.lt_of_lt_of_le (Nat.le_of_ble_eq_true rfl) h
theorem hz_lt_164 {N : Nat} (h : 178 ≤ N) : 164 < N := Nat.lt_of_lt_of_le (Nat.le_of_ble_eq_true rfl) h
theorem hz_lt_165 {N : Nat} (h : 178 ≤ N) : 165 < N := Nat.lt_of_lt_of_le (Nat.le_of_ble_eq_true rfl) h
theorem hz_lt_166 {N : Nat} (h : 178 ≤ N) : 166 < N := Nat.lt_of_lt_of_le (Nat.le_of_ble_eq_true rfl) h
theorem hz_lt_167 {N : Nat} (h : 178 ≤ N) : 167 < N := Nat.lt_of_lt_of_le (Nat.le_of_ble_eq_true rfl) h
theorem hz_lt_168 {N : Nat} (h : 178 ≤ N) : 168 < N := Nat.lt_of_lt_of_le (Nat.le_of_ble_eq_true rfl) h
theorem hz_lt_169 {N : Nat} (h : 178 ≤ N) : 169 < N := Nat.lt_of_lt_of_le (Nat.le_of_ble_eq_true rfl) h
theorem hz_lt_170 {N : Nat} (h : 178 ≤ N) : 170 < N := Nat.lt_of_lt_of_le (Nat.le_of_ble_eq_true rfl) h
theorem hz_lt_171 {N : Nat} (h : 178 ≤ N) : 171 < N := Nat.lt_of_lt_of_le (Nat.le_of_ble_eq_true rfl) h
theorem hz_lt_172 {N : Nat} (h : 178 ≤ N) : 172 < N := Nat.lt_of_lt_of_le (Nat.le_of_ble_eq_true rfl) h
theorem hz_lt_173 {N : Nat} (h : 178 ≤ N) : 173 < N := Nat.lt_of_lt_of_le (Nat.le_of_ble_eq_true rfl) h
theorem hz_lt_174 {N : Nat} (h : 178 ≤ N) : 174 < N := Nat.lt_of_lt_of_le (Nat.le_of_ble_eq_true rfl) h
theorem hz_lt_175 {N : Nat} (h : 178 ≤ N) : 175 < N := Nat.lt_of_lt_of_le (Nat.le_of_ble_eq_true rfl) h
theorem hz_lt_176 {N : Nat} (h : 178 ≤ N) : 176 < N := Nat.lt_of_lt_of_le (Nat.le_of_ble_eq_true rfl) h
theorem hz_lt_177 {N : Nat} (h : 178 ≤ N) : 177 < N := Nat.lt_of_lt_of_le (Nat.le_of_ble_eq_true rfl) h
theorem hz_lt_178 {N : Nat} (h : 190 ≤ N) : 178 < N := Nat.lt_of_lt_of_le (Nat.le_of_ble_eq_true rfl) h
theorem hz_lt_179 {N : Nat} (h : 190 ≤ N) : 179 < N := Nat.lt_of_lt_of_le (Nat.le_of_ble_eq_true rfl) h
theorem hz_lt_180 {N : Nat} (h : 190 ≤ N) : 180 < N := Nat.lt_of_lt_of_le (Nat.le_of_ble_eq_true rfl) h
theorem hz_lt_181 {N : Nat} (h : 190 ≤ N) : 181 < N := Nat.lt_of_lt_of_le (Nat.le_of_ble_eq_true rfl) h
theorem hz_lt_182 {N : Nat} (h : 190 ≤ N) : 182 < N := Nat.lt_of_lt_of_le (Nat.le_of_ble_eq_true rfl) h
theorem hz_lt_183 {N : Nat} (h : 190 ≤ N) : 183 < N := Nat.lt_of_lt_of_le (Nat.le_of_ble_eq_true rfl) h
theorem hz_lt_184 {N : Nat} (h : 190 ≤ N) : 184 < N := Nat.lt_of_lt_of_le (Nat.le_of_ble_eq_true rfl) h
theorem hz_lt_185 {N : Nat} (h : 190 ≤ N) : 185 < N := Nat.lt_of_lt_of_le (Nat.le_of_ble_eq_true rfl) h
theorem hz_lt_186 {N : Nat} (h : 190 ≤ N) : 186 < N := Nat.lt_of_lt_of_le (Nat.le_of_ble_eq_true rfl) h
theorem hz_lt_187 {N : Nat} (h : 190 ≤ N) : 187 < N := Nat.lt_of_lt_of_le (Nat.le_of_ble_eq_true rfl) h
theorem hz_lt_188 {N : Nat} (h : 190 ≤ N) : 188 < N := Nat.lt_of_lt_of_le (Nat.le_of_ble_eq_true rfl) h
theorem hz_lt_189 {N : Nat} (h : 190 ≤ N) : 189 < N := Nat.lt_of_lt_of_le (Nat.le_of_ble_eq_true rfl) h
theorem hz_lt_190 {N : Nat} (h : 191 ≤ N) : 190 < N := Nat.lt_of_lt_of_le (Nat.le_of_ble_eq_true rfl) h
def hz_Own (N b : Nat) : Prop := hz_SH[b]? = some (hz_os b 0) ∧ b < N ∧ hz_SH[b + 1]? = some (.inr (.inl (0, 4))) ∧ b + 1 < N ∧ hz_SH[b + 2]? = some (.inr (.inl (0, 16))) ∧ b + 2 < N ∧ hz_SH[b + 3]? = some (.inr (.inl (0, 12))) ∧ b + 3 < N ∧ hz_SH[b + 4]? = some (.inr (.inl (0, 16))) ∧ b + 4 < N ∧ hz_SH[b + 5]? = some (.inr (.inl (0, 9))) ∧ b + 5 < N ∧ hz_SH[b + 6]? = some (.inr (.inl (0, 16))) ∧ b + 6 < N ∧ hz_SH[b + 7]? = some (.inr (.inl (0, 16))) ∧ b + 7 < N ∧ hz_SH[b + 8]? = some (.inr (.inl (0, 16))) ∧ b + 8 < N ∧ hz_SH[b + 9]? = some (.inr (.inl (0, 16))) ∧ b + 9 < N ∧ hz_SH[b + 10]? = some (.inr (.inl (0, 16))) ∧ b + 10 < N ∧ hz_SH[b + 11]? = some (.inr (.inl (0, 16))) ∧ b + 11 < N
theorem hz_own_0 {N : Nat} (h : 190 ≤ N) : hz_Own N 178 := ⟨hz_sh_178, hz_lt_178 h, hz_sh_179, hz_lt_179 h, hz_sh_180, hz_lt_180 h, hz_sh_181, hz_lt_181 h, hz_sh_182, hz_lt_182 h, hz_sh_183, hz_lt_183 h, hz_sh_184, hz_lt_184 h, hz_sh_185, hz_lt_185 h, hz_sh_186, hz_lt_186 h, hz_sh_187, hz_lt_187 h, hz_sh_188, hz_lt_188 h, hz_sh_189, hz_lt_189 h⟩
theorem hz_own_s {N j : Nat} (hj : j < 48) (h : 191 + 12 * j + 12 ≤ N) : hz_Own N (191 + 12 * j) := ⟨hz_sho hj (k := 0) (by omega), by omega, hz_sho hj (k := 1) (by omega), by omega, hz_sho hj (k := 2) (by omega), by omega, hz_sho hj (k := 3) (by omega), by omega, hz_sho hj (k := 4) (by omega), by omega, hz_sho hj (k := 5) (by omega), by omega, hz_sho hj (k := 6) (by omega), by omega, hz_sho hj (k := 7) (by omega), by omega, hz_sho hj (k := 8) (by omega), by omega, hz_sho hj (k := 9) (by omega), by omega, hz_sho hj (k := 10) (by omega), by omega, hz_sho hj (k := 11) (by omega), by omega⟩
def hz_nm : List String := ["ENTER", "SIT", "HALL", "HANG", "TAKE", "LEAVE", "SPEAK", "WASH", "VALVE", "WAIT"]
def hz_F : List (String × String × String × List Int32) := [("java/lang/Enum", "ordinal", "I", [0, 1, 2, 3, 4, 5, 6, 7, 8, 9]), ("HotSteps$Order", "named", "Z", [1, 1, 1, 1, 1, 1, 1, 0, 0, 0]), ("HotSteps$Order", "least", "I", [0, 1, 0, 0, 0, 0, 0, 0, 0, 1]), ("HotSteps$Order", "most", "I", [-1, 6, -1, 15, 15, -1, -1, -1, 9, 60])]
def hz_sw : List Int32 := [10, 6, 1, 7, 8, 9, 2, 4, 5, 3, 0]
def hz_byt : List (List Int32) := [[98, 97, 116, 104, 32, 52, 32, 54, 32, 53, 32, 50, 32, 52, 32, 50, 32, 50, 48, 32, 53, 59, 32, 103, 117, 101, 115, 116, 32, 97, 100, 97, 32, 51, 52, 59, 32, 103, 117, 101, 115, 116, 32, 98, 101, 110, 32, 56, 59, 32, 103, 117, 101, 115, 116, 32, 99, 97, 105, 32, 54, 49, 59, 32, 103, 117, 101, 115, 116, 32, 100, 111, 118, 32, 49, 53, 59, 32, 103, 117, 101, 115, 116, 32, 101, 108, 105, 32, 50, 50], [98, 97, 116, 104], [103, 117, 101, 115, 116], [103], [98, 97, 116, 104, 32], [59, 103, 117, 101, 115, 116, 32]]
def hz_len : List Nat := [90, 4, 5, 1, 5, 7]
def hz_ldcs : List (String × Nat × String × Nat) := [("HotSteps", 80, "bath 4 6 5 2 4 2 20 5; guest ada 34; guest ben 8; guest cai 61; guest dov 15; guest eli 22", 0), ("HotSteps$House", 60, "bath", 1), ("HotSteps$House", 87, "guest", 2), ("HotStepsLaw", 301, "bath ", 4), ("HotStepsLaw", 309, ";guest ", 5), ("HotStepsLaw", 38, "g", 3)]
def hz_nest : List (String × Nat × MethodName × String) := [("HotSteps", 21, ⟨"HotSteps$Text", "<init>", "()V"⟩, "HotSteps"), ("HotSteps", 9, ⟨"HotSteps$House", "<init>", "()V"⟩, "HotSteps"), ("HotStepsLaw", 326, ⟨"HotStepsLaw$Own", "<init>", "()V"⟩, "HotStepsLaw")]
def hz_nestF : List (String × Nat × String × String × String × String) := [("HotStepsLaw", 51, "HotStepsLaw$Own", "pegs", "I", "HotStepsLaw"), ("HotStepsLaw", 57, "HotStepsLaw$Own", "steps", "I", "HotStepsLaw"), ("HotStepsLaw", 74, "HotStepsLaw$Own", "age", "[I", "HotStepsLaw"), ("HotStepsLaw", 78, "HotStepsLaw$Own", "at", "[I", "HotStepsLaw"), ("HotStepsLaw", 85, "HotStepsLaw$Own", "has", "[I", "HotStepsLaw"), ("HotStepsLaw", 88, "HotStepsLaw$Own", "strain", "[I", "HotStepsLaw"), ("HotStepsLaw", 91, "HotStepsLaw$Own", "warned", "[I", "HotStepsLaw"), ("HotStepsLaw", 102, "HotStepsLaw$Own", "sent", "[I", "HotStepsLaw"), ("HotStepsLaw", 112, "HotStepsLaw$Own", "guests", "I", "HotStepsLaw"), ("HotStepsLaw", 115, "HotStepsLaw$Own", "heat", "I", "HotStepsLaw"), ("HotStepsLaw", 131, "HotStepsLaw$Own", "towels", "I", "HotStepsLaw"), ("HotStepsLaw", 138, "HotStepsLaw$Own", "wet", "[I", "HotStepsLaw"), ("HotStepsLaw", 153, "HotStepsLaw$Own", "peg", "[I", "HotStepsLaw"), ("HotStepsLaw", 155, "HotStepsLaw$Own", "lockers", "I", "HotStepsLaw"), ("HotStepsLaw", 161, "HotStepsLaw$Own", "locker", "[I", "HotStepsLaw"), ("HotStepsLaw", 163, "HotStepsLaw$Own", "valves", "I", "HotStepsLaw"), ("HotStepsLaw", 169, "HotStepsLaw$Own", "opening", "[I", "HotStepsLaw"), ("HotStepsLaw", 174, "HotStepsLaw$Own", "accounts", "[I", "HotStepsLaw"), ("HotStepsLaw", 180, "HotStepsLaw$Own", "room", "I", "HotStepsLaw"), ("HotStepsLaw", 183, "HotStepsLaw$Own", "gong", "I", "HotStepsLaw"), ("HotStepsLaw", 186, "HotStepsLaw$Own", "quiet", "I", "HotStepsLaw"), ("HotStepsLaw", 189, "HotStepsLaw$Own", "time", "I", "HotStepsLaw"), ("HotStepsLaw", 295, "HotStepsLaw$Own", "down", "I", "HotStepsLaw")]
def hz_pvl : List MethodName := [⟨"java/lang/AbstractStringBuilder", "ensureCapacityInternal", "(I)V"⟩, ⟨"java/lang/AbstractStringBuilder", "newCapacity", "(I)I"⟩, ⟨"java/lang/AbstractStringBuilder", "putStringAt", "(ILjava/lang/String;)V"⟩, ⟨"java/lang/AbstractStringBuilder", "inflateIfNeededFor", "(Ljava/lang/String;)V"⟩]
/-- the array classes, by their names -/
def hz_tn (t : Nat) : String := ["[I", "[Z", "[LHotSteps$State;", "[LHotSteps$Order;", "[LHotStepsLaw$Own;", "[B"].getD t ""
def hz_AC (w : hz_C) (U : State) : Prop := ∀ t : Nat, t < 6 → U.vm.findClass (hz_tn t) = some (hz_tc w t)
theorem hz_AC.moved {w : hz_C} {u U : State} (hvm : u.vm.Alike U.vm) (h : hz_AC w u) : hz_AC w U := fun t ht => by rw [hvm.findClass]; exact h t ht
/-- a text's length and bytes -/
def hz_ln (w : hz_C) (i : Nat) : Nat := if i < 6 then hz_len.getD i 0 else hz_dl w
def hz_by (w : hz_C) (i j : Nat) : Int32 := if i < 6 then (hz_byt.getD i []).getD j 0 else hz_db w j
/-- the enum's constants and their fields, the texts, the table of the switches, the links between nest mates: outside the world, never written -/
def hz_X (w : hz_C) (U : State) (H : Heap) : Prop :=
  va_En "HotSteps$Order" "LHotSteps$Order;" hz_nm hz_F (hz_en w) (hz_A w) U H ∧ (6 ≤ hz_ns w ∧ hz_ns w ≤ 7 ∧ hz_dl w < 2 ^ 30) ∧
  (∀ i : Nat, i < hz_ns w → va_O "java/lang/String" (hz_sa w i) (hz_A w) U H ∧ va_OF "java/lang/String" "coder" "B" (.int 0) (hz_sa w i) (hz_A w) U H ∧ va_OF "java/lang/String" "value" "[B" (.ref (hz_sv w i)) (hz_sa w i) (hz_A w) U H ∧ va_T .byte (hz_sv w i) (hz_ln w i) (fun j => .int (hz_by w i j)) (hz_A w) U H) ∧
  (∀ q ∈ hz_ldcs, vk_R q.1 q.2.1 q.2.2.1 (hz_sa w q.2.2.2) U) ∧ (∀ q ∈ hz_nest, va_Nw (.methodLinkNest q.1 q.2.1 q.2.2.1 q.2.2.2) U) ∧
  (∃ t : Nat, va_Z "HotSteps$1" "$SwitchMap$HotSteps$Order" "[I" (.ref t) (hz_A w) U H ∧ va_T .int t 11 (fun j => .int (hz_sw.getD j 0)) (hz_A w) U H) ∧
  ((∃ t : Nat, va_Z "java/lang/Integer" "DigitOnes" "[B" (.ref t) (hz_A w) U H ∧ va_T .byte t 100 (fun j => .int (nI (48 + j % 10))) (hz_A w) U H) ∧ (∃ t : Nat, va_Z "java/lang/Integer" "DigitTens" "[B" (.ref t) (hz_A w) U H ∧ va_T .byte t 100 (fun j => .int (nI (48 + j / 10))) (hz_A w) U H)) ∧
  va_Z "java/lang/String" "COMPACT_STRINGS" "Z" (.int 1) (hz_A w) U H ∧ va_Zq "jdk/internal/util/Preconditions" "SIOOBE_FORMATTER" "Ljava/util/function/BiFunction;" (hz_A w) U H ∧
  hz_AC w U ∧ va_AO "HotSteps$State" U ∧ va_AO "HotSteps$Order" U ∧ va_AO "HotStepsLaw$Own" U ∧
  (∀ q ∈ hz_nestF, va_Nw (.fieldLinkNest q.1 q.2.1 q.2.2.1 q.2.2.2.1 q.2.2.2.2.1 q.2.2.2.2.2) U) ∧ hz_scl w ≤ 260 ∧ va_T .int (hz_scb w) (hz_scl w) (fun j => .int (hz_scx w j)) (hz_A w) U H ∧ (∀ y ∈ hz_pvl, va_Nw (.privateMethod y) U) ∧ va_Nw (.castable "[B" "java/lang/Cloneable") U
theorem hz_X_same {w : hz_C} {u U : State} {H : Heap} (hv : U.vm = u.vm) (h : hz_X w u H) : hz_X w U H := by
  obtain ⟨h1, h2, h3, h4, h5, ⟨t, h6, h7⟩, ⟨⟨t2, h8, h9⟩, ⟨t3, h20, h21⟩⟩, h10, h11, h17, h18, h19, h22, h23, h24, h25, h26, h27⟩ := h
  have ha : u.vm.Alike U.vm := by rw [hv]; exact Vm.Alike.refl u.vm
  exact ⟨va_En.moved ha h1, h2, fun i hi => ⟨va_O.moved ha (h3 i hi).1, va_OF.moved ha (h3 i hi).2.1, va_OF.moved ha (h3 i hi).2.2.1, va_T.moved ha (h3 i hi).2.2.2⟩, fun q hq => vk_R.same hv (h4 q hq), fun q hq => va_Nw.same rfl hv.symm (h5 q hq), ⟨t, va_Z.moved ha h6, va_T.moved ha h7⟩, ⟨⟨t2, va_Z.moved ha h8, va_T.moved ha h9⟩, ⟨t3, va_Z.moved ha h20, va_T.moved ha h21⟩⟩, va_Z.moved ha h10, va_Zq.moved ha h11, hz_AC.moved ha h17, va_AO.moved ha h18, va_AO.moved ha h19, va_AO.moved ha h22, fun q hq => va_Nw.same rfl hv.symm (h23 q hq), h24, va_T.moved ha h25, fun q hq => va_Nw.same rfl hv.symm (h26 q hq), va_Nw.same rfl hv.symm h27⟩
theorem hz_X_warm {w : hz_C} {u U : State} {H : Heap} (hv : u.WarmedH U.vm) (h : hz_X w u H) : hz_X w U H := by
  obtain ⟨h1, h2, h3, h4, h5, ⟨t, h6, h7⟩, ⟨⟨t2, h8, h9⟩, ⟨t3, h20, h21⟩⟩, h10, h11, h17, h18, h19, h22, h23, h24, h25, h26, h27⟩ := h
  have ha : u.vm.Alike U.vm := hv.alike
  exact ⟨va_En.moved ha h1, h2, fun i hi => ⟨va_O.moved ha (h3 i hi).1, va_OF.moved ha (h3 i hi).2.1, va_OF.moved ha (h3 i hi).2.2.1, va_T.moved ha (h3 i hi).2.2.2⟩, fun q hq => vk_R.warm hv (h4 q hq), fun q hq => va_Nw.warmM hv (h5 q hq), ⟨t, va_Z.moved ha h6, va_T.moved ha h7⟩, ⟨⟨t2, va_Z.moved ha h8, va_T.moved ha h9⟩, ⟨t3, va_Z.moved ha h20, va_T.moved ha h21⟩⟩, va_Z.moved ha h10, va_Zq.moved ha h11, hz_AC.moved ha h17, va_AO.moved ha h18, va_AO.moved ha h19, va_AO.moved ha h22, fun q hq => va_Nw.warmF hv (h23 q hq), h24, va_T.moved ha h25, fun q hq => Cond.privateMethod_warm hv (h26 q hq), va_Nw.warmC hv h27⟩
theorem hz_X_kept {w : hz_C} {U : State} {H H1 : Heap} (h : hz_X w U H) (hq : ∀ a : Nat, a < H.size → ¬ hz_A w a → H1[a]? = H[a]?) : hz_X w U H1 := by
  obtain ⟨h1, h2, h3, h4, h5, ⟨t, h6, h7⟩, ⟨⟨t2, h8, h9⟩, ⟨t3, h20, h21⟩⟩, h10, h11, h17, h18, h19, h22, h23, h24, h25, h26, h27⟩ := h
  exact ⟨h1.kept hq, h2, fun i hi => ⟨(h3 i hi).1.kept hq, (h3 i hi).2.1.kept hq, (h3 i hi).2.2.1.kept hq, (h3 i hi).2.2.2.kept hq⟩, h4, h5, ⟨t, h6.kept hq, h7.kept hq⟩, ⟨⟨t2, h8.kept hq, h9.kept hq⟩, ⟨t3, h20.kept hq, h21.kept hq⟩⟩, h10.kept hq, h11.kept hq, h17, h18, h19, h22, h23, h24, h25.kept hq, h26, h27⟩
/-- the words of the tables that a call can be handed -/
def hz_TB : List Cond := lw_tbl.filter goodWord
theorem hz_tb {z : Cond} (h : z ∈ lw_tbl) (g : goodWord z = true) : z ∈ hz_TB := List.mem_filter.mpr ⟨h, g⟩
theorem hz_good : GoodIn hz_TB hz_TB := fun z h => ⟨h, good_of_word (List.mem_filter.mp h).2⟩
theorem hz_uws {C : String} {T : u_T} {n : Nat} (h : ∀ k, k < n → u_lay C T k ∈ hz_TB) : ∀ z ∈ u_ws C T n, z ∈ hz_TB := by
  intro z hz
  obtain ⟨k, hk, rfl⟩ := List.mem_map.mp hz
  exact h k (List.mem_range.mp hk)
def hz_Kl (ci : Nat) (C : String) (T : u_T) (n : Nat) : Prop := vwCl[ci]? = some (C, T, n) ∧ ∀ z ∈ u_ws C T n, z ∈ hz_TB
/-- what a callee's words say, the link apart -/
def hz_Cal (C : String) (y : MethodName) (b : ByteArray) (nL : Nat) (ret : Option FieldType) (n : Nat) : Prop := Cond.code y b nL ret ∈ hz_TB ∧ Cond.initialized C ∈ hz_TB ∧ (y.cls = C ∧ y.cls ≠ "java/lang/invoke/MethodHandle" ∧ y.cls ≠ "java/lang/invoke/VarHandle" ∧ (parseMethodDescriptor y.desc).map (fun d => d.parameters.length) = some n) ∧ nL ≤ 41
def hz_CalV (C : String) (y : MethodName) (b : ByteArray) (nL : Nat) (ret : Option FieldType) (n : Nat) : Prop := hz_Cal C y b nL ret n ∧ Cond.instanceMethod y ∈ hz_TB ∧ Cond.selects C y y ∈ hz_TB
def hz_CalS (C : String) (y : MethodName) (b : ByteArray) (nL : Nat) (ret : Option FieldType) (n : Nat) : Prop := hz_Cal C y b nL ret n ∧ Cond.static y ∈ hz_TB
theorem hz_t1 (z : Cond) (h : z ∈ tables_1_1) : z ∈ lw_tbl := List.mem_append_right _ (List.mem_append_left _ h)
theorem hz_t2 (z : Cond) (h : z ∈ tables_1_2) : z ∈ lw_tbl := List.mem_append_right _ (List.mem_append_right _ (List.mem_append_left _ h))
theorem hz_t3 (z : Cond) (h : z ∈ tables_1_3) : z ∈ lw_tbl := List.mem_append_right _ (List.mem_append_right _ (List.mem_append_right _ (List.mem_append_left _ h)))
theorem hz_t4 (z : Cond) (h : z ∈ tables_1_4) : z ∈ lw_tbl := List.mem_append_right _ (List.mem_append_right _ (List.mem_append_right _ (List.mem_append_right _ (List.mem_append_left _ h))))
theorem hz_t5 (z : Cond) (h : z ∈ tables_1_5) : z ∈ lw_tbl := List.mem_append_right _ (List.mem_append_right _ (List.mem_append_right _ (List.mem_append_right _ (List.mem_append_right _ (List.mem_append_left _ h)))))
theorem hz_t6 (z : Cond) (h : z ∈ tables_1_6) : z ∈ lw_tbl := List.mem_append_right _ (List.mem_append_right _ (List.mem_append_right _ (List.mem_append_right _ (List.mem_append_right _ (List.mem_append_right _ (List.mem_append_left _ h))))))
theorem hz_t7 (z : Cond) (h : z ∈ tables_1_7) : z ∈ lw_tbl := List.mem_append_right _ (List.mem_append_right _ (List.mem_append_right _ (List.mem_append_right _ (List.mem_append_right _ (List.mem_append_right _ (List.mem_append_right _ (h)))))))
