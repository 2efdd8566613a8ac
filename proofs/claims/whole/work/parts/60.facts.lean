/-! THE ENTRY: what the Statement gives of the start, as one world -/
def hz_fla : List Cond := flatC (Jvm.Cond.and given_1 narrow_1)
def hz_tk : List (String × Nat) := [("HotSteps", 80), ("HotSteps$House", 60), ("HotSteps$House", 87), ("HotStepsModel", 253), ("HotStepsModel", 255), ("HotStepsModel", 257), ("HotStepsModel", 259), ("HotStepsModel", 261), ("HotStepsModel", 263), ("HotStepsModel", 265), ("HotStepsModel", 267), ("HotStepsModel", 269), ("HotStepsModel", 271), ("HotStepsModel", 273), ("HotSteps", 200), ("HotSteps", 240), ("HotSteps", 257), ("HotSteps", 292), ("HotSteps", 425), ("HotSteps", 428)]
def hz_tT (i : Nat) : Term := .string (hz_tk.getD i ("", 0)).1 (hz_tk.getD i ("", 0)).2
def hz_tV (i : Nat) : Term := .field (hz_tT i) "java/lang/String" "value" "[B"
def hz_oT (i : Nat) : Term := .static "HotSteps$Order" (hz_nm.getD i "") "LHotSteps$Order;"
def hz_ok : List Nat := [74, 80, 83, 86, 89, 92, 95, 98, 101, 104, 107]
set_option maxRecDepth 100000
theorem hz_e1 : ∀ i, i < 20 → Cond.exactly (hz_tT i) "java/lang/String" ∈ hz_fla := by decide +kernel
theorem hz_e2 : ∀ i, i < 14 → Cond.eq (.field (hz_tT i) "java/lang/String" "coder" "B") (.int 0) ∈ hz_fla ∧ Cond.arrayOf (hz_tV i) .byte ∈ hz_fla ∧ Cond.eq (.length (hz_tV i)) (.int (Int32.ofNat (hz_len.getD i 0))) ∈ hz_fla := by decide +kernel
def hz_eb : List Nat := [218, 312, 320, 588, 597, 604, 612, 620, 628, 637, 646, 654, 663, 671]
def hz_el (i j : Nat) : Cond := Cond.eq (.elem (hz_tV i) (.int (Int32.ofNat j))) (.int ((hz_byt.getD i []).getD j 0))
theorem hz_e3_0 : (hz_fla.drop 218).take 90 = (List.range 90).map (hz_el 0) := by decide +kernel
theorem hz_e3_1 : (hz_fla.drop 312).take 4 = (List.range 4).map (hz_el 1) := by decide +kernel
theorem hz_e3_2 : (hz_fla.drop 320).take 5 = (List.range 5).map (hz_el 2) := by decide +kernel
theorem hz_e3_3 : (hz_fla.drop 588).take 5 = (List.range 5).map (hz_el 3) := by decide +kernel
theorem hz_e3_4 : (hz_fla.drop 597).take 3 = (List.range 3).map (hz_el 4) := by decide +kernel
theorem hz_e3_5 : (hz_fla.drop 604).take 4 = (List.range 4).map (hz_el 5) := by decide +kernel
theorem hz_e3_6 : (hz_fla.drop 612).take 4 = (List.range 4).map (hz_el 6) := by decide +kernel
theorem hz_e3_7 : (hz_fla.drop 620).take 4 = (List.range 4).map (hz_el 7) := by decide +kernel
theorem hz_e3_8 : (hz_fla.drop 628).take 5 = (List.range 5).map (hz_el 8) := by decide +kernel
theorem hz_e3_9 : (hz_fla.drop 637).take 5 = (List.range 5).map (hz_el 9) := by decide +kernel
theorem hz_e3_10 : (hz_fla.drop 646).take 4 = (List.range 4).map (hz_el 10) := by decide +kernel
theorem hz_e3_11 : (hz_fla.drop 654).take 5 = (List.range 5).map (hz_el 11) := by decide +kernel
theorem hz_e3_12 : (hz_fla.drop 663).take 4 = (List.range 4).map (hz_el 12) := by decide +kernel
theorem hz_e3_13 : (hz_fla.drop 671).take 5 = (List.range 5).map (hz_el 13) := by decide +kernel
theorem hz_e3_s {k n i j : Nat} (h : (hz_fla.drop k).take n = (List.range n).map (hz_el i)) (hj : j < n) : hz_el i j ∈ hz_fla := by
  have h1 : hz_el i j ∈ (List.range n).map (hz_el i) := List.mem_map.mpr ⟨j, List.mem_range.mpr hj, rfl⟩
  rw [← h] at h1
  exact List.mem_of_mem_drop (List.mem_of_mem_take h1)
theorem hz_e3 : ∀ i, i < 14 → ∀ j, j < hz_len.getD i 0 → Cond.eq (.elem (hz_tV i) (.int (Int32.ofNat j))) (.int ((hz_byt.getD i []).getD j 0)) ∈ hz_fla := by
  intro i hi j hj
  match i, hi, hj with
  | 0, _, hj => exact hz_e3_s hz_e3_0 hj
  | 1, _, hj => exact hz_e3_s hz_e3_1 hj
  | 2, _, hj => exact hz_e3_s hz_e3_2 hj
  | 3, _, hj => exact hz_e3_s hz_e3_3 hj
  | 4, _, hj => exact hz_e3_s hz_e3_4 hj
  | 5, _, hj => exact hz_e3_s hz_e3_5 hj
  | 6, _, hj => exact hz_e3_s hz_e3_6 hj
  | 7, _, hj => exact hz_e3_s hz_e3_7 hj
  | 8, _, hj => exact hz_e3_s hz_e3_8 hj
  | 9, _, hj => exact hz_e3_s hz_e3_9 hj
  | 10, _, hj => exact hz_e3_s hz_e3_10 hj
  | 11, _, hj => exact hz_e3_s hz_e3_11 hj
  | 12, _, hj => exact hz_e3_s hz_e3_12 hj
  | 13, _, hj => exact hz_e3_s hz_e3_13 hj
  | k + 14, hi, _ => exact absurd hi (by omega)
theorem hz_e4 : ∀ i, i < 11 → Cond.laysStatic "HotSteps$Order" (hz_nm.getD i "") "LHotSteps$Order;" ∈ lw_tbl ∧ Cond.exactly (hz_oT i) "HotSteps$Order" ∈ hz_fla ∧ Cond.eq (.field (hz_oT i) "HotSteps$Order" "word" "Ljava/lang/String;") (.string "HotSteps$Order" (hz_ok.getD i 0)) ∈ hz_fla ∧ Cond.eq (.elem (.static "HotSteps$Script" "ORDERS" "[LHotSteps$Order;") (.int (Int32.ofNat i))) (hz_oT i) ∈ hz_fla ∧ Cond.eq (.elem (.static "HotSteps$1" "$SwitchMap$HotSteps$Order" "[I") (.int (Int32.ofNat i))) (.int (hz_sw.getD i 0)) ∈ hz_fla := by decide +kernel
theorem hz_e5 : ∀ q ∈ hz_F, ∀ i, i < 11 → Cond.eq (.field (hz_oT i) q.1 q.2.1 q.2.2.1) (.int (q.2.2.2.getD i 0)) ∈ hz_fla := by decide +kernel
theorem hz_e6 : ∀ i, i < 11 → ∀ j, j < 11 → i ≠ j → Cond.not (.eq (hz_oT i) (hz_oT j)) ∈ hz_fla ∨ Cond.not (.eq (hz_oT j) (hz_oT i)) ∈ hz_fla := by decide +kernel
theorem hz_e7 : ∀ q ∈ hz_ldcs, q.2.2.2 < 20 ∧ Cond.stringRef q.1 q.2.1 q.2.2.1 ∈ lw_tbl ∧ ((Term.string q.1 q.2.1) = hz_tT q.2.2.2 ∨ (Cond.exactly (.string q.1 q.2.1) "java/lang/String" ∈ hz_fla ∧ Cond.eq (hz_tT q.2.2.2) (.string q.1 q.2.1) ∈ hz_fla)) := by decide +kernel
theorem hz_e8 : ∀ i, i < 11 → ∃ q ∈ hz_ldcs, q.1 = "HotSteps$Order" ∧ q.2.1 = hz_ok.getD i 0 ∧ q.2.2.2 = 3 + i := by decide +kernel
theorem hz_e9 : ∀ q ∈ hz_nest, Cond.methodLinkNest q.1 q.2.1 q.2.2.1 q.2.2.2 ∈ lw_tbl := by decide +kernel
theorem hz_e10 : Cond.arrayOf (.static "HotSteps$1" "$SwitchMap$HotSteps$Order" "[I") .int ∈ hz_fla ∧ Cond.eq (.length (.static "HotSteps$1" "$SwitchMap$HotSteps$Order" "[I")) (.int 11) ∈ hz_fla ∧ Cond.laysStatic "HotSteps$1" "$SwitchMap$HotSteps$Order" "[I" ∈ lw_tbl ∧ Cond.initialized "HotSteps$1" ∈ lw_tbl := by decide +kernel
theorem hz_e11 : Cond.arrayOf (.static "HotSteps$Script" "ORDERS" "[LHotSteps$Order;") (.object "HotSteps$Order") ∈ hz_fla ∧ Cond.eq (.length (.static "HotSteps$Script" "ORDERS" "[LHotSteps$Order;")) (.int 11) ∈ hz_fla ∧ Cond.laysStatic "HotSteps$Script" "ORDERS" "[LHotSteps$Order;" ∈ lw_tbl ∧ Cond.initialized "HotSteps$Script" ∈ lw_tbl ∧ Cond.initialized "HotSteps$Order" ∈ lw_tbl := by decide +kernel
theorem hz_e12 : Cond.eq (.static "java/lang/String" "COMPACT_STRINGS" "Z") (.int 1) ∈ hz_fla ∧ Cond.laysStatic "java/lang/String" "COMPACT_STRINGS" "Z" ∈ lw_tbl ∧ Cond.initialized "java/lang/String" ∈ lw_tbl := by decide +kernel
theorem hz_e13 : Cond.isRef (.static "jdk/internal/util/Preconditions" "SIOOBE_FORMATTER" "Ljava/util/function/BiFunction;") ∈ hz_fla ∧ Cond.laysStatic "jdk/internal/util/Preconditions" "SIOOBE_FORMATTER" "Ljava/util/function/BiFunction;" ∈ lw_tbl ∧ Cond.initialized "jdk/internal/util/Preconditions" ∈ lw_tbl := by decide +kernel
theorem hz_e14 : (∀ x ∈ hz_dcl, Cond.declares x ∈ lw_tbl) ∧ (∀ k ∈ hz_cst, Cond.castable k k ∈ lw_tbl) ∧ Cond.not (.castable "java/util/NoSuchElementException" "java/lang/IllegalArgumentException") ∈ hz_fla := by decide +kernel
theorem hz_e15 : Cond.isRef (.static Bundle.tN "UNASSIGNED_STACK" Bundle.steD) ∈ hz_fla ∧ Cond.laysStatic Bundle.tN "UNASSIGNED_STACK" Bundle.steD ∈ lw_tbl ∧ Cond.isRef (.static Bundle.tN "SUPPRESSED_SENTINEL" Bundle.listD) ∈ hz_fla ∧ Cond.laysStatic Bundle.tN "SUPPRESSED_SENTINEL" Bundle.listD ∈ lw_tbl ∧ Cond.initialized Bundle.tN ∈ lw_tbl := by decide +kernel
theorem hz_e16 : Cond.arrayClass .int ∈ lw_tbl ∧ Cond.arrayClass .boolean ∈ lw_tbl ∧ Cond.arrayClass .long ∈ lw_tbl ∧ Cond.arrayOver (.object "HotSteps$State") ∈ lw_tbl ∧ Cond.arrayOver (.object "HotSteps$Order") ∈ lw_tbl := by decide +kernel
theorem hz_e17 : ∀ q ∈ [("HotSteps$Deeds", 4), ("HotSteps$History", 5), ("HotSteps$House", 12), ("HotSteps$Report", 3), ("HotSteps$Script", 9), ("HotSteps$State", 20), ("HotSteps$Text", 8), ("HotSteps$Why", 2), ("HotSteps", 10), ("HotStepsModel", 28)], Cond.instantiable q.1 q.2 ∈ lw_tbl := by decide +kernel
