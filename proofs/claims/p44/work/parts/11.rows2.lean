/-- a continuation by a name; the loops' measure; switches -/
def hz_jn {α : Type} (k : α) (f : α → hz_O) : hz_O := f k
theorem hz_jn_e {α : Type} {k : α} {f : α → hz_O} {x : Int32 × hz_M} (h : hz_jn k f = some x) : ∃ k1, k1 = k ∧ f k1 = some x := ⟨k, rfl, h⟩
def hz_FU : Nat := 100000
def hz_Ho (N th : Nat) : Prop := hz_SH[th]? = some (.inl (4, [some (th + 1), some (th + 2), some (th + 3), none, none, none, none, none, none, none, none, none])) ∧ th < N ∧ hz_SH[th + 1]? = some (.inr (.inl (0, 16))) ∧ th + 1 < N ∧ hz_SH[th + 2]? = some (.inr (.inl (0, 96))) ∧ th + 2 < N ∧ hz_SH[th + 3]? = some (.inr (.inl (0, 16))) ∧ th + 3 < N
theorem hz_ho_1 {N : Nat} (h : 178 ≤ N) : hz_Ho N 1 := ⟨hz_sh_1, hz_lt_1 h, hz_sh_2, hz_lt_2 h, hz_sh_3, hz_lt_3 h, hz_sh_4, hz_lt_4 h⟩
theorem hz_ho_5 {N : Nat} (h : 178 ≤ N) : hz_Ho N 5 := ⟨hz_sh_5, hz_lt_5 h, hz_sh_6, hz_lt_6 h, hz_sh_7, hz_lt_7 h, hz_sh_8, hz_lt_8 h⟩
section HZ2
variable {p : Program} {l : Launch} {e : Env} {h : Nat} {z : hz_Z} {s : State} {m : MethodId} {args : Array Value} {below : List Frame} {meth : Method} {c : Code} {w : hz_C} {N nL : Nat} {Q : State → Prop} {M : hz_M} {pc : Nat} {ls : List (Nat × Value)} {st : List Value} {cc : ByteArray} {own : String} {ret : Option FieldType}
theorem hz_tin (hO : hz_Ok p s m args meth c w cc nL own ret) {dflt lo hi : Int} {offs : Array Int} {len : Nat} {x v : Int32} {off : Int} {tgt : Nat} (hx : x = v) (hdg : decode cc pc = .ok (.tableswitch dflt lo hi offs, len)) (h1 : ¬ v.toInt < lo) (h2 : ¬ hi < v.toInt) (ho : offs[(v.toInt - lo).toNat]? = some off) (ht : (pc : Int) + off = (tgt : Int))
    (kk : hz_G p l e h z s m args below meth c w N nL Q M tgt ls st) : hz_G p l e h z s m args below meth c w N nL Q M pc ls (.int x :: st) := by
  subst hx
  exact fun hzk H locs la hW hS hL => lv_tableIn hO.1.1 hO.1.2.1 hdg h1 h2 ho ht (kk hzk H locs la hW hS hL)
theorem hz_tout (hO : hz_Ok p s m args meth c w cc nL own ret) {dflt lo hi : Int} {offs : Array Int} {len : Nat} {x : Int32} {tgt : Nat} (hdg : decode cc pc = .ok (.tableswitch dflt lo hi offs, len)) (hx : x.toInt < lo ∨ hi < x.toInt) (ht : (pc : Int) + dflt = (tgt : Int))
    (kk : hz_G p l e h z s m args below meth c w N nL Q M tgt ls st) : hz_G p l e h z s m args below meth c w N nL Q M pc ls (.int x :: st) :=
  fun hzk H locs la hW hS hL => lv_tableOut hO.1.1 hO.1.2.1 hdg hx ht (kk hzk H locs la hW hS hL)
end HZ2
