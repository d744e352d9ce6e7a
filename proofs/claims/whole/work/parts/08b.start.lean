/-! THE START: what the claim gives of it, in the small machine's words -/
def am_h0 : am_H := (0, (fun _ => (0, 0)), (fun _ _ => 0), (fun _ _ => 0), (fun _ _ => none))
theorem am_inst : ∀ c, c < 13 → Cond.instantiable (am_qc c).1 (am_qc c).2.2 ∈ lw_tbl
  | 0, _ => List.mem_of_getElem? (i := 474) (by decide +kernel)
  | 1, _ => List.mem_of_getElem? (i := 457) (by decide +kernel)
  | 2, _ => List.mem_of_getElem? (i := 400) (by decide +kernel)
  | 3, _ => List.mem_of_getElem? (i := 352) (by decide +kernel)
  | 4, _ => List.mem_of_getElem? (i := 358) (by decide +kernel)
  | 5, _ => List.mem_of_getElem? (i := 503) (by decide +kernel)
  | 6, _ => List.mem_of_getElem? (i := 157) (by decide +kernel)
  | 7, _ => List.mem_of_getElem? (i := 279) (by decide +kernel)
  | 8, _ => List.mem_of_getElem? (i := 1141) (by decide +kernel)
  | 9, _ => List.mem_of_getElem? (i := 426) (by decide +kernel)
  | 10, _ => List.mem_of_getElem? (i := 285) (by decide +kernel)
  | 11, _ => List.mem_of_getElem? (i := 149) (by decide +kernel)
  | 12, _ => List.mem_of_getElem? (i := 1370) (by decide +kernel)
  | c + 13, h => absurd h (by omega)
theorem am_arr {args : Array Value} {s : State} {ty : FieldType} (h : (Cond.arrayClass ty).before args s = true) (hty : ∀ C, ty ≠ .object C) : ∃ cA : ClassId, ArrOfT s cA ty ∧ va_RA s cA ty := by
  obtain ⟨cA, kA, comp, h1, h2, h3⟩ := Cond.arrayClass_spec h
  refine ⟨cA, fun n z => ⟨(fun k h => by cases h), kA, h2, comp, h3⟩, ?_⟩
  cases ty with
  | object C => exact absurd rfl (hty C)
  | _ => exact h1
theorem am_arrO {args : Array Value} {s : State} {C : String} (h : (Cond.arrayOver (.object C)).before args s = true) : ∃ cA : ClassId, ArrOfT s cA (.object C) ∧ va_RA s cA (.object C) := by
  obtain ⟨comp, cA, kA, h1, h2, h3, h4, h5⟩ := Cond.arrayOver_spec h
  exact ⟨cA, fun n z => ⟨(fun k h => by cases h), kA, h3, comp, h4⟩, kA, comp, h3, h4, h1, h5⟩
def am_at0 (pv : Nat → Value) (t0 t1 k b q : Nat) (w : Value) : Prop := pv = fun t => if t = 0 then .ref t0 else if t = 1 then .ref t1 else if t = 2 then .ref k else if t = 3 then .ref b else if t = 4 then .ref q else if t = 5 then w else .null
/-- the words, letter by letter -/
def am_wl2 : List Int32 := [99, 111, 115, 116, 115, 32, 103, 97, 105, 110, 115, 32, 102, 105, 110, 101, 115, 32, 98, 97, 114, 115, 32, 103, 111, 32, 103, 105, 118, 101, 32, 105, 110, 115, 112, 101, 99, 116, 32, 119, 97, 105, 116, 32, 105, 102, 32, 116, 105, 109, 101, 115, 32, 98, 121, 32, 111, 102, 32, 116, 111, 32, 111, 114, 32, 97, 110, 100, 32, 110, 111, 116, 32, 112, 101, 114, 115, 111, 110, 32, 121, 101, 97, 114, 115, 32, 119, 97, 110, 116, 32, 107, 101, 121, 115, 32, 119, 97, 116, 99, 104, 32, 98, 101, 102, 111, 114, 101, 32, 111, 116, 104, 101, 114, 115, 32, 104, 111, 117, 114, 32, 111, 100, 100, 115, 32, 109, 111, 111, 100, 32, 98, 114, 101, 97, 100, 32, 105, 110, 115, 105, 100, 101, 32, 100, 111, 110, 101, 32, 102, 111, 117, 110, 100, 32, 112, 108, 97, 99, 101, 32, 104, 111, 108, 100, 115, 32]
theorem am_wd_eq : am_wd = am_wl2 := by decide +kernel
theorem am_se0 : Cond.eq (.elem (.field (.string "KeyKeepers$Reader" 164) "java/lang/String" "value" "[B") (.int 0)) (.int 99) ∈ flatC (Jvm.Cond.and given_1 narrow_1) := by decide +kernel
theorem am_se1 : Cond.eq (.elem (.field (.string "KeyKeepers$Reader" 164) "java/lang/String" "value" "[B") (.int 1)) (.int 111) ∈ flatC (Jvm.Cond.and given_1 narrow_1) := by decide +kernel
theorem am_se2 : Cond.eq (.elem (.field (.string "KeyKeepers$Reader" 164) "java/lang/String" "value" "[B") (.int 2)) (.int 115) ∈ flatC (Jvm.Cond.and given_1 narrow_1) := by decide +kernel
theorem am_se3 : Cond.eq (.elem (.field (.string "KeyKeepers$Reader" 164) "java/lang/String" "value" "[B") (.int 3)) (.int 116) ∈ flatC (Jvm.Cond.and given_1 narrow_1) := by decide +kernel
theorem am_se4 : Cond.eq (.elem (.field (.string "KeyKeepers$Reader" 164) "java/lang/String" "value" "[B") (.int 4)) (.int 115) ∈ flatC (Jvm.Cond.and given_1 narrow_1) := by decide +kernel
theorem am_se5 : Cond.eq (.elem (.field (.string "KeyKeepers$Reader" 164) "java/lang/String" "value" "[B") (.int 5)) (.int 32) ∈ flatC (Jvm.Cond.and given_1 narrow_1) := by decide +kernel
theorem am_se6 : Cond.eq (.elem (.field (.string "KeyKeepers$Reader" 164) "java/lang/String" "value" "[B") (.int 6)) (.int 103) ∈ flatC (Jvm.Cond.and given_1 narrow_1) := by decide +kernel
theorem am_se7 : Cond.eq (.elem (.field (.string "KeyKeepers$Reader" 164) "java/lang/String" "value" "[B") (.int 7)) (.int 97) ∈ flatC (Jvm.Cond.and given_1 narrow_1) := by decide +kernel
theorem am_se8 : Cond.eq (.elem (.field (.string "KeyKeepers$Reader" 164) "java/lang/String" "value" "[B") (.int 8)) (.int 105) ∈ flatC (Jvm.Cond.and given_1 narrow_1) := by decide +kernel
theorem am_se9 : Cond.eq (.elem (.field (.string "KeyKeepers$Reader" 164) "java/lang/String" "value" "[B") (.int 9)) (.int 110) ∈ flatC (Jvm.Cond.and given_1 narrow_1) := by decide +kernel
theorem am_se10 : Cond.eq (.elem (.field (.string "KeyKeepers$Reader" 164) "java/lang/String" "value" "[B") (.int 10)) (.int 115) ∈ flatC (Jvm.Cond.and given_1 narrow_1) := by decide +kernel
theorem am_se11 : Cond.eq (.elem (.field (.string "KeyKeepers$Reader" 164) "java/lang/String" "value" "[B") (.int 11)) (.int 32) ∈ flatC (Jvm.Cond.and given_1 narrow_1) := by decide +kernel
theorem am_se12 : Cond.eq (.elem (.field (.string "KeyKeepers$Reader" 164) "java/lang/String" "value" "[B") (.int 12)) (.int 102) ∈ flatC (Jvm.Cond.and given_1 narrow_1) := by decide +kernel
theorem am_se13 : Cond.eq (.elem (.field (.string "KeyKeepers$Reader" 164) "java/lang/String" "value" "[B") (.int 13)) (.int 105) ∈ flatC (Jvm.Cond.and given_1 narrow_1) := by decide +kernel
theorem am_se14 : Cond.eq (.elem (.field (.string "KeyKeepers$Reader" 164) "java/lang/String" "value" "[B") (.int 14)) (.int 110) ∈ flatC (Jvm.Cond.and given_1 narrow_1) := by decide +kernel
theorem am_se15 : Cond.eq (.elem (.field (.string "KeyKeepers$Reader" 164) "java/lang/String" "value" "[B") (.int 15)) (.int 101) ∈ flatC (Jvm.Cond.and given_1 narrow_1) := by decide +kernel
theorem am_se16 : Cond.eq (.elem (.field (.string "KeyKeepers$Reader" 164) "java/lang/String" "value" "[B") (.int 16)) (.int 115) ∈ flatC (Jvm.Cond.and given_1 narrow_1) := by decide +kernel
theorem am_se17 : Cond.eq (.elem (.field (.string "KeyKeepers$Reader" 164) "java/lang/String" "value" "[B") (.int 17)) (.int 32) ∈ flatC (Jvm.Cond.and given_1 narrow_1) := by decide +kernel
theorem am_se18 : Cond.eq (.elem (.field (.string "KeyKeepers$Reader" 164) "java/lang/String" "value" "[B") (.int 18)) (.int 98) ∈ flatC (Jvm.Cond.and given_1 narrow_1) := by decide +kernel
theorem am_se19 : Cond.eq (.elem (.field (.string "KeyKeepers$Reader" 164) "java/lang/String" "value" "[B") (.int 19)) (.int 97) ∈ flatC (Jvm.Cond.and given_1 narrow_1) := by decide +kernel
theorem am_se20 : Cond.eq (.elem (.field (.string "KeyKeepers$Reader" 164) "java/lang/String" "value" "[B") (.int 20)) (.int 114) ∈ flatC (Jvm.Cond.and given_1 narrow_1) := by decide +kernel
theorem am_se21 : Cond.eq (.elem (.field (.string "KeyKeepers$Reader" 164) "java/lang/String" "value" "[B") (.int 21)) (.int 115) ∈ flatC (Jvm.Cond.and given_1 narrow_1) := by decide +kernel
theorem am_se22 : Cond.eq (.elem (.field (.string "KeyKeepers$Reader" 164) "java/lang/String" "value" "[B") (.int 22)) (.int 32) ∈ flatC (Jvm.Cond.and given_1 narrow_1) := by decide +kernel
theorem am_se23 : Cond.eq (.elem (.field (.string "KeyKeepers$Reader" 164) "java/lang/String" "value" "[B") (.int 23)) (.int 103) ∈ flatC (Jvm.Cond.and given_1 narrow_1) := by decide +kernel
theorem am_se24 : Cond.eq (.elem (.field (.string "KeyKeepers$Reader" 164) "java/lang/String" "value" "[B") (.int 24)) (.int 111) ∈ flatC (Jvm.Cond.and given_1 narrow_1) := by decide +kernel
theorem am_se25 : Cond.eq (.elem (.field (.string "KeyKeepers$Reader" 164) "java/lang/String" "value" "[B") (.int 25)) (.int 32) ∈ flatC (Jvm.Cond.and given_1 narrow_1) := by decide +kernel
theorem am_se26 : Cond.eq (.elem (.field (.string "KeyKeepers$Reader" 164) "java/lang/String" "value" "[B") (.int 26)) (.int 103) ∈ flatC (Jvm.Cond.and given_1 narrow_1) := by decide +kernel
theorem am_se27 : Cond.eq (.elem (.field (.string "KeyKeepers$Reader" 164) "java/lang/String" "value" "[B") (.int 27)) (.int 105) ∈ flatC (Jvm.Cond.and given_1 narrow_1) := by decide +kernel
theorem am_se28 : Cond.eq (.elem (.field (.string "KeyKeepers$Reader" 164) "java/lang/String" "value" "[B") (.int 28)) (.int 118) ∈ flatC (Jvm.Cond.and given_1 narrow_1) := by decide +kernel
theorem am_se29 : Cond.eq (.elem (.field (.string "KeyKeepers$Reader" 164) "java/lang/String" "value" "[B") (.int 29)) (.int 101) ∈ flatC (Jvm.Cond.and given_1 narrow_1) := by decide +kernel
theorem am_se30 : Cond.eq (.elem (.field (.string "KeyKeepers$Reader" 164) "java/lang/String" "value" "[B") (.int 30)) (.int 32) ∈ flatC (Jvm.Cond.and given_1 narrow_1) := by decide +kernel
theorem am_se31 : Cond.eq (.elem (.field (.string "KeyKeepers$Reader" 164) "java/lang/String" "value" "[B") (.int 31)) (.int 105) ∈ flatC (Jvm.Cond.and given_1 narrow_1) := by decide +kernel
theorem am_se32 : Cond.eq (.elem (.field (.string "KeyKeepers$Reader" 164) "java/lang/String" "value" "[B") (.int 32)) (.int 110) ∈ flatC (Jvm.Cond.and given_1 narrow_1) := by decide +kernel
theorem am_se33 : Cond.eq (.elem (.field (.string "KeyKeepers$Reader" 164) "java/lang/String" "value" "[B") (.int 33)) (.int 115) ∈ flatC (Jvm.Cond.and given_1 narrow_1) := by decide +kernel
theorem am_se34 : Cond.eq (.elem (.field (.string "KeyKeepers$Reader" 164) "java/lang/String" "value" "[B") (.int 34)) (.int 112) ∈ flatC (Jvm.Cond.and given_1 narrow_1) := by decide +kernel
theorem am_se35 : Cond.eq (.elem (.field (.string "KeyKeepers$Reader" 164) "java/lang/String" "value" "[B") (.int 35)) (.int 101) ∈ flatC (Jvm.Cond.and given_1 narrow_1) := by decide +kernel
theorem am_se36 : Cond.eq (.elem (.field (.string "KeyKeepers$Reader" 164) "java/lang/String" "value" "[B") (.int 36)) (.int 99) ∈ flatC (Jvm.Cond.and given_1 narrow_1) := by decide +kernel
theorem am_se37 : Cond.eq (.elem (.field (.string "KeyKeepers$Reader" 164) "java/lang/String" "value" "[B") (.int 37)) (.int 116) ∈ flatC (Jvm.Cond.and given_1 narrow_1) := by decide +kernel
theorem am_se38 : Cond.eq (.elem (.field (.string "KeyKeepers$Reader" 164) "java/lang/String" "value" "[B") (.int 38)) (.int 32) ∈ flatC (Jvm.Cond.and given_1 narrow_1) := by decide +kernel
theorem am_se39 : Cond.eq (.elem (.field (.string "KeyKeepers$Reader" 164) "java/lang/String" "value" "[B") (.int 39)) (.int 119) ∈ flatC (Jvm.Cond.and given_1 narrow_1) := by decide +kernel
theorem am_se40 : Cond.eq (.elem (.field (.string "KeyKeepers$Reader" 164) "java/lang/String" "value" "[B") (.int 40)) (.int 97) ∈ flatC (Jvm.Cond.and given_1 narrow_1) := by decide +kernel
theorem am_se41 : Cond.eq (.elem (.field (.string "KeyKeepers$Reader" 164) "java/lang/String" "value" "[B") (.int 41)) (.int 105) ∈ flatC (Jvm.Cond.and given_1 narrow_1) := by decide +kernel
theorem am_se42 : Cond.eq (.elem (.field (.string "KeyKeepers$Reader" 164) "java/lang/String" "value" "[B") (.int 42)) (.int 116) ∈ flatC (Jvm.Cond.and given_1 narrow_1) := by decide +kernel
theorem am_se43 : Cond.eq (.elem (.field (.string "KeyKeepers$Reader" 164) "java/lang/String" "value" "[B") (.int 43)) (.int 32) ∈ flatC (Jvm.Cond.and given_1 narrow_1) := by decide +kernel
theorem am_se44 : Cond.eq (.elem (.field (.string "KeyKeepers$Reader" 164) "java/lang/String" "value" "[B") (.int 44)) (.int 105) ∈ flatC (Jvm.Cond.and given_1 narrow_1) := by decide +kernel
theorem am_se45 : Cond.eq (.elem (.field (.string "KeyKeepers$Reader" 164) "java/lang/String" "value" "[B") (.int 45)) (.int 102) ∈ flatC (Jvm.Cond.and given_1 narrow_1) := by decide +kernel
theorem am_se46 : Cond.eq (.elem (.field (.string "KeyKeepers$Reader" 164) "java/lang/String" "value" "[B") (.int 46)) (.int 32) ∈ flatC (Jvm.Cond.and given_1 narrow_1) := by decide +kernel
theorem am_se47 : Cond.eq (.elem (.field (.string "KeyKeepers$Reader" 164) "java/lang/String" "value" "[B") (.int 47)) (.int 116) ∈ flatC (Jvm.Cond.and given_1 narrow_1) := by decide +kernel
theorem am_se48 : Cond.eq (.elem (.field (.string "KeyKeepers$Reader" 164) "java/lang/String" "value" "[B") (.int 48)) (.int 105) ∈ flatC (Jvm.Cond.and given_1 narrow_1) := by decide +kernel
theorem am_se49 : Cond.eq (.elem (.field (.string "KeyKeepers$Reader" 164) "java/lang/String" "value" "[B") (.int 49)) (.int 109) ∈ flatC (Jvm.Cond.and given_1 narrow_1) := by decide +kernel
theorem am_se50 : Cond.eq (.elem (.field (.string "KeyKeepers$Reader" 164) "java/lang/String" "value" "[B") (.int 50)) (.int 101) ∈ flatC (Jvm.Cond.and given_1 narrow_1) := by decide +kernel
theorem am_se51 : Cond.eq (.elem (.field (.string "KeyKeepers$Reader" 164) "java/lang/String" "value" "[B") (.int 51)) (.int 115) ∈ flatC (Jvm.Cond.and given_1 narrow_1) := by decide +kernel
theorem am_se52 : Cond.eq (.elem (.field (.string "KeyKeepers$Reader" 164) "java/lang/String" "value" "[B") (.int 52)) (.int 32) ∈ flatC (Jvm.Cond.and given_1 narrow_1) := by decide +kernel
theorem am_se53 : Cond.eq (.elem (.field (.string "KeyKeepers$Reader" 164) "java/lang/String" "value" "[B") (.int 53)) (.int 98) ∈ flatC (Jvm.Cond.and given_1 narrow_1) := by decide +kernel
theorem am_se54 : Cond.eq (.elem (.field (.string "KeyKeepers$Reader" 164) "java/lang/String" "value" "[B") (.int 54)) (.int 121) ∈ flatC (Jvm.Cond.and given_1 narrow_1) := by decide +kernel
theorem am_se55 : Cond.eq (.elem (.field (.string "KeyKeepers$Reader" 164) "java/lang/String" "value" "[B") (.int 55)) (.int 32) ∈ flatC (Jvm.Cond.and given_1 narrow_1) := by decide +kernel
theorem am_se56 : Cond.eq (.elem (.field (.string "KeyKeepers$Reader" 164) "java/lang/String" "value" "[B") (.int 56)) (.int 111) ∈ flatC (Jvm.Cond.and given_1 narrow_1) := by decide +kernel
theorem am_se57 : Cond.eq (.elem (.field (.string "KeyKeepers$Reader" 164) "java/lang/String" "value" "[B") (.int 57)) (.int 102) ∈ flatC (Jvm.Cond.and given_1 narrow_1) := by decide +kernel
theorem am_se58 : Cond.eq (.elem (.field (.string "KeyKeepers$Reader" 164) "java/lang/String" "value" "[B") (.int 58)) (.int 32) ∈ flatC (Jvm.Cond.and given_1 narrow_1) := by decide +kernel
theorem am_se59 : Cond.eq (.elem (.field (.string "KeyKeepers$Reader" 164) "java/lang/String" "value" "[B") (.int 59)) (.int 116) ∈ flatC (Jvm.Cond.and given_1 narrow_1) := by decide +kernel
theorem am_se60 : Cond.eq (.elem (.field (.string "KeyKeepers$Reader" 164) "java/lang/String" "value" "[B") (.int 60)) (.int 111) ∈ flatC (Jvm.Cond.and given_1 narrow_1) := by decide +kernel
theorem am_se61 : Cond.eq (.elem (.field (.string "KeyKeepers$Reader" 164) "java/lang/String" "value" "[B") (.int 61)) (.int 32) ∈ flatC (Jvm.Cond.and given_1 narrow_1) := by decide +kernel
theorem am_se62 : Cond.eq (.elem (.field (.string "KeyKeepers$Reader" 164) "java/lang/String" "value" "[B") (.int 62)) (.int 111) ∈ flatC (Jvm.Cond.and given_1 narrow_1) := by decide +kernel
theorem am_se63 : Cond.eq (.elem (.field (.string "KeyKeepers$Reader" 164) "java/lang/String" "value" "[B") (.int 63)) (.int 114) ∈ flatC (Jvm.Cond.and given_1 narrow_1) := by decide +kernel
theorem am_se64 : Cond.eq (.elem (.field (.string "KeyKeepers$Reader" 164) "java/lang/String" "value" "[B") (.int 64)) (.int 32) ∈ flatC (Jvm.Cond.and given_1 narrow_1) := by decide +kernel
theorem am_se65 : Cond.eq (.elem (.field (.string "KeyKeepers$Reader" 164) "java/lang/String" "value" "[B") (.int 65)) (.int 97) ∈ flatC (Jvm.Cond.and given_1 narrow_1) := by decide +kernel
theorem am_se66 : Cond.eq (.elem (.field (.string "KeyKeepers$Reader" 164) "java/lang/String" "value" "[B") (.int 66)) (.int 110) ∈ flatC (Jvm.Cond.and given_1 narrow_1) := by decide +kernel
theorem am_se67 : Cond.eq (.elem (.field (.string "KeyKeepers$Reader" 164) "java/lang/String" "value" "[B") (.int 67)) (.int 100) ∈ flatC (Jvm.Cond.and given_1 narrow_1) := by decide +kernel
theorem am_se68 : Cond.eq (.elem (.field (.string "KeyKeepers$Reader" 164) "java/lang/String" "value" "[B") (.int 68)) (.int 32) ∈ flatC (Jvm.Cond.and given_1 narrow_1) := by decide +kernel
theorem am_se69 : Cond.eq (.elem (.field (.string "KeyKeepers$Reader" 164) "java/lang/String" "value" "[B") (.int 69)) (.int 110) ∈ flatC (Jvm.Cond.and given_1 narrow_1) := by decide +kernel
theorem am_se70 : Cond.eq (.elem (.field (.string "KeyKeepers$Reader" 164) "java/lang/String" "value" "[B") (.int 70)) (.int 111) ∈ flatC (Jvm.Cond.and given_1 narrow_1) := by decide +kernel
theorem am_se71 : Cond.eq (.elem (.field (.string "KeyKeepers$Reader" 164) "java/lang/String" "value" "[B") (.int 71)) (.int 116) ∈ flatC (Jvm.Cond.and given_1 narrow_1) := by decide +kernel
theorem am_se72 : Cond.eq (.elem (.field (.string "KeyKeepers$Reader" 164) "java/lang/String" "value" "[B") (.int 72)) (.int 32) ∈ flatC (Jvm.Cond.and given_1 narrow_1) := by decide +kernel
theorem am_se73 : Cond.eq (.elem (.field (.string "KeyKeepers$Reader" 164) "java/lang/String" "value" "[B") (.int 73)) (.int 112) ∈ flatC (Jvm.Cond.and given_1 narrow_1) := by decide +kernel
theorem am_se74 : Cond.eq (.elem (.field (.string "KeyKeepers$Reader" 164) "java/lang/String" "value" "[B") (.int 74)) (.int 101) ∈ flatC (Jvm.Cond.and given_1 narrow_1) := by decide +kernel
theorem am_se75 : Cond.eq (.elem (.field (.string "KeyKeepers$Reader" 164) "java/lang/String" "value" "[B") (.int 75)) (.int 114) ∈ flatC (Jvm.Cond.and given_1 narrow_1) := by decide +kernel
theorem am_se76 : Cond.eq (.elem (.field (.string "KeyKeepers$Reader" 164) "java/lang/String" "value" "[B") (.int 76)) (.int 115) ∈ flatC (Jvm.Cond.and given_1 narrow_1) := by decide +kernel
theorem am_se77 : Cond.eq (.elem (.field (.string "KeyKeepers$Reader" 164) "java/lang/String" "value" "[B") (.int 77)) (.int 111) ∈ flatC (Jvm.Cond.and given_1 narrow_1) := by decide +kernel
theorem am_se78 : Cond.eq (.elem (.field (.string "KeyKeepers$Reader" 164) "java/lang/String" "value" "[B") (.int 78)) (.int 110) ∈ flatC (Jvm.Cond.and given_1 narrow_1) := by decide +kernel
theorem am_se79 : Cond.eq (.elem (.field (.string "KeyKeepers$Reader" 164) "java/lang/String" "value" "[B") (.int 79)) (.int 32) ∈ flatC (Jvm.Cond.and given_1 narrow_1) := by decide +kernel
theorem am_se80 : Cond.eq (.elem (.field (.string "KeyKeepers$Reader" 164) "java/lang/String" "value" "[B") (.int 80)) (.int 121) ∈ flatC (Jvm.Cond.and given_1 narrow_1) := by decide +kernel
theorem am_se81 : Cond.eq (.elem (.field (.string "KeyKeepers$Reader" 164) "java/lang/String" "value" "[B") (.int 81)) (.int 101) ∈ flatC (Jvm.Cond.and given_1 narrow_1) := by decide +kernel
theorem am_se82 : Cond.eq (.elem (.field (.string "KeyKeepers$Reader" 164) "java/lang/String" "value" "[B") (.int 82)) (.int 97) ∈ flatC (Jvm.Cond.and given_1 narrow_1) := by decide +kernel
theorem am_se83 : Cond.eq (.elem (.field (.string "KeyKeepers$Reader" 164) "java/lang/String" "value" "[B") (.int 83)) (.int 114) ∈ flatC (Jvm.Cond.and given_1 narrow_1) := by decide +kernel
theorem am_se84 : Cond.eq (.elem (.field (.string "KeyKeepers$Reader" 164) "java/lang/String" "value" "[B") (.int 84)) (.int 115) ∈ flatC (Jvm.Cond.and given_1 narrow_1) := by decide +kernel
theorem am_se85 : Cond.eq (.elem (.field (.string "KeyKeepers$Reader" 164) "java/lang/String" "value" "[B") (.int 85)) (.int 32) ∈ flatC (Jvm.Cond.and given_1 narrow_1) := by decide +kernel
theorem am_se86 : Cond.eq (.elem (.field (.string "KeyKeepers$Reader" 164) "java/lang/String" "value" "[B") (.int 86)) (.int 119) ∈ flatC (Jvm.Cond.and given_1 narrow_1) := by decide +kernel
theorem am_se87 : Cond.eq (.elem (.field (.string "KeyKeepers$Reader" 164) "java/lang/String" "value" "[B") (.int 87)) (.int 97) ∈ flatC (Jvm.Cond.and given_1 narrow_1) := by decide +kernel
theorem am_se88 : Cond.eq (.elem (.field (.string "KeyKeepers$Reader" 164) "java/lang/String" "value" "[B") (.int 88)) (.int 110) ∈ flatC (Jvm.Cond.and given_1 narrow_1) := by decide +kernel
theorem am_se89 : Cond.eq (.elem (.field (.string "KeyKeepers$Reader" 164) "java/lang/String" "value" "[B") (.int 89)) (.int 116) ∈ flatC (Jvm.Cond.and given_1 narrow_1) := by decide +kernel
theorem am_se90 : Cond.eq (.elem (.field (.string "KeyKeepers$Reader" 164) "java/lang/String" "value" "[B") (.int 90)) (.int 32) ∈ flatC (Jvm.Cond.and given_1 narrow_1) := by decide +kernel
theorem am_se91 : Cond.eq (.elem (.field (.string "KeyKeepers$Reader" 164) "java/lang/String" "value" "[B") (.int 91)) (.int 107) ∈ flatC (Jvm.Cond.and given_1 narrow_1) := by decide +kernel
theorem am_se92 : Cond.eq (.elem (.field (.string "KeyKeepers$Reader" 164) "java/lang/String" "value" "[B") (.int 92)) (.int 101) ∈ flatC (Jvm.Cond.and given_1 narrow_1) := by decide +kernel
theorem am_se93 : Cond.eq (.elem (.field (.string "KeyKeepers$Reader" 164) "java/lang/String" "value" "[B") (.int 93)) (.int 121) ∈ flatC (Jvm.Cond.and given_1 narrow_1) := by decide +kernel
theorem am_se94 : Cond.eq (.elem (.field (.string "KeyKeepers$Reader" 164) "java/lang/String" "value" "[B") (.int 94)) (.int 115) ∈ flatC (Jvm.Cond.and given_1 narrow_1) := by decide +kernel
theorem am_se95 : Cond.eq (.elem (.field (.string "KeyKeepers$Reader" 164) "java/lang/String" "value" "[B") (.int 95)) (.int 32) ∈ flatC (Jvm.Cond.and given_1 narrow_1) := by decide +kernel
theorem am_se96 : Cond.eq (.elem (.field (.string "KeyKeepers$Reader" 164) "java/lang/String" "value" "[B") (.int 96)) (.int 119) ∈ flatC (Jvm.Cond.and given_1 narrow_1) := by decide +kernel
theorem am_se97 : Cond.eq (.elem (.field (.string "KeyKeepers$Reader" 164) "java/lang/String" "value" "[B") (.int 97)) (.int 97) ∈ flatC (Jvm.Cond.and given_1 narrow_1) := by decide +kernel
theorem am_se98 : Cond.eq (.elem (.field (.string "KeyKeepers$Reader" 164) "java/lang/String" "value" "[B") (.int 98)) (.int 116) ∈ flatC (Jvm.Cond.and given_1 narrow_1) := by decide +kernel
theorem am_se99 : Cond.eq (.elem (.field (.string "KeyKeepers$Reader" 164) "java/lang/String" "value" "[B") (.int 99)) (.int 99) ∈ flatC (Jvm.Cond.and given_1 narrow_1) := by decide +kernel
theorem am_se100 : Cond.eq (.elem (.field (.string "KeyKeepers$Reader" 164) "java/lang/String" "value" "[B") (.int 100)) (.int 104) ∈ flatC (Jvm.Cond.and given_1 narrow_1) := by decide +kernel
theorem am_se101 : Cond.eq (.elem (.field (.string "KeyKeepers$Reader" 164) "java/lang/String" "value" "[B") (.int 101)) (.int 32) ∈ flatC (Jvm.Cond.and given_1 narrow_1) := by decide +kernel
theorem am_se102 : Cond.eq (.elem (.field (.string "KeyKeepers$Reader" 164) "java/lang/String" "value" "[B") (.int 102)) (.int 98) ∈ flatC (Jvm.Cond.and given_1 narrow_1) := by decide +kernel
theorem am_se103 : Cond.eq (.elem (.field (.string "KeyKeepers$Reader" 164) "java/lang/String" "value" "[B") (.int 103)) (.int 101) ∈ flatC (Jvm.Cond.and given_1 narrow_1) := by decide +kernel
theorem am_se104 : Cond.eq (.elem (.field (.string "KeyKeepers$Reader" 164) "java/lang/String" "value" "[B") (.int 104)) (.int 102) ∈ flatC (Jvm.Cond.and given_1 narrow_1) := by decide +kernel
theorem am_se105 : Cond.eq (.elem (.field (.string "KeyKeepers$Reader" 164) "java/lang/String" "value" "[B") (.int 105)) (.int 111) ∈ flatC (Jvm.Cond.and given_1 narrow_1) := by decide +kernel
theorem am_se106 : Cond.eq (.elem (.field (.string "KeyKeepers$Reader" 164) "java/lang/String" "value" "[B") (.int 106)) (.int 114) ∈ flatC (Jvm.Cond.and given_1 narrow_1) := by decide +kernel
theorem am_se107 : Cond.eq (.elem (.field (.string "KeyKeepers$Reader" 164) "java/lang/String" "value" "[B") (.int 107)) (.int 101) ∈ flatC (Jvm.Cond.and given_1 narrow_1) := by decide +kernel
theorem am_se108 : Cond.eq (.elem (.field (.string "KeyKeepers$Reader" 164) "java/lang/String" "value" "[B") (.int 108)) (.int 32) ∈ flatC (Jvm.Cond.and given_1 narrow_1) := by decide +kernel
theorem am_se109 : Cond.eq (.elem (.field (.string "KeyKeepers$Reader" 164) "java/lang/String" "value" "[B") (.int 109)) (.int 111) ∈ flatC (Jvm.Cond.and given_1 narrow_1) := by decide +kernel
theorem am_se110 : Cond.eq (.elem (.field (.string "KeyKeepers$Reader" 164) "java/lang/String" "value" "[B") (.int 110)) (.int 116) ∈ flatC (Jvm.Cond.and given_1 narrow_1) := by decide +kernel
theorem am_se111 : Cond.eq (.elem (.field (.string "KeyKeepers$Reader" 164) "java/lang/String" "value" "[B") (.int 111)) (.int 104) ∈ flatC (Jvm.Cond.and given_1 narrow_1) := by decide +kernel
theorem am_se112 : Cond.eq (.elem (.field (.string "KeyKeepers$Reader" 164) "java/lang/String" "value" "[B") (.int 112)) (.int 101) ∈ flatC (Jvm.Cond.and given_1 narrow_1) := by decide +kernel
theorem am_se113 : Cond.eq (.elem (.field (.string "KeyKeepers$Reader" 164) "java/lang/String" "value" "[B") (.int 113)) (.int 114) ∈ flatC (Jvm.Cond.and given_1 narrow_1) := by decide +kernel
theorem am_se114 : Cond.eq (.elem (.field (.string "KeyKeepers$Reader" 164) "java/lang/String" "value" "[B") (.int 114)) (.int 115) ∈ flatC (Jvm.Cond.and given_1 narrow_1) := by decide +kernel
theorem am_se115 : Cond.eq (.elem (.field (.string "KeyKeepers$Reader" 164) "java/lang/String" "value" "[B") (.int 115)) (.int 32) ∈ flatC (Jvm.Cond.and given_1 narrow_1) := by decide +kernel
theorem am_se116 : Cond.eq (.elem (.field (.string "KeyKeepers$Reader" 164) "java/lang/String" "value" "[B") (.int 116)) (.int 104) ∈ flatC (Jvm.Cond.and given_1 narrow_1) := by decide +kernel
theorem am_se117 : Cond.eq (.elem (.field (.string "KeyKeepers$Reader" 164) "java/lang/String" "value" "[B") (.int 117)) (.int 111) ∈ flatC (Jvm.Cond.and given_1 narrow_1) := by decide +kernel
theorem am_se118 : Cond.eq (.elem (.field (.string "KeyKeepers$Reader" 164) "java/lang/String" "value" "[B") (.int 118)) (.int 117) ∈ flatC (Jvm.Cond.and given_1 narrow_1) := by decide +kernel
theorem am_se119 : Cond.eq (.elem (.field (.string "KeyKeepers$Reader" 164) "java/lang/String" "value" "[B") (.int 119)) (.int 114) ∈ flatC (Jvm.Cond.and given_1 narrow_1) := by decide +kernel
theorem am_se120 : Cond.eq (.elem (.field (.string "KeyKeepers$Reader" 164) "java/lang/String" "value" "[B") (.int 120)) (.int 32) ∈ flatC (Jvm.Cond.and given_1 narrow_1) := by decide +kernel
theorem am_se121 : Cond.eq (.elem (.field (.string "KeyKeepers$Reader" 164) "java/lang/String" "value" "[B") (.int 121)) (.int 111) ∈ flatC (Jvm.Cond.and given_1 narrow_1) := by decide +kernel
theorem am_se122 : Cond.eq (.elem (.field (.string "KeyKeepers$Reader" 164) "java/lang/String" "value" "[B") (.int 122)) (.int 100) ∈ flatC (Jvm.Cond.and given_1 narrow_1) := by decide +kernel
theorem am_se123 : Cond.eq (.elem (.field (.string "KeyKeepers$Reader" 164) "java/lang/String" "value" "[B") (.int 123)) (.int 100) ∈ flatC (Jvm.Cond.and given_1 narrow_1) := by decide +kernel
theorem am_se124 : Cond.eq (.elem (.field (.string "KeyKeepers$Reader" 164) "java/lang/String" "value" "[B") (.int 124)) (.int 115) ∈ flatC (Jvm.Cond.and given_1 narrow_1) := by decide +kernel
theorem am_se125 : Cond.eq (.elem (.field (.string "KeyKeepers$Reader" 164) "java/lang/String" "value" "[B") (.int 125)) (.int 32) ∈ flatC (Jvm.Cond.and given_1 narrow_1) := by decide +kernel
theorem am_se126 : Cond.eq (.elem (.field (.string "KeyKeepers$Reader" 164) "java/lang/String" "value" "[B") (.int 126)) (.int 109) ∈ flatC (Jvm.Cond.and given_1 narrow_1) := by decide +kernel
theorem am_se127 : Cond.eq (.elem (.field (.string "KeyKeepers$Reader" 164) "java/lang/String" "value" "[B") (.int 127)) (.int 111) ∈ flatC (Jvm.Cond.and given_1 narrow_1) := by decide +kernel
theorem am_se128 : Cond.eq (.elem (.field (.string "KeyKeepers$Reader" 164) "java/lang/String" "value" "[B") (.int 128)) (.int 111) ∈ flatC (Jvm.Cond.and given_1 narrow_1) := by decide +kernel
theorem am_se129 : Cond.eq (.elem (.field (.string "KeyKeepers$Reader" 164) "java/lang/String" "value" "[B") (.int 129)) (.int 100) ∈ flatC (Jvm.Cond.and given_1 narrow_1) := by decide +kernel
theorem am_se130 : Cond.eq (.elem (.field (.string "KeyKeepers$Reader" 164) "java/lang/String" "value" "[B") (.int 130)) (.int 32) ∈ flatC (Jvm.Cond.and given_1 narrow_1) := by decide +kernel
theorem am_se131 : Cond.eq (.elem (.field (.string "KeyKeepers$Reader" 164) "java/lang/String" "value" "[B") (.int 131)) (.int 98) ∈ flatC (Jvm.Cond.and given_1 narrow_1) := by decide +kernel
theorem am_se132 : Cond.eq (.elem (.field (.string "KeyKeepers$Reader" 164) "java/lang/String" "value" "[B") (.int 132)) (.int 114) ∈ flatC (Jvm.Cond.and given_1 narrow_1) := by decide +kernel
theorem am_se133 : Cond.eq (.elem (.field (.string "KeyKeepers$Reader" 164) "java/lang/String" "value" "[B") (.int 133)) (.int 101) ∈ flatC (Jvm.Cond.and given_1 narrow_1) := by decide +kernel
theorem am_se134 : Cond.eq (.elem (.field (.string "KeyKeepers$Reader" 164) "java/lang/String" "value" "[B") (.int 134)) (.int 97) ∈ flatC (Jvm.Cond.and given_1 narrow_1) := by decide +kernel
theorem am_se135 : Cond.eq (.elem (.field (.string "KeyKeepers$Reader" 164) "java/lang/String" "value" "[B") (.int 135)) (.int 100) ∈ flatC (Jvm.Cond.and given_1 narrow_1) := by decide +kernel
theorem am_se136 : Cond.eq (.elem (.field (.string "KeyKeepers$Reader" 164) "java/lang/String" "value" "[B") (.int 136)) (.int 32) ∈ flatC (Jvm.Cond.and given_1 narrow_1) := by decide +kernel
theorem am_se137 : Cond.eq (.elem (.field (.string "KeyKeepers$Reader" 164) "java/lang/String" "value" "[B") (.int 137)) (.int 105) ∈ flatC (Jvm.Cond.and given_1 narrow_1) := by decide +kernel
theorem am_se138 : Cond.eq (.elem (.field (.string "KeyKeepers$Reader" 164) "java/lang/String" "value" "[B") (.int 138)) (.int 110) ∈ flatC (Jvm.Cond.and given_1 narrow_1) := by decide +kernel
theorem am_se139 : Cond.eq (.elem (.field (.string "KeyKeepers$Reader" 164) "java/lang/String" "value" "[B") (.int 139)) (.int 115) ∈ flatC (Jvm.Cond.and given_1 narrow_1) := by decide +kernel
theorem am_se140 : Cond.eq (.elem (.field (.string "KeyKeepers$Reader" 164) "java/lang/String" "value" "[B") (.int 140)) (.int 105) ∈ flatC (Jvm.Cond.and given_1 narrow_1) := by decide +kernel
theorem am_se141 : Cond.eq (.elem (.field (.string "KeyKeepers$Reader" 164) "java/lang/String" "value" "[B") (.int 141)) (.int 100) ∈ flatC (Jvm.Cond.and given_1 narrow_1) := by decide +kernel
theorem am_se142 : Cond.eq (.elem (.field (.string "KeyKeepers$Reader" 164) "java/lang/String" "value" "[B") (.int 142)) (.int 101) ∈ flatC (Jvm.Cond.and given_1 narrow_1) := by decide +kernel
theorem am_se143 : Cond.eq (.elem (.field (.string "KeyKeepers$Reader" 164) "java/lang/String" "value" "[B") (.int 143)) (.int 32) ∈ flatC (Jvm.Cond.and given_1 narrow_1) := by decide +kernel
theorem am_se144 : Cond.eq (.elem (.field (.string "KeyKeepers$Reader" 164) "java/lang/String" "value" "[B") (.int 144)) (.int 100) ∈ flatC (Jvm.Cond.and given_1 narrow_1) := by decide +kernel
theorem am_se145 : Cond.eq (.elem (.field (.string "KeyKeepers$Reader" 164) "java/lang/String" "value" "[B") (.int 145)) (.int 111) ∈ flatC (Jvm.Cond.and given_1 narrow_1) := by decide +kernel
theorem am_se146 : Cond.eq (.elem (.field (.string "KeyKeepers$Reader" 164) "java/lang/String" "value" "[B") (.int 146)) (.int 110) ∈ flatC (Jvm.Cond.and given_1 narrow_1) := by decide +kernel
theorem am_se147 : Cond.eq (.elem (.field (.string "KeyKeepers$Reader" 164) "java/lang/String" "value" "[B") (.int 147)) (.int 101) ∈ flatC (Jvm.Cond.and given_1 narrow_1) := by decide +kernel
theorem am_se148 : Cond.eq (.elem (.field (.string "KeyKeepers$Reader" 164) "java/lang/String" "value" "[B") (.int 148)) (.int 32) ∈ flatC (Jvm.Cond.and given_1 narrow_1) := by decide +kernel
theorem am_se149 : Cond.eq (.elem (.field (.string "KeyKeepers$Reader" 164) "java/lang/String" "value" "[B") (.int 149)) (.int 102) ∈ flatC (Jvm.Cond.and given_1 narrow_1) := by decide +kernel
theorem am_se150 : Cond.eq (.elem (.field (.string "KeyKeepers$Reader" 164) "java/lang/String" "value" "[B") (.int 150)) (.int 111) ∈ flatC (Jvm.Cond.and given_1 narrow_1) := by decide +kernel
theorem am_se151 : Cond.eq (.elem (.field (.string "KeyKeepers$Reader" 164) "java/lang/String" "value" "[B") (.int 151)) (.int 117) ∈ flatC (Jvm.Cond.and given_1 narrow_1) := by decide +kernel
theorem am_se152 : Cond.eq (.elem (.field (.string "KeyKeepers$Reader" 164) "java/lang/String" "value" "[B") (.int 152)) (.int 110) ∈ flatC (Jvm.Cond.and given_1 narrow_1) := by decide +kernel
theorem am_se153 : Cond.eq (.elem (.field (.string "KeyKeepers$Reader" 164) "java/lang/String" "value" "[B") (.int 153)) (.int 100) ∈ flatC (Jvm.Cond.and given_1 narrow_1) := by decide +kernel
theorem am_se154 : Cond.eq (.elem (.field (.string "KeyKeepers$Reader" 164) "java/lang/String" "value" "[B") (.int 154)) (.int 32) ∈ flatC (Jvm.Cond.and given_1 narrow_1) := by decide +kernel
theorem am_se155 : Cond.eq (.elem (.field (.string "KeyKeepers$Reader" 164) "java/lang/String" "value" "[B") (.int 155)) (.int 112) ∈ flatC (Jvm.Cond.and given_1 narrow_1) := by decide +kernel
theorem am_se156 : Cond.eq (.elem (.field (.string "KeyKeepers$Reader" 164) "java/lang/String" "value" "[B") (.int 156)) (.int 108) ∈ flatC (Jvm.Cond.and given_1 narrow_1) := by decide +kernel
theorem am_se157 : Cond.eq (.elem (.field (.string "KeyKeepers$Reader" 164) "java/lang/String" "value" "[B") (.int 157)) (.int 97) ∈ flatC (Jvm.Cond.and given_1 narrow_1) := by decide +kernel
theorem am_se158 : Cond.eq (.elem (.field (.string "KeyKeepers$Reader" 164) "java/lang/String" "value" "[B") (.int 158)) (.int 99) ∈ flatC (Jvm.Cond.and given_1 narrow_1) := by decide +kernel
theorem am_se159 : Cond.eq (.elem (.field (.string "KeyKeepers$Reader" 164) "java/lang/String" "value" "[B") (.int 159)) (.int 101) ∈ flatC (Jvm.Cond.and given_1 narrow_1) := by decide +kernel
theorem am_se160 : Cond.eq (.elem (.field (.string "KeyKeepers$Reader" 164) "java/lang/String" "value" "[B") (.int 160)) (.int 32) ∈ flatC (Jvm.Cond.and given_1 narrow_1) := by decide +kernel
theorem am_se161 : Cond.eq (.elem (.field (.string "KeyKeepers$Reader" 164) "java/lang/String" "value" "[B") (.int 161)) (.int 104) ∈ flatC (Jvm.Cond.and given_1 narrow_1) := by decide +kernel
theorem am_se162 : Cond.eq (.elem (.field (.string "KeyKeepers$Reader" 164) "java/lang/String" "value" "[B") (.int 162)) (.int 111) ∈ flatC (Jvm.Cond.and given_1 narrow_1) := by decide +kernel
theorem am_se163 : Cond.eq (.elem (.field (.string "KeyKeepers$Reader" 164) "java/lang/String" "value" "[B") (.int 163)) (.int 108) ∈ flatC (Jvm.Cond.and given_1 narrow_1) := by decide +kernel
theorem am_se164 : Cond.eq (.elem (.field (.string "KeyKeepers$Reader" 164) "java/lang/String" "value" "[B") (.int 164)) (.int 100) ∈ flatC (Jvm.Cond.and given_1 narrow_1) := by decide +kernel
theorem am_se165 : Cond.eq (.elem (.field (.string "KeyKeepers$Reader" 164) "java/lang/String" "value" "[B") (.int 165)) (.int 115) ∈ flatC (Jvm.Cond.and given_1 narrow_1) := by decide +kernel
theorem am_se166 : Cond.eq (.elem (.field (.string "KeyKeepers$Reader" 164) "java/lang/String" "value" "[B") (.int 166)) (.int 32) ∈ flatC (Jvm.Cond.and given_1 narrow_1) := by decide +kernel
theorem am_str_el : ∀ j, j < 167 → Cond.eq (.elem (.field (.string "KeyKeepers$Reader" 164) "java/lang/String" "value" "[B") (.int (Int32.ofNat j))) (.int (am_wl2.getD j 0)) ∈ flatC (Jvm.Cond.and given_1 narrow_1)
  | 0, _ => am_se0
  | 1, _ => am_se1
  | 2, _ => am_se2
  | 3, _ => am_se3
  | 4, _ => am_se4
  | 5, _ => am_se5
  | 6, _ => am_se6
  | 7, _ => am_se7
  | 8, _ => am_se8
  | 9, _ => am_se9
  | 10, _ => am_se10
  | 11, _ => am_se11
  | 12, _ => am_se12
  | 13, _ => am_se13
  | 14, _ => am_se14
  | 15, _ => am_se15
  | 16, _ => am_se16
  | 17, _ => am_se17
  | 18, _ => am_se18
  | 19, _ => am_se19
  | 20, _ => am_se20
  | 21, _ => am_se21
  | 22, _ => am_se22
  | 23, _ => am_se23
  | 24, _ => am_se24
  | 25, _ => am_se25
  | 26, _ => am_se26
  | 27, _ => am_se27
  | 28, _ => am_se28
  | 29, _ => am_se29
  | 30, _ => am_se30
  | 31, _ => am_se31
  | 32, _ => am_se32
  | 33, _ => am_se33
  | 34, _ => am_se34
  | 35, _ => am_se35
  | 36, _ => am_se36
  | 37, _ => am_se37
  | 38, _ => am_se38
  | 39, _ => am_se39
  | 40, _ => am_se40
  | 41, _ => am_se41
  | 42, _ => am_se42
  | 43, _ => am_se43
  | 44, _ => am_se44
  | 45, _ => am_se45
  | 46, _ => am_se46
  | 47, _ => am_se47
  | 48, _ => am_se48
  | 49, _ => am_se49
  | 50, _ => am_se50
  | 51, _ => am_se51
  | 52, _ => am_se52
  | 53, _ => am_se53
  | 54, _ => am_se54
  | 55, _ => am_se55
  | 56, _ => am_se56
  | 57, _ => am_se57
  | 58, _ => am_se58
  | 59, _ => am_se59
  | 60, _ => am_se60
  | 61, _ => am_se61
  | 62, _ => am_se62
  | 63, _ => am_se63
  | 64, _ => am_se64
  | 65, _ => am_se65
  | 66, _ => am_se66
  | 67, _ => am_se67
  | 68, _ => am_se68
  | 69, _ => am_se69
  | 70, _ => am_se70
  | 71, _ => am_se71
  | 72, _ => am_se72
  | 73, _ => am_se73
  | 74, _ => am_se74
  | 75, _ => am_se75
  | 76, _ => am_se76
  | 77, _ => am_se77
  | 78, _ => am_se78
  | 79, _ => am_se79
  | 80, _ => am_se80
  | 81, _ => am_se81
  | 82, _ => am_se82
  | 83, _ => am_se83
  | 84, _ => am_se84
  | 85, _ => am_se85
  | 86, _ => am_se86
  | 87, _ => am_se87
  | 88, _ => am_se88
  | 89, _ => am_se89
  | 90, _ => am_se90
  | 91, _ => am_se91
  | 92, _ => am_se92
  | 93, _ => am_se93
  | 94, _ => am_se94
  | 95, _ => am_se95
  | 96, _ => am_se96
  | 97, _ => am_se97
  | 98, _ => am_se98
  | 99, _ => am_se99
  | 100, _ => am_se100
  | 101, _ => am_se101
  | 102, _ => am_se102
  | 103, _ => am_se103
  | 104, _ => am_se104
  | 105, _ => am_se105
  | 106, _ => am_se106
  | 107, _ => am_se107
  | 108, _ => am_se108
  | 109, _ => am_se109
  | 110, _ => am_se110
  | 111, _ => am_se111
  | 112, _ => am_se112
  | 113, _ => am_se113
  | 114, _ => am_se114
  | 115, _ => am_se115
  | 116, _ => am_se116
  | 117, _ => am_se117
  | 118, _ => am_se118
  | 119, _ => am_se119
  | 120, _ => am_se120
  | 121, _ => am_se121
  | 122, _ => am_se122
  | 123, _ => am_se123
  | 124, _ => am_se124
  | 125, _ => am_se125
  | 126, _ => am_se126
  | 127, _ => am_se127
  | 128, _ => am_se128
  | 129, _ => am_se129
  | 130, _ => am_se130
  | 131, _ => am_se131
  | 132, _ => am_se132
  | 133, _ => am_se133
  | 134, _ => am_se134
  | 135, _ => am_se135
  | 136, _ => am_se136
  | 137, _ => am_se137
  | 138, _ => am_se138
  | 139, _ => am_se139
  | 140, _ => am_se140
  | 141, _ => am_se141
  | 142, _ => am_se142
  | 143, _ => am_se143
  | 144, _ => am_se144
  | 145, _ => am_se145
  | 146, _ => am_se146
  | 147, _ => am_se147
  | 148, _ => am_se148
  | 149, _ => am_se149
  | 150, _ => am_se150
  | 151, _ => am_se151
  | 152, _ => am_se152
  | 153, _ => am_se153
  | 154, _ => am_se154
  | 155, _ => am_se155
  | 156, _ => am_se156
  | 157, _ => am_se157
  | 158, _ => am_se158
  | 159, _ => am_se159
  | 160, _ => am_se160
  | 161, _ => am_se161
  | 162, _ => am_se162
  | 163, _ => am_se163
  | 164, _ => am_se164
  | 165, _ => am_se165
  | 166, _ => am_se166
  | j + 167, h => absurd h (by omega)
theorem am_pe4 (S : am_S) : am_pe S 4 = (am_wd.length, fun k => am_wd.getD k 0) := rfl
set_option maxRecDepth 100000 in
theorem am_pre {s : State} {b L : Nat} {xs : Nat → Int32} (hts : ∀ w ∈ lw_tbl, w.before #[Value.ref b] s = true) (hX : va_X b L xs s s.heap) (hbl : b < s.heap.size) (hgv : (Jvm.Cond.and given_1 narrow_1).before #[Value.ref b] s = true) :
    ∃ G : am_V, G.1 = s.heap.size ∧ G.2.1 3 = .ref b ∧ va_K (am_D G) vwCl (am_ty G) s ∧ am_PF G (L, xs) s s.heap := by
  have hs := flat_of_before _ hgv
  have hA : ∀ a : Nat, a < s.heap.size → ¬ s.heap.size ≤ a := fun a ha => Nat.not_le.mpr ha
  obtain ⟨t0, ev0, T0⟩ := va_Tof (tm := .static "KeyKeepers" "TERM_LEAST" "[I") (N := 4) (f := fun k => .int ((am_pe (L, xs) 0).2 k)) (A := fun q => s.heap.size ≤ q) (by decide) (hs (.arrayOf (.static "KeyKeepers" "TERM_LEAST" "[I") .int) (by decide +kernel)) (va_eqt (hs (.eq (.length (.static "KeyKeepers" "TERM_LEAST" "[I")) (.int 4)) (by decide +kernel))) (fun j hj => by
    rcases (show j = 0 ∨ j = 1 ∨ j = 2 ∨ j = 3 by omega) with rfl | rfl | rfl | rfl
    · exact va_eqt (hs (.eq (.elem (.static "KeyKeepers" "TERM_LEAST" "[I") (.int 0)) (.int 0)) (by decide +kernel))
    · exact va_eqt (hs (.eq (.elem (.static "KeyKeepers" "TERM_LEAST" "[I") (.int 1)) (.int 1)) (by decide +kernel))
    · exact va_eqt (hs (.eq (.elem (.static "KeyKeepers" "TERM_LEAST" "[I") (.int 2)) (.int 0)) (by decide +kernel))
    · exact va_eqt (hs (.eq (.elem (.static "KeyKeepers" "TERM_LEAST" "[I") (.int 3)) (.int 0)) (by decide +kernel))) hA
  obtain ⟨t1, ev1, T1⟩ := va_Tof (tm := .static "KeyKeepers" "TERM_MOST" "[I") (N := 4) (f := fun k => .int ((am_pe (L, xs) 1).2 k)) (A := fun q => s.heap.size ≤ q) (by decide) (hs (.arrayOf (.static "KeyKeepers" "TERM_MOST" "[I") .int) (by decide +kernel)) (va_eqt (hs (.eq (.length (.static "KeyKeepers" "TERM_MOST" "[I")) (.int 4)) (by decide +kernel))) (fun j hj => by
    rcases (show j = 0 ∨ j = 1 ∨ j = 2 ∨ j = 3 by omega) with rfl | rfl | rfl | rfl
    · exact va_eqt (hs (.eq (.elem (.static "KeyKeepers" "TERM_MOST" "[I") (.int 0)) (.int 9999)) (by decide +kernel))
    · exact va_eqt (hs (.eq (.elem (.static "KeyKeepers" "TERM_MOST" "[I") (.int 1)) (.int 6)) (by decide +kernel))
    · exact va_eqt (hs (.eq (.elem (.static "KeyKeepers" "TERM_MOST" "[I") (.int 2)) (.int 10)) (by decide +kernel))
    · exact va_eqt (hs (.eq (.elem (.static "KeyKeepers" "TERM_MOST" "[I") (.int 3)) (.int 9)) (by decide +kernel))) hA
  have Z0 := va_Zref (A := fun q => s.heap.size ≤ q) (hts (.laysStatic "KeyKeepers" "TERM_LEAST" "[I") (List.mem_of_getElem? (i := 647) (by decide +kernel))) (hts (.initialized "KeyKeepers") (List.mem_of_getElem? (i := 128) (by decide +kernel))) ev0 hA
  have Z1 := va_Zref (A := fun q => s.heap.size ≤ q) (hts (.laysStatic "KeyKeepers" "TERM_MOST" "[I") (List.mem_of_getElem? (i := 649) (by decide +kernel))) (hts (.initialized "KeyKeepers") (List.mem_of_getElem? (i := 128) (by decide +kernel))) ev1 hA
  have Z7 := va_Zof (A := fun q => s.heap.size ≤ q) (hts (.laysStatic "java/lang/String" "COMPACT_STRINGS" "Z") (List.mem_of_getElem? (i := 715) (by decide +kernel))) (hts (.initialized "java/lang/String") (List.mem_of_getElem? (i := 141) (by decide +kernel))) (va_eqi (hs (.eq (.static "java/lang/String" "COMPACT_STRINGS" "Z") (.int 1)) (by decide +kernel))) hA
  have Z5 := va_Zqof (A := fun q => s.heap.size ≤ q) (hts (.laysStatic "jdk/internal/util/Preconditions" "SIOOBE_FORMATTER" "Ljava/util/function/BiFunction;") (List.mem_of_getElem? (i := 731) (by decide +kernel))) (hts (.initialized "jdk/internal/util/Preconditions") (List.mem_of_getElem? (i := 143) (by decide +kernel))) (hs (.isRef (.static "jdk/internal/util/Preconditions" "SIOOBE_FORMATTER" "Ljava/util/function/BiFunction;")) (by decide +kernel)) hA
  obtain ⟨w5, hw5, Z5⟩ : ∃ w : Value, am_nr w ∧ va_Z "jdk/internal/util/Preconditions" "SIOOBE_FORMATTER" "Ljava/util/function/BiFunction;" w (fun q => s.heap.size ≤ q) s s.heap := by
    rcases Z5 with h | ⟨t, h⟩
    · exact ⟨_, Or.inl rfl, h⟩
    · exact ⟨_, Or.inr ⟨t, rfl⟩, h⟩
  obtain ⟨adK, adV, hSt, hev⟩ := vk_Sof (N := 1) (tm := fun _ => .string "KeyKeepers$Reader" 164) (len := [167]) (byt := [am_wl2]) (A := fun q => s.heap.size ≤ q) (args := #[Value.ref b]) (s := s) (fun i hi => by rw [show i = 0 by omega]; decide) (fun i _ => hs (.exactly (.string "KeyKeepers$Reader" 164) "java/lang/String") (by decide +kernel)) (fun i _ => hs (.eq (.field (.string "KeyKeepers$Reader" 164) "java/lang/String" "coder" "B") (.int 0)) (by decide +kernel)) (fun i _ => hs (.arrayOf (.field (.string "KeyKeepers$Reader" 164) "java/lang/String" "value" "[B") .byte) (by decide +kernel))
    (fun i hi => by rw [show i = 0 by omega]; exact hs (.eq (.length (.field (.string "KeyKeepers$Reader" 164) "java/lang/String" "value" "[B")) (.int 167)) (by decide +kernel)) (fun i hi j hj => by
      have h0 : i = 0 := by omega
      subst h0
      exact hs _ (am_str_el j hj)) (fun i j hi hj hij => absurd (show i = j by omega) hij) hA
  obtain ⟨q1, q2, q3, q4⟩ := hSt.1 0 (by decide)
  have hR : vk_R "KeyKeepers$Reader" 164 am_tx (adK 0) s := by
    have h1 := hts (.stringRef "KeyKeepers$Reader" 164 am_tx) (List.mem_of_getElem? (i := 705) (by decide +kernel))
    refine ⟨am_mv_moved rfl (State.WarmedH.refl s) h1, ?_⟩
    have h2 := hev 0 (by decide)
    first
      | exact h2
      | (rw [Term.string_eval_of_vm (args' := #[Value.ref b]) rfl]; exact h2)
  obtain ⟨scr, x1, x2, x3, x4, x5⟩ := hX
  have T3 : va_T .int b L (fun j => .int (xs j)) (fun q => s.heap.size ≤ q) s s.heap := ⟨scr, x1, x2, x3, Nat.le_of_eq x4.symm, congrArg Nat.toInt32 x4, x5, hA b hbl⟩
  have T4 : va_T .byte (adV 0) (am_pe (L, xs) 4).1 (fun k => .int ((am_pe (L, xs) 4).2 k)) (fun q => s.heap.size ≤ q) s s.heap := by
    rw [am_pe4]
    simp only []
    rw [am_wd_eq]
    exact q4
  have hcl : ∀ c : Nat, ∃ q : ClassId × (Nat → Nat), c < 13 → u_Kn s (am_qc c).1 (am_qc c).2.1 (am_qc c).2.2 q.1 q.2 := by
    intro c
    by_cases hc : c < 13
    · obtain ⟨c1, c2, c3, -⟩ := am_cls c hc
      obtain ⟨cC, iS, h⟩ := u_known (ws := lw_tbl) hts (fun w hw => (List.mem_filter.mp (c3 w hw)).1) (hts _ (am_inst c hc))
      exact ⟨(cC, iS), fun _ => h⟩
    · exact ⟨(0, fun _ => 0), fun h => absurd h hc⟩
  obtain ⟨f, hf⟩ := Classical.axiomOfChoice hcl
  obtain ⟨c0, r0⟩ := am_arr (ty := .int) (hts (.arrayClass .int) (List.mem_of_getElem? (i := 276) (by decide +kernel))) (fun C h => by cases h)
  obtain ⟨c1, r1⟩ := am_arr (ty := .long) (hts (.arrayClass .long) (List.mem_of_getElem? (i := 1583) (by decide +kernel))) (fun C h => by cases h)
  obtain ⟨c2, r2⟩ := am_arr (ty := .boolean) (hts (.arrayClass .boolean) (List.mem_of_getElem? (i := 1582) (by decide +kernel))) (fun C h => by cases h)
  obtain ⟨c3, r3⟩ := am_arrO (C := RX6) (hts (.arrayOver (.object RX6)) (List.mem_of_getElem? (i := 277) (by decide +kernel)))
  obtain ⟨c4, r4⟩ := am_arrO (C := RX10) (hts (.arrayOver (.object RX10)) (List.mem_of_getElem? (i := 163) (by decide +kernel)))
  refine ⟨(s.heap.size, (fun t => if t = 0 then .ref t0 else if t = 1 then .ref t1 else if t = 2 then .ref (adK 0) else if t = 3 then .ref b else if t = 4 then .ref (adV 0) else if t = 5 then w5 else .null), (fun c => (f c).1), (fun c => (f c).2), (fun k => if k = 0 then c0 else if k = 1 then c1 else if k = 2 then c2 else if k = 3 then c3 else c4)), rfl, rfl, ⟨fun c q hq => ?_, fun k q hk => ?_⟩, ⟨t0, rfl, Z0, T0⟩, ⟨t1, rfl, Z1, T1⟩, ⟨adK 0, adV 0, rfl, rfl, hR, q1, q2, q3, T4⟩, ⟨b, rfl, T3⟩, Z5, Z7, fun t => ?_⟩
  · have hc : c < 13 := (List.getElem?_eq_some_iff.mp hq).1
    have h1 := (am_cls c hc).1
    cases h1.symm.trans hq
    exact hf c hc
  · match k, hk with
    | 0, hk => cases hk; exact r0
    | 1, hk => cases hk; exact r1
    | 2, hk => cases hk; exact r2
    | 3, hk => cases hk; exact r3
    | 4, hk => cases hk; exact r4
    | k + 5, hk => simp [am_ty] at hk
  · show am_nr (if t = 0 then .ref t0 else if t = 1 then .ref t1 else if t = 2 then .ref (adK 0) else if t = 3 then .ref b else if t = 4 then .ref (adV 0) else if t = 5 then w5 else .null)
    split
    · exact Or.inr ⟨_, rfl⟩
    · split
      · exact Or.inr ⟨_, rfl⟩
      · split
        · exact Or.inr ⟨_, rfl⟩
        · split
          · exact Or.inr ⟨_, rfl⟩
          · split
            · exact Or.inr ⟨_, rfl⟩
            · split
              · exact hw5
              · exact Or.inl rfl
/-- THE CLAIM OUT OF THE SMALL MACHINE'S WAY THROUGH THE LAW -/
theorem am_start (hlaw : ∀ S : am_S, S.1 ≤ 3072 → am_E S 304 1000 0 0 0 [.retAddr 3, am_jk, am_jk, am_jk] [] am_h0 (fun r _ => r = some (.int 1))) {p : Program} {e : Env} {s : State} {m : MethodId} {below : List Frame} {meth : Method} {c : Code} (l : Launch) {b L : Nat} {xs : Nat → Int32} (hL : L ≤ 3072) (C0 : lw_At p s m meth c b L xs) : W p l e room_1 s m #[Value.ref b] below meth c s.heap [] 0 0 (lw_Z below #[Value.ref b] s) (entryFrame m ([Value.ref b] : List Value).toArray 4) := by
  obtain ⟨hx, hb, hr, hml, hown, hts, hX, hbl, hlocks, hgv⟩ := C0
  obtain ⟨G, g1, g2, hK, hP⟩ := am_pre hts hX hbl hgv
  have hG : ∀ t, am_nr (G.2.1 t) := hP.2.2.2.2.2.2
  have hlo := am_en_lo (G := G) (am_cat1 hG) (z := 304) (as := [.retAddr 3]) (by decide +kernel)
  rw [show ([.retAddr 3] : List Value).map (am_c G) = [.ref b] from by rw [← g2]; rfl] at hlo
  have hE := am_sound l G (hlaw (L, xs) hL) p e room_1 s m #[Value.ref b] below meth c (lw_Z below #[Value.ref b] s) s.heap [] _ ⟨hx, hb, hml, hown, fun w hw => hts w (List.mem_filter.mp hw).1, fun h => absurd h (by decide +kernel), hK, hP⟩ (by decide) (by decide) (by decide +kernel) (by decide +kernel) ?_ (Nat.zero_le _) (Nat.zero_le _) ⟨by rw [g1]; rfl, fun a ha => absurd ha (Nat.not_lt_zero a), fun a ha => absurd rfl ha⟩ va_S.rf hlo
  · rw [lg_entry_eq]
    exact hE
  · intro r h' H' locs' ls' pc' cs' ss' hro hq hR' hS' hc hs' hdg
    subst hq
    refine va_forget (fun q hq => by rw [← g1]; exact hS'.2.2 q hq) ?_
    refine W.widen (k := room_1.cells) (n := room_1.slots) (Nat.le_trans hc (by decide +kernel)) (Nat.le_trans hs' (by decide +kernel)) ?_
    exact lw_ret hx hb hr hlocks hdg
