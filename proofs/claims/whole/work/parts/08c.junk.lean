/-! what stands in a local that nobody reads doesn't matter -/
def am_le (lo lo' : List Value) : Prop := lo'.length = lo.length ∧ ∀ (i : Nat) (v : Value), lo[i]? = some v → v ≠ am_jk → lo'[i]? = some v
theorem am_le.rf (lo : List Value) : am_le lo lo := ⟨rfl, fun _ _ h _ => h⟩
theorem am_kl_keep {lo : List Value} {i j : Nat} {w : Value} (h : lo[j]? = some w) (hn : ¬ (j + 1 = i ∧ w.category = 2)) : (am_kl lo i)[j]? = some w := by
  cases i with
  | zero => exact h
  | succ k =>
    rw [am_kl_succ]
    by_cases hj : j = k
    · subst hj
      rw [h]
      cases w <;> first | exact h | exact absurd ⟨rfl, rfl⟩ hn
    · split
      · rw [List.getElem?_set_ne (Ne.symm hj)]; exact h
      · rw [List.getElem?_set_ne (Ne.symm hj)]; exact h
      · exact h
theorem am_le.s1 {lo lo' : List Value} (h : am_le lo lo') (i : Nat) (v : Value) : am_le (am_s1 lo i v) (am_s1 lo' i v) := by
  refine ⟨by rw [am_s1_len, am_s1_len]; exact h.1, fun j w hj hw => ?_⟩
  unfold am_s1 at hj ⊢
  by_cases hij : j = i
  · subst hij
    have hl : j < (am_kl lo j).length := by
      have := (List.getElem?_eq_some_iff.mp hj).1
      rwa [List.length_set] at this
    rw [List.getElem?_set_self hl] at hj
    rw [List.getElem?_set_self (by rw [am_kl_len, h.1, ← am_kl_len (i := j)]; exact hl)]
    exact hj
  · rw [List.getElem?_set_ne (Ne.symm hij)] at hj ⊢
    obtain ⟨h1, h2⟩ := am_kl_get hj hw
    exact am_kl_keep (h.2 j w h1 hw) h2
theorem am_le.s2 {lo lo' : List Value} (h : am_le lo lo') (i : Nat) (v : Value) : am_le (am_s2 lo i v) (am_s2 lo' i v) := by
  have h1 := h.s1 i v
  refine ⟨by rw [am_s2_len, am_s2_len]; exact h.1, fun j w hj hw => ?_⟩
  have e : ∀ l : List Value, am_s2 l i v = (am_s1 l i v).set (i + 1) am_jk := fun _ => rfl
  rw [e] at hj ⊢
  by_cases hij : j = i + 1
  · subst hij
    have hl : i + 1 < (am_s1 lo i v).length := by
      have := (List.getElem?_eq_some_iff.mp hj).1
      rwa [List.length_set] at this
    rw [List.getElem?_set_self hl] at hj
    exact absurd (Option.some.inj hj).symm hw
  · rw [List.getElem?_set_ne (Ne.symm hij)] at hj ⊢
    exact h1.2 j w hj hw
theorem am_C_le {S : am_S} {go go' : am_go} {al al' : Nat → List Value → am_H → Prop} {cl cl' : Nat → Nat → Nat → List Value → Prop} {rt rt' : Option Value → Prop} {pc : Nat} {ins : Instr} {nx la lb lc : Nat} {v : Value} {lo lo' st : List Value} {h : am_H} (hle : am_le lo lo')
    (hgo : ∀ pc lo lo' st h, am_le lo lo' → go pc lo st h → go' pc lo' st h) (hal : ∀ n st h, al n st h → al' n st h) (hcl : ∀ k z n st, cl k z n st → cl' k z n st) (hrt : ∀ r, rt r → rt' r) (hh : am_C S go al cl rt pc ins nx la lb lc v lo st h) : am_C S go' al' cl' rt' pc ins nx la lb lc v lo' st h := by
  have l1 : ∀ nx la, am_ldr go nx la lo st h → am_ldr go' nx la lo' st h := fun nx la q => by
    unfold am_ldr at q ⊢
    split at q
    · rename_i w hw
      split at q
      · rename_i hi
        rw [hle.2 _ _ hw (am_isr_jk hi)]
        simp only [hi, if_true]
        exact hgo _ _ _ _ _ hle q
      · exact q.elim
    · exact q.elim
  have l2 : ∀ nx la, am_ldi go nx la lo st h → am_ldi go' nx la lo' st h := fun nx la q => by
    unfold am_ldi at q ⊢
    split at q
    · rename_i w hw
      rw [hle.2 _ _ hw (by simp [am_jk])]
      exact hgo _ _ _ _ _ hle q
    · exact q.elim
  have l3 : ∀ nx la, am_ldl go nx la lo st h → am_ldl go' nx la lo' st h := fun nx la q => by
    unfold am_ldl at q ⊢
    split at q
    · rename_i w hw
      rw [hle.2 _ _ hw (by simp [am_jk])]
      exact hgo _ _ _ _ _ hle q
    · exact q.elim
  cases ins with
  | aload_n k => exact l1 _ _ hh
  | aload k => exact l1 _ _ hh
  | iload_n k => exact l2 _ _ hh
  | iload k => exact l2 _ _ hh
  | lload_n k => exact l3 _ _ hh
  | lload k => exact l3 _ _ hh
  | iinc k n =>
    change (match (generalizing := false) lo[la]?, v with
    | some (.int x), .int n => go nx (am_s1 lo la (.int (x + n))) st h
    | _, _ => False) at hh
    show (match (generalizing := false) lo'[la]?, v with
    | some (.int x), .int n => go' nx (am_s1 lo' la (.int (x + n))) st h
    | _, _ => False)
    cases h1 : lo[la]? with
    | none => rw [h1] at hh; exact hh.elim
    | some w =>
      rw [h1] at hh
      cases w with
      | int x =>
        rw [hle.2 _ _ h1 (by simp [am_jk])]
        cases v with
        | int n => exact hgo _ _ _ _ _ (hle.s1 _ _) hh
        | _ => exact hh.elim
      | _ => exact hh.elim
  | _ =>
    revert hh
    unfold am_C
    simp only []
    (try unfold am_str) <;> (try unfold am_sti) <;> (try unfold am_stl) <;> (try unfold am_b2) <;> (try unfold am_l2) <;> (repeat' split) <;> intro hh <;> (first | exact hh.elim | exact hgo _ _ _ _ _ hle hh | exact hgo _ _ _ _ _ (hle.s1 _ _) hh | exact hgo _ _ _ _ _ (hle.s2 _ _) hh | exact hal _ _ _ hh | exact hcl _ _ _ _ hh | exact hrt _ hh | exact am_if_mono (hgo _ _ _ _ _ hle) (hgo _ _ _ _ _ hle) hh)
theorem am_do_le {S : am_S} {mc ms mcz msz mlz : Nat} {en : List Value} {y d cs ss nx : Nat} {lo lo' : List Value} {h : am_H} {Q : am_Q} {z : Nat} {r : List Value} (hle : am_le lo lo') (hh : am_do mc ms mcz msz mlz en (fun y d cs ss pc lo st h Q => ∀ lo', am_le lo lo' → am_E S y d cs ss pc lo' st h Q) y d cs ss nx lo h Q z r) : am_do mc ms mcz msz mlz en (am_E S) y d cs ss nx lo' h Q z r := by
  unfold am_do at hh ⊢
  split at hh
  · rename_i hc
    rw [if_pos hc]
    obtain ⟨Q', h1, h2⟩ := hh
    exact ⟨Q', h1 _ (am_le.rf _), fun v h' hq => h2 v h' hq _ hle⟩
  · exact hh.elim
theorem am_cl_le {S : am_S} {y cs ss nx : Nat} {lo lo' : List Value} {h : am_H} {Q : am_Q} {d kind z n : Nat} {st : List Value} (hle : am_le lo lo') (hh : am_cl S (fun y d cs ss pc lo st h Q => ∀ lo', am_le lo lo' → am_E S y d cs ss pc lo' st h Q) y cs ss nx lo h Q d kind z n st) : am_cl S (am_E S) y cs ss nx lo' h Q d kind z n st := by
  revert hh
  unfold am_cl
  (repeat' split) <;> intro hh <;> first | exact hh.elim | exact am_do_le hle hh | exact hh _ hle
theorem am_E.junk {S : am_S} {y d cs ss pc : Nat} {lo lo' st : List Value} {h : am_H} {Q : am_Q} (hE : am_E S y d cs ss pc lo st h Q) (hle : am_le lo lo') : am_E S y d cs ss pc lo' st h Q := by
  refine hE (fun y d cs ss pc lo st h Q => ∀ lo', am_le lo lo' → am_E S y d cs ss pc lo' st h Q) ?_ lo' hle
  intro y d cs ss pc lo st h Q hF lo' hle
  refine am_E.go ?_
  unfold am_F at hF ⊢
  split at hF
  rename_i pc' ins nx la lb lc v ps hat
  split at hF
  · rename_i hpc
    rw [if_pos hpc]
    refine am_C_le hle (fun pc lo lo' st h hl q => q _ hl) (fun n st h q => ?_) (fun k z n st q => am_cl_le hle q) (fun _ q => q) hF
    split at q
    · rename_i hc
      rw [if_pos hc]
      exact q _ hle
    · exact q.elim
  · exact hF.elim
